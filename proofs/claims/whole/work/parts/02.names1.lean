/-! ===== BEGIN words of one list among another's, by their places ===== -/
theorem goodIn_r {big : List Cond} (ws : List Cond) (ps : List Nat) (hp : ws = ps.filterMap (fun i => big[i]?)) (h : ws.all goodWord = true) : GoodIn big ws := by
  intro w hw
  have h1 := List.all_eq_true.mp h w hw
  rw [hp] at hw
  obtain ⟨i, -, hi⟩ := List.mem_filterMap.mp hw
  have hm : w ∈ big := by first | exact List.mem_of_getElem? hi | exact List.getElem?_mem hi
  exact ⟨hm, good_of_word h1⟩
theorem goodIn_app {big a b : List Cond} (ha : GoodIn big a) (hb : GoodIn big b) : GoodIn big (a ++ b) := fun w h => (List.mem_append.mp h).elim (ha w) (hb w)
theorem goodIn_ca {big a b : List Cond} {c : Cond} (ha : GoodIn big (c :: a)) (hb : GoodIn big b) : GoodIn big (c :: (a ++ b)) := fun w h => (List.mem_cons.mp h).elim (fun e => ha w (List.mem_cons.mpr (Or.inl e))) (fun h => (List.mem_append.mp h).elim (fun h => ha w (List.mem_cons.mpr (Or.inr h))) (hb w))
theorem goodIn_sub {big ws : List Cond} (hm : ∀ w ∈ ws, w ∈ big) (h : ws.all goodWord = true) : GoodIn big ws := fun w hw => ⟨hm w hw, good_of_word (List.all_eq_true.mp h w hw)⟩
/-! ===== END ===== -/
/-! ===== BEGIN printed: names, fields, word lists, decode rows ===== -/
def RX0 : String := "DyckReachability$Chance"
def TX0 : u_T := fun k => match k with
  | _ => ("", "", "", false)
def tyX0 : Nat → FieldType := fun k => match k with
  | _ => .int
abbrev wsX00 : List Cond := u_ws RX0 TX0 0
theorem nmX0 : ∀ a, a < 0 → ∀ b, b < 0 → a ≠ b → (TX0 a).2.1 ≠ (TX0 b).2.1 := by decide +kernel
theorem tyX0_ok : ∀ k, k < 0 → parseFieldDescriptor (TX0 k).2.2.1 = some (tyX0 k) := by decide +kernel
abbrev cX0_ordersOf : ByteArray := prog_2_method_2_code
def yX0_ordersOf : MethodName := ⟨RX0, "ordersOf", "(II)I"⟩
abbrev cX0_power : ByteArray := prog_2_method_3_code
def yX0_power : MethodName := ⟨RX0, "power", "(II)I"⟩
abbrev cX0_nextSeed : ByteArray := prog_2_method_4_code
def yX0_nextSeed : MethodName := ⟨RX0, "nextSeed", "(J)J"⟩
abbrev cX0_change : ByteArray := prog_2_method_5_code
def yX0_change : MethodName := ⟨RX0, "change", "(LDyckReachability$Edges;II)V"⟩
def RX1 : String := "DyckReachability$Distances"
def TX1 : u_T := fun k => match k with
  | 0 => ("DyckReachability$Distances", "table", "[I", true)
  | _ => ("DyckReachability$Distances", "vertices", "I", false)
def tyX1 : Nat → FieldType := fun k => match k with
  | 0 => .array .int
  | _ => .int
abbrev wsX10 : List Cond := u_ws RX1 TX1 2
theorem nmX1 : ∀ a, a < 2 → ∀ b, b < 2 → a ≠ b → (TX1 a).2.1 ≠ (TX1 b).2.1 := by decide +kernel
theorem tyX1_ok : ∀ k, k < 2 → parseFieldDescriptor (TX1 k).2.2.1 = some (tyX1 k) := by decide +kernel
abbrev cX1_init : ByteArray := prog_3_method_1_code
def yX1_init : MethodName := ⟨RX1, "<init>", "()V"⟩
abbrev cX1_between : ByteArray := prog_3_method_2_code
def yX1_between : MethodName := ⟨RX1, "between", "(II)I"⟩
abbrev cX1_reaches : ByteArray := prog_3_method_3_code
def yX1_reaches : MethodName := ⟨RX1, "reaches", "(II)Z"⟩
abbrev cX1_measure : ByteArray := prog_3_method_4_code
def yX1_measure : MethodName := ⟨RX1, "measure", "(LDyckReachability$Edges;I)V"⟩
abbrev cX1_shortenBehind : ByteArray := prog_3_method_5_code
def yX1_shortenBehind : MethodName := ⟨RX1, "shortenBehind", "(ILDyckReachability$Edges;)Z"⟩
abbrev cX1_shorten : ByteArray := prog_3_method_6_code
def yX1_shorten : MethodName := ⟨RX1, "shorten", "(III)Z"⟩
abbrev cX1_edgeOnWitness : ByteArray := prog_3_method_7_code
def yX1_edgeOnWitness : MethodName := ⟨RX1, "edgeOnWitness", "(LDyckReachability$Edges;III)I"⟩
abbrev cX1_firstOnWitness : ByteArray := prog_3_method_8_code
def yX1_firstOnWitness : MethodName := ⟨RX1, "firstOnWitness", "(LDyckReachability$Edges;II)I"⟩
abbrev cX1_beginsShortest : ByteArray := prog_3_method_9_code
def yX1_beginsShortest : MethodName := ⟨RX1, "beginsShortest", "(LDyckReachability$Edges;II)Z"⟩
abbrev cX1_closingOnWitness : ByteArray := prog_3_method_10_code
def yX1_closingOnWitness : MethodName := ⟨RX1, "closingOnWitness", "(LDyckReachability$Edges;II)I"⟩
def RX2 : String := "DyckReachability$Edges"
def TX2 : u_T := fun k => match k with
  | 0 => ("DyckReachability$Edges", "sources", "[I", true)
  | 1 => ("DyckReachability$Edges", "targets", "[I", true)
  | 2 => ("DyckReachability$Edges", "labels", "[I", true)
  | _ => ("DyckReachability$Edges", "size", "I", false)
def tyX2 : Nat → FieldType := fun k => match k with
  | 0 => .array .int
  | 1 => .array .int
  | 2 => .array .int
  | _ => .int
abbrev wsX20 : List Cond := u_ws RX2 TX2 4
theorem nmX2 : ∀ a, a < 4 → ∀ b, b < 4 → a ≠ b → (TX2 a).2.1 ≠ (TX2 b).2.1 := by decide +kernel
theorem tyX2_ok : ∀ k, k < 4 → parseFieldDescriptor (TX2 k).2.2.1 = some (tyX2 k) := by decide +kernel
abbrev cX2_init : ByteArray := prog_4_method_1_code
def yX2_init : MethodName := ⟨RX2, "<init>", "(I)V"⟩
abbrev cX2_holds : ByteArray := prog_4_method_2_code
def yX2_holds : MethodName := ⟨RX2, "holds", "(I)Z"⟩
abbrev cX2_isFull : ByteArray := prog_4_method_3_code
def yX2_isFull : MethodName := ⟨RX2, "isFull", "()Z"⟩
abbrev cX2_put : ByteArray := prog_4_method_4_code
def yX2_put : MethodName := ⟨RX2, "put", "(III)V"⟩
abbrev cX2_drop : ByteArray := prog_4_method_5_code
def yX2_drop : MethodName := ⟨RX2, "drop", "(I)V"⟩
abbrev cX2_take : ByteArray := prog_4_method_6_code
def yX2_take : MethodName := ⟨RX2, "take", "(LDyckReachability$Edges;)V"⟩
abbrev cX2_takeSome : ByteArray := prog_4_method_7_code
def yX2_takeSome : MethodName := ⟨RX2, "takeSome", "(LDyckReachability$Edges;I)V"⟩
abbrev cX2_takeBothWays : ByteArray := prog_4_method_8_code
def yX2_takeBothWays : MethodName := ⟨RX2, "takeBothWays", "(LDyckReachability$Edges;)V"⟩
abbrev cX2_find : ByteArray := prog_4_method_9_code
def yX2_find : MethodName := ⟨RX2, "find", "(III)I"⟩
abbrev cX2_isEmptyLabelled : ByteArray := prog_4_method_10_code
def yX2_isEmptyLabelled : MethodName := ⟨RX2, "isEmptyLabelled", "(I)Z"⟩
abbrev cX2_opens : ByteArray := prog_4_method_11_code
def yX2_opens : MethodName := ⟨RX2, "opens", "(I)Z"⟩
abbrev cX2_closes : ByteArray := prog_4_method_12_code
def yX2_closes : MethodName := ⟨RX2, "closes", "(II)Z"⟩
abbrev cX2_otherBracket : ByteArray := prog_4_method_13_code
def yX2_otherBracket : MethodName := ⟨RX2, "otherBracket", "(I)I"⟩
def RX3 : String := "DyckReachability$GraphText"
def TX3 : u_T := fun k => match k with
  | 0 => ("DyckReachability$GraphText", "signs", "[I", true)
  | _ => ("DyckReachability$GraphText", "length", "I", false)
def tyX3 : Nat → FieldType := fun k => match k with
  | 0 => .array .int
  | _ => .int
abbrev wsX30 : List Cond := u_ws RX3 TX3 2
theorem nmX3 : ∀ a, a < 2 → ∀ b, b < 2 → a ≠ b → (TX3 a).2.1 ≠ (TX3 b).2.1 := by decide +kernel
theorem tyX3_ok : ∀ k, k < 2 → parseFieldDescriptor (TX3 k).2.2.1 = some (tyX3 k) := by decide +kernel
abbrev cX3_init : ByteArray := prog_5_method_1_code
def yX3_init : MethodName := ⟨RX3, "<init>", "()V"⟩
abbrev cX3_isFull : ByteArray := prog_5_method_2_code
def yX3_isFull : MethodName := ⟨RX3, "isFull", "()Z"⟩
abbrev cX3_put : ByteArray := prog_5_method_3_code
def yX3_put : MethodName := ⟨RX3, "put", "(I)V"⟩
abbrev cX3_firstFault : ByteArray := prog_5_method_4_code
def yX3_firstFault : MethodName := ⟨RX3, "firstFault", "()I"⟩
abbrev cX3_fits : ByteArray := prog_5_method_5_code
def yX3_fits : MethodName := ⟨RX3, "fits", "(I)Z"⟩
abbrev cX3_labelOf : ByteArray := prog_5_method_6_code
def yX3_labelOf : MethodName := ⟨RX3, "labelOf", "(I)I"⟩
abbrev cX3_writtenVertices : ByteArray := prog_5_method_7_code
def yX3_writtenVertices : MethodName := ⟨RX3, "writtenVertices", "()I"⟩
abbrev cX3_writeEdgesTo : ByteArray := prog_5_method_8_code
def yX3_writeEdgesTo : MethodName := ⟨RX3, "writeEdgesTo", "(LDyckReachability$Edges;)V"⟩
def RX4 : String := "DyckReachability$History"
def TX4 : u_T := fun k => match k with
  | 0 => ("DyckReachability$History", "states", "[LDyckReachability$Edges;", true)
  | 1 => ("DyckReachability$History", "next", "I", false)
  | _ => ("DyckReachability$History", "size", "I", false)
def tyX4 : Nat → FieldType := fun k => match k with
  | 0 => .array (.object "DyckReachability$Edges")
  | 1 => .int
  | _ => .int
abbrev wsX40 : List Cond := u_ws RX4 TX4 3
theorem nmX4 : ∀ a, a < 3 → ∀ b, b < 3 → a ≠ b → (TX4 a).2.1 ≠ (TX4 b).2.1 := by decide +kernel
theorem tyX4_ok : ∀ k, k < 3 → parseFieldDescriptor (TX4 k).2.2.1 = some (tyX4 k) := by decide +kernel
abbrev cX4_init : ByteArray := prog_6_method_1_code
def yX4_init : MethodName := ⟨RX4, "<init>", "()V"⟩
abbrev cX4_remember : ByteArray := prog_6_method_2_code
def yX4_remember : MethodName := ⟨RX4, "remember", "(LDyckReachability$Edges;)V"⟩
abbrev cX4_giveBack : ByteArray := prog_6_method_3_code
def yX4_giveBack : MethodName := ⟨RX4, "giveBack", "(LDyckReachability$Edges;)V"⟩
abbrev cX4_forgetAll : ByteArray := prog_6_method_4_code
def yX4_forgetAll : MethodName := ⟨RX4, "forgetAll", "()V"⟩
def RX5 : String := "DyckReachability$Observations"
def TX5 : u_T := fun k => match k with
  | 0 => ("DyckReachability$Observations", "starts", "[I", true)
  | 1 => ("DyckReachability$Observations", "ends", "[I", true)
  | 2 => ("DyckReachability$Observations", "answers", "[I", true)
  | _ => ("DyckReachability$Observations", "size", "I", false)
def tyX5 : Nat → FieldType := fun k => match k with
  | 0 => .array .int
  | 1 => .array .int
  | 2 => .array .int
  | _ => .int
abbrev wsX50 : List Cond := u_ws RX5 TX5 4
theorem nmX5 : ∀ a, a < 4 → ∀ b, b < 4 → a ≠ b → (TX5 a).2.1 ≠ (TX5 b).2.1 := by decide +kernel
theorem tyX5_ok : ∀ k, k < 4 → parseFieldDescriptor (TX5 k).2.2.1 = some (tyX5 k) := by decide +kernel
abbrev cX5_init : ByteArray := prog_7_method_1_code
def yX5_init : MethodName := ⟨RX5, "<init>", "()V"⟩
abbrev cX5_isFull : ByteArray := prog_7_method_2_code
def yX5_isFull : MethodName := ⟨RX5, "isFull", "()Z"⟩
abbrev cX5_put : ByteArray := prog_7_method_3_code
def yX5_put : MethodName := ⟨RX5, "put", "(III)V"⟩
abbrev cX5_allHold : ByteArray := prog_7_method_4_code
def yX5_allHold : MethodName := ⟨RX5, "allHold", "(JI)Z"⟩
def RX6 : String := "DyckReachability$Relation"
def TX6 : u_T := fun k => match k with
  | _ => ("", "", "", false)
def tyX6 : Nat → FieldType := fun k => match k with
  | _ => .int
abbrev wsX60 : List Cond := u_ws RX6 TX6 0
theorem nmX6 : ∀ a, a < 0 → ∀ b, b < 0 → a ≠ b → (TX6 a).2.1 ≠ (TX6 b).2.1 := by decide +kernel
theorem tyX6_ok : ∀ k, k < 0 → parseFieldDescriptor (TX6 k).2.2.1 = some (tyX6 k) := by decide +kernel
abbrev cX6_row : ByteArray := prog_8_method_2_code
def yX6_row : MethodName := ⟨RX6, "row", "(JI)I"⟩
abbrev cX6_has : ByteArray := prog_8_method_3_code
def yX6_has : MethodName := ⟨RX6, "has", "(JII)Z"⟩
abbrev cX6_withRow : ByteArray := prog_8_method_4_code
def yX6_withRow : MethodName := ⟨RX6, "withRow", "(JII)J"⟩
abbrev cX6_identity : ByteArray := prog_8_method_5_code
def yX6_identity : MethodName := ⟨RX6, "identity", "(I)J"⟩
abbrev cX6_ofBalancedPaths : ByteArray := prog_8_method_6_code
def yX6_ofBalancedPaths : MethodName := ⟨RX6, "ofBalancedPaths", "(LDyckReachability$Edges;I)J"⟩
abbrev cX6_withPathsBehind : ByteArray := prog_8_method_7_code
def yX6_withPathsBehind : MethodName := ⟨RX6, "withPathsBehind", "(IJLDyckReachability$Edges;)J"⟩
abbrev cX6_nestedAround : ByteArray := prog_8_method_8_code
def yX6_nestedAround : MethodName := ⟨RX6, "nestedAround", "(JLDyckReachability$Edges;I)J"⟩
abbrev cX6_stepsBy : ByteArray := prog_8_method_9_code
def yX6_stepsBy : MethodName := ⟨RX6, "stepsBy", "(IJLDyckReachability$Edges;)I"⟩
abbrev cX6_transitive : ByteArray := prog_8_method_10_code
def yX6_transitive : MethodName := ⟨RX6, "transitive", "(J)J"⟩
def RX7 : String := "DyckReachability$Script"
def TX7 : u_T := fun k => match k with
  | _ => ("", "", "", false)
def tyX7 : Nat → FieldType := fun k => match k with
  | _ => .int
abbrev wsX70 : List Cond := u_ws RX7 TX7 0
theorem nmX7 : ∀ a, a < 0 → ∀ b, b < 0 → a ≠ b → (TX7 a).2.1 ≠ (TX7 b).2.1 := by decide +kernel
theorem tyX7_ok : ∀ k, k < 0 → parseFieldDescriptor (TX7 k).2.2.1 = some (tyX7 k) := by decide +kernel
abbrev cX7_withoutLowest : ByteArray := prog_9_method_2_code
def yX7_withoutLowest : MethodName := ⟨RX7, "withoutLowest", "(IJ)J"⟩
abbrev cX7_lowestGroup : ByteArray := prog_9_method_3_code
def yX7_lowestGroup : MethodName := ⟨RX7, "lowestGroup", "(J)I"⟩
abbrev cX7_succeeds : ByteArray := prog_9_method_4_code
def yX7_succeeds : MethodName := ⟨RX7, "succeeds", "(ILDyckReachability$Edges;ILDyckReachability$Distances;)Z"⟩
abbrev cX7_adds : ByteArray := prog_9_method_5_code
def yX7_adds : MethodName := ⟨RX7, "adds", "(LDyckReachability$Edges;IIII)Z"⟩
abbrev cX7_removes : ByteArray := prog_9_method_6_code
def yX7_removes : MethodName := ⟨RX7, "removes", "(LDyckReachability$Edges;I)Z"⟩
def RX8 : String := "DyckReachability"
def TX8 : u_T := fun k => match k with
  | 0 => ("DyckReachability", "vertices", "I", false)
  | 1 => ("DyckReachability", "seed", "J", false)
  | 2 => ("DyckReachability", "edges", "LDyckReachability$Edges;", true)
  | 3 => ("DyckReachability", "copy", "LDyckReachability$Edges;", true)
  | 4 => ("DyckReachability", "bothWays", "LDyckReachability$Edges;", true)
  | 5 => ("DyckReachability", "distances", "LDyckReachability$Distances;", true)
  | 6 => ("DyckReachability", "history", "LDyckReachability$History;", true)
  | 7 => ("DyckReachability", "slots", "[LDyckReachability$Edges;", true)
  | 8 => ("DyckReachability", "slotFilled", "[Z", true)
  | 9 => ("DyckReachability", "text", "LDyckReachability$GraphText;", true)
  | _ => ("DyckReachability", "observations", "LDyckReachability$Observations;", true)
def tyX8 : Nat → FieldType := fun k => match k with
  | 0 => .int
  | 1 => .long
  | 2 => .object "DyckReachability$Edges"
  | 3 => .object "DyckReachability$Edges"
  | 4 => .object "DyckReachability$Edges"
  | 5 => .object "DyckReachability$Distances"
  | 6 => .object "DyckReachability$History"
  | 7 => .array (.object "DyckReachability$Edges")
  | 8 => .array .boolean
  | 9 => .object "DyckReachability$GraphText"
  | _ => .object "DyckReachability$Observations"
abbrev wsX80 : List Cond := u_ws RX8 TX8 11
theorem nmX8 : ∀ a, a < 11 → ∀ b, b < 11 → a ≠ b → (TX8 a).2.1 ≠ (TX8 b).2.1 := by decide +kernel
theorem tyX8_ok : ∀ k, k < 11 → parseFieldDescriptor (TX8 k).2.2.1 = some (tyX8 k) := by decide +kernel
abbrev cX8_init : ByteArray := prog_1_method_1_code
def yX8_init : MethodName := ⟨RX8, "<init>", "()V"⟩
abbrev cX8_append : ByteArray := prog_1_method_2_code
def yX8_append : MethodName := ⟨RX8, "append", "(I)I"⟩
abbrev cX8_clearText : ByteArray := prog_1_method_3_code
def yX8_clearText : MethodName := ⟨RX8, "clearText", "()I"⟩
abbrev cX8_errorPosition : ByteArray := prog_1_method_4_code
def yX8_errorPosition : MethodName := ⟨RX8, "errorPosition", "()I"⟩
abbrev cX8_load : ByteArray := prog_1_method_5_code
def yX8_load : MethodName := ⟨RX8, "load", "()I"⟩
abbrev cX8_vertexCount : ByteArray := prog_1_method_6_code
def yX8_vertexCount : MethodName := ⟨RX8, "vertexCount", "()I"⟩
abbrev cX8_edgeCount : ByteArray := prog_1_method_7_code
def yX8_edgeCount : MethodName := ⟨RX8, "edgeCount", "()I"⟩
abbrev cX8_source : ByteArray := prog_1_method_8_code
def yX8_source : MethodName := ⟨RX8, "source", "(I)I"⟩
abbrev cX8_target : ByteArray := prog_1_method_9_code
def yX8_target : MethodName := ⟨RX8, "target", "(I)I"⟩
abbrev cX8_label : ByteArray := prog_1_method_10_code
def yX8_label : MethodName := ⟨RX8, "label", "(I)I"⟩
abbrev cX8_addEdge : ByteArray := prog_1_method_11_code
def yX8_addEdge : MethodName := ⟨RX8, "addEdge", "(III)I"⟩
abbrev cX8_removeEdge : ByteArray := prog_1_method_12_code
def yX8_removeEdge : MethodName := ⟨RX8, "removeEdge", "(I)I"⟩
abbrev cX8_setLabel : ByteArray := prog_1_method_13_code
def yX8_setLabel : MethodName := ⟨RX8, "setLabel", "(II)I"⟩
abbrev cX8_undo : ByteArray := prog_1_method_14_code
def yX8_undo : MethodName := ⟨RX8, "undo", "()I"⟩
abbrev cX8_reachableFrom : ByteArray := prog_1_method_15_code
def yX8_reachableFrom : MethodName := ⟨RX8, "reachableFrom", "(I)I"⟩
abbrev cX8_pairCount : ByteArray := prog_1_method_16_code
def yX8_pairCount : MethodName := ⟨RX8, "pairCount", "()I"⟩
abbrev cX8_distance : ByteArray := prog_1_method_17_code
def yX8_distance : MethodName := ⟨RX8, "distance", "(II)I"⟩
abbrev cX8_witnessEdge : ByteArray := prog_1_method_18_code
def yX8_witnessEdge : MethodName := ⟨RX8, "witnessEdge", "(III)I"⟩
abbrev cX8_depth : ByteArray := prog_1_method_19_code
def yX8_depth : MethodName := ⟨RX8, "depth", "(II)I"⟩
abbrev cX8_loss : ByteArray := prog_1_method_20_code
def yX8_loss : MethodName := ⟨RX8, "loss", "(I)I"⟩
abbrev cX8_criticalEdge : ByteArray := prog_1_method_21_code
def yX8_criticalEdge : MethodName := ⟨RX8, "criticalEdge", "()I"⟩
abbrev cX8_representative : ByteArray := prog_1_method_22_code
def yX8_representative : MethodName := ⟨RX8, "representative", "(I)I"⟩
abbrev cX8_runScript : ByteArray := prog_1_method_23_code
def yX8_runScript : MethodName := ⟨RX8, "runScript", "(IJ)I"⟩
abbrev cX8_observe : ByteArray := prog_1_method_24_code
def yX8_observe : MethodName := ⟨RX8, "observe", "(III)I"⟩
abbrev cX8_clearObservations : ByteArray := prog_1_method_25_code
def yX8_clearObservations : MethodName := ⟨RX8, "clearObservations", "()I"⟩
abbrev cX8_possibleLabels : ByteArray := prog_1_method_26_code
def yX8_possibleLabels : MethodName := ⟨RX8, "possibleLabels", "(I)I"⟩
abbrev cX8_share : ByteArray := prog_1_method_27_code
def yX8_share : MethodName := ⟨RX8, "share", "(I)I"⟩
abbrev cX8_reliability : ByteArray := prog_1_method_28_code
def yX8_reliability : MethodName := ⟨RX8, "reliability", "(III)I"⟩
abbrev cX8_setSeed : ByteArray := prog_1_method_29_code
def yX8_setSeed : MethodName := ⟨RX8, "setSeed", "(J)J"⟩
abbrev cX8_simulate : ByteArray := prog_1_method_30_code
def yX8_simulate : MethodName := ⟨RX8, "simulate", "(I)I"⟩
abbrev cX8_save : ByteArray := prog_1_method_31_code
def yX8_save : MethodName := ⟨RX8, "save", "(I)I"⟩
abbrev cX8_restore : ByteArray := prog_1_method_32_code
def yX8_restore : MethodName := ⟨RX8, "restore", "(I)I"⟩
abbrev cX8_isVertex : ByteArray := prog_1_method_33_code
def yX8_isVertex : MethodName := ⟨RX8, "isVertex", "(I)Z"⟩
abbrev cX8_isVertexNumber : ByteArray := prog_1_method_34_code
def yX8_isVertexNumber : MethodName := ⟨RX8, "isVertexNumber", "(I)Z"⟩
abbrev cX8_isLabel : ByteArray := prog_1_method_35_code
def yX8_isLabel : MethodName := ⟨RX8, "isLabel", "(I)Z"⟩
abbrev cX8_isSlot : ByteArray := prog_1_method_36_code
def yX8_isSlot : MethodName := ⟨RX8, "isSlot", "(I)Z"⟩
abbrev cX8_countPairs : ByteArray := prog_1_method_37_code
def yX8_countPairs : MethodName := ⟨RX8, "countPairs", "(LDyckReachability$Edges;)I"⟩
abbrev cX8_countPairsWithout : ByteArray := prog_1_method_38_code
def yX8_countPairsWithout : MethodName := ⟨RX8, "countPairsWithout", "(I)I"⟩
abbrev cX8_worth : ByteArray := prog_1_method_39_code
def yX8_worth : MethodName := ⟨RX8, "worth", "(I)I"⟩
def RX9 : String := "DyckReachabilityModel"
def TX9 : u_T := fun k => match k with
  | 0 => ("DyckReachabilityModel", "thrown", "I", false)
  | 1 => ("DyckReachabilityModel", "text", "[I", true)
  | 2 => ("DyckReachabilityModel", "textSize", "I", false)
  | 3 => ("DyckReachabilityModel", "pos", "I", false)
  | 4 => ("DyckReachabilityModel", "parsedVertices", "I", false)
  | 5 => ("DyckReachabilityModel", "parsed", "[I", true)
  | 6 => ("DyckReachabilityModel", "vertices", "I", false)
  | 7 => ("DyckReachabilityModel", "graph", "[I", true)
  | 8 => ("DyckReachabilityModel", "copy", "[I", true)
  | 9 => ("DyckReachabilityModel", "history", "[I", true)
  | 10 => ("DyckReachabilityModel", "remembered", "I", false)
  | 11 => ("DyckReachabilityModel", "slots", "[I", true)
  | 12 => ("DyckReachabilityModel", "slotUsed", "[Z", true)
  | 13 => ("DyckReachabilityModel", "observed", "I", false)
  | 14 => ("DyckReachabilityModel", "observedFrom", "[I", true)
  | 15 => ("DyckReachabilityModel", "observedTo", "[I", true)
  | 16 => ("DyckReachabilityModel", "observedIs", "[I", true)
  | 17 => ("DyckReachabilityModel", "seed", "J", false)
  | 18 => ("DyckReachabilityModel", "lengths", "[I", true)
  | 19 => ("DyckReachabilityModel", "depths", "[I", true)
  | _ => ("DyckReachabilityModel", "wide", "[I", true)
def tyX9 : Nat → FieldType := fun k => match k with
  | 0 => .int
  | 1 => .array .int
  | 2 => .int
  | 3 => .int
  | 4 => .int
  | 5 => .array .int
  | 6 => .int
  | 7 => .array .int
  | 8 => .array .int
  | 9 => .array .int
  | 10 => .int
  | 11 => .array .int
  | 12 => .array .boolean
  | 13 => .int
  | 14 => .array .int
  | 15 => .array .int
  | 16 => .array .int
  | 17 => .long
  | 18 => .array .int
  | 19 => .array .int
  | _ => .array .int
abbrev wsX90 : List Cond := u_ws RX9 TX9 21
theorem nmX9 : ∀ a, a < 21 → ∀ b, b < 21 → a ≠ b → (TX9 a).2.1 ≠ (TX9 b).2.1 := by decide +kernel
theorem tyX9_ok : ∀ k, k < 21 → parseFieldDescriptor (TX9 k).2.2.1 = some (tyX9 k) := by decide +kernel
abbrev cX9_init : ByteArray := prog_11_method_1_code
def yX9_init : MethodName := ⟨RX9, "<init>", "()V"⟩
abbrev cX9_in : ByteArray := prog_11_method_3_code
def yX9_in : MethodName := ⟨RX9, "in", "(JJJ)Z"⟩
abbrev cX9_has : ByteArray := prog_11_method_4_code
def yX9_has : MethodName := ⟨RX9, "has", "(II)Z"⟩
abbrev cX9_bits : ByteArray := prog_11_method_5_code
def yX9_bits : MethodName := ⟨RX9, "bits", "(I)I"⟩
abbrev cX9_assign : ByteArray := prog_11_method_6_code
def yX9_assign : MethodName := ⟨RX9, "assign", "([I[I)V"⟩
abbrev cX9_noVertex : ByteArray := prog_11_method_7_code
def yX9_noVertex : MethodName := ⟨RX9, "noVertex", "(I)Z"⟩
abbrev cX9_noEdge : ByteArray := prog_11_method_8_code
def yX9_noEdge : MethodName := ⟨RX9, "noEdge", "(I)Z"⟩
abbrev cX9_improve : ByteArray := prog_11_method_9_code
def yX9_improve : MethodName := ⟨RX9, "improve", "(III)Z"⟩
abbrev cX9_close : ByteArray := prog_11_method_10_code
def yX9_close : MethodName := ⟨RX9, "close", "(I)V"⟩
abbrev cX9_closeOf : ByteArray := prog_11_method_11_code
def yX9_closeOf : MethodName := ⟨RX9, "closeOf", "([II)V"⟩
abbrev cX9_reaches : ByteArray := prog_11_method_12_code
def yX9_reaches : MethodName := ⟨RX9, "reaches", "(II)Z"⟩
abbrev cX9_pairs : ByteArray := prog_11_method_13_code
def yX9_pairs : MethodName := ⟨RX9, "pairs", "()I"⟩
abbrev cX9_pairsOf : ByteArray := prog_11_method_14_code
def yX9_pairsOf : MethodName := ⟨RX9, "pairsOf", "([II)I"⟩
abbrev cX9_append : ByteArray := prog_11_method_15_code
def yX9_append : MethodName := ⟨RX9, "append", "(I)I"⟩
abbrev cX9_clearText : ByteArray := prog_11_method_16_code
def yX9_clearText : MethodName := ⟨RX9, "clearText", "()I"⟩
abbrev cX9_digit : ByteArray := prog_11_method_17_code
def yX9_digit : MethodName := ⟨RX9, "digit", "(II)I"⟩
abbrev cX9_labelChar : ByteArray := prog_11_method_18_code
def yX9_labelChar : MethodName := ⟨RX9, "labelChar", "()I"⟩
abbrev cX9_errorPosition : ByteArray := prog_11_method_19_code
def yX9_errorPosition : MethodName := ⟨RX9, "errorPosition", "()I"⟩
abbrev cX9_put : ByteArray := prog_11_method_20_code
def yX9_put : MethodName := ⟨RX9, "put", "([IIII)V"⟩
abbrev cX9_drop : ByteArray := prog_11_method_21_code
def yX9_drop : MethodName := ⟨RX9, "drop", "([II)V"⟩
abbrev cX9_load : ByteArray := prog_11_method_22_code
def yX9_load : MethodName := ⟨RX9, "load", "()I"⟩
abbrev cX9_vertexCount : ByteArray := prog_11_method_23_code
def yX9_vertexCount : MethodName := ⟨RX9, "vertexCount", "()I"⟩
abbrev cX9_edgeCount : ByteArray := prog_11_method_24_code
def yX9_edgeCount : MethodName := ⟨RX9, "edgeCount", "()I"⟩
abbrev cX9_source : ByteArray := prog_11_method_25_code
def yX9_source : MethodName := ⟨RX9, "source", "(I)I"⟩
abbrev cX9_target : ByteArray := prog_11_method_26_code
def yX9_target : MethodName := ⟨RX9, "target", "(I)I"⟩
abbrev cX9_label : ByteArray := prog_11_method_27_code
def yX9_label : MethodName := ⟨RX9, "label", "(I)I"⟩
abbrev cX9_remember : ByteArray := prog_11_method_28_code
def yX9_remember : MethodName := ⟨RX9, "remember", "()V"⟩
abbrev cX9_addEdge : ByteArray := prog_11_method_29_code
def yX9_addEdge : MethodName := ⟨RX9, "addEdge", "(III)I"⟩
abbrev cX9_removeEdge : ByteArray := prog_11_method_30_code
def yX9_removeEdge : MethodName := ⟨RX9, "removeEdge", "(I)I"⟩
abbrev cX9_setLabel : ByteArray := prog_11_method_31_code
def yX9_setLabel : MethodName := ⟨RX9, "setLabel", "(II)I"⟩
abbrev cX9_undo : ByteArray := prog_11_method_32_code
def yX9_undo : MethodName := ⟨RX9, "undo", "()I"⟩
abbrev cX9_reachableFrom : ByteArray := prog_11_method_33_code
def yX9_reachableFrom : MethodName := ⟨RX9, "reachableFrom", "(I)I"⟩
abbrev cX9_pairCount : ByteArray := prog_11_method_34_code
def yX9_pairCount : MethodName := ⟨RX9, "pairCount", "()I"⟩
abbrev cX9_distance : ByteArray := prog_11_method_35_code
def yX9_distance : MethodName := ⟨RX9, "distance", "(II)I"⟩
abbrev cX9_lengthBy : ByteArray := prog_11_method_36_code
def yX9_lengthBy : MethodName := ⟨RX9, "lengthBy", "(IIII)I"⟩
abbrev cX9_firstStep : ByteArray := prog_11_method_37_code
def yX9_firstStep : MethodName := ⟨RX9, "firstStep", "(II)I"⟩
abbrev cX9_witnessEdge : ByteArray := prog_11_method_38_code
def yX9_witnessEdge : MethodName := ⟨RX9, "witnessEdge", "(III)I"⟩
abbrev cX9_lessDeep : ByteArray := prog_11_method_39_code
def yX9_lessDeep : MethodName := ⟨RX9, "lessDeep", "(III)Z"⟩
abbrev cX9_closeDepths : ByteArray := prog_11_method_40_code
def yX9_closeDepths : MethodName := ⟨RX9, "closeDepths", "()V"⟩
abbrev cX9_depth : ByteArray := prog_11_method_41_code
def yX9_depth : MethodName := ⟨RX9, "depth", "(II)I"⟩
abbrev cX9_lossOf : ByteArray := prog_11_method_42_code
def yX9_lossOf : MethodName := ⟨RX9, "lossOf", "(I)I"⟩
abbrev cX9_loss : ByteArray := prog_11_method_43_code
def yX9_loss : MethodName := ⟨RX9, "loss", "(I)I"⟩
abbrev cX9_criticalEdge : ByteArray := prog_11_method_44_code
def yX9_criticalEdge : MethodName := ⟨RX9, "criticalEdge", "()I"⟩
abbrev cX9_representative : ByteArray := prog_11_method_45_code
def yX9_representative : MethodName := ⟨RX9, "representative", "(I)I"⟩
abbrev cX9_command : ByteArray := prog_11_method_46_code
def yX9_command : MethodName := ⟨RX9, "command", "(IIII)Z"⟩
abbrev cX9_tenThousands : ByteArray := prog_11_method_47_code
def yX9_tenThousands : MethodName := ⟨RX9, "tenThousands", "(I)J"⟩
abbrev cX9_runScript : ByteArray := prog_11_method_48_code
def yX9_runScript : MethodName := ⟨RX9, "runScript", "(IJ)I"⟩
abbrev cX9_observe : ByteArray := prog_11_method_49_code
def yX9_observe : MethodName := ⟨RX9, "observe", "(III)I"⟩
abbrev cX9_clearObservations : ByteArray := prog_11_method_50_code
def yX9_clearObservations : MethodName := ⟨RX9, "clearObservations", "()I"⟩
abbrev cX9_possibleLabels : ByteArray := prog_11_method_51_code
def yX9_possibleLabels : MethodName := ⟨RX9, "possibleLabels", "(I)I"⟩
abbrev cX9_factorial : ByteArray := prog_11_method_52_code
def yX9_factorial : MethodName := ⟨RX9, "factorial", "(I)I"⟩
abbrev cX9_share : ByteArray := prog_11_method_53_code
def yX9_share : MethodName := ⟨RX9, "share", "(I)I"⟩
abbrev cX9_reliability : ByteArray := prog_11_method_54_code
def yX9_reliability : MethodName := ⟨RX9, "reliability", "(III)I"⟩
abbrev cX9_setSeed : ByteArray := prog_11_method_55_code
def yX9_setSeed : MethodName := ⟨RX9, "setSeed", "(J)J"⟩
abbrev cX9_toggle : ByteArray := prog_11_method_56_code
def yX9_toggle : MethodName := ⟨RX9, "toggle", "(III)V"⟩
abbrev cX9_simulate : ByteArray := prog_11_method_57_code
def yX9_simulate : MethodName := ⟨RX9, "simulate", "(I)I"⟩
abbrev cX9_save : ByteArray := prog_11_method_58_code
def yX9_save : MethodName := ⟨RX9, "save", "(I)I"⟩
abbrev cX9_restore : ByteArray := prog_11_method_59_code
def yX9_restore : MethodName := ⟨RX9, "restore", "(I)I"⟩
def RJ6 : String := "java/lang/Integer"
def TJ6 : u_T := fun k => match k with
  | _ => ("", "", "", false)
def tyJ6 : Nat → FieldType := fun k => match k with
  | _ => .int
abbrev wsJ60 : List Cond := u_ws RJ6 TJ6 0
theorem nmJ6 : ∀ a, a < 0 → ∀ b, b < 0 → a ≠ b → (TJ6 a).2.1 ≠ (TJ6 b).2.1 := by decide +kernel
theorem tyJ6_ok : ∀ k, k < 0 → parseFieldDescriptor (TJ6 k).2.2.1 = some (tyJ6 k) := by decide +kernel
abbrev cJ6_numberOfTrailingZeros_0f7a4 : ByteArray := prog_12_method_48_code
def yJ6_numberOfTrailingZeros_0f7a4 : MethodName := ⟨RJ6, "numberOfTrailingZeros", "(I)I"⟩
abbrev cJ6_bitCount_0f7a4 : ByteArray := prog_12_method_49_code
def yJ6_bitCount_0f7a4 : MethodName := ⟨RJ6, "bitCount", "(I)I"⟩
def RJ13 : String := "java/lang/Long"
def TJ13 : u_T := fun k => match k with
  | _ => ("", "", "", false)
def tyJ13 : Nat → FieldType := fun k => match k with
  | _ => .int
abbrev wsJ130 : List Cond := u_ws RJ13 TJ13 0
theorem nmJ13 : ∀ a, a < 0 → ∀ b, b < 0 → a ≠ b → (TJ13 a).2.1 ≠ (TJ13 b).2.1 := by decide +kernel
theorem tyJ13_ok : ∀ k, k < 0 → parseFieldDescriptor (TJ13 k).2.2.1 = some (tyJ13 k) := by decide +kernel
abbrev cJ13_bitCount_95d88 : ByteArray := prog_13_method_50_code
def yJ13_bitCount_95d88 : MethodName := ⟨RJ13, "bitCount", "(J)I"⟩
def RJ9 : String := "java/lang/Math"
def TJ9 : u_T := fun k => match k with
  | _ => ("", "", "", false)
def tyJ9 : Nat → FieldType := fun k => match k with
  | _ => .int
abbrev wsJ90 : List Cond := u_ws RJ9 TJ9 0
theorem nmJ9 : ∀ a, a < 0 → ∀ b, b < 0 → a ≠ b → (TJ9 a).2.1 ≠ (TJ9 b).2.1 := by decide +kernel
theorem tyJ9_ok : ∀ k, k < 0 → parseFieldDescriptor (TJ9 k).2.2.1 = some (tyJ9 k) := by decide +kernel
abbrev cJ9_min_7cf53 : ByteArray := prog_14_method_69_code
def yJ9_min_7cf53 : MethodName := ⟨RJ9, "min", "(II)I"⟩
def RL : String := "DyckReachabilityLaw"
def wsX0_ordersOf : List Cond := .code yX0_ordersOf cX0_ordersOf 3 (some .int) :: ([.fieldLink RX0 11 "DyckReachability$Chance" "FACTORIALS" "[I", .fieldLink RX0 15 "DyckReachability$Chance" "SCALES" "[I"])
def wsX0_power : List Cond := .code yX0_power cX0_power 4 (some .int) :: ([])
def wsX0_nextSeed : List Cond := .code yX0_nextSeed cX0_nextSeed 2 (some .long) :: ([.constantLong RX0 18 (6364136223846793005), .constantLong RX0 20 (1442695040888963407)])
def wsX2_find : List Cond := .code yX2_find cX2_find 5 (some .int) :: ([.fieldLink RX2 21 "DyckReachability$Edges" "size" "I", .fieldLink RX2 9 "DyckReachability$Edges" "sources" "[I", .fieldLink RX2 15 "DyckReachability$Edges" "targets" "[I", .fieldLink RX2 18 "DyckReachability$Edges" "labels" "[I"] ++ wsX20)
def wsX2_isFull : List Cond := .code yX2_isFull cX2_isFull 1 (some .boolean) :: ([.fieldLink RX2 21 "DyckReachability$Edges" "size" "I", .fieldLink RX2 9 "DyckReachability$Edges" "sources" "[I"] ++ wsX20)
def wsX2_put : List Cond := .code yX2_put cX2_put 4 none :: ([.fieldLink RX2 9 "DyckReachability$Edges" "sources" "[I", .fieldLink RX2 21 "DyckReachability$Edges" "size" "I", .fieldLink RX2 15 "DyckReachability$Edges" "targets" "[I", .fieldLink RX2 18 "DyckReachability$Edges" "labels" "[I", .methodLink RX2 25 yX2_isFull, .instanceMethod yX2_isFull, .selects RX2 yX2_isFull yX2_isFull, .initialized RX2, .code yX2_isFull cX2_isFull 1 (some .boolean)] ++ wsX20)
def wsX2_holds : List Cond := .code yX2_holds cX2_holds 2 (some .boolean) :: ([.fieldLink RX2 21 "DyckReachability$Edges" "size" "I"] ++ wsX20)
def wsX2_drop : List Cond := .code yX2_drop cX2_drop 3 none :: ([.fieldLink RX2 21 "DyckReachability$Edges" "size" "I", .fieldLink RX2 9 "DyckReachability$Edges" "sources" "[I", .fieldLink RX2 15 "DyckReachability$Edges" "targets" "[I", .fieldLink RX2 18 "DyckReachability$Edges" "labels" "[I", .methodLink RX2 29 yX2_holds, .instanceMethod yX2_holds, .selects RX2 yX2_holds yX2_holds, .initialized RX2, .code yX2_holds cX2_holds 2 (some .boolean)] ++ wsX20)
def wsX0_change_r1 : List Cond := [Cond.methodLink RX0 22 yX2_find, Cond.instanceMethod yX2_find, Cond.selects RX2 yX2_find yX2_find, Cond.initialized RX2, Cond.code yX2_find cX2_find 5 (some .int), Cond.fieldLink RX2 21 "DyckReachability$Edges" "size" "I", Cond.fieldLink RX2 9 "DyckReachability$Edges" "sources" "[I", Cond.fieldLink RX2 15 "DyckReachability$Edges" "targets" "[I", Cond.fieldLink RX2 18 "DyckReachability$Edges" "labels" "[I", Cond.methodLink RX0 28 yX2_put, Cond.instanceMethod yX2_put, Cond.selects RX2 yX2_put yX2_put, Cond.code yX2_put cX2_put 4 none, Cond.methodLink RX2 25 yX2_isFull, Cond.instanceMethod yX2_isFull, Cond.selects RX2 yX2_isFull yX2_isFull, Cond.code yX2_isFull cX2_isFull 1 (some .boolean), Cond.methodLink RX0 32 yX2_drop, Cond.instanceMethod yX2_drop, Cond.selects RX2 yX2_drop yX2_drop, Cond.code yX2_drop cX2_drop 3 none, Cond.methodLink RX2 29 yX2_holds, Cond.instanceMethod yX2_holds, Cond.selects RX2 yX2_holds yX2_holds]
def wsX0_change_r2 : List Cond := [Cond.code yX2_holds cX2_holds 2 (some .boolean)]
def wsX0_change : List Cond := .code yX0_change cX0_change 7 none :: ((wsX0_change_r1 ++ wsX0_change_r2) ++ wsX20)
def wsX1_init : List Cond := .code yX1_init cX1_init 1 none :: ([.methodLink RX1 5 objectInit, .instanceMethod objectInit, .code objectInit ⟨#[0xb1]⟩ 1 none, .arrayClass .int, .fieldLink RX1 11 "DyckReachability$Distances" "table" "[I", .fieldLink RX1 15 "DyckReachability$Distances" "vertices" "I"] ++ wsX10)
def wsX1_between : List Cond := .code yX1_between cX1_between 4 (some .int) :: ([.fieldLink RX1 11 "DyckReachability$Distances" "table" "[I", .constant RX1 19 (1000001)] ++ wsX10)
def wsX1_reaches : List Cond := .code yX1_reaches cX1_reaches 3 (some .boolean) :: ([.constant RX1 19 (1000001), .methodLink RX1 20 yX1_between, .instanceMethod yX1_between, .selects RX1 yX1_between yX1_between, .initialized RX1, .code yX1_between cX1_between 4 (some .int), .fieldLink RX1 11 "DyckReachability$Distances" "table" "[I"] ++ wsX10)
def wsX2_isEmptyLabelled : List Cond := .code yX2_isEmptyLabelled cX2_isEmptyLabelled 2 (some .boolean) :: ([.fieldLink RX2 18 "DyckReachability$Edges" "labels" "[I"] ++ wsX20)
def wsX8_isVertexNumber : List Cond := .code yX8_isVertexNumber cX8_isVertexNumber 1 (some .boolean) :: ([])
def wsX1_shorten : List Cond := .code yX1_shorten cX1_shorten 7 (some .boolean) :: ([.fieldLink RX1 15 "DyckReachability$Distances" "vertices" "I", .constant RX1 65 (1000000), .methodLink RX1 24 Lib.Math.min.name, .static Lib.Math.min.name, .initialized "java/lang/Math", .code Lib.Math.min.name Lib.Math.min.code 2 (some .int), .fieldLink RX1 11 "DyckReachability$Distances" "table" "[I", .static yX8_isVertexNumber, .initialized RX8, .code yX8_isVertexNumber cX8_isVertexNumber 1 (some .boolean), .methodLink RX1 59 yX1_reaches, .instanceMethod yX1_reaches, .selects RX1 yX1_reaches yX1_reaches, .initialized RX1, .code yX1_reaches cX1_reaches 3 (some .boolean), .constant RX1 19 (1000001), .methodLink RX1 20 yX1_between, .instanceMethod yX1_between, .selects RX1 yX1_between yX1_between, .code yX1_between cX1_between 4 (some .int)] ++ wsX10)
def wsX2_opens : List Cond := .code yX2_opens cX2_opens 2 (some .boolean) :: ([.fieldLink RX2 18 "DyckReachability$Edges" "labels" "[I"] ++ wsX20)
def wsX2_closes : List Cond := .code yX2_closes cX2_closes 3 (some .boolean) :: ([.fieldLink RX2 18 "DyckReachability$Edges" "labels" "[I"] ++ wsX20)
def wsX1_shortenBehind_r1 : List Cond := [Cond.fieldLink RX1 38 "DyckReachability$Edges" "sources" "[I", Cond.fieldLink RX1 41 "DyckReachability$Edges" "targets" "[I", Cond.fieldLink RX1 29 "DyckReachability$Edges" "size" "I", Cond.methodLink RX1 44 yX2_isEmptyLabelled, Cond.instanceMethod yX2_isEmptyLabelled, Cond.selects RX2 yX2_isEmptyLabelled yX2_isEmptyLabelled, Cond.initialized RX2, Cond.code yX2_isEmptyLabelled cX2_isEmptyLabelled 2 (some .boolean), Cond.fieldLink RX2 18 "DyckReachability$Edges" "labels" "[I", Cond.methodLink RX1 48 yX1_shorten, Cond.instanceMethod yX1_shorten, Cond.selects RX1 yX1_shorten yX1_shorten, Cond.initialized RX1, Cond.code yX1_shorten cX1_shorten 7 (some .boolean), Cond.fieldLink RX1 15 "DyckReachability$Distances" "vertices" "I", Cond.constant RX1 65 (1000000), Cond.methodLink RX1 24 Lib.Math.min.name, Cond.static Lib.Math.min.name, Cond.initialized "java/lang/Math", Cond.code Lib.Math.min.name Lib.Math.min.code 2 (some .int), Cond.fieldLink RX1 11 "DyckReachability$Distances" "table" "[I", Cond.static yX8_isVertexNumber, Cond.initialized RX8, Cond.code yX8_isVertexNumber cX8_isVertexNumber 1 (some .boolean)]
def wsX1_shortenBehind_r2 : List Cond := [Cond.methodLink RX1 59 yX1_reaches, Cond.instanceMethod yX1_reaches, Cond.selects RX1 yX1_reaches yX1_reaches, Cond.code yX1_reaches cX1_reaches 3 (some .boolean), Cond.constant RX1 19 (1000001), Cond.methodLink RX1 20 yX1_between, Cond.instanceMethod yX1_between, Cond.selects RX1 yX1_between yX1_between, Cond.code yX1_between cX1_between 4 (some .int), Cond.methodLink RX1 52 yX2_opens, Cond.instanceMethod yX2_opens, Cond.selects RX2 yX2_opens yX2_opens, Cond.code yX2_opens cX2_opens 2 (some .boolean), Cond.methodLink RX1 55 yX2_closes, Cond.instanceMethod yX2_closes, Cond.selects RX2 yX2_closes yX2_closes, Cond.code yX2_closes cX2_closes 3 (some .boolean)]
def wsX1_shortenBehind : List Cond := .code yX1_shortenBehind cX1_shortenBehind 8 (some .boolean) :: ((wsX1_shortenBehind_r1 ++ wsX1_shortenBehind_r2) ++ wsX20 ++ wsX10)
def wsX1_measure_r1 : List Cond := [Cond.methodLink RX1 24 Lib.Math.min.name, Cond.static Lib.Math.min.name, Cond.initialized "java/lang/Math", Cond.code Lib.Math.min.name Lib.Math.min.code 2 (some .int), Cond.fieldLink RX1 15 "DyckReachability$Distances" "vertices" "I", Cond.fieldLink RX1 11 "DyckReachability$Distances" "table" "[I", Cond.constant RX1 19 (1000001), Cond.fieldLink RX1 29 "DyckReachability$Edges" "size" "I", Cond.methodLink RX1 34 yX1_shortenBehind, Cond.instanceMethod yX1_shortenBehind, Cond.selects RX1 yX1_shortenBehind yX1_shortenBehind, Cond.initialized RX1, Cond.code yX1_shortenBehind cX1_shortenBehind 8 (some .boolean), Cond.fieldLink RX1 38 "DyckReachability$Edges" "sources" "[I", Cond.fieldLink RX1 41 "DyckReachability$Edges" "targets" "[I", Cond.methodLink RX1 44 yX2_isEmptyLabelled, Cond.instanceMethod yX2_isEmptyLabelled, Cond.selects RX2 yX2_isEmptyLabelled yX2_isEmptyLabelled, Cond.initialized RX2, Cond.code yX2_isEmptyLabelled cX2_isEmptyLabelled 2 (some .boolean), Cond.fieldLink RX2 18 "DyckReachability$Edges" "labels" "[I", Cond.methodLink RX1 48 yX1_shorten, Cond.instanceMethod yX1_shorten, Cond.selects RX1 yX1_shorten yX1_shorten]
def wsX1_measure_r2 : List Cond := [Cond.code yX1_shorten cX1_shorten 7 (some .boolean), Cond.constant RX1 65 (1000000), Cond.static yX8_isVertexNumber, Cond.initialized RX8, Cond.code yX8_isVertexNumber cX8_isVertexNumber 1 (some .boolean), Cond.methodLink RX1 59 yX1_reaches, Cond.instanceMethod yX1_reaches, Cond.selects RX1 yX1_reaches yX1_reaches, Cond.code yX1_reaches cX1_reaches 3 (some .boolean), Cond.methodLink RX1 20 yX1_between, Cond.instanceMethod yX1_between, Cond.selects RX1 yX1_between yX1_between, Cond.code yX1_between cX1_between 4 (some .int), Cond.methodLink RX1 52 yX2_opens, Cond.instanceMethod yX2_opens, Cond.selects RX2 yX2_opens yX2_opens, Cond.code yX2_opens cX2_opens 2 (some .boolean), Cond.methodLink RX1 55 yX2_closes, Cond.instanceMethod yX2_closes, Cond.selects RX2 yX2_closes yX2_closes, Cond.code yX2_closes cX2_closes 3 (some .boolean)]
def wsX1_measure : List Cond := .code yX1_measure cX1_measure 6 none :: ((wsX1_measure_r1 ++ wsX1_measure_r2) ++ wsX10 ++ wsX20)
def wsX1_closingOnWitness : List Cond := .code yX1_closingOnWitness cX1_closingOnWitness 8 (some .int) :: ([.fieldLink RX1 38 "DyckReachability$Edges" "sources" "[I", .fieldLink RX1 29 "DyckReachability$Edges" "size" "I", .fieldLink RX1 41 "DyckReachability$Edges" "targets" "[I", .methodLink RX1 20 yX1_between, .instanceMethod yX1_between, .selects RX1 yX1_between yX1_between, .initialized RX1, .code yX1_between cX1_between 4 (some .int), .fieldLink RX1 11 "DyckReachability$Distances" "table" "[I", .constant RX1 19 (1000001), .methodLink RX1 55 yX2_closes, .instanceMethod yX2_closes, .selects RX2 yX2_closes yX2_closes, .initialized RX2, .code yX2_closes cX2_closes 3 (some .boolean), .fieldLink RX2 18 "DyckReachability$Edges" "labels" "[I"] ++ wsX20 ++ wsX10)
def wsX1_beginsShortest_r1 : List Cond := [Cond.fieldLink RX1 38 "DyckReachability$Edges" "sources" "[I", Cond.fieldLink RX1 41 "DyckReachability$Edges" "targets" "[I", Cond.methodLink RX1 44 yX2_isEmptyLabelled, Cond.instanceMethod yX2_isEmptyLabelled, Cond.selects RX2 yX2_isEmptyLabelled yX2_isEmptyLabelled, Cond.initialized RX2, Cond.code yX2_isEmptyLabelled cX2_isEmptyLabelled 2 (some .boolean), Cond.fieldLink RX2 18 "DyckReachability$Edges" "labels" "[I", Cond.methodLink RX1 20 yX1_between, Cond.instanceMethod yX1_between, Cond.selects RX1 yX1_between yX1_between, Cond.initialized RX1, Cond.code yX1_between cX1_between 4 (some .int), Cond.fieldLink RX1 11 "DyckReachability$Distances" "table" "[I", Cond.constant RX1 19 (1000001), Cond.methodLink RX1 52 yX2_opens, Cond.instanceMethod yX2_opens, Cond.selects RX2 yX2_opens yX2_opens, Cond.code yX2_opens cX2_opens 2 (some .boolean), Cond.methodLink RX1 70 yX1_closingOnWitness, Cond.instanceMethod yX1_closingOnWitness, Cond.selects RX1 yX1_closingOnWitness yX1_closingOnWitness, Cond.code yX1_closingOnWitness cX1_closingOnWitness 8 (some .int), Cond.fieldLink RX1 29 "DyckReachability$Edges" "size" "I"]
def wsX1_beginsShortest_r2 : List Cond := [Cond.methodLink RX1 55 yX2_closes, Cond.instanceMethod yX2_closes, Cond.selects RX2 yX2_closes yX2_closes, Cond.code yX2_closes cX2_closes 3 (some .boolean)]
def wsX1_beginsShortest : List Cond := .code yX1_beginsShortest cX1_beginsShortest 4 (some .boolean) :: ((wsX1_beginsShortest_r1 ++ wsX1_beginsShortest_r2) ++ wsX20 ++ wsX10)
def wsX1_firstOnWitness_r1 : List Cond := [Cond.fieldLink RX1 29 "DyckReachability$Edges" "size" "I", Cond.fieldLink RX1 38 "DyckReachability$Edges" "sources" "[I", Cond.methodLink RX1 73 yX1_beginsShortest, Cond.instanceMethod yX1_beginsShortest, Cond.selects RX1 yX1_beginsShortest yX1_beginsShortest, Cond.initialized RX1, Cond.code yX1_beginsShortest cX1_beginsShortest 4 (some .boolean), Cond.fieldLink RX1 41 "DyckReachability$Edges" "targets" "[I", Cond.methodLink RX1 44 yX2_isEmptyLabelled, Cond.instanceMethod yX2_isEmptyLabelled, Cond.selects RX2 yX2_isEmptyLabelled yX2_isEmptyLabelled, Cond.initialized RX2, Cond.code yX2_isEmptyLabelled cX2_isEmptyLabelled 2 (some .boolean), Cond.fieldLink RX2 18 "DyckReachability$Edges" "labels" "[I", Cond.methodLink RX1 20 yX1_between, Cond.instanceMethod yX1_between, Cond.selects RX1 yX1_between yX1_between, Cond.code yX1_between cX1_between 4 (some .int), Cond.fieldLink RX1 11 "DyckReachability$Distances" "table" "[I", Cond.constant RX1 19 (1000001), Cond.methodLink RX1 52 yX2_opens, Cond.instanceMethod yX2_opens, Cond.selects RX2 yX2_opens yX2_opens, Cond.code yX2_opens cX2_opens 2 (some .boolean)]
def wsX1_firstOnWitness_r2 : List Cond := [Cond.methodLink RX1 70 yX1_closingOnWitness, Cond.instanceMethod yX1_closingOnWitness, Cond.selects RX1 yX1_closingOnWitness yX1_closingOnWitness, Cond.code yX1_closingOnWitness cX1_closingOnWitness 8 (some .int), Cond.methodLink RX1 55 yX2_closes, Cond.instanceMethod yX2_closes, Cond.selects RX2 yX2_closes yX2_closes, Cond.code yX2_closes cX2_closes 3 (some .boolean)]
def wsX1_firstOnWitness : List Cond := .code yX1_firstOnWitness cX1_firstOnWitness 5 (some .int) :: ((wsX1_firstOnWitness_r1 ++ wsX1_firstOnWitness_r2) ++ wsX20 ++ wsX10)
def wsX1_edgeOnWitness_r1 : List Cond := [Cond.constant RX1 65 (1000000), Cond.fieldLink RX1 41 "DyckReachability$Edges" "targets" "[I", Cond.fieldLink RX1 38 "DyckReachability$Edges" "sources" "[I", Cond.methodLink RX1 20 yX1_between, Cond.instanceMethod yX1_between, Cond.selects RX1 yX1_between yX1_between, Cond.initialized RX1, Cond.code yX1_between cX1_between 4 (some .int), Cond.fieldLink RX1 11 "DyckReachability$Distances" "table" "[I", Cond.constant RX1 19 (1000001), Cond.methodLink RX1 66 yX1_firstOnWitness, Cond.instanceMethod yX1_firstOnWitness, Cond.selects RX1 yX1_firstOnWitness yX1_firstOnWitness, Cond.code yX1_firstOnWitness cX1_firstOnWitness 5 (some .int), Cond.fieldLink RX1 29 "DyckReachability$Edges" "size" "I", Cond.methodLink RX1 73 yX1_beginsShortest, Cond.instanceMethod yX1_beginsShortest, Cond.selects RX1 yX1_beginsShortest yX1_beginsShortest, Cond.code yX1_beginsShortest cX1_beginsShortest 4 (some .boolean), Cond.methodLink RX1 44 yX2_isEmptyLabelled, Cond.instanceMethod yX2_isEmptyLabelled, Cond.selects RX2 yX2_isEmptyLabelled yX2_isEmptyLabelled, Cond.initialized RX2, Cond.code yX2_isEmptyLabelled cX2_isEmptyLabelled 2 (some .boolean)]
def wsX1_edgeOnWitness_r2 : List Cond := [Cond.fieldLink RX2 18 "DyckReachability$Edges" "labels" "[I", Cond.methodLink RX1 52 yX2_opens, Cond.instanceMethod yX2_opens, Cond.selects RX2 yX2_opens yX2_opens, Cond.code yX2_opens cX2_opens 2 (some .boolean), Cond.methodLink RX1 70 yX1_closingOnWitness, Cond.instanceMethod yX1_closingOnWitness, Cond.selects RX1 yX1_closingOnWitness yX1_closingOnWitness, Cond.code yX1_closingOnWitness cX1_closingOnWitness 8 (some .int), Cond.methodLink RX1 55 yX2_closes, Cond.instanceMethod yX2_closes, Cond.selects RX2 yX2_closes yX2_closes, Cond.code yX2_closes cX2_closes 3 (some .boolean)]
def wsX1_edgeOnWitness : List Cond := .code yX1_edgeOnWitness cX1_edgeOnWitness 12 (some .int) :: ((wsX1_edgeOnWitness_r1 ++ wsX1_edgeOnWitness_r2) ++ wsX20 ++ wsX10)
def wsX2_init : List Cond := .code yX2_init cX2_init 2 none :: ([.methodLink RX2 3 objectInit, .instanceMethod objectInit, .code objectInit ⟨#[0xb1]⟩ 1 none, .arrayClass .int, .fieldLink RX2 9 "DyckReachability$Edges" "sources" "[I", .fieldLink RX2 15 "DyckReachability$Edges" "targets" "[I", .fieldLink RX2 18 "DyckReachability$Edges" "labels" "[I", .fieldLink RX2 21 "DyckReachability$Edges" "size" "I"] ++ wsX20)
def wsX2_take : List Cond := .code yX2_take cX2_take 3 none :: ([.fieldLink RX2 21 "DyckReachability$Edges" "size" "I", .fieldLink RX2 9 "DyckReachability$Edges" "sources" "[I", .fieldLink RX2 15 "DyckReachability$Edges" "targets" "[I", .fieldLink RX2 18 "DyckReachability$Edges" "labels" "[I", .methodLink RX2 33 yX2_put, .instanceMethod yX2_put, .selects RX2 yX2_put yX2_put, .initialized RX2, .code yX2_put cX2_put 4 none, .methodLink RX2 25 yX2_isFull, .instanceMethod yX2_isFull, .selects RX2 yX2_isFull yX2_isFull, .code yX2_isFull cX2_isFull 1 (some .boolean)] ++ wsX20)
def wsX2_takeSome : List Cond := .code yX2_takeSome cX2_takeSome 4 none :: ([.fieldLink RX2 21 "DyckReachability$Edges" "size" "I", .fieldLink RX2 9 "DyckReachability$Edges" "sources" "[I", .fieldLink RX2 15 "DyckReachability$Edges" "targets" "[I", .fieldLink RX2 18 "DyckReachability$Edges" "labels" "[I", .methodLink RX2 33 yX2_put, .instanceMethod yX2_put, .selects RX2 yX2_put yX2_put, .initialized RX2, .code yX2_put cX2_put 4 none, .methodLink RX2 25 yX2_isFull, .instanceMethod yX2_isFull, .selects RX2 yX2_isFull yX2_isFull, .code yX2_isFull cX2_isFull 1 (some .boolean)] ++ wsX20)
def wsX2_otherBracket : List Cond := .code yX2_otherBracket cX2_otherBracket 1 (some .int) :: ([])
def wsX2_takeBothWays : List Cond := .code yX2_takeBothWays cX2_takeBothWays 3 none :: ([.fieldLink RX2 21 "DyckReachability$Edges" "size" "I", .fieldLink RX2 15 "DyckReachability$Edges" "targets" "[I", .fieldLink RX2 9 "DyckReachability$Edges" "sources" "[I", .fieldLink RX2 18 "DyckReachability$Edges" "labels" "[I", .methodLink RX2 37 yX2_take, .instanceMethod yX2_take, .selects RX2 yX2_take yX2_take, .initialized RX2, .code yX2_take cX2_take 3 none, .methodLink RX2 33 yX2_put, .instanceMethod yX2_put, .selects RX2 yX2_put yX2_put, .code yX2_put cX2_put 4 none, .methodLink RX2 25 yX2_isFull, .instanceMethod yX2_isFull, .selects RX2 yX2_isFull yX2_isFull, .code yX2_isFull cX2_isFull 1 (some .boolean), .methodLink RX2 41 yX2_otherBracket, .static yX2_otherBracket, .code yX2_otherBracket cX2_otherBracket 1 (some .int)] ++ wsX20)
def wsX3_init : List Cond := .code yX3_init cX3_init 1 none :: ([.methodLink RX3 3 objectInit, .instanceMethod objectInit, .code objectInit ⟨#[0xb1]⟩ 1 none, .arrayClass .int, .fieldLink RX3 11 "DyckReachability$GraphText" "signs" "[I", .fieldLink RX3 15 "DyckReachability$GraphText" "length" "I"] ++ wsX30)
def wsX3_isFull : List Cond := .code yX3_isFull cX3_isFull 1 (some .boolean) :: ([.fieldLink RX3 15 "DyckReachability$GraphText" "length" "I"] ++ wsX30)
def wsX3_put : List Cond := .code yX3_put cX3_put 2 none :: ([.fieldLink RX3 11 "DyckReachability$GraphText" "signs" "[I", .fieldLink RX3 15 "DyckReachability$GraphText" "length" "I", .methodLink RX3 19 yX3_isFull, .instanceMethod yX3_isFull, .selects RX3 yX3_isFull yX3_isFull, .initialized RX3, .code yX3_isFull cX3_isFull 1 (some .boolean)] ++ wsX30)
def wsX3_labelOf : List Cond := .code yX3_labelOf cX3_labelOf 2 (some .int) :: ([.fieldLink RX3 35 "DyckReachability$GraphText" "LABEL_SIGNS" "[C"])
def wsX3_writtenVertices : List Cond := .code yX3_writtenVertices cX3_writtenVertices 1 (some .int) :: ([.fieldLink RX3 11 "DyckReachability$GraphText" "signs" "[I"] ++ wsX30)
def wsX3_fits : List Cond := .code yX3_fits cX3_fits 3 (some .boolean) :: ([.fieldLink RX3 11 "DyckReachability$GraphText" "signs" "[I", .methodLink RX3 27 yX3_labelOf, .static yX3_labelOf, .initialized RX3, .code yX3_labelOf cX3_labelOf 2 (some .int), .fieldLink RX3 35 "DyckReachability$GraphText" "LABEL_SIGNS" "[C", .methodLink RX3 31 yX3_writtenVertices, .instanceMethod yX3_writtenVertices, .selects RX3 yX3_writtenVertices yX3_writtenVertices, .code yX3_writtenVertices cX3_writtenVertices 1 (some .int)] ++ wsX30)
def wsX3_firstFault : List Cond := .code yX3_firstFault cX3_firstFault 2 (some .int) :: ([.fieldLink RX3 15 "DyckReachability$GraphText" "length" "I", .methodLink RX3 23 yX3_fits, .instanceMethod yX3_fits, .selects RX3 yX3_fits yX3_fits, .initialized RX3, .code yX3_fits cX3_fits 3 (some .boolean), .fieldLink RX3 11 "DyckReachability$GraphText" "signs" "[I", .methodLink RX3 27 yX3_labelOf, .static yX3_labelOf, .code yX3_labelOf cX3_labelOf 2 (some .int), .fieldLink RX3 35 "DyckReachability$GraphText" "LABEL_SIGNS" "[C", .methodLink RX3 31 yX3_writtenVertices, .instanceMethod yX3_writtenVertices, .selects RX3 yX3_writtenVertices yX3_writtenVertices, .code yX3_writtenVertices cX3_writtenVertices 1 (some .int)] ++ wsX30)
def wsX3_writeEdgesTo : List Cond := .code yX3_writeEdgesTo cX3_writeEdgesTo 3 none :: ([.fieldLink RX3 39 "DyckReachability$Edges" "size" "I", .fieldLink RX3 15 "DyckReachability$GraphText" "length" "I", .fieldLink RX3 11 "DyckReachability$GraphText" "signs" "[I", .methodLink RX3 27 yX3_labelOf, .static yX3_labelOf, .initialized RX3, .code yX3_labelOf cX3_labelOf 2 (some .int), .fieldLink RX3 35 "DyckReachability$GraphText" "LABEL_SIGNS" "[C", .methodLink RX3 44 yX2_put, .instanceMethod yX2_put, .selects RX2 yX2_put yX2_put, .initialized RX2, .code yX2_put cX2_put 4 none, .fieldLink RX2 9 "DyckReachability$Edges" "sources" "[I", .fieldLink RX2 21 "DyckReachability$Edges" "size" "I", .fieldLink RX2 15 "DyckReachability$Edges" "targets" "[I", .fieldLink RX2 18 "DyckReachability$Edges" "labels" "[I", .methodLink RX2 25 yX2_isFull, .instanceMethod yX2_isFull, .selects RX2 yX2_isFull yX2_isFull, .code yX2_isFull cX2_isFull 1 (some .boolean)] ++ wsX20 ++ wsX30)
def wsX4_init : List Cond := .code yX4_init cX4_init 2 none :: ([.methodLink RX4 3 objectInit, .instanceMethod objectInit, .code objectInit ⟨#[0xb1]⟩ 1 none, .classLink RX4 11 RX2, .fieldLink RX4 13 "DyckReachability$History" "states" "[LDyckReachability$Edges;", .instantiable RX2 4, .initialized RX2, .fieldLink RX4 20 "DyckReachability$History" "next" "I", .fieldLink RX4 24 "DyckReachability$History" "size" "I", .methodLink RX4 17 yX2_init, .instanceMethod yX2_init, .code yX2_init cX2_init 2 none, .methodLink RX2 3 objectInit, .arrayClass .int, .fieldLink RX2 9 "DyckReachability$Edges" "sources" "[I", .fieldLink RX2 15 "DyckReachability$Edges" "targets" "[I", .fieldLink RX2 18 "DyckReachability$Edges" "labels" "[I", .fieldLink RX2 21 "DyckReachability$Edges" "size" "I"] ++ wsX40 ++ wsX20)
def wsX4_remember : List Cond := .code yX4_remember cX4_remember 2 none :: ([.fieldLink RX4 13 "DyckReachability$History" "states" "[LDyckReachability$Edges;", .fieldLink RX4 20 "DyckReachability$History" "next" "I", .fieldLink RX4 24 "DyckReachability$History" "size" "I", .methodLink RX4 31 Lib.Math.min.name, .static Lib.Math.min.name, .initialized "java/lang/Math", .code Lib.Math.min.name Lib.Math.min.code 2 (some .int), .methodLink RX4 27 yX2_take, .instanceMethod yX2_take, .selects RX2 yX2_take yX2_take, .initialized RX2, .code yX2_take cX2_take 3 none, .fieldLink RX2 21 "DyckReachability$Edges" "size" "I", .fieldLink RX2 9 "DyckReachability$Edges" "sources" "[I", .fieldLink RX2 15 "DyckReachability$Edges" "targets" "[I", .fieldLink RX2 18 "DyckReachability$Edges" "labels" "[I", .methodLink RX2 33 yX2_put, .instanceMethod yX2_put, .selects RX2 yX2_put yX2_put, .code yX2_put cX2_put 4 none, .methodLink RX2 25 yX2_isFull, .instanceMethod yX2_isFull, .selects RX2 yX2_isFull yX2_isFull, .code yX2_isFull cX2_isFull 1 (some .boolean)] ++ wsX40 ++ wsX20)
def wsX4_giveBack : List Cond := .code yX4_giveBack cX4_giveBack 2 none :: ([.fieldLink RX4 24 "DyckReachability$History" "size" "I", .fieldLink RX4 20 "DyckReachability$History" "next" "I", .fieldLink RX4 13 "DyckReachability$History" "states" "[LDyckReachability$Edges;", .methodLink RX4 27 yX2_take, .instanceMethod yX2_take, .selects RX2 yX2_take yX2_take, .initialized RX2, .code yX2_take cX2_take 3 none, .fieldLink RX2 21 "DyckReachability$Edges" "size" "I", .fieldLink RX2 9 "DyckReachability$Edges" "sources" "[I", .fieldLink RX2 15 "DyckReachability$Edges" "targets" "[I", .fieldLink RX2 18 "DyckReachability$Edges" "labels" "[I", .methodLink RX2 33 yX2_put, .instanceMethod yX2_put, .selects RX2 yX2_put yX2_put, .code yX2_put cX2_put 4 none, .methodLink RX2 25 yX2_isFull, .instanceMethod yX2_isFull, .selects RX2 yX2_isFull yX2_isFull, .code yX2_isFull cX2_isFull 1 (some .boolean)] ++ wsX40 ++ wsX20)
def wsX4_forgetAll : List Cond := .code yX4_forgetAll cX4_forgetAll 1 none :: ([.fieldLink RX4 24 "DyckReachability$History" "size" "I"] ++ wsX40)
def wsX5_init : List Cond := .code yX5_init cX5_init 1 none :: ([.methodLink RX5 1 objectInit, .instanceMethod objectInit, .code objectInit ⟨#[0xb1]⟩ 1 none, .arrayClass .int, .fieldLink RX5 9 "DyckReachability$Observations" "starts" "[I", .fieldLink RX5 13 "DyckReachability$Observations" "ends" "[I", .fieldLink RX5 16 "DyckReachability$Observations" "answers" "[I", .fieldLink RX5 19 "DyckReachability$Observations" "size" "I"] ++ wsX50)
def wsX5_isFull : List Cond := .code yX5_isFull cX5_isFull 1 (some .boolean) :: ([.fieldLink RX5 19 "DyckReachability$Observations" "size" "I"] ++ wsX50)
def wsX5_put : List Cond := .code yX5_put cX5_put 4 none :: ([.fieldLink RX5 9 "DyckReachability$Observations" "starts" "[I", .fieldLink RX5 19 "DyckReachability$Observations" "size" "I", .fieldLink RX5 13 "DyckReachability$Observations" "ends" "[I", .fieldLink RX5 16 "DyckReachability$Observations" "answers" "[I", .methodLink RX5 23 yX5_isFull, .instanceMethod yX5_isFull, .selects RX5 yX5_isFull yX5_isFull, .initialized RX5, .code yX5_isFull cX5_isFull 1 (some .boolean)] ++ wsX50)
def wsX6_row : List Cond := .code yX6_row cX6_row 3 (some .int) :: ([])
def wsX6_has : List Cond := .code yX6_has cX6_has 4 (some .boolean) :: ([.methodLink RX6 11 yX6_row, .static yX6_row, .initialized RX6, .code yX6_row cX6_row 3 (some .int)])
def wsX5_allHold : List Cond := .code yX5_allHold cX5_allHold 7 (some .boolean) :: ([.fieldLink RX5 19 "DyckReachability$Observations" "size" "I", .fieldLink RX5 9 "DyckReachability$Observations" "starts" "[I", .fieldLink RX5 13 "DyckReachability$Observations" "ends" "[I", .fieldLink RX5 16 "DyckReachability$Observations" "answers" "[I", .methodLink RX5 27 yX6_has, .static yX6_has, .initialized RX6, .code yX6_has cX6_has 4 (some .boolean), .methodLink RX6 11 yX6_row, .static yX6_row, .code yX6_row cX6_row 3 (some .int)] ++ wsX50)
def wsX6_withRow : List Cond := .code yX6_withRow cX6_withRow 4 (some .long) :: ([])
def wsX6_identity : List Cond := .code yX6_identity cX6_identity 4 (some .long) :: ([.methodLink RX6 15 yX6_withRow, .static yX6_withRow, .initialized RX6, .code yX6_withRow cX6_withRow 4 (some .long)])
def wsX6_withPathsBehind_r1 : List Cond := [Cond.fieldLink RX6 33 "DyckReachability$Edges" "sources" "[I", Cond.fieldLink RX6 37 "DyckReachability$Edges" "targets" "[I", Cond.fieldLink RX6 23 "DyckReachability$Edges" "size" "I", Cond.methodLink RX6 40 yX2_isEmptyLabelled, Cond.instanceMethod yX2_isEmptyLabelled, Cond.selects RX2 yX2_isEmptyLabelled yX2_isEmptyLabelled, Cond.initialized RX2, Cond.code yX2_isEmptyLabelled cX2_isEmptyLabelled 2 (some .boolean), Cond.fieldLink RX2 18 "DyckReachability$Edges" "labels" "[I", Cond.methodLink RX6 11 yX6_row, Cond.static yX6_row, Cond.initialized RX6, Cond.code yX6_row cX6_row 3 (some .int), Cond.methodLink RX6 15 yX6_withRow, Cond.static yX6_withRow, Cond.code yX6_withRow cX6_withRow 4 (some .long), Cond.methodLink RX6 44 yX2_opens, Cond.instanceMethod yX2_opens, Cond.selects RX2 yX2_opens yX2_opens, Cond.code yX2_opens cX2_opens 2 (some .boolean), Cond.methodLink RX6 47 yX2_closes, Cond.instanceMethod yX2_closes, Cond.selects RX2 yX2_closes yX2_closes, Cond.code yX2_closes cX2_closes 3 (some .boolean)]
def wsX6_withPathsBehind_r2 : List Cond := [Cond.methodLink RX6 51 yX6_has, Cond.static yX6_has, Cond.code yX6_has cX6_has 4 (some .boolean)]
def wsX6_withPathsBehind : List Cond := .code yX6_withPathsBehind cX6_withPathsBehind 9 (some .long) :: ((wsX6_withPathsBehind_r1 ++ wsX6_withPathsBehind_r2) ++ wsX20)
def wsX6_ofBalancedPaths_r1 : List Cond := [Cond.fieldLink RX6 23 "DyckReachability$Edges" "size" "I", Cond.methodLink RX6 19 yX6_identity, Cond.static yX6_identity, Cond.initialized RX6, Cond.code yX6_identity cX6_identity 4 (some .long), Cond.methodLink RX6 15 yX6_withRow, Cond.static yX6_withRow, Cond.code yX6_withRow cX6_withRow 4 (some .long), Cond.methodLink RX6 29 yX6_withPathsBehind, Cond.static yX6_withPathsBehind, Cond.code yX6_withPathsBehind cX6_withPathsBehind 9 (some .long), Cond.fieldLink RX6 33 "DyckReachability$Edges" "sources" "[I", Cond.fieldLink RX6 37 "DyckReachability$Edges" "targets" "[I", Cond.methodLink RX6 40 yX2_isEmptyLabelled, Cond.instanceMethod yX2_isEmptyLabelled, Cond.selects RX2 yX2_isEmptyLabelled yX2_isEmptyLabelled, Cond.initialized RX2, Cond.code yX2_isEmptyLabelled cX2_isEmptyLabelled 2 (some .boolean), Cond.fieldLink RX2 18 "DyckReachability$Edges" "labels" "[I", Cond.methodLink RX6 11 yX6_row, Cond.static yX6_row, Cond.code yX6_row cX6_row 3 (some .int), Cond.methodLink RX6 44 yX2_opens, Cond.instanceMethod yX2_opens]
def wsX6_ofBalancedPaths_r2 : List Cond := [Cond.selects RX2 yX2_opens yX2_opens, Cond.code yX2_opens cX2_opens 2 (some .boolean), Cond.methodLink RX6 47 yX2_closes, Cond.instanceMethod yX2_closes, Cond.selects RX2 yX2_closes yX2_closes, Cond.code yX2_closes cX2_closes 3 (some .boolean), Cond.methodLink RX6 51 yX6_has, Cond.static yX6_has, Cond.code yX6_has cX6_has 4 (some .boolean)]
def wsX6_ofBalancedPaths : List Cond := .code yX6_ofBalancedPaths cX6_ofBalancedPaths 8 (some .long) :: ((wsX6_ofBalancedPaths_r1 ++ wsX6_ofBalancedPaths_r2) ++ wsX20)
def wsX6_stepsBy : List Cond := .code yX6_stepsBy cX6_stepsBy 7 (some .int) :: ([.fieldLink RX6 37 "DyckReachability$Edges" "targets" "[I", .fieldLink RX6 23 "DyckReachability$Edges" "size" "I", .fieldLink RX6 33 "DyckReachability$Edges" "sources" "[I", .methodLink RX6 40 yX2_isEmptyLabelled, .instanceMethod yX2_isEmptyLabelled, .selects RX2 yX2_isEmptyLabelled yX2_isEmptyLabelled, .initialized RX2, .code yX2_isEmptyLabelled cX2_isEmptyLabelled 2 (some .boolean), .fieldLink RX2 18 "DyckReachability$Edges" "labels" "[I", .methodLink RX6 44 yX2_opens, .instanceMethod yX2_opens, .selects RX2 yX2_opens yX2_opens, .code yX2_opens cX2_opens 2 (some .boolean), .methodLink RX6 47 yX2_closes, .instanceMethod yX2_closes, .selects RX2 yX2_closes yX2_closes, .code yX2_closes cX2_closes 3 (some .boolean), .methodLink RX6 51 yX6_has, .static yX6_has, .initialized RX6, .code yX6_has cX6_has 4 (some .boolean), .methodLink RX6 11 yX6_row, .static yX6_row, .code yX6_row cX6_row 3 (some .int)] ++ wsX20)
def wsX6_transitive : List Cond := .code yX6_transitive cX6_transitive 6 (some .long) :: ([.methodLink RX6 51 yX6_has, .static yX6_has, .initialized RX6, .code yX6_has cX6_has 4 (some .boolean), .methodLink RX6 11 yX6_row, .static yX6_row, .code yX6_row cX6_row 3 (some .int), .methodLink RX6 15 yX6_withRow, .static yX6_withRow, .code yX6_withRow cX6_withRow 4 (some .long)])
def wsX6_nestedAround_r1 : List Cond := [Cond.fieldLink RX6 23 "DyckReachability$Edges" "size" "I", Cond.fieldLink RX6 33 "DyckReachability$Edges" "sources" "[I", Cond.methodLink RX6 19 yX6_identity, Cond.static yX6_identity, Cond.initialized RX6, Cond.code yX6_identity cX6_identity 4 (some .long), Cond.methodLink RX6 15 yX6_withRow, Cond.static yX6_withRow, Cond.code yX6_withRow cX6_withRow 4 (some .long), Cond.methodLink RX6 55 yX6_stepsBy, Cond.static yX6_stepsBy, Cond.code yX6_stepsBy cX6_stepsBy 7 (some .int), Cond.fieldLink RX6 37 "DyckReachability$Edges" "targets" "[I", Cond.methodLink RX6 40 yX2_isEmptyLabelled, Cond.instanceMethod yX2_isEmptyLabelled, Cond.selects RX2 yX2_isEmptyLabelled yX2_isEmptyLabelled, Cond.initialized RX2, Cond.code yX2_isEmptyLabelled cX2_isEmptyLabelled 2 (some .boolean), Cond.fieldLink RX2 18 "DyckReachability$Edges" "labels" "[I", Cond.methodLink RX6 44 yX2_opens, Cond.instanceMethod yX2_opens, Cond.selects RX2 yX2_opens yX2_opens, Cond.code yX2_opens cX2_opens 2 (some .boolean), Cond.methodLink RX6 47 yX2_closes]
def wsX6_nestedAround_r2 : List Cond := [Cond.instanceMethod yX2_closes, Cond.selects RX2 yX2_closes yX2_closes, Cond.code yX2_closes cX2_closes 3 (some .boolean), Cond.methodLink RX6 51 yX6_has, Cond.static yX6_has, Cond.code yX6_has cX6_has 4 (some .boolean), Cond.methodLink RX6 11 yX6_row, Cond.static yX6_row, Cond.code yX6_row cX6_row 3 (some .int), Cond.methodLink RX6 59 yX6_transitive, Cond.static yX6_transitive, Cond.code yX6_transitive cX6_transitive 6 (some .long)]
def wsX6_nestedAround : List Cond := .code yX6_nestedAround cX6_nestedAround 7 (some .long) :: ((wsX6_nestedAround_r1 ++ wsX6_nestedAround_r2) ++ wsX20)
def wsX7_withoutLowest : List Cond := .code yX7_withoutLowest cX7_withoutLowest 6 (some .long) :: ([.constantLong RX7 9 (10000)])
def wsX7_lowestGroup : List Cond := .code yX7_lowestGroup cX7_lowestGroup 2 (some .int) :: ([.constantLong RX7 9 (10000)])
def wsX8_isLabel : List Cond := .code yX8_isLabel cX8_isLabel 1 (some .boolean) :: ([])
def wsX7_adds : List Cond := .code yX7_adds cX7_adds 5 (some .boolean) :: ([.static yX8_isLabel, .initialized RX8, .code yX8_isLabel cX8_isLabel 1 (some .boolean), .methodLink RX7 51 yX2_isFull, .instanceMethod yX2_isFull, .selects RX2 yX2_isFull yX2_isFull, .initialized RX2, .code yX2_isFull cX2_isFull 1 (some .boolean), .fieldLink RX2 21 "DyckReachability$Edges" "size" "I", .fieldLink RX2 9 "DyckReachability$Edges" "sources" "[I", .methodLink RX7 57 yX2_put, .instanceMethod yX2_put, .selects RX2 yX2_put yX2_put, .code yX2_put cX2_put 4 none, .fieldLink RX2 15 "DyckReachability$Edges" "targets" "[I", .fieldLink RX2 18 "DyckReachability$Edges" "labels" "[I", .methodLink RX2 25 yX2_isFull] ++ wsX20)
def wsX7_removes : List Cond := .code yX7_removes cX7_removes 2 (some .boolean) :: ([.methodLink RX7 61 yX2_holds, .instanceMethod yX2_holds, .selects RX2 yX2_holds yX2_holds, .initialized RX2, .code yX2_holds cX2_holds 2 (some .boolean), .fieldLink RX2 21 "DyckReachability$Edges" "size" "I", .methodLink RX7 64 yX2_drop, .instanceMethod yX2_drop, .selects RX2 yX2_drop yX2_drop, .code yX2_drop cX2_drop 3 none, .fieldLink RX2 9 "DyckReachability$Edges" "sources" "[I", .fieldLink RX2 15 "DyckReachability$Edges" "targets" "[I", .fieldLink RX2 18 "DyckReachability$Edges" "labels" "[I", .methodLink RX2 29 yX2_holds] ++ wsX20)
def wsJ13_bitCount_95d88 : List Cond := .code yJ13_bitCount_95d88 cJ13_bitCount_95d88 2 (some .int) :: ([.constantLong RJ13 314 (6148914691236517205), .constantLong RJ13 316 (3689348814741910323), .constantLong RJ13 318 (1085102592571150095)])
def wsX7_succeeds_r1 : List Cond := [Cond.methodLink RX7 11 yX7_adds, Cond.static yX7_adds, Cond.initialized RX7, Cond.code yX7_adds cX7_adds 5 (some .boolean), Cond.static yX8_isLabel, Cond.initialized RX8, Cond.code yX8_isLabel cX8_isLabel 1 (some .boolean), Cond.methodLink RX7 51 yX2_isFull, Cond.instanceMethod yX2_isFull, Cond.selects RX2 yX2_isFull yX2_isFull, Cond.initialized RX2, Cond.code yX2_isFull cX2_isFull 1 (some .boolean), Cond.fieldLink RX2 21 "DyckReachability$Edges" "size" "I", Cond.fieldLink RX2 9 "DyckReachability$Edges" "sources" "[I", Cond.methodLink RX7 57 yX2_put, Cond.instanceMethod yX2_put, Cond.selects RX2 yX2_put yX2_put, Cond.code yX2_put cX2_put 4 none, Cond.fieldLink RX2 15 "DyckReachability$Edges" "targets" "[I", Cond.fieldLink RX2 18 "DyckReachability$Edges" "labels" "[I", Cond.methodLink RX2 25 yX2_isFull, Cond.methodLink RX7 15 yX7_removes, Cond.static yX7_removes, Cond.code yX7_removes cX7_removes 2 (some .boolean)]
def wsX7_succeeds_r2 : List Cond := [Cond.methodLink RX7 61 yX2_holds, Cond.instanceMethod yX2_holds, Cond.selects RX2 yX2_holds yX2_holds, Cond.code yX2_holds cX2_holds 2 (some .boolean), Cond.methodLink RX7 64 yX2_drop, Cond.instanceMethod yX2_drop, Cond.selects RX2 yX2_drop yX2_drop, Cond.code yX2_drop cX2_drop 3 none, Cond.methodLink RX2 29 yX2_holds, Cond.methodLink RX7 19 yX6_ofBalancedPaths, Cond.static yX6_ofBalancedPaths, Cond.initialized RX6, Cond.code yX6_ofBalancedPaths cX6_ofBalancedPaths 8 (some .long), Cond.fieldLink RX6 23 "DyckReachability$Edges" "size" "I", Cond.methodLink RX6 19 yX6_identity, Cond.static yX6_identity, Cond.code yX6_identity cX6_identity 4 (some .long), Cond.methodLink RX6 15 yX6_withRow, Cond.static yX6_withRow, Cond.code yX6_withRow cX6_withRow 4 (some .long), Cond.methodLink RX6 29 yX6_withPathsBehind, Cond.static yX6_withPathsBehind, Cond.code yX6_withPathsBehind cX6_withPathsBehind 9 (some .long), Cond.fieldLink RX6 33 "DyckReachability$Edges" "sources" "[I"]
def wsX7_succeeds_r3 : List Cond := [Cond.fieldLink RX6 37 "DyckReachability$Edges" "targets" "[I", Cond.methodLink RX6 40 yX2_isEmptyLabelled, Cond.instanceMethod yX2_isEmptyLabelled, Cond.selects RX2 yX2_isEmptyLabelled yX2_isEmptyLabelled, Cond.code yX2_isEmptyLabelled cX2_isEmptyLabelled 2 (some .boolean), Cond.methodLink RX6 11 yX6_row, Cond.static yX6_row, Cond.code yX6_row cX6_row 3 (some .int), Cond.methodLink RX6 44 yX2_opens, Cond.instanceMethod yX2_opens, Cond.selects RX2 yX2_opens yX2_opens, Cond.code yX2_opens cX2_opens 2 (some .boolean), Cond.methodLink RX6 47 yX2_closes, Cond.instanceMethod yX2_closes, Cond.selects RX2 yX2_closes yX2_closes, Cond.code yX2_closes cX2_closes 3 (some .boolean), Cond.methodLink RX6 51 yX6_has, Cond.static yX6_has, Cond.code yX6_has cX6_has 4 (some .boolean), Cond.methodLink RX7 25 yX6_has, Cond.methodLink RX7 29 yJ13_bitCount_95d88, Cond.static yJ13_bitCount_95d88, Cond.initialized RJ13, Cond.code yJ13_bitCount_95d88 cJ13_bitCount_95d88 2 (some .int)]
def wsX7_succeeds_r4 : List Cond := [Cond.constantLong RJ13 314 (6148914691236517205), Cond.constantLong RJ13 316 (3689348814741910323), Cond.constantLong RJ13 318 (1085102592571150095), Cond.methodLink RX7 35 yX1_measure, Cond.instanceMethod yX1_measure, Cond.selects RX1 yX1_measure yX1_measure, Cond.initialized RX1, Cond.code yX1_measure cX1_measure 6 none, Cond.methodLink RX1 24 Lib.Math.min.name, Cond.static Lib.Math.min.name, Cond.initialized "java/lang/Math", Cond.code Lib.Math.min.name Lib.Math.min.code 2 (some .int), Cond.fieldLink RX1 15 "DyckReachability$Distances" "vertices" "I", Cond.fieldLink RX1 11 "DyckReachability$Distances" "table" "[I", Cond.constant RX1 19 (1000001), Cond.fieldLink RX1 29 "DyckReachability$Edges" "size" "I", Cond.methodLink RX1 34 yX1_shortenBehind, Cond.instanceMethod yX1_shortenBehind, Cond.selects RX1 yX1_shortenBehind yX1_shortenBehind, Cond.code yX1_shortenBehind cX1_shortenBehind 8 (some .boolean), Cond.fieldLink RX1 38 "DyckReachability$Edges" "sources" "[I", Cond.fieldLink RX1 41 "DyckReachability$Edges" "targets" "[I", Cond.methodLink RX1 44 yX2_isEmptyLabelled, Cond.methodLink RX1 48 yX1_shorten]
def wsX7_succeeds_r5 : List Cond := [Cond.instanceMethod yX1_shorten, Cond.selects RX1 yX1_shorten yX1_shorten, Cond.code yX1_shorten cX1_shorten 7 (some .boolean), Cond.constant RX1 65 (1000000), Cond.static yX8_isVertexNumber, Cond.code yX8_isVertexNumber cX8_isVertexNumber 1 (some .boolean), Cond.methodLink RX1 59 yX1_reaches, Cond.instanceMethod yX1_reaches, Cond.selects RX1 yX1_reaches yX1_reaches, Cond.code yX1_reaches cX1_reaches 3 (some .boolean), Cond.methodLink RX1 20 yX1_between, Cond.instanceMethod yX1_between, Cond.selects RX1 yX1_between yX1_between, Cond.code yX1_between cX1_between 4 (some .int), Cond.methodLink RX1 52 yX2_opens, Cond.methodLink RX1 55 yX2_closes, Cond.methodLink RX7 41 yX1_between]
def wsX7_succeeds : List Cond := .code yX7_succeeds cX7_succeeds 7 (some .boolean) :: ((wsX7_succeeds_r1 ++ (wsX7_succeeds_r2 ++ (wsX7_succeeds_r3 ++ (wsX7_succeeds_r4 ++ wsX7_succeeds_r5)))) ++ wsX20 ++ wsX10)
def wsX8_init_r1 : List Cond := [Cond.methodLink RX8 3 objectInit, Cond.instanceMethod objectInit, Cond.code objectInit ⟨#[0xb1]⟩ 1 none, Cond.fieldLink RX8 9 "DyckReachability" "vertices" "I", Cond.fieldLink RX8 13 "DyckReachability" "seed" "J", Cond.classLink RX8 17 RX2, Cond.instantiable RX2 4, Cond.initialized RX2, Cond.fieldLink RX8 22 "DyckReachability" "edges" "LDyckReachability$Edges;", Cond.fieldLink RX8 26 "DyckReachability" "copy" "LDyckReachability$Edges;", Cond.fieldLink RX8 29 "DyckReachability" "bothWays" "LDyckReachability$Edges;", Cond.classLink RX8 32 RX1, Cond.instantiable RX1 2, Cond.initialized RX1, Cond.fieldLink RX8 35 "DyckReachability" "distances" "LDyckReachability$Distances;", Cond.classLink RX8 39 RX4, Cond.instantiable RX4 3, Cond.initialized RX4, Cond.fieldLink RX8 42 "DyckReachability" "history" "LDyckReachability$History;", Cond.fieldLink RX8 46 "DyckReachability" "slots" "[LDyckReachability$Edges;", Cond.arrayClass .boolean, Cond.fieldLink RX8 50 "DyckReachability" "slotFilled" "[Z", Cond.classLink RX8 54 RX3, Cond.instantiable RX3 2]
def wsX8_init_r2 : List Cond := [Cond.initialized RX3, Cond.fieldLink RX8 57 "DyckReachability" "text" "LDyckReachability$GraphText;", Cond.classLink RX8 61 RX5, Cond.instantiable RX5 4, Cond.initialized RX5, Cond.fieldLink RX8 64 "DyckReachability" "observations" "LDyckReachability$Observations;", Cond.methodLink RX8 19 yX2_init, Cond.instanceMethod yX2_init, Cond.code yX2_init cX2_init 2 none, Cond.methodLink RX2 3 objectInit, Cond.arrayClass .int, Cond.fieldLink RX2 9 "DyckReachability$Edges" "sources" "[I", Cond.fieldLink RX2 15 "DyckReachability$Edges" "targets" "[I", Cond.fieldLink RX2 18 "DyckReachability$Edges" "labels" "[I", Cond.fieldLink RX2 21 "DyckReachability$Edges" "size" "I", Cond.methodLink RX8 34 yX1_init, Cond.instanceMethod yX1_init, Cond.code yX1_init cX1_init 1 none, Cond.methodLink RX1 5 objectInit, Cond.fieldLink RX1 11 "DyckReachability$Distances" "table" "[I", Cond.fieldLink RX1 15 "DyckReachability$Distances" "vertices" "I", Cond.methodLink RX8 41 yX4_init, Cond.instanceMethod yX4_init, Cond.code yX4_init cX4_init 2 none]
def wsX8_init_r3 : List Cond := [Cond.methodLink RX4 3 objectInit, Cond.classLink RX4 11 RX2, Cond.fieldLink RX4 13 "DyckReachability$History" "states" "[LDyckReachability$Edges;", Cond.fieldLink RX4 20 "DyckReachability$History" "next" "I", Cond.fieldLink RX4 24 "DyckReachability$History" "size" "I", Cond.methodLink RX4 17 yX2_init, Cond.methodLink RX8 56 yX3_init, Cond.instanceMethod yX3_init, Cond.code yX3_init cX3_init 1 none, Cond.methodLink RX3 3 objectInit, Cond.fieldLink RX3 11 "DyckReachability$GraphText" "signs" "[I", Cond.fieldLink RX3 15 "DyckReachability$GraphText" "length" "I", Cond.methodLink RX8 63 yX5_init, Cond.instanceMethod yX5_init, Cond.code yX5_init cX5_init 1 none, Cond.methodLink RX5 1 objectInit, Cond.fieldLink RX5 9 "DyckReachability$Observations" "starts" "[I", Cond.fieldLink RX5 13 "DyckReachability$Observations" "ends" "[I", Cond.fieldLink RX5 16 "DyckReachability$Observations" "answers" "[I", Cond.fieldLink RX5 19 "DyckReachability$Observations" "size" "I"]
def wsX8_init : List Cond := .code yX8_init cX8_init 2 none :: ((wsX8_init_r1 ++ (wsX8_init_r2 ++ wsX8_init_r3)) ++ wsX80 ++ wsX20 ++ wsX10 ++ wsX40 ++ wsX30 ++ wsX50)
def wsX8_append : List Cond := .code yX8_append cX8_append 2 (some .int) :: ([.fieldLink RX8 57 "DyckReachability" "text" "LDyckReachability$GraphText;", .fieldLink RX8 75 "DyckReachability$GraphText" "length" "I", .methodLink RX8 68 yX3_isFull, .instanceMethod yX3_isFull, .selects RX3 yX3_isFull yX3_isFull, .initialized RX3, .code yX3_isFull cX3_isFull 1 (some .boolean), .fieldLink RX3 15 "DyckReachability$GraphText" "length" "I", .methodLink RX8 72 yX3_put, .instanceMethod yX3_put, .selects RX3 yX3_put yX3_put, .code yX3_put cX3_put 2 none, .fieldLink RX3 11 "DyckReachability$GraphText" "signs" "[I", .methodLink RX3 19 yX3_isFull] ++ wsX80 ++ wsX30)
def wsX8_clearText : List Cond := .code yX8_clearText cX8_clearText 2 (some .int) :: ([.fieldLink RX8 57 "DyckReachability" "text" "LDyckReachability$GraphText;", .fieldLink RX8 75 "DyckReachability$GraphText" "length" "I"] ++ wsX80 ++ wsX30)
def wsX8_errorPosition : List Cond := .code yX8_errorPosition cX8_errorPosition 1 (some .int) :: ([.fieldLink RX8 57 "DyckReachability" "text" "LDyckReachability$GraphText;", .methodLink RX8 78 yX3_firstFault, .instanceMethod yX3_firstFault, .selects RX3 yX3_firstFault yX3_firstFault, .initialized RX3, .code yX3_firstFault cX3_firstFault 2 (some .int), .fieldLink RX3 15 "DyckReachability$GraphText" "length" "I", .methodLink RX3 23 yX3_fits, .instanceMethod yX3_fits, .selects RX3 yX3_fits yX3_fits, .code yX3_fits cX3_fits 3 (some .boolean), .fieldLink RX3 11 "DyckReachability$GraphText" "signs" "[I", .methodLink RX3 27 yX3_labelOf, .static yX3_labelOf, .code yX3_labelOf cX3_labelOf 2 (some .int), .fieldLink RX3 35 "DyckReachability$GraphText" "LABEL_SIGNS" "[C", .methodLink RX3 31 yX3_writtenVertices, .instanceMethod yX3_writtenVertices, .selects RX3 yX3_writtenVertices yX3_writtenVertices, .code yX3_writtenVertices cX3_writtenVertices 1 (some .int)] ++ wsX80 ++ wsX30)
def wsX8_load_r1 : List Cond := [Cond.fieldLink RX8 57 "DyckReachability" "text" "LDyckReachability$GraphText;", Cond.fieldLink RX8 9 "DyckReachability" "vertices" "I", Cond.fieldLink RX8 22 "DyckReachability" "edges" "LDyckReachability$Edges;", Cond.fieldLink RX8 42 "DyckReachability" "history" "LDyckReachability$History;", Cond.fieldLink RX8 50 "DyckReachability" "slotFilled" "[Z", Cond.fieldLink RX8 92 "DyckReachability$Edges" "size" "I", Cond.methodLink RX8 78 yX3_firstFault, Cond.instanceMethod yX3_firstFault, Cond.selects RX3 yX3_firstFault yX3_firstFault, Cond.initialized RX3, Cond.code yX3_firstFault cX3_firstFault 2 (some .int), Cond.fieldLink RX3 15 "DyckReachability$GraphText" "length" "I", Cond.methodLink RX3 23 yX3_fits, Cond.instanceMethod yX3_fits, Cond.selects RX3 yX3_fits yX3_fits, Cond.code yX3_fits cX3_fits 3 (some .boolean), Cond.fieldLink RX3 11 "DyckReachability$GraphText" "signs" "[I", Cond.methodLink RX3 27 yX3_labelOf, Cond.static yX3_labelOf, Cond.code yX3_labelOf cX3_labelOf 2 (some .int), Cond.fieldLink RX3 35 "DyckReachability$GraphText" "LABEL_SIGNS" "[C", Cond.methodLink RX3 31 yX3_writtenVertices, Cond.instanceMethod yX3_writtenVertices, Cond.selects RX3 yX3_writtenVertices yX3_writtenVertices]
def wsX8_load_r2 : List Cond := [Cond.code yX3_writtenVertices cX3_writtenVertices 1 (some .int), Cond.methodLink RX8 82 yX3_writtenVertices, Cond.methodLink RX8 85 yX3_writeEdgesTo, Cond.instanceMethod yX3_writeEdgesTo, Cond.selects RX3 yX3_writeEdgesTo yX3_writeEdgesTo, Cond.code yX3_writeEdgesTo cX3_writeEdgesTo 3 none, Cond.fieldLink RX3 39 "DyckReachability$Edges" "size" "I", Cond.methodLink RX3 44 yX2_put, Cond.instanceMethod yX2_put, Cond.selects RX2 yX2_put yX2_put, Cond.initialized RX2, Cond.code yX2_put cX2_put 4 none, Cond.fieldLink RX2 9 "DyckReachability$Edges" "sources" "[I", Cond.fieldLink RX2 21 "DyckReachability$Edges" "size" "I", Cond.fieldLink RX2 15 "DyckReachability$Edges" "targets" "[I", Cond.fieldLink RX2 18 "DyckReachability$Edges" "labels" "[I", Cond.methodLink RX2 25 yX2_isFull, Cond.instanceMethod yX2_isFull, Cond.selects RX2 yX2_isFull yX2_isFull, Cond.code yX2_isFull cX2_isFull 1 (some .boolean), Cond.methodLink RX8 89 yX4_forgetAll, Cond.instanceMethod yX4_forgetAll, Cond.selects RX4 yX4_forgetAll yX4_forgetAll, Cond.initialized RX4]
def wsX8_load_r3 : List Cond := [Cond.code yX4_forgetAll cX4_forgetAll 1 none, Cond.fieldLink RX4 24 "DyckReachability$History" "size" "I"]
def wsX8_load : List Cond := .code yX8_load cX8_load 2 (some .int) :: ((wsX8_load_r1 ++ (wsX8_load_r2 ++ wsX8_load_r3)) ++ wsX80 ++ wsX20 ++ wsX30 ++ wsX40)
def wsX8_vertexCount : List Cond := .code yX8_vertexCount cX8_vertexCount 1 (some .int) :: ([.fieldLink RX8 9 "DyckReachability" "vertices" "I"] ++ wsX80)
def wsX8_edgeCount : List Cond := .code yX8_edgeCount cX8_edgeCount 1 (some .int) :: ([.fieldLink RX8 22 "DyckReachability" "edges" "LDyckReachability$Edges;", .fieldLink RX8 92 "DyckReachability$Edges" "size" "I"] ++ wsX80 ++ wsX20)
def wsX8_source : List Cond := .code yX8_source cX8_source 2 (some .int) :: ([.fieldLink RX8 22 "DyckReachability" "edges" "LDyckReachability$Edges;", .fieldLink RX8 99 "DyckReachability$Edges" "sources" "[I", .methodLink RX8 95 yX2_holds, .instanceMethod yX2_holds, .selects RX2 yX2_holds yX2_holds, .initialized RX2, .code yX2_holds cX2_holds 2 (some .boolean), .fieldLink RX2 21 "DyckReachability$Edges" "size" "I"] ++ wsX80 ++ wsX20)
def wsX8_target : List Cond := .code yX8_target cX8_target 2 (some .int) :: ([.fieldLink RX8 22 "DyckReachability" "edges" "LDyckReachability$Edges;", .fieldLink RX8 103 "DyckReachability$Edges" "targets" "[I", .methodLink RX8 95 yX2_holds, .instanceMethod yX2_holds, .selects RX2 yX2_holds yX2_holds, .initialized RX2, .code yX2_holds cX2_holds 2 (some .boolean), .fieldLink RX2 21 "DyckReachability$Edges" "size" "I"] ++ wsX80 ++ wsX20)
def wsX8_label : List Cond := .code yX8_label cX8_label 2 (some .int) :: ([.fieldLink RX8 22 "DyckReachability" "edges" "LDyckReachability$Edges;", .fieldLink RX8 106 "DyckReachability$Edges" "labels" "[I", .methodLink RX8 95 yX2_holds, .instanceMethod yX2_holds, .selects RX2 yX2_holds yX2_holds, .initialized RX2, .code yX2_holds cX2_holds 2 (some .boolean), .fieldLink RX2 21 "DyckReachability$Edges" "size" "I"] ++ wsX80 ++ wsX20)
def wsX8_isVertex : List Cond := .code yX8_isVertex cX8_isVertex 2 (some .boolean) :: ([.fieldLink RX8 9 "DyckReachability" "vertices" "I"] ++ wsX80)
def wsX8_addEdge_r1 : List Cond := [Cond.fieldLink RX8 22 "DyckReachability" "edges" "LDyckReachability$Edges;", Cond.fieldLink RX8 42 "DyckReachability" "history" "LDyckReachability$History;", Cond.fieldLink RX8 92 "DyckReachability$Edges" "size" "I", Cond.methodLink RX8 109 yX8_isVertex, Cond.instanceMethod yX8_isVertex, Cond.selects RX8 yX8_isVertex yX8_isVertex, Cond.initialized RX8, Cond.code yX8_isVertex cX8_isVertex 2 (some .boolean), Cond.fieldLink RX8 9 "DyckReachability" "vertices" "I", Cond.methodLink RX8 112 yX8_isLabel, Cond.static yX8_isLabel, Cond.code yX8_isLabel cX8_isLabel 1 (some .boolean), Cond.methodLink RX8 115 yX2_isFull, Cond.instanceMethod yX2_isFull, Cond.selects RX2 yX2_isFull yX2_isFull, Cond.initialized RX2, Cond.code yX2_isFull cX2_isFull 1 (some .boolean), Cond.fieldLink RX2 21 "DyckReachability$Edges" "size" "I", Cond.fieldLink RX2 9 "DyckReachability$Edges" "sources" "[I", Cond.methodLink RX8 116 yX4_remember, Cond.instanceMethod yX4_remember, Cond.selects RX4 yX4_remember yX4_remember, Cond.initialized RX4, Cond.code yX4_remember cX4_remember 2 none]
def wsX8_addEdge_r2 : List Cond := [Cond.fieldLink RX4 13 "DyckReachability$History" "states" "[LDyckReachability$Edges;", Cond.fieldLink RX4 20 "DyckReachability$History" "next" "I", Cond.fieldLink RX4 24 "DyckReachability$History" "size" "I", Cond.methodLink RX4 31 Lib.Math.min.name, Cond.static Lib.Math.min.name, Cond.initialized "java/lang/Math", Cond.code Lib.Math.min.name Lib.Math.min.code 2 (some .int), Cond.methodLink RX4 27 yX2_take, Cond.instanceMethod yX2_take, Cond.selects RX2 yX2_take yX2_take, Cond.code yX2_take cX2_take 3 none, Cond.fieldLink RX2 15 "DyckReachability$Edges" "targets" "[I", Cond.fieldLink RX2 18 "DyckReachability$Edges" "labels" "[I", Cond.methodLink RX2 33 yX2_put, Cond.instanceMethod yX2_put, Cond.selects RX2 yX2_put yX2_put, Cond.code yX2_put cX2_put 4 none, Cond.methodLink RX2 25 yX2_isFull, Cond.methodLink RX8 119 yX2_put]
def wsX8_addEdge : List Cond := .code yX8_addEdge cX8_addEdge 4 (some .int) :: ((wsX8_addEdge_r1 ++ wsX8_addEdge_r2) ++ wsX80 ++ wsX20 ++ wsX40)
def wsX8_removeEdge_r1 : List Cond := [Cond.fieldLink RX8 22 "DyckReachability" "edges" "LDyckReachability$Edges;", Cond.fieldLink RX8 42 "DyckReachability" "history" "LDyckReachability$History;", Cond.fieldLink RX8 92 "DyckReachability$Edges" "size" "I", Cond.methodLink RX8 95 yX2_holds, Cond.instanceMethod yX2_holds, Cond.selects RX2 yX2_holds yX2_holds, Cond.initialized RX2, Cond.code yX2_holds cX2_holds 2 (some .boolean), Cond.fieldLink RX2 21 "DyckReachability$Edges" "size" "I", Cond.methodLink RX8 116 yX4_remember, Cond.instanceMethod yX4_remember, Cond.selects RX4 yX4_remember yX4_remember, Cond.initialized RX4, Cond.code yX4_remember cX4_remember 2 none, Cond.fieldLink RX4 13 "DyckReachability$History" "states" "[LDyckReachability$Edges;", Cond.fieldLink RX4 20 "DyckReachability$History" "next" "I", Cond.fieldLink RX4 24 "DyckReachability$History" "size" "I", Cond.methodLink RX4 31 Lib.Math.min.name, Cond.static Lib.Math.min.name, Cond.initialized "java/lang/Math", Cond.code Lib.Math.min.name Lib.Math.min.code 2 (some .int), Cond.methodLink RX4 27 yX2_take, Cond.instanceMethod yX2_take, Cond.selects RX2 yX2_take yX2_take]
def wsX8_removeEdge_r2 : List Cond := [Cond.code yX2_take cX2_take 3 none, Cond.fieldLink RX2 9 "DyckReachability$Edges" "sources" "[I", Cond.fieldLink RX2 15 "DyckReachability$Edges" "targets" "[I", Cond.fieldLink RX2 18 "DyckReachability$Edges" "labels" "[I", Cond.methodLink RX2 33 yX2_put, Cond.instanceMethod yX2_put, Cond.selects RX2 yX2_put yX2_put, Cond.code yX2_put cX2_put 4 none, Cond.methodLink RX2 25 yX2_isFull, Cond.instanceMethod yX2_isFull, Cond.selects RX2 yX2_isFull yX2_isFull, Cond.code yX2_isFull cX2_isFull 1 (some .boolean), Cond.methodLink RX8 122 yX2_drop, Cond.instanceMethod yX2_drop, Cond.selects RX2 yX2_drop yX2_drop, Cond.code yX2_drop cX2_drop 3 none, Cond.methodLink RX2 29 yX2_holds]
def wsX8_removeEdge : List Cond := .code yX8_removeEdge cX8_removeEdge 2 (some .int) :: ((wsX8_removeEdge_r1 ++ wsX8_removeEdge_r2) ++ wsX80 ++ wsX20 ++ wsX40)
def wsX8_setLabel_r1 : List Cond := [Cond.fieldLink RX8 22 "DyckReachability" "edges" "LDyckReachability$Edges;", Cond.fieldLink RX8 42 "DyckReachability" "history" "LDyckReachability$History;", Cond.fieldLink RX8 106 "DyckReachability$Edges" "labels" "[I", Cond.methodLink RX8 95 yX2_holds, Cond.instanceMethod yX2_holds, Cond.selects RX2 yX2_holds yX2_holds, Cond.initialized RX2, Cond.code yX2_holds cX2_holds 2 (some .boolean), Cond.fieldLink RX2 21 "DyckReachability$Edges" "size" "I", Cond.methodLink RX8 112 yX8_isLabel, Cond.static yX8_isLabel, Cond.initialized RX8, Cond.code yX8_isLabel cX8_isLabel 1 (some .boolean), Cond.methodLink RX8 116 yX4_remember, Cond.instanceMethod yX4_remember, Cond.selects RX4 yX4_remember yX4_remember, Cond.initialized RX4, Cond.code yX4_remember cX4_remember 2 none, Cond.fieldLink RX4 13 "DyckReachability$History" "states" "[LDyckReachability$Edges;", Cond.fieldLink RX4 20 "DyckReachability$History" "next" "I", Cond.fieldLink RX4 24 "DyckReachability$History" "size" "I", Cond.methodLink RX4 31 Lib.Math.min.name, Cond.static Lib.Math.min.name, Cond.initialized "java/lang/Math"]
def wsX8_setLabel_r2 : List Cond := [Cond.code Lib.Math.min.name Lib.Math.min.code 2 (some .int), Cond.methodLink RX4 27 yX2_take, Cond.instanceMethod yX2_take, Cond.selects RX2 yX2_take yX2_take, Cond.code yX2_take cX2_take 3 none, Cond.fieldLink RX2 9 "DyckReachability$Edges" "sources" "[I", Cond.fieldLink RX2 15 "DyckReachability$Edges" "targets" "[I", Cond.fieldLink RX2 18 "DyckReachability$Edges" "labels" "[I", Cond.methodLink RX2 33 yX2_put, Cond.instanceMethod yX2_put, Cond.selects RX2 yX2_put yX2_put, Cond.code yX2_put cX2_put 4 none, Cond.methodLink RX2 25 yX2_isFull, Cond.instanceMethod yX2_isFull, Cond.selects RX2 yX2_isFull yX2_isFull, Cond.code yX2_isFull cX2_isFull 1 (some .boolean)]
def wsX8_setLabel : List Cond := .code yX8_setLabel cX8_setLabel 4 (some .int) :: ((wsX8_setLabel_r1 ++ wsX8_setLabel_r2) ++ wsX80 ++ wsX20 ++ wsX40)
def wsX8_undo_r1 : List Cond := [Cond.fieldLink RX8 42 "DyckReachability" "history" "LDyckReachability$History;", Cond.fieldLink RX8 125 "DyckReachability$History" "size" "I", Cond.fieldLink RX8 22 "DyckReachability" "edges" "LDyckReachability$Edges;", Cond.methodLink RX8 126 yX4_giveBack, Cond.instanceMethod yX4_giveBack, Cond.selects RX4 yX4_giveBack yX4_giveBack, Cond.initialized RX4, Cond.code yX4_giveBack cX4_giveBack 2 none, Cond.fieldLink RX4 24 "DyckReachability$History" "size" "I", Cond.fieldLink RX4 20 "DyckReachability$History" "next" "I", Cond.fieldLink RX4 13 "DyckReachability$History" "states" "[LDyckReachability$Edges;", Cond.methodLink RX4 27 yX2_take, Cond.instanceMethod yX2_take, Cond.selects RX2 yX2_take yX2_take, Cond.initialized RX2, Cond.code yX2_take cX2_take 3 none, Cond.fieldLink RX2 21 "DyckReachability$Edges" "size" "I", Cond.fieldLink RX2 9 "DyckReachability$Edges" "sources" "[I", Cond.fieldLink RX2 15 "DyckReachability$Edges" "targets" "[I", Cond.fieldLink RX2 18 "DyckReachability$Edges" "labels" "[I", Cond.methodLink RX2 33 yX2_put, Cond.instanceMethod yX2_put, Cond.selects RX2 yX2_put yX2_put, Cond.code yX2_put cX2_put 4 none]
def wsX8_undo_r2 : List Cond := [Cond.methodLink RX2 25 yX2_isFull, Cond.instanceMethod yX2_isFull, Cond.selects RX2 yX2_isFull yX2_isFull, Cond.code yX2_isFull cX2_isFull 1 (some .boolean)]
def wsX8_undo : List Cond := .code yX8_undo cX8_undo 1 (some .int) :: ((wsX8_undo_r1 ++ wsX8_undo_r2) ++ wsX80 ++ wsX40 ++ wsX20)
def wsX8_reachableFrom_r1 : List Cond := [Cond.fieldLink RX8 22 "DyckReachability" "edges" "LDyckReachability$Edges;", Cond.fieldLink RX8 9 "DyckReachability" "vertices" "I", Cond.methodLink RX8 109 yX8_isVertex, Cond.instanceMethod yX8_isVertex, Cond.selects RX8 yX8_isVertex yX8_isVertex, Cond.initialized RX8, Cond.code yX8_isVertex cX8_isVertex 2 (some .boolean), Cond.methodLink RX8 129 yX6_ofBalancedPaths, Cond.static yX6_ofBalancedPaths, Cond.initialized RX6, Cond.code yX6_ofBalancedPaths cX6_ofBalancedPaths 8 (some .long), Cond.fieldLink RX6 23 "DyckReachability$Edges" "size" "I", Cond.methodLink RX6 19 yX6_identity, Cond.static yX6_identity, Cond.code yX6_identity cX6_identity 4 (some .long), Cond.methodLink RX6 15 yX6_withRow, Cond.static yX6_withRow, Cond.code yX6_withRow cX6_withRow 4 (some .long), Cond.methodLink RX6 29 yX6_withPathsBehind, Cond.static yX6_withPathsBehind, Cond.code yX6_withPathsBehind cX6_withPathsBehind 9 (some .long), Cond.fieldLink RX6 33 "DyckReachability$Edges" "sources" "[I", Cond.fieldLink RX6 37 "DyckReachability$Edges" "targets" "[I", Cond.methodLink RX6 40 yX2_isEmptyLabelled]
def wsX8_reachableFrom_r2 : List Cond := [Cond.instanceMethod yX2_isEmptyLabelled, Cond.selects RX2 yX2_isEmptyLabelled yX2_isEmptyLabelled, Cond.initialized RX2, Cond.code yX2_isEmptyLabelled cX2_isEmptyLabelled 2 (some .boolean), Cond.fieldLink RX2 18 "DyckReachability$Edges" "labels" "[I", Cond.methodLink RX6 11 yX6_row, Cond.static yX6_row, Cond.code yX6_row cX6_row 3 (some .int), Cond.methodLink RX6 44 yX2_opens, Cond.instanceMethod yX2_opens, Cond.selects RX2 yX2_opens yX2_opens, Cond.code yX2_opens cX2_opens 2 (some .boolean), Cond.methodLink RX6 47 yX2_closes, Cond.instanceMethod yX2_closes, Cond.selects RX2 yX2_closes yX2_closes, Cond.code yX2_closes cX2_closes 3 (some .boolean), Cond.methodLink RX6 51 yX6_has, Cond.static yX6_has, Cond.code yX6_has cX6_has 4 (some .boolean), Cond.methodLink RX8 135 yX6_row]
def wsX8_reachableFrom : List Cond := .code yX8_reachableFrom cX8_reachableFrom 2 (some .int) :: ((wsX8_reachableFrom_r1 ++ wsX8_reachableFrom_r2) ++ wsX80 ++ wsX20)
def wsX8_countPairs_r1 : List Cond := [Cond.fieldLink RX8 9 "DyckReachability" "vertices" "I", Cond.methodLink RX8 129 yX6_ofBalancedPaths, Cond.static yX6_ofBalancedPaths, Cond.initialized RX6, Cond.code yX6_ofBalancedPaths cX6_ofBalancedPaths 8 (some .long), Cond.fieldLink RX6 23 "DyckReachability$Edges" "size" "I", Cond.methodLink RX6 19 yX6_identity, Cond.static yX6_identity, Cond.code yX6_identity cX6_identity 4 (some .long), Cond.methodLink RX6 15 yX6_withRow, Cond.static yX6_withRow, Cond.code yX6_withRow cX6_withRow 4 (some .long), Cond.methodLink RX6 29 yX6_withPathsBehind, Cond.static yX6_withPathsBehind, Cond.code yX6_withPathsBehind cX6_withPathsBehind 9 (some .long), Cond.fieldLink RX6 33 "DyckReachability$Edges" "sources" "[I", Cond.fieldLink RX6 37 "DyckReachability$Edges" "targets" "[I", Cond.methodLink RX6 40 yX2_isEmptyLabelled, Cond.instanceMethod yX2_isEmptyLabelled, Cond.selects RX2 yX2_isEmptyLabelled yX2_isEmptyLabelled, Cond.initialized RX2, Cond.code yX2_isEmptyLabelled cX2_isEmptyLabelled 2 (some .boolean), Cond.fieldLink RX2 18 "DyckReachability$Edges" "labels" "[I", Cond.methodLink RX6 11 yX6_row]
def wsX8_countPairs_r2 : List Cond := [Cond.static yX6_row, Cond.code yX6_row cX6_row 3 (some .int), Cond.methodLink RX6 44 yX2_opens, Cond.instanceMethod yX2_opens, Cond.selects RX2 yX2_opens yX2_opens, Cond.code yX2_opens cX2_opens 2 (some .boolean), Cond.methodLink RX6 47 yX2_closes, Cond.instanceMethod yX2_closes, Cond.selects RX2 yX2_closes yX2_closes, Cond.code yX2_closes cX2_closes 3 (some .boolean), Cond.methodLink RX6 51 yX6_has, Cond.static yX6_has, Cond.code yX6_has cX6_has 4 (some .boolean), Cond.methodLink RX8 234 yJ13_bitCount_95d88, Cond.static yJ13_bitCount_95d88, Cond.initialized RJ13, Cond.code yJ13_bitCount_95d88 cJ13_bitCount_95d88 2 (some .int), Cond.constantLong RJ13 314 (6148914691236517205), Cond.constantLong RJ13 316 (3689348814741910323), Cond.constantLong RJ13 318 (1085102592571150095)]
def wsX8_countPairs : List Cond := .code yX8_countPairs cX8_countPairs 2 (some .int) :: ((wsX8_countPairs_r1 ++ wsX8_countPairs_r2) ++ wsX80 ++ wsX20)
def wsX8_pairCount_r1 : List Cond := [Cond.fieldLink RX8 22 "DyckReachability" "edges" "LDyckReachability$Edges;", Cond.methodLink RX8 139 yX8_countPairs, Cond.instanceMethod yX8_countPairs, Cond.selects RX8 yX8_countPairs yX8_countPairs, Cond.initialized RX8, Cond.code yX8_countPairs cX8_countPairs 2 (some .int), Cond.fieldLink RX8 9 "DyckReachability" "vertices" "I", Cond.methodLink RX8 129 yX6_ofBalancedPaths, Cond.static yX6_ofBalancedPaths, Cond.initialized RX6, Cond.code yX6_ofBalancedPaths cX6_ofBalancedPaths 8 (some .long), Cond.fieldLink RX6 23 "DyckReachability$Edges" "size" "I", Cond.methodLink RX6 19 yX6_identity, Cond.static yX6_identity, Cond.code yX6_identity cX6_identity 4 (some .long), Cond.methodLink RX6 15 yX6_withRow, Cond.static yX6_withRow, Cond.code yX6_withRow cX6_withRow 4 (some .long), Cond.methodLink RX6 29 yX6_withPathsBehind, Cond.static yX6_withPathsBehind, Cond.code yX6_withPathsBehind cX6_withPathsBehind 9 (some .long), Cond.fieldLink RX6 33 "DyckReachability$Edges" "sources" "[I", Cond.fieldLink RX6 37 "DyckReachability$Edges" "targets" "[I", Cond.methodLink RX6 40 yX2_isEmptyLabelled]
def wsX8_pairCount_r2 : List Cond := [Cond.instanceMethod yX2_isEmptyLabelled, Cond.selects RX2 yX2_isEmptyLabelled yX2_isEmptyLabelled, Cond.initialized RX2, Cond.code yX2_isEmptyLabelled cX2_isEmptyLabelled 2 (some .boolean), Cond.fieldLink RX2 18 "DyckReachability$Edges" "labels" "[I", Cond.methodLink RX6 11 yX6_row, Cond.static yX6_row, Cond.code yX6_row cX6_row 3 (some .int), Cond.methodLink RX6 44 yX2_opens, Cond.instanceMethod yX2_opens, Cond.selects RX2 yX2_opens yX2_opens, Cond.code yX2_opens cX2_opens 2 (some .boolean), Cond.methodLink RX6 47 yX2_closes, Cond.instanceMethod yX2_closes, Cond.selects RX2 yX2_closes yX2_closes, Cond.code yX2_closes cX2_closes 3 (some .boolean), Cond.methodLink RX6 51 yX6_has, Cond.static yX6_has, Cond.code yX6_has cX6_has 4 (some .boolean), Cond.methodLink RX8 234 yJ13_bitCount_95d88, Cond.static yJ13_bitCount_95d88, Cond.initialized RJ13, Cond.code yJ13_bitCount_95d88 cJ13_bitCount_95d88 2 (some .int), Cond.constantLong RJ13 314 (6148914691236517205)]
def wsX8_pairCount_r3 : List Cond := [Cond.constantLong RJ13 316 (3689348814741910323), Cond.constantLong RJ13 318 (1085102592571150095)]
def wsX8_pairCount : List Cond := .code yX8_pairCount cX8_pairCount 1 (some .int) :: ((wsX8_pairCount_r1 ++ (wsX8_pairCount_r2 ++ wsX8_pairCount_r3)) ++ wsX80 ++ wsX20)
def wsX8_distance_r1 : List Cond := [Cond.fieldLink RX8 35 "DyckReachability" "distances" "LDyckReachability$Distances;", Cond.fieldLink RX8 22 "DyckReachability" "edges" "LDyckReachability$Edges;", Cond.fieldLink RX8 9 "DyckReachability" "vertices" "I", Cond.methodLink RX8 109 yX8_isVertex, Cond.instanceMethod yX8_isVertex, Cond.selects RX8 yX8_isVertex yX8_isVertex, Cond.initialized RX8, Cond.code yX8_isVertex cX8_isVertex 2 (some .boolean), Cond.methodLink RX8 143 yX1_measure, Cond.instanceMethod yX1_measure, Cond.selects RX1 yX1_measure yX1_measure, Cond.initialized RX1, Cond.code yX1_measure cX1_measure 6 none, Cond.methodLink RX1 24 Lib.Math.min.name, Cond.static Lib.Math.min.name, Cond.initialized "java/lang/Math", Cond.code Lib.Math.min.name Lib.Math.min.code 2 (some .int), Cond.fieldLink RX1 15 "DyckReachability$Distances" "vertices" "I", Cond.fieldLink RX1 11 "DyckReachability$Distances" "table" "[I", Cond.constant RX1 19 (1000001), Cond.fieldLink RX1 29 "DyckReachability$Edges" "size" "I", Cond.methodLink RX1 34 yX1_shortenBehind, Cond.instanceMethod yX1_shortenBehind, Cond.selects RX1 yX1_shortenBehind yX1_shortenBehind]
def wsX8_distance_r2 : List Cond := [Cond.code yX1_shortenBehind cX1_shortenBehind 8 (some .boolean), Cond.fieldLink RX1 38 "DyckReachability$Edges" "sources" "[I", Cond.fieldLink RX1 41 "DyckReachability$Edges" "targets" "[I", Cond.methodLink RX1 44 yX2_isEmptyLabelled, Cond.instanceMethod yX2_isEmptyLabelled, Cond.selects RX2 yX2_isEmptyLabelled yX2_isEmptyLabelled, Cond.initialized RX2, Cond.code yX2_isEmptyLabelled cX2_isEmptyLabelled 2 (some .boolean), Cond.fieldLink RX2 18 "DyckReachability$Edges" "labels" "[I", Cond.methodLink RX1 48 yX1_shorten, Cond.instanceMethod yX1_shorten, Cond.selects RX1 yX1_shorten yX1_shorten, Cond.code yX1_shorten cX1_shorten 7 (some .boolean), Cond.constant RX1 65 (1000000), Cond.static yX8_isVertexNumber, Cond.code yX8_isVertexNumber cX8_isVertexNumber 1 (some .boolean), Cond.methodLink RX1 59 yX1_reaches, Cond.instanceMethod yX1_reaches, Cond.selects RX1 yX1_reaches yX1_reaches, Cond.code yX1_reaches cX1_reaches 3 (some .boolean), Cond.methodLink RX1 20 yX1_between, Cond.instanceMethod yX1_between, Cond.selects RX1 yX1_between yX1_between, Cond.code yX1_between cX1_between 4 (some .int)]
def wsX8_distance_r3 : List Cond := [Cond.methodLink RX1 52 yX2_opens, Cond.instanceMethod yX2_opens, Cond.selects RX2 yX2_opens yX2_opens, Cond.code yX2_opens cX2_opens 2 (some .boolean), Cond.methodLink RX1 55 yX2_closes, Cond.instanceMethod yX2_closes, Cond.selects RX2 yX2_closes yX2_closes, Cond.code yX2_closes cX2_closes 3 (some .boolean), Cond.methodLink RX8 147 yX1_reaches, Cond.methodLink RX8 151 yX1_between]
def wsX8_distance : List Cond := .code yX8_distance cX8_distance 3 (some .int) :: ((wsX8_distance_r1 ++ (wsX8_distance_r2 ++ wsX8_distance_r3)) ++ wsX80 ++ wsX10 ++ wsX20)
def wsX8_witnessEdge_r1 : List Cond := [Cond.fieldLink RX8 35 "DyckReachability" "distances" "LDyckReachability$Distances;", Cond.fieldLink RX8 22 "DyckReachability" "edges" "LDyckReachability$Edges;", Cond.fieldLink RX8 9 "DyckReachability" "vertices" "I", Cond.methodLink RX8 109 yX8_isVertex, Cond.instanceMethod yX8_isVertex, Cond.selects RX8 yX8_isVertex yX8_isVertex, Cond.initialized RX8, Cond.code yX8_isVertex cX8_isVertex 2 (some .boolean), Cond.methodLink RX8 143 yX1_measure, Cond.instanceMethod yX1_measure, Cond.selects RX1 yX1_measure yX1_measure, Cond.initialized RX1, Cond.code yX1_measure cX1_measure 6 none, Cond.methodLink RX1 24 Lib.Math.min.name, Cond.static Lib.Math.min.name, Cond.initialized "java/lang/Math", Cond.code Lib.Math.min.name Lib.Math.min.code 2 (some .int), Cond.fieldLink RX1 15 "DyckReachability$Distances" "vertices" "I", Cond.fieldLink RX1 11 "DyckReachability$Distances" "table" "[I", Cond.constant RX1 19 (1000001), Cond.fieldLink RX1 29 "DyckReachability$Edges" "size" "I", Cond.methodLink RX1 34 yX1_shortenBehind, Cond.instanceMethod yX1_shortenBehind, Cond.selects RX1 yX1_shortenBehind yX1_shortenBehind]
def wsX8_witnessEdge_r2 : List Cond := [Cond.code yX1_shortenBehind cX1_shortenBehind 8 (some .boolean), Cond.fieldLink RX1 38 "DyckReachability$Edges" "sources" "[I", Cond.fieldLink RX1 41 "DyckReachability$Edges" "targets" "[I", Cond.methodLink RX1 44 yX2_isEmptyLabelled, Cond.instanceMethod yX2_isEmptyLabelled, Cond.selects RX2 yX2_isEmptyLabelled yX2_isEmptyLabelled, Cond.initialized RX2, Cond.code yX2_isEmptyLabelled cX2_isEmptyLabelled 2 (some .boolean), Cond.fieldLink RX2 18 "DyckReachability$Edges" "labels" "[I", Cond.methodLink RX1 48 yX1_shorten, Cond.instanceMethod yX1_shorten, Cond.selects RX1 yX1_shorten yX1_shorten, Cond.code yX1_shorten cX1_shorten 7 (some .boolean), Cond.constant RX1 65 (1000000), Cond.static yX8_isVertexNumber, Cond.code yX8_isVertexNumber cX8_isVertexNumber 1 (some .boolean), Cond.methodLink RX1 59 yX1_reaches, Cond.instanceMethod yX1_reaches, Cond.selects RX1 yX1_reaches yX1_reaches, Cond.code yX1_reaches cX1_reaches 3 (some .boolean), Cond.methodLink RX1 20 yX1_between, Cond.instanceMethod yX1_between, Cond.selects RX1 yX1_between yX1_between, Cond.code yX1_between cX1_between 4 (some .int)]
def wsX8_witnessEdge_r3 : List Cond := [Cond.methodLink RX1 52 yX2_opens, Cond.instanceMethod yX2_opens, Cond.selects RX2 yX2_opens yX2_opens, Cond.code yX2_opens cX2_opens 2 (some .boolean), Cond.methodLink RX1 55 yX2_closes, Cond.instanceMethod yX2_closes, Cond.selects RX2 yX2_closes yX2_closes, Cond.code yX2_closes cX2_closes 3 (some .boolean), Cond.methodLink RX8 155 yX1_edgeOnWitness, Cond.instanceMethod yX1_edgeOnWitness, Cond.selects RX1 yX1_edgeOnWitness yX1_edgeOnWitness, Cond.code yX1_edgeOnWitness cX1_edgeOnWitness 12 (some .int), Cond.methodLink RX1 66 yX1_firstOnWitness, Cond.instanceMethod yX1_firstOnWitness, Cond.selects RX1 yX1_firstOnWitness yX1_firstOnWitness, Cond.code yX1_firstOnWitness cX1_firstOnWitness 5 (some .int), Cond.methodLink RX1 73 yX1_beginsShortest, Cond.instanceMethod yX1_beginsShortest, Cond.selects RX1 yX1_beginsShortest yX1_beginsShortest, Cond.code yX1_beginsShortest cX1_beginsShortest 4 (some .boolean), Cond.methodLink RX1 70 yX1_closingOnWitness, Cond.instanceMethod yX1_closingOnWitness, Cond.selects RX1 yX1_closingOnWitness yX1_closingOnWitness, Cond.code yX1_closingOnWitness cX1_closingOnWitness 8 (some .int)]
def wsX8_witnessEdge : List Cond := .code yX8_witnessEdge cX8_witnessEdge 4 (some .int) :: ((wsX8_witnessEdge_r1 ++ (wsX8_witnessEdge_r2 ++ wsX8_witnessEdge_r3)) ++ wsX80 ++ wsX10 ++ wsX20)
def wsX8_depth_r1 : List Cond := [Cond.fieldLink RX8 22 "DyckReachability" "edges" "LDyckReachability$Edges;", Cond.fieldLink RX8 9 "DyckReachability" "vertices" "I", Cond.methodLink RX8 109 yX8_isVertex, Cond.instanceMethod yX8_isVertex, Cond.selects RX8 yX8_isVertex yX8_isVertex, Cond.initialized RX8, Cond.code yX8_isVertex cX8_isVertex 2 (some .boolean), Cond.methodLink RX8 159 yX6_nestedAround, Cond.static yX6_nestedAround, Cond.initialized RX6, Cond.code yX6_nestedAround cX6_nestedAround 7 (some .long), Cond.fieldLink RX6 23 "DyckReachability$Edges" "size" "I", Cond.fieldLink RX6 33 "DyckReachability$Edges" "sources" "[I", Cond.methodLink RX6 19 yX6_identity, Cond.static yX6_identity, Cond.code yX6_identity cX6_identity 4 (some .long), Cond.methodLink RX6 15 yX6_withRow, Cond.static yX6_withRow, Cond.code yX6_withRow cX6_withRow 4 (some .long), Cond.methodLink RX6 55 yX6_stepsBy, Cond.static yX6_stepsBy, Cond.code yX6_stepsBy cX6_stepsBy 7 (some .int), Cond.fieldLink RX6 37 "DyckReachability$Edges" "targets" "[I", Cond.methodLink RX6 40 yX2_isEmptyLabelled]
def wsX8_depth_r2 : List Cond := [Cond.instanceMethod yX2_isEmptyLabelled, Cond.selects RX2 yX2_isEmptyLabelled yX2_isEmptyLabelled, Cond.initialized RX2, Cond.code yX2_isEmptyLabelled cX2_isEmptyLabelled 2 (some .boolean), Cond.fieldLink RX2 18 "DyckReachability$Edges" "labels" "[I", Cond.methodLink RX6 44 yX2_opens, Cond.instanceMethod yX2_opens, Cond.selects RX2 yX2_opens yX2_opens, Cond.code yX2_opens cX2_opens 2 (some .boolean), Cond.methodLink RX6 47 yX2_closes, Cond.instanceMethod yX2_closes, Cond.selects RX2 yX2_closes yX2_closes, Cond.code yX2_closes cX2_closes 3 (some .boolean), Cond.methodLink RX6 51 yX6_has, Cond.static yX6_has, Cond.code yX6_has cX6_has 4 (some .boolean), Cond.methodLink RX6 11 yX6_row, Cond.static yX6_row, Cond.code yX6_row cX6_row 3 (some .int), Cond.methodLink RX6 59 yX6_transitive, Cond.static yX6_transitive, Cond.code yX6_transitive cX6_transitive 6 (some .long), Cond.methodLink RX8 163 yX6_has]
def wsX8_depth : List Cond := .code yX8_depth cX8_depth 8 (some .int) :: ((wsX8_depth_r1 ++ wsX8_depth_r2) ++ wsX80 ++ wsX20)
def wsX8_countPairsWithout_r1 : List Cond := [Cond.fieldLink RX8 26 "DyckReachability" "copy" "LDyckReachability$Edges;", Cond.fieldLink RX8 22 "DyckReachability" "edges" "LDyckReachability$Edges;", Cond.methodLink RX8 185 yX2_take, Cond.instanceMethod yX2_take, Cond.selects RX2 yX2_take yX2_take, Cond.initialized RX2, Cond.code yX2_take cX2_take 3 none, Cond.fieldLink RX2 21 "DyckReachability$Edges" "size" "I", Cond.fieldLink RX2 9 "DyckReachability$Edges" "sources" "[I", Cond.fieldLink RX2 15 "DyckReachability$Edges" "targets" "[I", Cond.fieldLink RX2 18 "DyckReachability$Edges" "labels" "[I", Cond.methodLink RX2 33 yX2_put, Cond.instanceMethod yX2_put, Cond.selects RX2 yX2_put yX2_put, Cond.code yX2_put cX2_put 4 none, Cond.methodLink RX2 25 yX2_isFull, Cond.instanceMethod yX2_isFull, Cond.selects RX2 yX2_isFull yX2_isFull, Cond.code yX2_isFull cX2_isFull 1 (some .boolean), Cond.methodLink RX8 122 yX2_drop, Cond.instanceMethod yX2_drop, Cond.selects RX2 yX2_drop yX2_drop, Cond.code yX2_drop cX2_drop 3 none, Cond.methodLink RX2 29 yX2_holds]
def wsX8_countPairsWithout_r2 : List Cond := [Cond.instanceMethod yX2_holds, Cond.selects RX2 yX2_holds yX2_holds, Cond.code yX2_holds cX2_holds 2 (some .boolean), Cond.methodLink RX8 139 yX8_countPairs, Cond.instanceMethod yX8_countPairs, Cond.selects RX8 yX8_countPairs yX8_countPairs, Cond.initialized RX8, Cond.code yX8_countPairs cX8_countPairs 2 (some .int), Cond.fieldLink RX8 9 "DyckReachability" "vertices" "I", Cond.methodLink RX8 129 yX6_ofBalancedPaths, Cond.static yX6_ofBalancedPaths, Cond.initialized RX6, Cond.code yX6_ofBalancedPaths cX6_ofBalancedPaths 8 (some .long), Cond.fieldLink RX6 23 "DyckReachability$Edges" "size" "I", Cond.methodLink RX6 19 yX6_identity, Cond.static yX6_identity, Cond.code yX6_identity cX6_identity 4 (some .long), Cond.methodLink RX6 15 yX6_withRow, Cond.static yX6_withRow, Cond.code yX6_withRow cX6_withRow 4 (some .long), Cond.methodLink RX6 29 yX6_withPathsBehind, Cond.static yX6_withPathsBehind, Cond.code yX6_withPathsBehind cX6_withPathsBehind 9 (some .long), Cond.fieldLink RX6 33 "DyckReachability$Edges" "sources" "[I"]
def wsX8_countPairsWithout_r3 : List Cond := [Cond.fieldLink RX6 37 "DyckReachability$Edges" "targets" "[I", Cond.methodLink RX6 40 yX2_isEmptyLabelled, Cond.instanceMethod yX2_isEmptyLabelled, Cond.selects RX2 yX2_isEmptyLabelled yX2_isEmptyLabelled, Cond.code yX2_isEmptyLabelled cX2_isEmptyLabelled 2 (some .boolean), Cond.methodLink RX6 11 yX6_row, Cond.static yX6_row, Cond.code yX6_row cX6_row 3 (some .int), Cond.methodLink RX6 44 yX2_opens, Cond.instanceMethod yX2_opens, Cond.selects RX2 yX2_opens yX2_opens, Cond.code yX2_opens cX2_opens 2 (some .boolean), Cond.methodLink RX6 47 yX2_closes, Cond.instanceMethod yX2_closes, Cond.selects RX2 yX2_closes yX2_closes, Cond.code yX2_closes cX2_closes 3 (some .boolean), Cond.methodLink RX6 51 yX6_has, Cond.static yX6_has, Cond.code yX6_has cX6_has 4 (some .boolean), Cond.methodLink RX8 234 yJ13_bitCount_95d88, Cond.static yJ13_bitCount_95d88, Cond.initialized RJ13, Cond.code yJ13_bitCount_95d88 cJ13_bitCount_95d88 2 (some .int), Cond.constantLong RJ13 314 (6148914691236517205)]
def wsX8_countPairsWithout_r4 : List Cond := [Cond.constantLong RJ13 316 (3689348814741910323), Cond.constantLong RJ13 318 (1085102592571150095)]
def wsX8_countPairsWithout : List Cond := .code yX8_countPairsWithout cX8_countPairsWithout 2 (some .int) :: ((wsX8_countPairsWithout_r1 ++ (wsX8_countPairsWithout_r2 ++ (wsX8_countPairsWithout_r3 ++ wsX8_countPairsWithout_r4))) ++ wsX80 ++ wsX20)
def wsX8_loss_r1 : List Cond := [Cond.fieldLink RX8 22 "DyckReachability" "edges" "LDyckReachability$Edges;", Cond.methodLink RX8 95 yX2_holds, Cond.instanceMethod yX2_holds, Cond.selects RX2 yX2_holds yX2_holds, Cond.initialized RX2, Cond.code yX2_holds cX2_holds 2 (some .boolean), Cond.fieldLink RX2 21 "DyckReachability$Edges" "size" "I", Cond.methodLink RX8 139 yX8_countPairs, Cond.instanceMethod yX8_countPairs, Cond.selects RX8 yX8_countPairs yX8_countPairs, Cond.initialized RX8, Cond.code yX8_countPairs cX8_countPairs 2 (some .int), Cond.fieldLink RX8 9 "DyckReachability" "vertices" "I", Cond.methodLink RX8 129 yX6_ofBalancedPaths, Cond.static yX6_ofBalancedPaths, Cond.initialized RX6, Cond.code yX6_ofBalancedPaths cX6_ofBalancedPaths 8 (some .long), Cond.fieldLink RX6 23 "DyckReachability$Edges" "size" "I", Cond.methodLink RX6 19 yX6_identity, Cond.static yX6_identity, Cond.code yX6_identity cX6_identity 4 (some .long), Cond.methodLink RX6 15 yX6_withRow, Cond.static yX6_withRow, Cond.code yX6_withRow cX6_withRow 4 (some .long)]
def wsX8_loss_r2 : List Cond := [Cond.methodLink RX6 29 yX6_withPathsBehind, Cond.static yX6_withPathsBehind, Cond.code yX6_withPathsBehind cX6_withPathsBehind 9 (some .long), Cond.fieldLink RX6 33 "DyckReachability$Edges" "sources" "[I", Cond.fieldLink RX6 37 "DyckReachability$Edges" "targets" "[I", Cond.methodLink RX6 40 yX2_isEmptyLabelled, Cond.instanceMethod yX2_isEmptyLabelled, Cond.selects RX2 yX2_isEmptyLabelled yX2_isEmptyLabelled, Cond.code yX2_isEmptyLabelled cX2_isEmptyLabelled 2 (some .boolean), Cond.fieldLink RX2 18 "DyckReachability$Edges" "labels" "[I", Cond.methodLink RX6 11 yX6_row, Cond.static yX6_row, Cond.code yX6_row cX6_row 3 (some .int), Cond.methodLink RX6 44 yX2_opens, Cond.instanceMethod yX2_opens, Cond.selects RX2 yX2_opens yX2_opens, Cond.code yX2_opens cX2_opens 2 (some .boolean), Cond.methodLink RX6 47 yX2_closes, Cond.instanceMethod yX2_closes, Cond.selects RX2 yX2_closes yX2_closes, Cond.code yX2_closes cX2_closes 3 (some .boolean), Cond.methodLink RX6 51 yX6_has, Cond.static yX6_has, Cond.code yX6_has cX6_has 4 (some .boolean)]
def wsX8_loss_r3 : List Cond := [Cond.methodLink RX8 234 yJ13_bitCount_95d88, Cond.static yJ13_bitCount_95d88, Cond.initialized RJ13, Cond.code yJ13_bitCount_95d88 cJ13_bitCount_95d88 2 (some .int), Cond.constantLong RJ13 314 (6148914691236517205), Cond.constantLong RJ13 316 (3689348814741910323), Cond.constantLong RJ13 318 (1085102592571150095), Cond.methodLink RX8 167 yX8_countPairsWithout, Cond.instanceMethod yX8_countPairsWithout, Cond.selects RX8 yX8_countPairsWithout yX8_countPairsWithout, Cond.code yX8_countPairsWithout cX8_countPairsWithout 2 (some .int), Cond.fieldLink RX8 26 "DyckReachability" "copy" "LDyckReachability$Edges;", Cond.methodLink RX8 185 yX2_take, Cond.instanceMethod yX2_take, Cond.selects RX2 yX2_take yX2_take, Cond.code yX2_take cX2_take 3 none, Cond.fieldLink RX2 9 "DyckReachability$Edges" "sources" "[I", Cond.fieldLink RX2 15 "DyckReachability$Edges" "targets" "[I", Cond.methodLink RX2 33 yX2_put, Cond.instanceMethod yX2_put, Cond.selects RX2 yX2_put yX2_put, Cond.code yX2_put cX2_put 4 none, Cond.methodLink RX2 25 yX2_isFull, Cond.instanceMethod yX2_isFull]
def wsX8_loss_r4 : List Cond := [Cond.selects RX2 yX2_isFull yX2_isFull, Cond.code yX2_isFull cX2_isFull 1 (some .boolean), Cond.methodLink RX8 122 yX2_drop, Cond.instanceMethod yX2_drop, Cond.selects RX2 yX2_drop yX2_drop, Cond.code yX2_drop cX2_drop 3 none, Cond.methodLink RX2 29 yX2_holds]
def wsX8_loss : List Cond := .code yX8_loss cX8_loss 2 (some .int) :: ((wsX8_loss_r1 ++ (wsX8_loss_r2 ++ (wsX8_loss_r3 ++ wsX8_loss_r4))) ++ wsX80 ++ wsX20)
def wsX8_criticalEdge_r1 : List Cond := [Cond.fieldLink RX8 22 "DyckReachability" "edges" "LDyckReachability$Edges;", Cond.fieldLink RX8 92 "DyckReachability$Edges" "size" "I", Cond.methodLink RX8 167 yX8_countPairsWithout, Cond.instanceMethod yX8_countPairsWithout, Cond.selects RX8 yX8_countPairsWithout yX8_countPairsWithout, Cond.initialized RX8, Cond.code yX8_countPairsWithout cX8_countPairsWithout 2 (some .int), Cond.fieldLink RX8 26 "DyckReachability" "copy" "LDyckReachability$Edges;", Cond.methodLink RX8 185 yX2_take, Cond.instanceMethod yX2_take, Cond.selects RX2 yX2_take yX2_take, Cond.initialized RX2, Cond.code yX2_take cX2_take 3 none, Cond.fieldLink RX2 21 "DyckReachability$Edges" "size" "I", Cond.fieldLink RX2 9 "DyckReachability$Edges" "sources" "[I", Cond.fieldLink RX2 15 "DyckReachability$Edges" "targets" "[I", Cond.fieldLink RX2 18 "DyckReachability$Edges" "labels" "[I", Cond.methodLink RX2 33 yX2_put, Cond.instanceMethod yX2_put, Cond.selects RX2 yX2_put yX2_put, Cond.code yX2_put cX2_put 4 none, Cond.methodLink RX2 25 yX2_isFull, Cond.instanceMethod yX2_isFull, Cond.selects RX2 yX2_isFull yX2_isFull]
def wsX8_criticalEdge_r2 : List Cond := [Cond.code yX2_isFull cX2_isFull 1 (some .boolean), Cond.methodLink RX8 122 yX2_drop, Cond.instanceMethod yX2_drop, Cond.selects RX2 yX2_drop yX2_drop, Cond.code yX2_drop cX2_drop 3 none, Cond.methodLink RX2 29 yX2_holds, Cond.instanceMethod yX2_holds, Cond.selects RX2 yX2_holds yX2_holds, Cond.code yX2_holds cX2_holds 2 (some .boolean), Cond.methodLink RX8 139 yX8_countPairs, Cond.instanceMethod yX8_countPairs, Cond.selects RX8 yX8_countPairs yX8_countPairs, Cond.code yX8_countPairs cX8_countPairs 2 (some .int), Cond.fieldLink RX8 9 "DyckReachability" "vertices" "I", Cond.methodLink RX8 129 yX6_ofBalancedPaths, Cond.static yX6_ofBalancedPaths, Cond.initialized RX6, Cond.code yX6_ofBalancedPaths cX6_ofBalancedPaths 8 (some .long), Cond.fieldLink RX6 23 "DyckReachability$Edges" "size" "I", Cond.methodLink RX6 19 yX6_identity, Cond.static yX6_identity, Cond.code yX6_identity cX6_identity 4 (some .long), Cond.methodLink RX6 15 yX6_withRow, Cond.static yX6_withRow]
def wsX8_criticalEdge_r3 : List Cond := [Cond.code yX6_withRow cX6_withRow 4 (some .long), Cond.methodLink RX6 29 yX6_withPathsBehind, Cond.static yX6_withPathsBehind, Cond.code yX6_withPathsBehind cX6_withPathsBehind 9 (some .long), Cond.fieldLink RX6 33 "DyckReachability$Edges" "sources" "[I", Cond.fieldLink RX6 37 "DyckReachability$Edges" "targets" "[I", Cond.methodLink RX6 40 yX2_isEmptyLabelled, Cond.instanceMethod yX2_isEmptyLabelled, Cond.selects RX2 yX2_isEmptyLabelled yX2_isEmptyLabelled, Cond.code yX2_isEmptyLabelled cX2_isEmptyLabelled 2 (some .boolean), Cond.methodLink RX6 11 yX6_row, Cond.static yX6_row, Cond.code yX6_row cX6_row 3 (some .int), Cond.methodLink RX6 44 yX2_opens, Cond.instanceMethod yX2_opens, Cond.selects RX2 yX2_opens yX2_opens, Cond.code yX2_opens cX2_opens 2 (some .boolean), Cond.methodLink RX6 47 yX2_closes, Cond.instanceMethod yX2_closes, Cond.selects RX2 yX2_closes yX2_closes, Cond.code yX2_closes cX2_closes 3 (some .boolean), Cond.methodLink RX6 51 yX6_has, Cond.static yX6_has, Cond.code yX6_has cX6_has 4 (some .boolean)]
def wsX8_criticalEdge_r4 : List Cond := [Cond.methodLink RX8 234 yJ13_bitCount_95d88, Cond.static yJ13_bitCount_95d88, Cond.initialized RJ13, Cond.code yJ13_bitCount_95d88 cJ13_bitCount_95d88 2 (some .int), Cond.constantLong RJ13 314 (6148914691236517205), Cond.constantLong RJ13 316 (3689348814741910323), Cond.constantLong RJ13 318 (1085102592571150095)]
def wsX8_criticalEdge : List Cond := .code yX8_criticalEdge cX8_criticalEdge 5 (some .int) :: ((wsX8_criticalEdge_r1 ++ (wsX8_criticalEdge_r2 ++ (wsX8_criticalEdge_r3 ++ wsX8_criticalEdge_r4))) ++ wsX80 ++ wsX20)
def wsJ6_numberOfTrailingZeros_0f7a4 : List Cond := .code yJ6_numberOfTrailingZeros_0f7a4 cJ6_numberOfTrailingZeros_0f7a4 2 (some .int) :: ([.constant RJ6 264 (65536)])
def wsX8_representative_r1 : List Cond := [Cond.fieldLink RX8 29 "DyckReachability" "bothWays" "LDyckReachability$Edges;", Cond.fieldLink RX8 22 "DyckReachability" "edges" "LDyckReachability$Edges;", Cond.fieldLink RX8 9 "DyckReachability" "vertices" "I", Cond.methodLink RX8 109 yX8_isVertex, Cond.instanceMethod yX8_isVertex, Cond.selects RX8 yX8_isVertex yX8_isVertex, Cond.initialized RX8, Cond.code yX8_isVertex cX8_isVertex 2 (some .boolean), Cond.methodLink RX8 171 yX2_takeBothWays, Cond.instanceMethod yX2_takeBothWays, Cond.selects RX2 yX2_takeBothWays yX2_takeBothWays, Cond.initialized RX2, Cond.code yX2_takeBothWays cX2_takeBothWays 3 none, Cond.fieldLink RX2 21 "DyckReachability$Edges" "size" "I", Cond.fieldLink RX2 15 "DyckReachability$Edges" "targets" "[I", Cond.fieldLink RX2 9 "DyckReachability$Edges" "sources" "[I", Cond.fieldLink RX2 18 "DyckReachability$Edges" "labels" "[I", Cond.methodLink RX2 37 yX2_take, Cond.instanceMethod yX2_take, Cond.selects RX2 yX2_take yX2_take, Cond.code yX2_take cX2_take 3 none, Cond.methodLink RX2 33 yX2_put, Cond.instanceMethod yX2_put, Cond.selects RX2 yX2_put yX2_put]
def wsX8_representative_r2 : List Cond := [Cond.code yX2_put cX2_put 4 none, Cond.methodLink RX2 25 yX2_isFull, Cond.instanceMethod yX2_isFull, Cond.selects RX2 yX2_isFull yX2_isFull, Cond.code yX2_isFull cX2_isFull 1 (some .boolean), Cond.methodLink RX2 41 yX2_otherBracket, Cond.static yX2_otherBracket, Cond.code yX2_otherBracket cX2_otherBracket 1 (some .int), Cond.methodLink RX8 129 yX6_ofBalancedPaths, Cond.static yX6_ofBalancedPaths, Cond.initialized RX6, Cond.code yX6_ofBalancedPaths cX6_ofBalancedPaths 8 (some .long), Cond.fieldLink RX6 23 "DyckReachability$Edges" "size" "I", Cond.methodLink RX6 19 yX6_identity, Cond.static yX6_identity, Cond.code yX6_identity cX6_identity 4 (some .long), Cond.methodLink RX6 15 yX6_withRow, Cond.static yX6_withRow, Cond.code yX6_withRow cX6_withRow 4 (some .long), Cond.methodLink RX6 29 yX6_withPathsBehind, Cond.static yX6_withPathsBehind, Cond.code yX6_withPathsBehind cX6_withPathsBehind 9 (some .long), Cond.fieldLink RX6 33 "DyckReachability$Edges" "sources" "[I", Cond.fieldLink RX6 37 "DyckReachability$Edges" "targets" "[I"]
def wsX8_representative_r3 : List Cond := [Cond.methodLink RX6 40 yX2_isEmptyLabelled, Cond.instanceMethod yX2_isEmptyLabelled, Cond.selects RX2 yX2_isEmptyLabelled yX2_isEmptyLabelled, Cond.code yX2_isEmptyLabelled cX2_isEmptyLabelled 2 (some .boolean), Cond.methodLink RX6 11 yX6_row, Cond.static yX6_row, Cond.code yX6_row cX6_row 3 (some .int), Cond.methodLink RX6 44 yX2_opens, Cond.instanceMethod yX2_opens, Cond.selects RX2 yX2_opens yX2_opens, Cond.code yX2_opens cX2_opens 2 (some .boolean), Cond.methodLink RX6 47 yX2_closes, Cond.instanceMethod yX2_closes, Cond.selects RX2 yX2_closes yX2_closes, Cond.code yX2_closes cX2_closes 3 (some .boolean), Cond.methodLink RX6 51 yX6_has, Cond.static yX6_has, Cond.code yX6_has cX6_has 4 (some .boolean), Cond.methodLink RX8 135 yX6_row, Cond.methodLink RX8 174 yJ6_numberOfTrailingZeros_0f7a4, Cond.static yJ6_numberOfTrailingZeros_0f7a4, Cond.initialized RJ6, Cond.code yJ6_numberOfTrailingZeros_0f7a4 cJ6_numberOfTrailingZeros_0f7a4 2 (some .int), Cond.constant RJ6 264 (65536)]
def wsX8_representative : List Cond := .code yX8_representative cX8_representative 4 (some .int) :: ((wsX8_representative_r1 ++ (wsX8_representative_r2 ++ wsX8_representative_r3)) ++ wsX80 ++ wsX20)
def wsX8_runScript_r1 : List Cond := [Cond.fieldLink RX8 26 "DyckReachability" "copy" "LDyckReachability$Edges;", Cond.fieldLink RX8 22 "DyckReachability" "edges" "LDyckReachability$Edges;", Cond.fieldLink RX8 9 "DyckReachability" "vertices" "I", Cond.fieldLink RX8 35 "DyckReachability" "distances" "LDyckReachability$Distances;", Cond.methodLink RX8 179 yX7_withoutLowest, Cond.static yX7_withoutLowest, Cond.initialized RX7, Cond.code yX7_withoutLowest cX7_withoutLowest 6 (some .long), Cond.constantLong RX7 9 (10000), Cond.methodLink RX8 185 yX2_take, Cond.instanceMethod yX2_take, Cond.selects RX2 yX2_take yX2_take, Cond.initialized RX2, Cond.code yX2_take cX2_take 3 none, Cond.fieldLink RX2 21 "DyckReachability$Edges" "size" "I", Cond.fieldLink RX2 9 "DyckReachability$Edges" "sources" "[I", Cond.fieldLink RX2 15 "DyckReachability$Edges" "targets" "[I", Cond.fieldLink RX2 18 "DyckReachability$Edges" "labels" "[I", Cond.methodLink RX2 33 yX2_put, Cond.instanceMethod yX2_put, Cond.selects RX2 yX2_put yX2_put, Cond.code yX2_put cX2_put 4 none, Cond.methodLink RX2 25 yX2_isFull, Cond.instanceMethod yX2_isFull]
def wsX8_runScript_r2 : List Cond := [Cond.selects RX2 yX2_isFull yX2_isFull, Cond.code yX2_isFull cX2_isFull 1 (some .boolean), Cond.methodLink RX8 188 yX7_lowestGroup, Cond.static yX7_lowestGroup, Cond.code yX7_lowestGroup cX7_lowestGroup 2 (some .int), Cond.methodLink RX8 192 yX7_succeeds, Cond.static yX7_succeeds, Cond.code yX7_succeeds cX7_succeeds 7 (some .boolean), Cond.methodLink RX7 11 yX7_adds, Cond.static yX7_adds, Cond.code yX7_adds cX7_adds 5 (some .boolean), Cond.static yX8_isLabel, Cond.initialized RX8, Cond.code yX8_isLabel cX8_isLabel 1 (some .boolean), Cond.methodLink RX7 51 yX2_isFull, Cond.methodLink RX7 57 yX2_put, Cond.methodLink RX7 15 yX7_removes, Cond.static yX7_removes, Cond.code yX7_removes cX7_removes 2 (some .boolean), Cond.methodLink RX7 61 yX2_holds, Cond.instanceMethod yX2_holds, Cond.selects RX2 yX2_holds yX2_holds, Cond.code yX2_holds cX2_holds 2 (some .boolean), Cond.methodLink RX7 64 yX2_drop]
def wsX8_runScript_r3 : List Cond := [Cond.instanceMethod yX2_drop, Cond.selects RX2 yX2_drop yX2_drop, Cond.code yX2_drop cX2_drop 3 none, Cond.methodLink RX2 29 yX2_holds, Cond.methodLink RX7 19 yX6_ofBalancedPaths, Cond.static yX6_ofBalancedPaths, Cond.initialized RX6, Cond.code yX6_ofBalancedPaths cX6_ofBalancedPaths 8 (some .long), Cond.fieldLink RX6 23 "DyckReachability$Edges" "size" "I", Cond.methodLink RX6 19 yX6_identity, Cond.static yX6_identity, Cond.code yX6_identity cX6_identity 4 (some .long), Cond.methodLink RX6 15 yX6_withRow, Cond.static yX6_withRow, Cond.code yX6_withRow cX6_withRow 4 (some .long), Cond.methodLink RX6 29 yX6_withPathsBehind, Cond.static yX6_withPathsBehind, Cond.code yX6_withPathsBehind cX6_withPathsBehind 9 (some .long), Cond.fieldLink RX6 33 "DyckReachability$Edges" "sources" "[I", Cond.fieldLink RX6 37 "DyckReachability$Edges" "targets" "[I", Cond.methodLink RX6 40 yX2_isEmptyLabelled, Cond.instanceMethod yX2_isEmptyLabelled, Cond.selects RX2 yX2_isEmptyLabelled yX2_isEmptyLabelled, Cond.code yX2_isEmptyLabelled cX2_isEmptyLabelled 2 (some .boolean)]
def wsX8_runScript_r4 : List Cond := [Cond.methodLink RX6 11 yX6_row, Cond.static yX6_row, Cond.code yX6_row cX6_row 3 (some .int), Cond.methodLink RX6 44 yX2_opens, Cond.instanceMethod yX2_opens, Cond.selects RX2 yX2_opens yX2_opens, Cond.code yX2_opens cX2_opens 2 (some .boolean), Cond.methodLink RX6 47 yX2_closes, Cond.instanceMethod yX2_closes, Cond.selects RX2 yX2_closes yX2_closes, Cond.code yX2_closes cX2_closes 3 (some .boolean), Cond.methodLink RX6 51 yX6_has, Cond.static yX6_has, Cond.code yX6_has cX6_has 4 (some .boolean), Cond.methodLink RX7 25 yX6_has, Cond.methodLink RX7 29 yJ13_bitCount_95d88, Cond.static yJ13_bitCount_95d88, Cond.initialized RJ13, Cond.code yJ13_bitCount_95d88 cJ13_bitCount_95d88 2 (some .int), Cond.constantLong RJ13 314 (6148914691236517205), Cond.constantLong RJ13 316 (3689348814741910323), Cond.constantLong RJ13 318 (1085102592571150095), Cond.methodLink RX7 35 yX1_measure, Cond.instanceMethod yX1_measure]
def wsX8_runScript_r5 : List Cond := [Cond.selects RX1 yX1_measure yX1_measure, Cond.initialized RX1, Cond.code yX1_measure cX1_measure 6 none, Cond.methodLink RX1 24 Lib.Math.min.name, Cond.static Lib.Math.min.name, Cond.initialized "java/lang/Math", Cond.code Lib.Math.min.name Lib.Math.min.code 2 (some .int), Cond.fieldLink RX1 15 "DyckReachability$Distances" "vertices" "I", Cond.fieldLink RX1 11 "DyckReachability$Distances" "table" "[I", Cond.constant RX1 19 (1000001), Cond.fieldLink RX1 29 "DyckReachability$Edges" "size" "I", Cond.methodLink RX1 34 yX1_shortenBehind, Cond.instanceMethod yX1_shortenBehind, Cond.selects RX1 yX1_shortenBehind yX1_shortenBehind, Cond.code yX1_shortenBehind cX1_shortenBehind 8 (some .boolean), Cond.fieldLink RX1 38 "DyckReachability$Edges" "sources" "[I", Cond.fieldLink RX1 41 "DyckReachability$Edges" "targets" "[I", Cond.methodLink RX1 44 yX2_isEmptyLabelled, Cond.methodLink RX1 48 yX1_shorten, Cond.instanceMethod yX1_shorten, Cond.selects RX1 yX1_shorten yX1_shorten, Cond.code yX1_shorten cX1_shorten 7 (some .boolean), Cond.constant RX1 65 (1000000), Cond.static yX8_isVertexNumber]
def wsX8_runScript_r6 : List Cond := [Cond.code yX8_isVertexNumber cX8_isVertexNumber 1 (some .boolean), Cond.methodLink RX1 59 yX1_reaches, Cond.instanceMethod yX1_reaches, Cond.selects RX1 yX1_reaches yX1_reaches, Cond.code yX1_reaches cX1_reaches 3 (some .boolean), Cond.methodLink RX1 20 yX1_between, Cond.instanceMethod yX1_between, Cond.selects RX1 yX1_between yX1_between, Cond.code yX1_between cX1_between 4 (some .int), Cond.methodLink RX1 52 yX2_opens, Cond.methodLink RX1 55 yX2_closes, Cond.methodLink RX7 41 yX1_between]
def wsX8_runScript : List Cond := .code yX8_runScript cX8_runScript 6 (some .int) :: ((wsX8_runScript_r1 ++ (wsX8_runScript_r2 ++ (wsX8_runScript_r3 ++ (wsX8_runScript_r4 ++ (wsX8_runScript_r5 ++ wsX8_runScript_r6))))) ++ wsX80 ++ wsX20 ++ wsX10)
def wsX8_observe : List Cond := .code yX8_observe cX8_observe 4 (some .int) :: ([.fieldLink RX8 64 "DyckReachability" "observations" "LDyckReachability$Observations;", .fieldLink RX8 201 "DyckReachability$Observations" "size" "I", .methodLink RX8 196 yX8_isVertexNumber, .static yX8_isVertexNumber, .initialized RX8, .code yX8_isVertexNumber cX8_isVertexNumber 1 (some .boolean), .methodLink RX8 199 yX5_isFull, .instanceMethod yX5_isFull, .selects RX5 yX5_isFull yX5_isFull, .initialized RX5, .code yX5_isFull cX5_isFull 1 (some .boolean), .fieldLink RX5 19 "DyckReachability$Observations" "size" "I", .methodLink RX8 200 yX5_put, .instanceMethod yX5_put, .selects RX5 yX5_put yX5_put, .code yX5_put cX5_put 4 none, .fieldLink RX5 9 "DyckReachability$Observations" "starts" "[I", .fieldLink RX5 13 "DyckReachability$Observations" "ends" "[I", .fieldLink RX5 16 "DyckReachability$Observations" "answers" "[I", .methodLink RX5 23 yX5_isFull] ++ wsX80 ++ wsX50)
def wsX8_clearObservations : List Cond := .code yX8_clearObservations cX8_clearObservations 2 (some .int) :: ([.fieldLink RX8 64 "DyckReachability" "observations" "LDyckReachability$Observations;", .fieldLink RX8 201 "DyckReachability$Observations" "size" "I"] ++ wsX80 ++ wsX50)
def wsX8_possibleLabels_r1 : List Cond := [Cond.fieldLink RX8 22 "DyckReachability" "edges" "LDyckReachability$Edges;", Cond.fieldLink RX8 26 "DyckReachability" "copy" "LDyckReachability$Edges;", Cond.fieldLink RX8 106 "DyckReachability$Edges" "labels" "[I", Cond.fieldLink RX8 64 "DyckReachability" "observations" "LDyckReachability$Observations;", Cond.fieldLink RX8 9 "DyckReachability" "vertices" "I", Cond.methodLink RX8 95 yX2_holds, Cond.instanceMethod yX2_holds, Cond.selects RX2 yX2_holds yX2_holds, Cond.initialized RX2, Cond.code yX2_holds cX2_holds 2 (some .boolean), Cond.fieldLink RX2 21 "DyckReachability$Edges" "size" "I", Cond.methodLink RX8 185 yX2_take, Cond.instanceMethod yX2_take, Cond.selects RX2 yX2_take yX2_take, Cond.code yX2_take cX2_take 3 none, Cond.fieldLink RX2 9 "DyckReachability$Edges" "sources" "[I", Cond.fieldLink RX2 15 "DyckReachability$Edges" "targets" "[I", Cond.fieldLink RX2 18 "DyckReachability$Edges" "labels" "[I", Cond.methodLink RX2 33 yX2_put, Cond.instanceMethod yX2_put, Cond.selects RX2 yX2_put yX2_put, Cond.code yX2_put cX2_put 4 none, Cond.methodLink RX2 25 yX2_isFull, Cond.instanceMethod yX2_isFull]
def wsX8_possibleLabels_r2 : List Cond := [Cond.selects RX2 yX2_isFull yX2_isFull, Cond.code yX2_isFull cX2_isFull 1 (some .boolean), Cond.methodLink RX8 129 yX6_ofBalancedPaths, Cond.static yX6_ofBalancedPaths, Cond.initialized RX6, Cond.code yX6_ofBalancedPaths cX6_ofBalancedPaths 8 (some .long), Cond.fieldLink RX6 23 "DyckReachability$Edges" "size" "I", Cond.methodLink RX6 19 yX6_identity, Cond.static yX6_identity, Cond.code yX6_identity cX6_identity 4 (some .long), Cond.methodLink RX6 15 yX6_withRow, Cond.static yX6_withRow, Cond.code yX6_withRow cX6_withRow 4 (some .long), Cond.methodLink RX6 29 yX6_withPathsBehind, Cond.static yX6_withPathsBehind, Cond.code yX6_withPathsBehind cX6_withPathsBehind 9 (some .long), Cond.fieldLink RX6 33 "DyckReachability$Edges" "sources" "[I", Cond.fieldLink RX6 37 "DyckReachability$Edges" "targets" "[I", Cond.methodLink RX6 40 yX2_isEmptyLabelled, Cond.instanceMethod yX2_isEmptyLabelled, Cond.selects RX2 yX2_isEmptyLabelled yX2_isEmptyLabelled, Cond.code yX2_isEmptyLabelled cX2_isEmptyLabelled 2 (some .boolean), Cond.methodLink RX6 11 yX6_row, Cond.static yX6_row]
def wsX8_possibleLabels_r3 : List Cond := [Cond.code yX6_row cX6_row 3 (some .int), Cond.methodLink RX6 44 yX2_opens, Cond.instanceMethod yX2_opens, Cond.selects RX2 yX2_opens yX2_opens, Cond.code yX2_opens cX2_opens 2 (some .boolean), Cond.methodLink RX6 47 yX2_closes, Cond.instanceMethod yX2_closes, Cond.selects RX2 yX2_closes yX2_closes, Cond.code yX2_closes cX2_closes 3 (some .boolean), Cond.methodLink RX6 51 yX6_has, Cond.static yX6_has, Cond.code yX6_has cX6_has 4 (some .boolean), Cond.methodLink RX8 202 yX5_allHold, Cond.instanceMethod yX5_allHold, Cond.selects RX5 yX5_allHold yX5_allHold, Cond.initialized RX5, Cond.code yX5_allHold cX5_allHold 7 (some .boolean), Cond.fieldLink RX5 19 "DyckReachability$Observations" "size" "I", Cond.fieldLink RX5 9 "DyckReachability$Observations" "starts" "[I", Cond.fieldLink RX5 13 "DyckReachability$Observations" "ends" "[I", Cond.fieldLink RX5 16 "DyckReachability$Observations" "answers" "[I", Cond.methodLink RX5 27 yX6_has]
def wsX8_possibleLabels : List Cond := .code yX8_possibleLabels cX8_possibleLabels 4 (some .int) :: ((wsX8_possibleLabels_r1 ++ (wsX8_possibleLabels_r2 ++ wsX8_possibleLabels_r3)) ++ wsX80 ++ wsX20 ++ wsX50)
def wsX8_worth_r1 : List Cond := [Cond.fieldLink RX8 26 "DyckReachability" "copy" "LDyckReachability$Edges;", Cond.fieldLink RX8 22 "DyckReachability" "edges" "LDyckReachability$Edges;", Cond.methodLink RX8 217 yX2_takeSome, Cond.instanceMethod yX2_takeSome, Cond.selects RX2 yX2_takeSome yX2_takeSome, Cond.initialized RX2, Cond.code yX2_takeSome cX2_takeSome 4 none, Cond.fieldLink RX2 21 "DyckReachability$Edges" "size" "I", Cond.fieldLink RX2 9 "DyckReachability$Edges" "sources" "[I", Cond.fieldLink RX2 15 "DyckReachability$Edges" "targets" "[I", Cond.fieldLink RX2 18 "DyckReachability$Edges" "labels" "[I", Cond.methodLink RX2 33 yX2_put, Cond.instanceMethod yX2_put, Cond.selects RX2 yX2_put yX2_put, Cond.code yX2_put cX2_put 4 none, Cond.methodLink RX2 25 yX2_isFull, Cond.instanceMethod yX2_isFull, Cond.selects RX2 yX2_isFull yX2_isFull, Cond.code yX2_isFull cX2_isFull 1 (some .boolean), Cond.methodLink RX8 139 yX8_countPairs, Cond.instanceMethod yX8_countPairs, Cond.selects RX8 yX8_countPairs yX8_countPairs, Cond.initialized RX8, Cond.code yX8_countPairs cX8_countPairs 2 (some .int)]
def wsX8_worth_r2 : List Cond := [Cond.fieldLink RX8 9 "DyckReachability" "vertices" "I", Cond.methodLink RX8 129 yX6_ofBalancedPaths, Cond.static yX6_ofBalancedPaths, Cond.initialized RX6, Cond.code yX6_ofBalancedPaths cX6_ofBalancedPaths 8 (some .long), Cond.fieldLink RX6 23 "DyckReachability$Edges" "size" "I", Cond.methodLink RX6 19 yX6_identity, Cond.static yX6_identity, Cond.code yX6_identity cX6_identity 4 (some .long), Cond.methodLink RX6 15 yX6_withRow, Cond.static yX6_withRow, Cond.code yX6_withRow cX6_withRow 4 (some .long), Cond.methodLink RX6 29 yX6_withPathsBehind, Cond.static yX6_withPathsBehind, Cond.code yX6_withPathsBehind cX6_withPathsBehind 9 (some .long), Cond.fieldLink RX6 33 "DyckReachability$Edges" "sources" "[I", Cond.fieldLink RX6 37 "DyckReachability$Edges" "targets" "[I", Cond.methodLink RX6 40 yX2_isEmptyLabelled, Cond.instanceMethod yX2_isEmptyLabelled, Cond.selects RX2 yX2_isEmptyLabelled yX2_isEmptyLabelled, Cond.code yX2_isEmptyLabelled cX2_isEmptyLabelled 2 (some .boolean), Cond.methodLink RX6 11 yX6_row, Cond.static yX6_row, Cond.code yX6_row cX6_row 3 (some .int)]
def wsX8_worth_r3 : List Cond := [Cond.methodLink RX6 44 yX2_opens, Cond.instanceMethod yX2_opens, Cond.selects RX2 yX2_opens yX2_opens, Cond.code yX2_opens cX2_opens 2 (some .boolean), Cond.methodLink RX6 47 yX2_closes, Cond.instanceMethod yX2_closes, Cond.selects RX2 yX2_closes yX2_closes, Cond.code yX2_closes cX2_closes 3 (some .boolean), Cond.methodLink RX6 51 yX6_has, Cond.static yX6_has, Cond.code yX6_has cX6_has 4 (some .boolean), Cond.methodLink RX8 234 yJ13_bitCount_95d88, Cond.static yJ13_bitCount_95d88, Cond.initialized RJ13, Cond.code yJ13_bitCount_95d88 cJ13_bitCount_95d88 2 (some .int), Cond.constantLong RJ13 314 (6148914691236517205), Cond.constantLong RJ13 316 (3689348814741910323), Cond.constantLong RJ13 318 (1085102592571150095)]
def wsX8_worth : List Cond := .code yX8_worth cX8_worth 2 (some .int) :: ((wsX8_worth_r1 ++ (wsX8_worth_r2 ++ wsX8_worth_r3)) ++ wsX80 ++ wsX20)
def wsJ6_bitCount_0f7a4 : List Cond := .code yJ6_bitCount_0f7a4 cJ6_bitCount_0f7a4 1 (some .int) :: ([.constant RJ6 265 (1431655765), .constant RJ6 266 (858993459), .constant RJ6 267 (252645135)])
def wsX8_share_r1 : List Cond := [Cond.fieldLink RX8 22 "DyckReachability" "edges" "LDyckReachability$Edges;", Cond.fieldLink RX8 92 "DyckReachability$Edges" "size" "I", Cond.methodLink RX8 95 yX2_holds, Cond.instanceMethod yX2_holds, Cond.selects RX2 yX2_holds yX2_holds, Cond.initialized RX2, Cond.code yX2_holds cX2_holds 2 (some .boolean), Cond.fieldLink RX2 21 "DyckReachability$Edges" "size" "I", Cond.methodLink RX8 208 yX8_worth, Cond.instanceMethod yX8_worth, Cond.selects RX8 yX8_worth yX8_worth, Cond.initialized RX8, Cond.code yX8_worth cX8_worth 2 (some .int), Cond.fieldLink RX8 26 "DyckReachability" "copy" "LDyckReachability$Edges;", Cond.methodLink RX8 217 yX2_takeSome, Cond.instanceMethod yX2_takeSome, Cond.selects RX2 yX2_takeSome yX2_takeSome, Cond.code yX2_takeSome cX2_takeSome 4 none, Cond.fieldLink RX2 9 "DyckReachability$Edges" "sources" "[I", Cond.fieldLink RX2 15 "DyckReachability$Edges" "targets" "[I", Cond.fieldLink RX2 18 "DyckReachability$Edges" "labels" "[I", Cond.methodLink RX2 33 yX2_put, Cond.instanceMethod yX2_put, Cond.selects RX2 yX2_put yX2_put]
def wsX8_share_r2 : List Cond := [Cond.code yX2_put cX2_put 4 none, Cond.methodLink RX2 25 yX2_isFull, Cond.instanceMethod yX2_isFull, Cond.selects RX2 yX2_isFull yX2_isFull, Cond.code yX2_isFull cX2_isFull 1 (some .boolean), Cond.methodLink RX8 139 yX8_countPairs, Cond.instanceMethod yX8_countPairs, Cond.selects RX8 yX8_countPairs yX8_countPairs, Cond.code yX8_countPairs cX8_countPairs 2 (some .int), Cond.fieldLink RX8 9 "DyckReachability" "vertices" "I", Cond.methodLink RX8 129 yX6_ofBalancedPaths, Cond.static yX6_ofBalancedPaths, Cond.initialized RX6, Cond.code yX6_ofBalancedPaths cX6_ofBalancedPaths 8 (some .long), Cond.fieldLink RX6 23 "DyckReachability$Edges" "size" "I", Cond.methodLink RX6 19 yX6_identity, Cond.static yX6_identity, Cond.code yX6_identity cX6_identity 4 (some .long), Cond.methodLink RX6 15 yX6_withRow, Cond.static yX6_withRow, Cond.code yX6_withRow cX6_withRow 4 (some .long), Cond.methodLink RX6 29 yX6_withPathsBehind, Cond.static yX6_withPathsBehind, Cond.code yX6_withPathsBehind cX6_withPathsBehind 9 (some .long)]
def wsX8_share_r3 : List Cond := [Cond.fieldLink RX6 33 "DyckReachability$Edges" "sources" "[I", Cond.fieldLink RX6 37 "DyckReachability$Edges" "targets" "[I", Cond.methodLink RX6 40 yX2_isEmptyLabelled, Cond.instanceMethod yX2_isEmptyLabelled, Cond.selects RX2 yX2_isEmptyLabelled yX2_isEmptyLabelled, Cond.code yX2_isEmptyLabelled cX2_isEmptyLabelled 2 (some .boolean), Cond.methodLink RX6 11 yX6_row, Cond.static yX6_row, Cond.code yX6_row cX6_row 3 (some .int), Cond.methodLink RX6 44 yX2_opens, Cond.instanceMethod yX2_opens, Cond.selects RX2 yX2_opens yX2_opens, Cond.code yX2_opens cX2_opens 2 (some .boolean), Cond.methodLink RX6 47 yX2_closes, Cond.instanceMethod yX2_closes, Cond.selects RX2 yX2_closes yX2_closes, Cond.code yX2_closes cX2_closes 3 (some .boolean), Cond.methodLink RX6 51 yX6_has, Cond.static yX6_has, Cond.code yX6_has cX6_has 4 (some .boolean), Cond.methodLink RX8 234 yJ13_bitCount_95d88, Cond.static yJ13_bitCount_95d88, Cond.initialized RJ13, Cond.code yJ13_bitCount_95d88 cJ13_bitCount_95d88 2 (some .int)]
def wsX8_share_r4 : List Cond := [Cond.constantLong RJ13 314 (6148914691236517205), Cond.constantLong RJ13 316 (3689348814741910323), Cond.constantLong RJ13 318 (1085102592571150095), Cond.methodLink RX8 211 yJ6_bitCount_0f7a4, Cond.static yJ6_bitCount_0f7a4, Cond.initialized RJ6, Cond.code yJ6_bitCount_0f7a4 cJ6_bitCount_0f7a4 1 (some .int), Cond.constant RJ6 265 (1431655765), Cond.constant RJ6 266 (858993459), Cond.constant RJ6 267 (252645135), Cond.methodLink RX8 214 yX0_ordersOf, Cond.static yX0_ordersOf, Cond.initialized RX0, Cond.code yX0_ordersOf cX0_ordersOf 3 (some .int), Cond.fieldLink RX0 11 "DyckReachability$Chance" "FACTORIALS" "[I", Cond.fieldLink RX0 15 "DyckReachability$Chance" "SCALES" "[I"]
def wsX8_share : List Cond := .code yX8_share cX8_share 7 (some .int) :: ((wsX8_share_r1 ++ (wsX8_share_r2 ++ (wsX8_share_r3 ++ wsX8_share_r4))) ++ wsX80 ++ wsX20)
def wsX8_reliability_r1 : List Cond := [Cond.fieldLink RX8 22 "DyckReachability" "edges" "LDyckReachability$Edges;", Cond.fieldLink RX8 92 "DyckReachability$Edges" "size" "I", Cond.fieldLink RX8 26 "DyckReachability" "copy" "LDyckReachability$Edges;", Cond.fieldLink RX8 9 "DyckReachability" "vertices" "I", Cond.methodLink RX8 109 yX8_isVertex, Cond.instanceMethod yX8_isVertex, Cond.selects RX8 yX8_isVertex yX8_isVertex, Cond.initialized RX8, Cond.code yX8_isVertex cX8_isVertex 2 (some .boolean), Cond.methodLink RX8 217 yX2_takeSome, Cond.instanceMethod yX2_takeSome, Cond.selects RX2 yX2_takeSome yX2_takeSome, Cond.initialized RX2, Cond.code yX2_takeSome cX2_takeSome 4 none, Cond.fieldLink RX2 21 "DyckReachability$Edges" "size" "I", Cond.fieldLink RX2 9 "DyckReachability$Edges" "sources" "[I", Cond.fieldLink RX2 15 "DyckReachability$Edges" "targets" "[I", Cond.fieldLink RX2 18 "DyckReachability$Edges" "labels" "[I", Cond.methodLink RX2 33 yX2_put, Cond.instanceMethod yX2_put, Cond.selects RX2 yX2_put yX2_put, Cond.code yX2_put cX2_put 4 none, Cond.methodLink RX2 25 yX2_isFull, Cond.instanceMethod yX2_isFull]
def wsX8_reliability_r2 : List Cond := [Cond.selects RX2 yX2_isFull yX2_isFull, Cond.code yX2_isFull cX2_isFull 1 (some .boolean), Cond.methodLink RX8 129 yX6_ofBalancedPaths, Cond.static yX6_ofBalancedPaths, Cond.initialized RX6, Cond.code yX6_ofBalancedPaths cX6_ofBalancedPaths 8 (some .long), Cond.fieldLink RX6 23 "DyckReachability$Edges" "size" "I", Cond.methodLink RX6 19 yX6_identity, Cond.static yX6_identity, Cond.code yX6_identity cX6_identity 4 (some .long), Cond.methodLink RX6 15 yX6_withRow, Cond.static yX6_withRow, Cond.code yX6_withRow cX6_withRow 4 (some .long), Cond.methodLink RX6 29 yX6_withPathsBehind, Cond.static yX6_withPathsBehind, Cond.code yX6_withPathsBehind cX6_withPathsBehind 9 (some .long), Cond.fieldLink RX6 33 "DyckReachability$Edges" "sources" "[I", Cond.fieldLink RX6 37 "DyckReachability$Edges" "targets" "[I", Cond.methodLink RX6 40 yX2_isEmptyLabelled, Cond.instanceMethod yX2_isEmptyLabelled, Cond.selects RX2 yX2_isEmptyLabelled yX2_isEmptyLabelled, Cond.code yX2_isEmptyLabelled cX2_isEmptyLabelled 2 (some .boolean), Cond.methodLink RX6 11 yX6_row, Cond.static yX6_row]
def wsX8_reliability_r3 : List Cond := [Cond.code yX6_row cX6_row 3 (some .int), Cond.methodLink RX6 44 yX2_opens, Cond.instanceMethod yX2_opens, Cond.selects RX2 yX2_opens yX2_opens, Cond.code yX2_opens cX2_opens 2 (some .boolean), Cond.methodLink RX6 47 yX2_closes, Cond.instanceMethod yX2_closes, Cond.selects RX2 yX2_closes yX2_closes, Cond.code yX2_closes cX2_closes 3 (some .boolean), Cond.methodLink RX6 51 yX6_has, Cond.static yX6_has, Cond.code yX6_has cX6_has 4 (some .boolean), Cond.methodLink RX8 163 yX6_has, Cond.methodLink RX8 220 yX0_power, Cond.static yX0_power, Cond.initialized RX0, Cond.code yX0_power cX0_power 4 (some .int)]
def wsX8_reliability : List Cond := .code yX8_reliability cX8_reliability 8 (some .int) :: ((wsX8_reliability_r1 ++ (wsX8_reliability_r2 ++ wsX8_reliability_r3)) ++ wsX80 ++ wsX20)
def wsX8_setSeed : List Cond := .code yX8_setSeed cX8_setSeed 5 (some .long) :: ([.fieldLink RX8 13 "DyckReachability" "seed" "J"] ++ wsX80)
def wsX8_simulate_r1 : List Cond := [Cond.fieldLink RX8 26 "DyckReachability" "copy" "LDyckReachability$Edges;", Cond.fieldLink RX8 22 "DyckReachability" "edges" "LDyckReachability$Edges;", Cond.fieldLink RX8 13 "DyckReachability" "seed" "J", Cond.fieldLink RX8 9 "DyckReachability" "vertices" "I", Cond.methodLink RX8 185 yX2_take, Cond.instanceMethod yX2_take, Cond.selects RX2 yX2_take yX2_take, Cond.initialized RX2, Cond.code yX2_take cX2_take 3 none, Cond.fieldLink RX2 21 "DyckReachability$Edges" "size" "I", Cond.fieldLink RX2 9 "DyckReachability$Edges" "sources" "[I", Cond.fieldLink RX2 15 "DyckReachability$Edges" "targets" "[I", Cond.fieldLink RX2 18 "DyckReachability$Edges" "labels" "[I", Cond.methodLink RX2 33 yX2_put, Cond.instanceMethod yX2_put, Cond.selects RX2 yX2_put yX2_put, Cond.code yX2_put cX2_put 4 none, Cond.methodLink RX2 25 yX2_isFull, Cond.instanceMethod yX2_isFull, Cond.selects RX2 yX2_isFull yX2_isFull, Cond.code yX2_isFull cX2_isFull 1 (some .boolean), Cond.methodLink RX8 223 yX0_nextSeed, Cond.static yX0_nextSeed, Cond.initialized RX0]
def wsX8_simulate_r2 : List Cond := [Cond.code yX0_nextSeed cX0_nextSeed 2 (some .long), Cond.constantLong RX0 18 (6364136223846793005), Cond.constantLong RX0 20 (1442695040888963407), Cond.methodLink RX8 227 yX0_change, Cond.static yX0_change, Cond.code yX0_change cX0_change 7 none, Cond.methodLink RX0 22 yX2_find, Cond.instanceMethod yX2_find, Cond.selects RX2 yX2_find yX2_find, Cond.code yX2_find cX2_find 5 (some .int), Cond.methodLink RX0 28 yX2_put, Cond.methodLink RX0 32 yX2_drop, Cond.instanceMethod yX2_drop, Cond.selects RX2 yX2_drop yX2_drop, Cond.code yX2_drop cX2_drop 3 none, Cond.methodLink RX2 29 yX2_holds, Cond.instanceMethod yX2_holds, Cond.selects RX2 yX2_holds yX2_holds, Cond.code yX2_holds cX2_holds 2 (some .boolean), Cond.methodLink RX8 139 yX8_countPairs, Cond.instanceMethod yX8_countPairs, Cond.selects RX8 yX8_countPairs yX8_countPairs, Cond.initialized RX8, Cond.code yX8_countPairs cX8_countPairs 2 (some .int)]
def wsX8_simulate_r3 : List Cond := [Cond.methodLink RX8 129 yX6_ofBalancedPaths, Cond.static yX6_ofBalancedPaths, Cond.initialized RX6, Cond.code yX6_ofBalancedPaths cX6_ofBalancedPaths 8 (some .long), Cond.fieldLink RX6 23 "DyckReachability$Edges" "size" "I", Cond.methodLink RX6 19 yX6_identity, Cond.static yX6_identity, Cond.code yX6_identity cX6_identity 4 (some .long), Cond.methodLink RX6 15 yX6_withRow, Cond.static yX6_withRow, Cond.code yX6_withRow cX6_withRow 4 (some .long), Cond.methodLink RX6 29 yX6_withPathsBehind, Cond.static yX6_withPathsBehind, Cond.code yX6_withPathsBehind cX6_withPathsBehind 9 (some .long), Cond.fieldLink RX6 33 "DyckReachability$Edges" "sources" "[I", Cond.fieldLink RX6 37 "DyckReachability$Edges" "targets" "[I", Cond.methodLink RX6 40 yX2_isEmptyLabelled, Cond.instanceMethod yX2_isEmptyLabelled, Cond.selects RX2 yX2_isEmptyLabelled yX2_isEmptyLabelled, Cond.code yX2_isEmptyLabelled cX2_isEmptyLabelled 2 (some .boolean), Cond.methodLink RX6 11 yX6_row, Cond.static yX6_row, Cond.code yX6_row cX6_row 3 (some .int), Cond.methodLink RX6 44 yX2_opens]
def wsX8_simulate_r4 : List Cond := [Cond.instanceMethod yX2_opens, Cond.selects RX2 yX2_opens yX2_opens, Cond.code yX2_opens cX2_opens 2 (some .boolean), Cond.methodLink RX6 47 yX2_closes, Cond.instanceMethod yX2_closes, Cond.selects RX2 yX2_closes yX2_closes, Cond.code yX2_closes cX2_closes 3 (some .boolean), Cond.methodLink RX6 51 yX6_has, Cond.static yX6_has, Cond.code yX6_has cX6_has 4 (some .boolean), Cond.methodLink RX8 234 yJ13_bitCount_95d88, Cond.static yJ13_bitCount_95d88, Cond.initialized RJ13, Cond.code yJ13_bitCount_95d88 cJ13_bitCount_95d88 2 (some .int), Cond.constantLong RJ13 314 (6148914691236517205), Cond.constantLong RJ13 316 (3689348814741910323), Cond.constantLong RJ13 318 (1085102592571150095)]
def wsX8_simulate : List Cond := .code yX8_simulate cX8_simulate 4 (some .int) :: ((wsX8_simulate_r1 ++ (wsX8_simulate_r2 ++ (wsX8_simulate_r3 ++ wsX8_simulate_r4))) ++ wsX80 ++ wsX20)
def wsX8_isSlot : List Cond := .code yX8_isSlot cX8_isSlot 1 (some .boolean) :: ([])
def wsX8_save_r1 : List Cond := [Cond.fieldLink RX8 46 "DyckReachability" "slots" "[LDyckReachability$Edges;", Cond.fieldLink RX8 22 "DyckReachability" "edges" "LDyckReachability$Edges;", Cond.fieldLink RX8 50 "DyckReachability" "slotFilled" "[Z", Cond.fieldLink RX8 92 "DyckReachability$Edges" "size" "I", Cond.methodLink RX8 231 yX8_isSlot, Cond.static yX8_isSlot, Cond.initialized RX8, Cond.code yX8_isSlot cX8_isSlot 1 (some .boolean), Cond.methodLink RX8 185 yX2_take, Cond.instanceMethod yX2_take, Cond.selects RX2 yX2_take yX2_take, Cond.initialized RX2, Cond.code yX2_take cX2_take 3 none, Cond.fieldLink RX2 21 "DyckReachability$Edges" "size" "I", Cond.fieldLink RX2 9 "DyckReachability$Edges" "sources" "[I", Cond.fieldLink RX2 15 "DyckReachability$Edges" "targets" "[I", Cond.fieldLink RX2 18 "DyckReachability$Edges" "labels" "[I", Cond.methodLink RX2 33 yX2_put, Cond.instanceMethod yX2_put, Cond.selects RX2 yX2_put yX2_put, Cond.code yX2_put cX2_put 4 none, Cond.methodLink RX2 25 yX2_isFull, Cond.instanceMethod yX2_isFull, Cond.selects RX2 yX2_isFull yX2_isFull]
def wsX8_save_r2 : List Cond := [Cond.code yX2_isFull cX2_isFull 1 (some .boolean)]
def wsX8_save : List Cond := .code yX8_save cX8_save 2 (some .int) :: ((wsX8_save_r1 ++ wsX8_save_r2) ++ wsX80 ++ wsX20)
def wsX8_restore_r1 : List Cond := [Cond.fieldLink RX8 50 "DyckReachability" "slotFilled" "[Z", Cond.fieldLink RX8 22 "DyckReachability" "edges" "LDyckReachability$Edges;", Cond.fieldLink RX8 46 "DyckReachability" "slots" "[LDyckReachability$Edges;", Cond.fieldLink RX8 42 "DyckReachability" "history" "LDyckReachability$History;", Cond.fieldLink RX8 92 "DyckReachability$Edges" "size" "I", Cond.methodLink RX8 231 yX8_isSlot, Cond.static yX8_isSlot, Cond.initialized RX8, Cond.code yX8_isSlot cX8_isSlot 1 (some .boolean), Cond.methodLink RX8 185 yX2_take, Cond.instanceMethod yX2_take, Cond.selects RX2 yX2_take yX2_take, Cond.initialized RX2, Cond.code yX2_take cX2_take 3 none, Cond.fieldLink RX2 21 "DyckReachability$Edges" "size" "I", Cond.fieldLink RX2 9 "DyckReachability$Edges" "sources" "[I", Cond.fieldLink RX2 15 "DyckReachability$Edges" "targets" "[I", Cond.fieldLink RX2 18 "DyckReachability$Edges" "labels" "[I", Cond.methodLink RX2 33 yX2_put, Cond.instanceMethod yX2_put, Cond.selects RX2 yX2_put yX2_put, Cond.code yX2_put cX2_put 4 none, Cond.methodLink RX2 25 yX2_isFull, Cond.instanceMethod yX2_isFull]
def wsX8_restore_r2 : List Cond := [Cond.selects RX2 yX2_isFull yX2_isFull, Cond.code yX2_isFull cX2_isFull 1 (some .boolean), Cond.methodLink RX8 89 yX4_forgetAll, Cond.instanceMethod yX4_forgetAll, Cond.selects RX4 yX4_forgetAll yX4_forgetAll, Cond.initialized RX4, Cond.code yX4_forgetAll cX4_forgetAll 1 none, Cond.fieldLink RX4 24 "DyckReachability$History" "size" "I"]
def wsX8_restore : List Cond := .code yX8_restore cX8_restore 2 (some .int) :: ((wsX8_restore_r1 ++ wsX8_restore_r2) ++ wsX80 ++ wsX20 ++ wsX40)
def wsX9_init : List Cond := .code yX9_init cX9_init 1 none :: ([.methodLink RX9 1 objectInit, .instanceMethod objectInit, .code objectInit ⟨#[0xb1]⟩ 1 none, .arrayClass .int, .fieldLink RX9 7 "DyckReachabilityModel" "text" "[I", .fieldLink RX9 13 "DyckReachabilityModel" "parsed" "[I", .fieldLink RX9 16 "DyckReachabilityModel" "vertices" "I", .fieldLink RX9 20 "DyckReachabilityModel" "graph" "[I", .fieldLink RX9 23 "DyckReachabilityModel" "copy" "[I", .fieldLink RX9 26 "DyckReachabilityModel" "history" "[I", .fieldLink RX9 29 "DyckReachabilityModel" "slots" "[I", .arrayClass .boolean, .fieldLink RX9 32 "DyckReachabilityModel" "slotUsed" "[Z", .fieldLink RX9 36 "DyckReachabilityModel" "observedFrom" "[I", .fieldLink RX9 39 "DyckReachabilityModel" "observedTo" "[I", .fieldLink RX9 42 "DyckReachabilityModel" "observedIs" "[I", .fieldLink RX9 45 "DyckReachabilityModel" "lengths" "[I", .fieldLink RX9 48 "DyckReachabilityModel" "depths" "[I", .fieldLink RX9 51 "DyckReachabilityModel" "wide" "[I"] ++ wsX90)
def wsX9_in : List Cond := .code yX9_in cX9_in 6 (some .boolean) :: ([])
def wsX9_has : List Cond := .code yX9_has cX9_has 2 (some .boolean) :: ([])
def wsX9_bits : List Cond := .code yX9_bits cX9_bits 3 (some .int) :: ([])
def wsX9_assign : List Cond := .code yX9_assign cX9_assign 3 none :: ([])
def wsX9_noVertex : List Cond := .code yX9_noVertex cX9_noVertex 2 (some .boolean) :: ([.fieldLink RX9 16 "DyckReachabilityModel" "vertices" "I", .methodLink RX9 57 yX9_in, .static yX9_in, .initialized RX9, .code yX9_in cX9_in 6 (some .boolean)] ++ wsX90)
def wsX9_noEdge : List Cond := .code yX9_noEdge cX9_noEdge 2 (some .boolean) :: ([.fieldLink RX9 20 "DyckReachabilityModel" "graph" "[I", .methodLink RX9 57 yX9_in, .static yX9_in, .initialized RX9, .code yX9_in cX9_in 6 (some .boolean)] ++ wsX90)
def wsX9_improve : List Cond := .code yX9_improve cX9_improve 6 (some .boolean) :: ([.constant RX9 61 (1000000), .fieldLink RX9 45 "DyckReachabilityModel" "lengths" "[I"] ++ wsX90)
def wsX9_close : List Cond := .code yX9_close cX9_close 7 none :: ([.fieldLink RX9 45 "DyckReachabilityModel" "lengths" "[I", .constant RX9 62 (2000000), .fieldLink RX9 51 "DyckReachabilityModel" "wide" "[I", .constantLong RX9 67 (3), .methodLink RX9 63 yX9_improve, .instanceMethod yX9_improve, .selects RX9 yX9_improve yX9_improve, .initialized RX9, .code yX9_improve cX9_improve 6 (some .boolean), .constant RX9 61 (1000000), .methodLink RX9 57 yX9_in, .static yX9_in, .code yX9_in cX9_in 6 (some .boolean)] ++ wsX90)
def wsX9_closeOf : List Cond := .code yX9_closeOf cX9_closeOf 6 none :: ([.fieldLink RX9 51 "DyckReachabilityModel" "wide" "[I", .methodLink RX9 69 yX9_has, .static yX9_has, .initialized RX9, .code yX9_has cX9_has 2 (some .boolean), .methodLink RX9 73 yX9_close, .instanceMethod yX9_close, .selects RX9 yX9_close yX9_close, .code yX9_close cX9_close 7 none, .fieldLink RX9 45 "DyckReachabilityModel" "lengths" "[I", .constant RX9 62 (2000000), .constantLong RX9 67 (3), .methodLink RX9 63 yX9_improve, .instanceMethod yX9_improve, .selects RX9 yX9_improve yX9_improve, .code yX9_improve cX9_improve 6 (some .boolean), .constant RX9 61 (1000000), .methodLink RX9 57 yX9_in, .static yX9_in, .code yX9_in cX9_in 6 (some .boolean)] ++ wsX90)
def wsX9_reaches : List Cond := .code yX9_reaches cX9_reaches 3 (some .boolean) :: ([.fieldLink RX9 45 "DyckReachabilityModel" "lengths" "[I", .constant RX9 62 (2000000)] ++ wsX90)
def wsX9_pairs : List Cond := .code yX9_pairs cX9_pairs 3 (some .int) :: ([.fieldLink RX9 16 "DyckReachabilityModel" "vertices" "I", .fieldLink RX9 45 "DyckReachabilityModel" "lengths" "[I", .constant RX9 62 (2000000)] ++ wsX90)
def wsX9_pairsOf_r1 : List Cond := [Cond.methodLink RX9 77 yX9_closeOf, Cond.instanceMethod yX9_closeOf, Cond.selects RX9 yX9_closeOf yX9_closeOf, Cond.initialized RX9, Cond.code yX9_closeOf cX9_closeOf 6 none, Cond.fieldLink RX9 51 "DyckReachabilityModel" "wide" "[I", Cond.methodLink RX9 69 yX9_has, Cond.static yX9_has, Cond.code yX9_has cX9_has 2 (some .boolean), Cond.methodLink RX9 73 yX9_close, Cond.instanceMethod yX9_close, Cond.selects RX9 yX9_close yX9_close, Cond.code yX9_close cX9_close 7 none, Cond.fieldLink RX9 45 "DyckReachabilityModel" "lengths" "[I", Cond.constant RX9 62 (2000000), Cond.constantLong RX9 67 (3), Cond.methodLink RX9 63 yX9_improve, Cond.instanceMethod yX9_improve, Cond.selects RX9 yX9_improve yX9_improve, Cond.code yX9_improve cX9_improve 6 (some .boolean), Cond.constant RX9 61 (1000000), Cond.methodLink RX9 57 yX9_in, Cond.static yX9_in, Cond.code yX9_in cX9_in 6 (some .boolean)]
def wsX9_pairsOf_r2 : List Cond := [Cond.methodLink RX9 81 yX9_pairs, Cond.instanceMethod yX9_pairs, Cond.selects RX9 yX9_pairs yX9_pairs, Cond.code yX9_pairs cX9_pairs 3 (some .int), Cond.fieldLink RX9 16 "DyckReachabilityModel" "vertices" "I"]
def wsX9_pairsOf : List Cond := .code yX9_pairsOf cX9_pairsOf 3 (some .int) :: ((wsX9_pairsOf_r1 ++ wsX9_pairsOf_r2) ++ wsX90)
def wsX9_append : List Cond := .code yX9_append cX9_append 2 (some .int) :: ([.fieldLink RX9 54 "DyckReachabilityModel" "thrown" "I", .constantLong RX9 85 (255), .fieldLink RX9 87 "DyckReachabilityModel" "textSize" "I", .fieldLink RX9 7 "DyckReachabilityModel" "text" "[I", .methodLink RX9 57 yX9_in, .static yX9_in, .initialized RX9, .code yX9_in cX9_in 6 (some .boolean)] ++ wsX90)
def wsX9_clearText : List Cond := .code yX9_clearText cX9_clearText 2 (some .int) :: ([.fieldLink RX9 54 "DyckReachabilityModel" "thrown" "I", .fieldLink RX9 87 "DyckReachabilityModel" "textSize" "I"] ++ wsX90)
def wsX9_digit : List Cond := .code yX9_digit cX9_digit 4 (some .int) :: ([.fieldLink RX9 90 "DyckReachabilityModel" "pos" "I", .fieldLink RX9 87 "DyckReachabilityModel" "textSize" "I", .fieldLink RX9 7 "DyckReachabilityModel" "text" "[I", .methodLink RX9 57 yX9_in, .static yX9_in, .initialized RX9, .code yX9_in cX9_in 6 (some .boolean)] ++ wsX90)
def wsX9_labelChar : List Cond := .code yX9_labelChar cX9_labelChar 3 (some .int) :: ([.fieldLink RX9 90 "DyckReachabilityModel" "pos" "I", .fieldLink RX9 87 "DyckReachabilityModel" "textSize" "I", .fieldLink RX9 7 "DyckReachabilityModel" "text" "[I", .constantLong RX9 93 (97), .constantLong RX9 95 (99), .constantLong RX9 97 (65), .constantLong RX9 99 (67), .methodLink RX9 57 yX9_in, .static yX9_in, .initialized RX9, .code yX9_in cX9_in 6 (some .boolean)] ++ wsX90)
def wsX9_put : List Cond := .code yX9_put cX9_put 5 none :: ([])
def wsX9_errorPosition_r1 : List Cond := [Cond.fieldLink RX9 54 "DyckReachabilityModel" "thrown" "I", Cond.fieldLink RX9 90 "DyckReachabilityModel" "pos" "I", Cond.fieldLink RX9 13 "DyckReachabilityModel" "parsed" "[I", Cond.fieldLink RX9 87 "DyckReachabilityModel" "textSize" "I", Cond.fieldLink RX9 7 "DyckReachabilityModel" "text" "[I", Cond.fieldLink RX9 105 "DyckReachabilityModel" "parsedVertices" "I", Cond.methodLink RX9 101 yX9_digit, Cond.instanceMethod yX9_digit, Cond.selects RX9 yX9_digit yX9_digit, Cond.initialized RX9, Cond.code yX9_digit cX9_digit 4 (some .int), Cond.methodLink RX9 57 yX9_in, Cond.static yX9_in, Cond.code yX9_in cX9_in 6 (some .boolean), Cond.methodLink RX9 108 yX9_labelChar, Cond.instanceMethod yX9_labelChar, Cond.selects RX9 yX9_labelChar yX9_labelChar, Cond.code yX9_labelChar cX9_labelChar 3 (some .int), Cond.constantLong RX9 93 (97), Cond.constantLong RX9 95 (99), Cond.constantLong RX9 97 (65), Cond.constantLong RX9 99 (67), Cond.methodLink RX9 111 yX9_put, Cond.static yX9_put]
def wsX9_errorPosition_r2 : List Cond := [Cond.code yX9_put cX9_put 5 none]
def wsX9_errorPosition : List Cond := .code yX9_errorPosition cX9_errorPosition 4 (some .int) :: ((wsX9_errorPosition_r1 ++ wsX9_errorPosition_r2) ++ wsX90)
def wsX9_drop : List Cond := .code yX9_drop cX9_drop 3 none :: ([])
def wsX9_load_r1 : List Cond := [Cond.fieldLink RX9 54 "DyckReachabilityModel" "thrown" "I", Cond.fieldLink RX9 105 "DyckReachabilityModel" "parsedVertices" "I", Cond.fieldLink RX9 16 "DyckReachabilityModel" "vertices" "I", Cond.fieldLink RX9 13 "DyckReachabilityModel" "parsed" "[I", Cond.fieldLink RX9 20 "DyckReachabilityModel" "graph" "[I", Cond.fieldLink RX9 122 "DyckReachabilityModel" "remembered" "I", Cond.fieldLink RX9 32 "DyckReachabilityModel" "slotUsed" "[Z", Cond.methodLink RX9 115 yX9_errorPosition, Cond.instanceMethod yX9_errorPosition, Cond.selects RX9 yX9_errorPosition yX9_errorPosition, Cond.initialized RX9, Cond.code yX9_errorPosition cX9_errorPosition 4 (some .int), Cond.fieldLink RX9 90 "DyckReachabilityModel" "pos" "I", Cond.fieldLink RX9 87 "DyckReachabilityModel" "textSize" "I", Cond.fieldLink RX9 7 "DyckReachabilityModel" "text" "[I", Cond.methodLink RX9 101 yX9_digit, Cond.instanceMethod yX9_digit, Cond.selects RX9 yX9_digit yX9_digit, Cond.code yX9_digit cX9_digit 4 (some .int), Cond.methodLink RX9 57 yX9_in, Cond.static yX9_in, Cond.code yX9_in cX9_in 6 (some .boolean), Cond.methodLink RX9 108 yX9_labelChar, Cond.instanceMethod yX9_labelChar]
def wsX9_load_r2 : List Cond := [Cond.selects RX9 yX9_labelChar yX9_labelChar, Cond.code yX9_labelChar cX9_labelChar 3 (some .int), Cond.constantLong RX9 93 (97), Cond.constantLong RX9 95 (99), Cond.constantLong RX9 97 (65), Cond.constantLong RX9 99 (67), Cond.methodLink RX9 111 yX9_put, Cond.static yX9_put, Cond.code yX9_put cX9_put 5 none, Cond.methodLink RX9 118 yX9_assign, Cond.static yX9_assign, Cond.code yX9_assign cX9_assign 3 none]
def wsX9_load : List Cond := .code yX9_load cX9_load 1 (some .int) :: ((wsX9_load_r1 ++ wsX9_load_r2) ++ wsX90)
def wsX9_vertexCount : List Cond := .code yX9_vertexCount cX9_vertexCount 1 (some .int) :: ([.fieldLink RX9 54 "DyckReachabilityModel" "thrown" "I", .fieldLink RX9 16 "DyckReachabilityModel" "vertices" "I"] ++ wsX90)
def wsX9_edgeCount : List Cond := .code yX9_edgeCount cX9_edgeCount 1 (some .int) :: ([.fieldLink RX9 54 "DyckReachabilityModel" "thrown" "I", .fieldLink RX9 20 "DyckReachabilityModel" "graph" "[I"] ++ wsX90)
def wsX9_source : List Cond := .code yX9_source cX9_source 2 (some .int) :: ([.fieldLink RX9 54 "DyckReachabilityModel" "thrown" "I", .fieldLink RX9 20 "DyckReachabilityModel" "graph" "[I", .methodLink RX9 125 yX9_noEdge, .instanceMethod yX9_noEdge, .selects RX9 yX9_noEdge yX9_noEdge, .initialized RX9, .code yX9_noEdge cX9_noEdge 2 (some .boolean), .methodLink RX9 57 yX9_in, .static yX9_in, .code yX9_in cX9_in 6 (some .boolean)] ++ wsX90)
def wsX9_target : List Cond := .code yX9_target cX9_target 2 (some .int) :: ([.fieldLink RX9 54 "DyckReachabilityModel" "thrown" "I", .fieldLink RX9 20 "DyckReachabilityModel" "graph" "[I", .methodLink RX9 125 yX9_noEdge, .instanceMethod yX9_noEdge, .selects RX9 yX9_noEdge yX9_noEdge, .initialized RX9, .code yX9_noEdge cX9_noEdge 2 (some .boolean), .methodLink RX9 57 yX9_in, .static yX9_in, .code yX9_in cX9_in 6 (some .boolean)] ++ wsX90)
def wsX9_label : List Cond := .code yX9_label cX9_label 2 (some .int) :: ([.fieldLink RX9 54 "DyckReachabilityModel" "thrown" "I", .fieldLink RX9 20 "DyckReachabilityModel" "graph" "[I", .methodLink RX9 125 yX9_noEdge, .instanceMethod yX9_noEdge, .selects RX9 yX9_noEdge yX9_noEdge, .initialized RX9, .code yX9_noEdge cX9_noEdge 2 (some .boolean), .methodLink RX9 57 yX9_in, .static yX9_in, .code yX9_in cX9_in 6 (some .boolean)] ++ wsX90)
def wsX9_remember : List Cond := .code yX9_remember cX9_remember 2 none :: ([.fieldLink RX9 122 "DyckReachabilityModel" "remembered" "I", .fieldLink RX9 26 "DyckReachabilityModel" "history" "[I", .fieldLink RX9 20 "DyckReachabilityModel" "graph" "[I"] ++ wsX90)
def wsX9_addEdge : List Cond := .code yX9_addEdge cX9_addEdge 4 (some .int) :: ([.fieldLink RX9 54 "DyckReachabilityModel" "thrown" "I", .constantLong RX9 132 (6), .fieldLink RX9 20 "DyckReachabilityModel" "graph" "[I", .methodLink RX9 129 yX9_noVertex, .instanceMethod yX9_noVertex, .selects RX9 yX9_noVertex yX9_noVertex, .initialized RX9, .code yX9_noVertex cX9_noVertex 2 (some .boolean), .fieldLink RX9 16 "DyckReachabilityModel" "vertices" "I", .methodLink RX9 57 yX9_in, .static yX9_in, .code yX9_in cX9_in 6 (some .boolean), .methodLink RX9 134 yX9_remember, .instanceMethod yX9_remember, .selects RX9 yX9_remember yX9_remember, .code yX9_remember cX9_remember 2 none, .fieldLink RX9 122 "DyckReachabilityModel" "remembered" "I", .fieldLink RX9 26 "DyckReachabilityModel" "history" "[I", .methodLink RX9 111 yX9_put, .static yX9_put, .code yX9_put cX9_put 5 none] ++ wsX90)
def wsX9_removeEdge : List Cond := .code yX9_removeEdge cX9_removeEdge 2 (some .int) :: ([.fieldLink RX9 54 "DyckReachabilityModel" "thrown" "I", .fieldLink RX9 20 "DyckReachabilityModel" "graph" "[I", .methodLink RX9 125 yX9_noEdge, .instanceMethod yX9_noEdge, .selects RX9 yX9_noEdge yX9_noEdge, .initialized RX9, .code yX9_noEdge cX9_noEdge 2 (some .boolean), .methodLink RX9 57 yX9_in, .static yX9_in, .code yX9_in cX9_in 6 (some .boolean), .methodLink RX9 134 yX9_remember, .instanceMethod yX9_remember, .selects RX9 yX9_remember yX9_remember, .code yX9_remember cX9_remember 2 none, .fieldLink RX9 122 "DyckReachabilityModel" "remembered" "I", .fieldLink RX9 26 "DyckReachabilityModel" "history" "[I", .methodLink RX9 137 yX9_drop, .static yX9_drop, .code yX9_drop cX9_drop 3 none] ++ wsX90)
def wsX9_setLabel : List Cond := .code yX9_setLabel cX9_setLabel 4 (some .int) :: ([.fieldLink RX9 54 "DyckReachabilityModel" "thrown" "I", .constantLong RX9 132 (6), .fieldLink RX9 20 "DyckReachabilityModel" "graph" "[I", .methodLink RX9 125 yX9_noEdge, .instanceMethod yX9_noEdge, .selects RX9 yX9_noEdge yX9_noEdge, .initialized RX9, .code yX9_noEdge cX9_noEdge 2 (some .boolean), .methodLink RX9 57 yX9_in, .static yX9_in, .code yX9_in cX9_in 6 (some .boolean), .methodLink RX9 134 yX9_remember, .instanceMethod yX9_remember, .selects RX9 yX9_remember yX9_remember, .code yX9_remember cX9_remember 2 none, .fieldLink RX9 122 "DyckReachabilityModel" "remembered" "I", .fieldLink RX9 26 "DyckReachabilityModel" "history" "[I"] ++ wsX90)
def wsX9_undo : List Cond := .code yX9_undo cX9_undo 2 (some .int) :: ([.fieldLink RX9 54 "DyckReachabilityModel" "thrown" "I", .fieldLink RX9 122 "DyckReachabilityModel" "remembered" "I", .fieldLink RX9 20 "DyckReachabilityModel" "graph" "[I", .fieldLink RX9 26 "DyckReachabilityModel" "history" "[I"] ++ wsX90)
def wsX9_reachableFrom_r1 : List Cond := [Cond.fieldLink RX9 54 "DyckReachabilityModel" "thrown" "I", Cond.fieldLink RX9 20 "DyckReachabilityModel" "graph" "[I", Cond.constant RX9 140 (65535), Cond.fieldLink RX9 16 "DyckReachabilityModel" "vertices" "I", Cond.methodLink RX9 129 yX9_noVertex, Cond.instanceMethod yX9_noVertex, Cond.selects RX9 yX9_noVertex yX9_noVertex, Cond.initialized RX9, Cond.code yX9_noVertex cX9_noVertex 2 (some .boolean), Cond.methodLink RX9 57 yX9_in, Cond.static yX9_in, Cond.code yX9_in cX9_in 6 (some .boolean), Cond.methodLink RX9 77 yX9_closeOf, Cond.instanceMethod yX9_closeOf, Cond.selects RX9 yX9_closeOf yX9_closeOf, Cond.code yX9_closeOf cX9_closeOf 6 none, Cond.fieldLink RX9 51 "DyckReachabilityModel" "wide" "[I", Cond.methodLink RX9 69 yX9_has, Cond.static yX9_has, Cond.code yX9_has cX9_has 2 (some .boolean), Cond.methodLink RX9 73 yX9_close, Cond.instanceMethod yX9_close, Cond.selects RX9 yX9_close yX9_close, Cond.code yX9_close cX9_close 7 none]
def wsX9_reachableFrom_r2 : List Cond := [Cond.fieldLink RX9 45 "DyckReachabilityModel" "lengths" "[I", Cond.constant RX9 62 (2000000), Cond.constantLong RX9 67 (3), Cond.methodLink RX9 63 yX9_improve, Cond.instanceMethod yX9_improve, Cond.selects RX9 yX9_improve yX9_improve, Cond.code yX9_improve cX9_improve 6 (some .boolean), Cond.constant RX9 61 (1000000), Cond.methodLink RX9 141 yX9_reaches, Cond.instanceMethod yX9_reaches, Cond.selects RX9 yX9_reaches yX9_reaches, Cond.code yX9_reaches cX9_reaches 3 (some .boolean)]
def wsX9_reachableFrom : List Cond := .code yX9_reachableFrom cX9_reachableFrom 4 (some .int) :: ((wsX9_reachableFrom_r1 ++ wsX9_reachableFrom_r2) ++ wsX90)
def wsX9_pairCount_r1 : List Cond := [Cond.fieldLink RX9 54 "DyckReachabilityModel" "thrown" "I", Cond.fieldLink RX9 20 "DyckReachabilityModel" "graph" "[I", Cond.constant RX9 140 (65535), Cond.methodLink RX9 144 yX9_pairsOf, Cond.instanceMethod yX9_pairsOf, Cond.selects RX9 yX9_pairsOf yX9_pairsOf, Cond.initialized RX9, Cond.code yX9_pairsOf cX9_pairsOf 3 (some .int), Cond.methodLink RX9 77 yX9_closeOf, Cond.instanceMethod yX9_closeOf, Cond.selects RX9 yX9_closeOf yX9_closeOf, Cond.code yX9_closeOf cX9_closeOf 6 none, Cond.fieldLink RX9 51 "DyckReachabilityModel" "wide" "[I", Cond.methodLink RX9 69 yX9_has, Cond.static yX9_has, Cond.code yX9_has cX9_has 2 (some .boolean), Cond.methodLink RX9 73 yX9_close, Cond.instanceMethod yX9_close, Cond.selects RX9 yX9_close yX9_close, Cond.code yX9_close cX9_close 7 none, Cond.fieldLink RX9 45 "DyckReachabilityModel" "lengths" "[I", Cond.constant RX9 62 (2000000), Cond.constantLong RX9 67 (3), Cond.methodLink RX9 63 yX9_improve]
def wsX9_pairCount_r2 : List Cond := [Cond.instanceMethod yX9_improve, Cond.selects RX9 yX9_improve yX9_improve, Cond.code yX9_improve cX9_improve 6 (some .boolean), Cond.constant RX9 61 (1000000), Cond.methodLink RX9 57 yX9_in, Cond.static yX9_in, Cond.code yX9_in cX9_in 6 (some .boolean), Cond.methodLink RX9 81 yX9_pairs, Cond.instanceMethod yX9_pairs, Cond.selects RX9 yX9_pairs yX9_pairs, Cond.code yX9_pairs cX9_pairs 3 (some .int), Cond.fieldLink RX9 16 "DyckReachabilityModel" "vertices" "I"]
def wsX9_pairCount : List Cond := .code yX9_pairCount cX9_pairCount 1 (some .int) :: ((wsX9_pairCount_r1 ++ wsX9_pairCount_r2) ++ wsX90)
def wsX9_distance_r1 : List Cond := [Cond.fieldLink RX9 54 "DyckReachabilityModel" "thrown" "I", Cond.fieldLink RX9 20 "DyckReachabilityModel" "graph" "[I", Cond.constant RX9 140 (65535), Cond.fieldLink RX9 45 "DyckReachabilityModel" "lengths" "[I", Cond.methodLink RX9 129 yX9_noVertex, Cond.instanceMethod yX9_noVertex, Cond.selects RX9 yX9_noVertex yX9_noVertex, Cond.initialized RX9, Cond.code yX9_noVertex cX9_noVertex 2 (some .boolean), Cond.fieldLink RX9 16 "DyckReachabilityModel" "vertices" "I", Cond.methodLink RX9 57 yX9_in, Cond.static yX9_in, Cond.code yX9_in cX9_in 6 (some .boolean), Cond.methodLink RX9 77 yX9_closeOf, Cond.instanceMethod yX9_closeOf, Cond.selects RX9 yX9_closeOf yX9_closeOf, Cond.code yX9_closeOf cX9_closeOf 6 none, Cond.fieldLink RX9 51 "DyckReachabilityModel" "wide" "[I", Cond.methodLink RX9 69 yX9_has, Cond.static yX9_has, Cond.code yX9_has cX9_has 2 (some .boolean), Cond.methodLink RX9 73 yX9_close, Cond.instanceMethod yX9_close, Cond.selects RX9 yX9_close yX9_close]
def wsX9_distance_r2 : List Cond := [Cond.code yX9_close cX9_close 7 none, Cond.constant RX9 62 (2000000), Cond.constantLong RX9 67 (3), Cond.methodLink RX9 63 yX9_improve, Cond.instanceMethod yX9_improve, Cond.selects RX9 yX9_improve yX9_improve, Cond.code yX9_improve cX9_improve 6 (some .boolean), Cond.constant RX9 61 (1000000), Cond.methodLink RX9 141 yX9_reaches, Cond.instanceMethod yX9_reaches, Cond.selects RX9 yX9_reaches yX9_reaches, Cond.code yX9_reaches cX9_reaches 3 (some .boolean)]
def wsX9_distance : List Cond := .code yX9_distance cX9_distance 3 (some .int) :: ((wsX9_distance_r1 ++ wsX9_distance_r2) ++ wsX90)
def wsX9_lengthBy : List Cond := .code yX9_lengthBy cX9_lengthBy 8 (some .int) :: ([.fieldLink RX9 20 "DyckReachabilityModel" "graph" "[I", .constant RX9 62 (2000000), .fieldLink RX9 45 "DyckReachabilityModel" "lengths" "[I", .constantLong RX9 67 (3), .methodLink RX9 57 yX9_in, .static yX9_in, .initialized RX9, .code yX9_in cX9_in 6 (some .boolean)] ++ wsX90)
def wsX9_firstStep : List Cond := .code yX9_firstStep cX9_firstStep 4 (some .int) :: ([.fieldLink RX9 20 "DyckReachabilityModel" "graph" "[I", .fieldLink RX9 45 "DyckReachabilityModel" "lengths" "[I", .methodLink RX9 148 yX9_lengthBy, .instanceMethod yX9_lengthBy, .selects RX9 yX9_lengthBy yX9_lengthBy, .initialized RX9, .code yX9_lengthBy cX9_lengthBy 8 (some .int), .constant RX9 62 (2000000), .constantLong RX9 67 (3), .methodLink RX9 57 yX9_in, .static yX9_in, .code yX9_in cX9_in 6 (some .boolean)] ++ wsX90)
def wsX9_witnessEdge_r1 : List Cond := [Cond.fieldLink RX9 54 "DyckReachabilityModel" "thrown" "I", Cond.fieldLink RX9 20 "DyckReachabilityModel" "graph" "[I", Cond.constant RX9 140 (65535), Cond.fieldLink RX9 45 "DyckReachabilityModel" "lengths" "[I", Cond.constant RX9 61 (1000000), Cond.methodLink RX9 129 yX9_noVertex, Cond.instanceMethod yX9_noVertex, Cond.selects RX9 yX9_noVertex yX9_noVertex, Cond.initialized RX9, Cond.code yX9_noVertex cX9_noVertex 2 (some .boolean), Cond.fieldLink RX9 16 "DyckReachabilityModel" "vertices" "I", Cond.methodLink RX9 57 yX9_in, Cond.static yX9_in, Cond.code yX9_in cX9_in 6 (some .boolean), Cond.methodLink RX9 77 yX9_closeOf, Cond.instanceMethod yX9_closeOf, Cond.selects RX9 yX9_closeOf yX9_closeOf, Cond.code yX9_closeOf cX9_closeOf 6 none, Cond.fieldLink RX9 51 "DyckReachabilityModel" "wide" "[I", Cond.methodLink RX9 69 yX9_has, Cond.static yX9_has, Cond.code yX9_has cX9_has 2 (some .boolean), Cond.methodLink RX9 73 yX9_close, Cond.instanceMethod yX9_close]
def wsX9_witnessEdge_r2 : List Cond := [Cond.selects RX9 yX9_close yX9_close, Cond.code yX9_close cX9_close 7 none, Cond.constant RX9 62 (2000000), Cond.constantLong RX9 67 (3), Cond.methodLink RX9 63 yX9_improve, Cond.instanceMethod yX9_improve, Cond.selects RX9 yX9_improve yX9_improve, Cond.code yX9_improve cX9_improve 6 (some .boolean), Cond.methodLink RX9 152 yX9_firstStep, Cond.instanceMethod yX9_firstStep, Cond.selects RX9 yX9_firstStep yX9_firstStep, Cond.code yX9_firstStep cX9_firstStep 4 (some .int), Cond.methodLink RX9 148 yX9_lengthBy, Cond.instanceMethod yX9_lengthBy, Cond.selects RX9 yX9_lengthBy yX9_lengthBy, Cond.code yX9_lengthBy cX9_lengthBy 8 (some .int)]
def wsX9_witnessEdge : List Cond := .code yX9_witnessEdge cX9_witnessEdge 13 (some .int) :: ((wsX9_witnessEdge_r1 ++ wsX9_witnessEdge_r2) ++ wsX90)
def wsX9_lessDeep : List Cond := .code yX9_lessDeep cX9_lessDeep 5 (some .boolean) :: ([.fieldLink RX9 48 "DyckReachabilityModel" "depths" "[I"] ++ wsX90)
def wsX9_closeDepths : List Cond := .code yX9_closeDepths cX9_closeDepths 5 none :: ([.fieldLink RX9 48 "DyckReachabilityModel" "depths" "[I", .constant RX9 62 (2000000), .fieldLink RX9 20 "DyckReachabilityModel" "graph" "[I", .constantLong RX9 67 (3), .methodLink RX9 155 yX9_lessDeep, .instanceMethod yX9_lessDeep, .selects RX9 yX9_lessDeep yX9_lessDeep, .initialized RX9, .code yX9_lessDeep cX9_lessDeep 5 (some .boolean), .methodLink RX9 57 yX9_in, .static yX9_in, .code yX9_in cX9_in 6 (some .boolean)] ++ wsX90)
def wsX9_depth : List Cond := .code yX9_depth cX9_depth 4 (some .int) :: ([.fieldLink RX9 54 "DyckReachabilityModel" "thrown" "I", .fieldLink RX9 48 "DyckReachabilityModel" "depths" "[I", .constant RX9 62 (2000000), .methodLink RX9 129 yX9_noVertex, .instanceMethod yX9_noVertex, .selects RX9 yX9_noVertex yX9_noVertex, .initialized RX9, .code yX9_noVertex cX9_noVertex 2 (some .boolean), .fieldLink RX9 16 "DyckReachabilityModel" "vertices" "I", .methodLink RX9 57 yX9_in, .static yX9_in, .code yX9_in cX9_in 6 (some .boolean), .methodLink RX9 158 yX9_closeDepths, .instanceMethod yX9_closeDepths, .selects RX9 yX9_closeDepths yX9_closeDepths, .code yX9_closeDepths cX9_closeDepths 5 none, .fieldLink RX9 20 "DyckReachabilityModel" "graph" "[I", .constantLong RX9 67 (3), .methodLink RX9 155 yX9_lessDeep, .instanceMethod yX9_lessDeep, .selects RX9 yX9_lessDeep yX9_lessDeep, .code yX9_lessDeep cX9_lessDeep 5 (some .boolean)] ++ wsX90)
def wsX9_lossOf_r1 : List Cond := [Cond.fieldLink RX9 20 "DyckReachabilityModel" "graph" "[I", Cond.constant RX9 140 (65535), Cond.methodLink RX9 144 yX9_pairsOf, Cond.instanceMethod yX9_pairsOf, Cond.selects RX9 yX9_pairsOf yX9_pairsOf, Cond.initialized RX9, Cond.code yX9_pairsOf cX9_pairsOf 3 (some .int), Cond.methodLink RX9 77 yX9_closeOf, Cond.instanceMethod yX9_closeOf, Cond.selects RX9 yX9_closeOf yX9_closeOf, Cond.code yX9_closeOf cX9_closeOf 6 none, Cond.fieldLink RX9 51 "DyckReachabilityModel" "wide" "[I", Cond.methodLink RX9 69 yX9_has, Cond.static yX9_has, Cond.code yX9_has cX9_has 2 (some .boolean), Cond.methodLink RX9 73 yX9_close, Cond.instanceMethod yX9_close, Cond.selects RX9 yX9_close yX9_close, Cond.code yX9_close cX9_close 7 none, Cond.fieldLink RX9 45 "DyckReachabilityModel" "lengths" "[I", Cond.constant RX9 62 (2000000), Cond.constantLong RX9 67 (3), Cond.methodLink RX9 63 yX9_improve, Cond.instanceMethod yX9_improve]
def wsX9_lossOf_r2 : List Cond := [Cond.selects RX9 yX9_improve yX9_improve, Cond.code yX9_improve cX9_improve 6 (some .boolean), Cond.constant RX9 61 (1000000), Cond.methodLink RX9 57 yX9_in, Cond.static yX9_in, Cond.code yX9_in cX9_in 6 (some .boolean), Cond.methodLink RX9 81 yX9_pairs, Cond.instanceMethod yX9_pairs, Cond.selects RX9 yX9_pairs yX9_pairs, Cond.code yX9_pairs cX9_pairs 3 (some .int), Cond.fieldLink RX9 16 "DyckReachabilityModel" "vertices" "I"]
def wsX9_lossOf : List Cond := .code yX9_lossOf cX9_lossOf 2 (some .int) :: ((wsX9_lossOf_r1 ++ wsX9_lossOf_r2) ++ wsX90)
def wsX9_loss_r1 : List Cond := [Cond.fieldLink RX9 54 "DyckReachabilityModel" "thrown" "I", Cond.methodLink RX9 125 yX9_noEdge, Cond.instanceMethod yX9_noEdge, Cond.selects RX9 yX9_noEdge yX9_noEdge, Cond.initialized RX9, Cond.code yX9_noEdge cX9_noEdge 2 (some .boolean), Cond.fieldLink RX9 20 "DyckReachabilityModel" "graph" "[I", Cond.methodLink RX9 57 yX9_in, Cond.static yX9_in, Cond.code yX9_in cX9_in 6 (some .boolean), Cond.methodLink RX9 161 yX9_lossOf, Cond.instanceMethod yX9_lossOf, Cond.selects RX9 yX9_lossOf yX9_lossOf, Cond.code yX9_lossOf cX9_lossOf 2 (some .int), Cond.constant RX9 140 (65535), Cond.methodLink RX9 144 yX9_pairsOf, Cond.instanceMethod yX9_pairsOf, Cond.selects RX9 yX9_pairsOf yX9_pairsOf, Cond.code yX9_pairsOf cX9_pairsOf 3 (some .int), Cond.methodLink RX9 77 yX9_closeOf, Cond.instanceMethod yX9_closeOf, Cond.selects RX9 yX9_closeOf yX9_closeOf, Cond.code yX9_closeOf cX9_closeOf 6 none, Cond.fieldLink RX9 51 "DyckReachabilityModel" "wide" "[I"]
def wsX9_loss_r2 : List Cond := [Cond.methodLink RX9 69 yX9_has, Cond.static yX9_has, Cond.code yX9_has cX9_has 2 (some .boolean), Cond.methodLink RX9 73 yX9_close, Cond.instanceMethod yX9_close, Cond.selects RX9 yX9_close yX9_close, Cond.code yX9_close cX9_close 7 none, Cond.fieldLink RX9 45 "DyckReachabilityModel" "lengths" "[I", Cond.constant RX9 62 (2000000), Cond.constantLong RX9 67 (3), Cond.methodLink RX9 63 yX9_improve, Cond.instanceMethod yX9_improve, Cond.selects RX9 yX9_improve yX9_improve, Cond.code yX9_improve cX9_improve 6 (some .boolean), Cond.constant RX9 61 (1000000), Cond.methodLink RX9 81 yX9_pairs, Cond.instanceMethod yX9_pairs, Cond.selects RX9 yX9_pairs yX9_pairs, Cond.code yX9_pairs cX9_pairs 3 (some .int), Cond.fieldLink RX9 16 "DyckReachabilityModel" "vertices" "I"]
def wsX9_loss : List Cond := .code yX9_loss cX9_loss 2 (some .int) :: ((wsX9_loss_r1 ++ wsX9_loss_r2) ++ wsX90)
def wsX9_criticalEdge_r1 : List Cond := [Cond.fieldLink RX9 54 "DyckReachabilityModel" "thrown" "I", Cond.fieldLink RX9 20 "DyckReachabilityModel" "graph" "[I", Cond.methodLink RX9 161 yX9_lossOf, Cond.instanceMethod yX9_lossOf, Cond.selects RX9 yX9_lossOf yX9_lossOf, Cond.initialized RX9, Cond.code yX9_lossOf cX9_lossOf 2 (some .int), Cond.constant RX9 140 (65535), Cond.methodLink RX9 144 yX9_pairsOf, Cond.instanceMethod yX9_pairsOf, Cond.selects RX9 yX9_pairsOf yX9_pairsOf, Cond.code yX9_pairsOf cX9_pairsOf 3 (some .int), Cond.methodLink RX9 77 yX9_closeOf, Cond.instanceMethod yX9_closeOf, Cond.selects RX9 yX9_closeOf yX9_closeOf, Cond.code yX9_closeOf cX9_closeOf 6 none, Cond.fieldLink RX9 51 "DyckReachabilityModel" "wide" "[I", Cond.methodLink RX9 69 yX9_has, Cond.static yX9_has, Cond.code yX9_has cX9_has 2 (some .boolean), Cond.methodLink RX9 73 yX9_close, Cond.instanceMethod yX9_close, Cond.selects RX9 yX9_close yX9_close, Cond.code yX9_close cX9_close 7 none]
def wsX9_criticalEdge_r2 : List Cond := [Cond.fieldLink RX9 45 "DyckReachabilityModel" "lengths" "[I", Cond.constant RX9 62 (2000000), Cond.constantLong RX9 67 (3), Cond.methodLink RX9 63 yX9_improve, Cond.instanceMethod yX9_improve, Cond.selects RX9 yX9_improve yX9_improve, Cond.code yX9_improve cX9_improve 6 (some .boolean), Cond.constant RX9 61 (1000000), Cond.methodLink RX9 57 yX9_in, Cond.static yX9_in, Cond.code yX9_in cX9_in 6 (some .boolean), Cond.methodLink RX9 81 yX9_pairs, Cond.instanceMethod yX9_pairs, Cond.selects RX9 yX9_pairs yX9_pairs, Cond.code yX9_pairs cX9_pairs 3 (some .int), Cond.fieldLink RX9 16 "DyckReachabilityModel" "vertices" "I"]
def wsX9_criticalEdge : List Cond := .code yX9_criticalEdge cX9_criticalEdge 5 (some .int) :: ((wsX9_criticalEdge_r1 ++ wsX9_criticalEdge_r2) ++ wsX90)
def wsX9_representative_r1 : List Cond := [Cond.fieldLink RX9 54 "DyckReachabilityModel" "thrown" "I", Cond.fieldLink RX9 20 "DyckReachabilityModel" "graph" "[I", Cond.fieldLink RX9 51 "DyckReachabilityModel" "wide" "[I", Cond.methodLink RX9 129 yX9_noVertex, Cond.instanceMethod yX9_noVertex, Cond.selects RX9 yX9_noVertex yX9_noVertex, Cond.initialized RX9, Cond.code yX9_noVertex cX9_noVertex 2 (some .boolean), Cond.fieldLink RX9 16 "DyckReachabilityModel" "vertices" "I", Cond.methodLink RX9 57 yX9_in, Cond.static yX9_in, Cond.code yX9_in cX9_in 6 (some .boolean), Cond.methodLink RX9 73 yX9_close, Cond.instanceMethod yX9_close, Cond.selects RX9 yX9_close yX9_close, Cond.code yX9_close cX9_close 7 none, Cond.fieldLink RX9 45 "DyckReachabilityModel" "lengths" "[I", Cond.constant RX9 62 (2000000), Cond.constantLong RX9 67 (3), Cond.methodLink RX9 63 yX9_improve, Cond.instanceMethod yX9_improve, Cond.selects RX9 yX9_improve yX9_improve, Cond.code yX9_improve cX9_improve 6 (some .boolean), Cond.constant RX9 61 (1000000)]
def wsX9_representative_r2 : List Cond := [Cond.methodLink RX9 141 yX9_reaches, Cond.instanceMethod yX9_reaches, Cond.selects RX9 yX9_reaches yX9_reaches, Cond.code yX9_reaches cX9_reaches 3 (some .boolean)]
def wsX9_representative : List Cond := .code yX9_representative cX9_representative 4 (some .int) :: ((wsX9_representative_r1 ++ wsX9_representative_r2) ++ wsX90)
def wsX9_command_r1 : List Cond := [Cond.fieldLink RX9 23 "DyckReachabilityModel" "copy" "[I", Cond.constant RX9 140 (65535), Cond.fieldLink RX9 45 "DyckReachabilityModel" "lengths" "[I", Cond.methodLink RX9 129 yX9_noVertex, Cond.instanceMethod yX9_noVertex, Cond.selects RX9 yX9_noVertex yX9_noVertex, Cond.initialized RX9, Cond.code yX9_noVertex cX9_noVertex 2 (some .boolean), Cond.fieldLink RX9 16 "DyckReachabilityModel" "vertices" "I", Cond.methodLink RX9 57 yX9_in, Cond.static yX9_in, Cond.code yX9_in cX9_in 6 (some .boolean), Cond.methodLink RX9 111 yX9_put, Cond.static yX9_put, Cond.code yX9_put cX9_put 5 none, Cond.methodLink RX9 137 yX9_drop, Cond.static yX9_drop, Cond.code yX9_drop cX9_drop 3 none, Cond.methodLink RX9 77 yX9_closeOf, Cond.instanceMethod yX9_closeOf, Cond.selects RX9 yX9_closeOf yX9_closeOf, Cond.code yX9_closeOf cX9_closeOf 6 none, Cond.fieldLink RX9 51 "DyckReachabilityModel" "wide" "[I", Cond.methodLink RX9 69 yX9_has]
def wsX9_command_r2 : List Cond := [Cond.static yX9_has, Cond.code yX9_has cX9_has 2 (some .boolean), Cond.methodLink RX9 73 yX9_close, Cond.instanceMethod yX9_close, Cond.selects RX9 yX9_close yX9_close, Cond.code yX9_close cX9_close 7 none, Cond.constant RX9 62 (2000000), Cond.constantLong RX9 67 (3), Cond.methodLink RX9 63 yX9_improve, Cond.instanceMethod yX9_improve, Cond.selects RX9 yX9_improve yX9_improve, Cond.code yX9_improve cX9_improve 6 (some .boolean), Cond.constant RX9 61 (1000000), Cond.methodLink RX9 141 yX9_reaches, Cond.instanceMethod yX9_reaches, Cond.selects RX9 yX9_reaches yX9_reaches, Cond.code yX9_reaches cX9_reaches 3 (some .boolean), Cond.methodLink RX9 144 yX9_pairsOf, Cond.instanceMethod yX9_pairsOf, Cond.selects RX9 yX9_pairsOf yX9_pairsOf, Cond.code yX9_pairsOf cX9_pairsOf 3 (some .int), Cond.methodLink RX9 81 yX9_pairs, Cond.instanceMethod yX9_pairs, Cond.selects RX9 yX9_pairs yX9_pairs]
def wsX9_command_r3 : List Cond := [Cond.code yX9_pairs cX9_pairs 3 (some .int)]
def wsX9_command : List Cond := .code yX9_command cX9_command 6 (some .boolean) :: ((wsX9_command_r1 ++ (wsX9_command_r2 ++ wsX9_command_r3)) ++ wsX90)
def wsX9_tenThousands : List Cond := .code yX9_tenThousands cX9_tenThousands 4 (some .long) :: ([.constantLong RX9 165 (10000)])
def wsX9_runScript_r1 : List Cond := [Cond.fieldLink RX9 54 "DyckReachabilityModel" "thrown" "I", Cond.constantLong RX9 167 (4), Cond.fieldLink RX9 20 "DyckReachabilityModel" "graph" "[I", Cond.fieldLink RX9 23 "DyckReachabilityModel" "copy" "[I", Cond.constantLong RX9 165 (10000), Cond.methodLink RX9 57 yX9_in, Cond.static yX9_in, Cond.initialized RX9, Cond.code yX9_in cX9_in 6 (some .boolean), Cond.methodLink RX9 169 yX9_tenThousands, Cond.static yX9_tenThousands, Cond.code yX9_tenThousands cX9_tenThousands 4 (some .long), Cond.methodLink RX9 118 yX9_assign, Cond.static yX9_assign, Cond.code yX9_assign cX9_assign 3 none, Cond.methodLink RX9 173 yX9_command, Cond.instanceMethod yX9_command, Cond.selects RX9 yX9_command yX9_command, Cond.code yX9_command cX9_command 6 (some .boolean), Cond.constant RX9 140 (65535), Cond.fieldLink RX9 45 "DyckReachabilityModel" "lengths" "[I", Cond.methodLink RX9 129 yX9_noVertex, Cond.instanceMethod yX9_noVertex, Cond.selects RX9 yX9_noVertex yX9_noVertex]
def wsX9_runScript_r2 : List Cond := [Cond.code yX9_noVertex cX9_noVertex 2 (some .boolean), Cond.fieldLink RX9 16 "DyckReachabilityModel" "vertices" "I", Cond.methodLink RX9 111 yX9_put, Cond.static yX9_put, Cond.code yX9_put cX9_put 5 none, Cond.methodLink RX9 137 yX9_drop, Cond.static yX9_drop, Cond.code yX9_drop cX9_drop 3 none, Cond.methodLink RX9 77 yX9_closeOf, Cond.instanceMethod yX9_closeOf, Cond.selects RX9 yX9_closeOf yX9_closeOf, Cond.code yX9_closeOf cX9_closeOf 6 none, Cond.fieldLink RX9 51 "DyckReachabilityModel" "wide" "[I", Cond.methodLink RX9 69 yX9_has, Cond.static yX9_has, Cond.code yX9_has cX9_has 2 (some .boolean), Cond.methodLink RX9 73 yX9_close, Cond.instanceMethod yX9_close, Cond.selects RX9 yX9_close yX9_close, Cond.code yX9_close cX9_close 7 none, Cond.constant RX9 62 (2000000), Cond.constantLong RX9 67 (3), Cond.methodLink RX9 63 yX9_improve, Cond.instanceMethod yX9_improve]
def wsX9_runScript_r3 : List Cond := [Cond.selects RX9 yX9_improve yX9_improve, Cond.code yX9_improve cX9_improve 6 (some .boolean), Cond.constant RX9 61 (1000000), Cond.methodLink RX9 141 yX9_reaches, Cond.instanceMethod yX9_reaches, Cond.selects RX9 yX9_reaches yX9_reaches, Cond.code yX9_reaches cX9_reaches 3 (some .boolean), Cond.methodLink RX9 144 yX9_pairsOf, Cond.instanceMethod yX9_pairsOf, Cond.selects RX9 yX9_pairsOf yX9_pairsOf, Cond.code yX9_pairsOf cX9_pairsOf 3 (some .int), Cond.methodLink RX9 81 yX9_pairs, Cond.instanceMethod yX9_pairs, Cond.selects RX9 yX9_pairs yX9_pairs, Cond.code yX9_pairs cX9_pairs 3 (some .int)]
def wsX9_runScript : List Cond := .code yX9_runScript cX9_runScript 6 (some .int) :: ((wsX9_runScript_r1 ++ (wsX9_runScript_r2 ++ wsX9_runScript_r3)) ++ wsX90)
def wsX9_observe : List Cond := .code yX9_observe cX9_observe 4 (some .int) :: ([.fieldLink RX9 54 "DyckReachabilityModel" "thrown" "I", .constantLong RX9 177 (7), .fieldLink RX9 179 "DyckReachabilityModel" "observed" "I", .fieldLink RX9 36 "DyckReachabilityModel" "observedFrom" "[I", .fieldLink RX9 39 "DyckReachabilityModel" "observedTo" "[I", .fieldLink RX9 42 "DyckReachabilityModel" "observedIs" "[I", .methodLink RX9 57 yX9_in, .static yX9_in, .initialized RX9, .code yX9_in cX9_in 6 (some .boolean)] ++ wsX90)
def wsX9_clearObservations : List Cond := .code yX9_clearObservations cX9_clearObservations 2 (some .int) :: ([.fieldLink RX9 54 "DyckReachabilityModel" "thrown" "I", .fieldLink RX9 179 "DyckReachabilityModel" "observed" "I"] ++ wsX90)
def wsX9_possibleLabels_r1 : List Cond := [Cond.fieldLink RX9 54 "DyckReachabilityModel" "thrown" "I", Cond.fieldLink RX9 20 "DyckReachabilityModel" "graph" "[I", Cond.fieldLink RX9 23 "DyckReachabilityModel" "copy" "[I", Cond.constant RX9 140 (65535), Cond.fieldLink RX9 179 "DyckReachabilityModel" "observed" "I", Cond.fieldLink RX9 36 "DyckReachabilityModel" "observedFrom" "[I", Cond.fieldLink RX9 39 "DyckReachabilityModel" "observedTo" "[I", Cond.fieldLink RX9 42 "DyckReachabilityModel" "observedIs" "[I", Cond.methodLink RX9 125 yX9_noEdge, Cond.instanceMethod yX9_noEdge, Cond.selects RX9 yX9_noEdge yX9_noEdge, Cond.initialized RX9, Cond.code yX9_noEdge cX9_noEdge 2 (some .boolean), Cond.methodLink RX9 57 yX9_in, Cond.static yX9_in, Cond.code yX9_in cX9_in 6 (some .boolean), Cond.methodLink RX9 118 yX9_assign, Cond.static yX9_assign, Cond.code yX9_assign cX9_assign 3 none, Cond.methodLink RX9 77 yX9_closeOf, Cond.instanceMethod yX9_closeOf, Cond.selects RX9 yX9_closeOf yX9_closeOf, Cond.code yX9_closeOf cX9_closeOf 6 none, Cond.fieldLink RX9 51 "DyckReachabilityModel" "wide" "[I"]
def wsX9_possibleLabels_r2 : List Cond := [Cond.methodLink RX9 69 yX9_has, Cond.static yX9_has, Cond.code yX9_has cX9_has 2 (some .boolean), Cond.methodLink RX9 73 yX9_close, Cond.instanceMethod yX9_close, Cond.selects RX9 yX9_close yX9_close, Cond.code yX9_close cX9_close 7 none, Cond.fieldLink RX9 45 "DyckReachabilityModel" "lengths" "[I", Cond.constant RX9 62 (2000000), Cond.constantLong RX9 67 (3), Cond.methodLink RX9 63 yX9_improve, Cond.instanceMethod yX9_improve, Cond.selects RX9 yX9_improve yX9_improve, Cond.code yX9_improve cX9_improve 6 (some .boolean), Cond.constant RX9 61 (1000000), Cond.methodLink RX9 129 yX9_noVertex, Cond.instanceMethod yX9_noVertex, Cond.selects RX9 yX9_noVertex yX9_noVertex, Cond.code yX9_noVertex cX9_noVertex 2 (some .boolean), Cond.fieldLink RX9 16 "DyckReachabilityModel" "vertices" "I", Cond.methodLink RX9 141 yX9_reaches, Cond.instanceMethod yX9_reaches, Cond.selects RX9 yX9_reaches yX9_reaches, Cond.code yX9_reaches cX9_reaches 3 (some .boolean)]
def wsX9_possibleLabels : List Cond := .code yX9_possibleLabels cX9_possibleLabels 7 (some .int) :: ((wsX9_possibleLabels_r1 ++ wsX9_possibleLabels_r2) ++ wsX90)
def wsX9_factorial : List Cond := .code yX9_factorial cX9_factorial 3 (some .int) :: ([])
def wsX9_share_r1 : List Cond := [Cond.fieldLink RX9 54 "DyckReachabilityModel" "thrown" "I", Cond.fieldLink RX9 20 "DyckReachabilityModel" "graph" "[I", Cond.constant RX9 188 (40320), Cond.methodLink RX9 125 yX9_noEdge, Cond.instanceMethod yX9_noEdge, Cond.selects RX9 yX9_noEdge yX9_noEdge, Cond.initialized RX9, Cond.code yX9_noEdge cX9_noEdge 2 (some .boolean), Cond.methodLink RX9 57 yX9_in, Cond.static yX9_in, Cond.code yX9_in cX9_in 6 (some .boolean), Cond.methodLink RX9 69 yX9_has, Cond.static yX9_has, Cond.code yX9_has cX9_has 2 (some .boolean), Cond.methodLink RX9 182 yX9_bits, Cond.static yX9_bits, Cond.code yX9_bits cX9_bits 3 (some .int), Cond.methodLink RX9 185 yX9_factorial, Cond.static yX9_factorial, Cond.code yX9_factorial cX9_factorial 3 (some .int), Cond.methodLink RX9 144 yX9_pairsOf, Cond.instanceMethod yX9_pairsOf, Cond.selects RX9 yX9_pairsOf yX9_pairsOf, Cond.code yX9_pairsOf cX9_pairsOf 3 (some .int)]
def wsX9_share_r2 : List Cond := [Cond.methodLink RX9 77 yX9_closeOf, Cond.instanceMethod yX9_closeOf, Cond.selects RX9 yX9_closeOf yX9_closeOf, Cond.code yX9_closeOf cX9_closeOf 6 none, Cond.fieldLink RX9 51 "DyckReachabilityModel" "wide" "[I", Cond.methodLink RX9 73 yX9_close, Cond.instanceMethod yX9_close, Cond.selects RX9 yX9_close yX9_close, Cond.code yX9_close cX9_close 7 none, Cond.fieldLink RX9 45 "DyckReachabilityModel" "lengths" "[I", Cond.constant RX9 62 (2000000), Cond.constantLong RX9 67 (3), Cond.methodLink RX9 63 yX9_improve, Cond.instanceMethod yX9_improve, Cond.selects RX9 yX9_improve yX9_improve, Cond.code yX9_improve cX9_improve 6 (some .boolean), Cond.constant RX9 61 (1000000), Cond.methodLink RX9 81 yX9_pairs, Cond.instanceMethod yX9_pairs, Cond.selects RX9 yX9_pairs yX9_pairs, Cond.code yX9_pairs cX9_pairs 3 (some .int), Cond.fieldLink RX9 16 "DyckReachabilityModel" "vertices" "I"]
def wsX9_share : List Cond := .code yX9_share cX9_share 6 (some .int) :: ((wsX9_share_r1 ++ wsX9_share_r2) ++ wsX90)
def wsX9_reliability_r1 : List Cond := [Cond.fieldLink RX9 54 "DyckReachabilityModel" "thrown" "I", Cond.constantLong RX9 189 (10), Cond.fieldLink RX9 20 "DyckReachabilityModel" "graph" "[I", Cond.methodLink RX9 129 yX9_noVertex, Cond.instanceMethod yX9_noVertex, Cond.selects RX9 yX9_noVertex yX9_noVertex, Cond.initialized RX9, Cond.code yX9_noVertex cX9_noVertex 2 (some .boolean), Cond.fieldLink RX9 16 "DyckReachabilityModel" "vertices" "I", Cond.methodLink RX9 57 yX9_in, Cond.static yX9_in, Cond.code yX9_in cX9_in 6 (some .boolean), Cond.methodLink RX9 77 yX9_closeOf, Cond.instanceMethod yX9_closeOf, Cond.selects RX9 yX9_closeOf yX9_closeOf, Cond.code yX9_closeOf cX9_closeOf 6 none, Cond.fieldLink RX9 51 "DyckReachabilityModel" "wide" "[I", Cond.methodLink RX9 69 yX9_has, Cond.static yX9_has, Cond.code yX9_has cX9_has 2 (some .boolean), Cond.methodLink RX9 73 yX9_close, Cond.instanceMethod yX9_close, Cond.selects RX9 yX9_close yX9_close, Cond.code yX9_close cX9_close 7 none]
def wsX9_reliability_r2 : List Cond := [Cond.fieldLink RX9 45 "DyckReachabilityModel" "lengths" "[I", Cond.constant RX9 62 (2000000), Cond.constantLong RX9 67 (3), Cond.methodLink RX9 63 yX9_improve, Cond.instanceMethod yX9_improve, Cond.selects RX9 yX9_improve yX9_improve, Cond.code yX9_improve cX9_improve 6 (some .boolean), Cond.constant RX9 61 (1000000), Cond.methodLink RX9 141 yX9_reaches, Cond.instanceMethod yX9_reaches, Cond.selects RX9 yX9_reaches yX9_reaches, Cond.code yX9_reaches cX9_reaches 3 (some .boolean)]
def wsX9_reliability : List Cond := .code yX9_reliability cX9_reliability 9 (some .int) :: ((wsX9_reliability_r1 ++ wsX9_reliability_r2) ++ wsX90)
def wsX9_setSeed : List Cond := .code yX9_setSeed cX9_setSeed 5 (some .long) :: ([.fieldLink RX9 54 "DyckReachabilityModel" "thrown" "I", .fieldLink RX9 191 "DyckReachabilityModel" "seed" "J"] ++ wsX90)
def wsX9_toggle : List Cond := .code yX9_toggle cX9_toggle 6 none :: ([.fieldLink RX9 23 "DyckReachabilityModel" "copy" "[I", .methodLink RX9 137 yX9_drop, .static yX9_drop, .initialized RX9, .code yX9_drop cX9_drop 3 none, .methodLink RX9 111 yX9_put, .static yX9_put, .code yX9_put cX9_put 5 none] ++ wsX90)
def wsX9_simulate_r1 : List Cond := [Cond.fieldLink RX9 54 "DyckReachabilityModel" "thrown" "I", Cond.constantLong RX9 195 (40), Cond.fieldLink RX9 20 "DyckReachabilityModel" "graph" "[I", Cond.fieldLink RX9 23 "DyckReachabilityModel" "copy" "[I", Cond.fieldLink RX9 191 "DyckReachabilityModel" "seed" "J", Cond.constantLong RX9 197 (6364136223846793005), Cond.constantLong RX9 199 (1442695040888963407), Cond.fieldLink RX9 16 "DyckReachabilityModel" "vertices" "I", Cond.constant RX9 140 (65535), Cond.methodLink RX9 57 yX9_in, Cond.static yX9_in, Cond.initialized RX9, Cond.code yX9_in cX9_in 6 (some .boolean), Cond.methodLink RX9 118 yX9_assign, Cond.static yX9_assign, Cond.code yX9_assign cX9_assign 3 none, Cond.methodLink RX9 201 yX9_toggle, Cond.instanceMethod yX9_toggle, Cond.selects RX9 yX9_toggle yX9_toggle, Cond.code yX9_toggle cX9_toggle 6 none, Cond.methodLink RX9 137 yX9_drop, Cond.static yX9_drop, Cond.code yX9_drop cX9_drop 3 none, Cond.methodLink RX9 111 yX9_put]
def wsX9_simulate_r2 : List Cond := [Cond.static yX9_put, Cond.code yX9_put cX9_put 5 none, Cond.methodLink RX9 144 yX9_pairsOf, Cond.instanceMethod yX9_pairsOf, Cond.selects RX9 yX9_pairsOf yX9_pairsOf, Cond.code yX9_pairsOf cX9_pairsOf 3 (some .int), Cond.methodLink RX9 77 yX9_closeOf, Cond.instanceMethod yX9_closeOf, Cond.selects RX9 yX9_closeOf yX9_closeOf, Cond.code yX9_closeOf cX9_closeOf 6 none, Cond.fieldLink RX9 51 "DyckReachabilityModel" "wide" "[I", Cond.methodLink RX9 69 yX9_has, Cond.static yX9_has, Cond.code yX9_has cX9_has 2 (some .boolean), Cond.methodLink RX9 73 yX9_close, Cond.instanceMethod yX9_close, Cond.selects RX9 yX9_close yX9_close, Cond.code yX9_close cX9_close 7 none, Cond.fieldLink RX9 45 "DyckReachabilityModel" "lengths" "[I", Cond.constant RX9 62 (2000000), Cond.constantLong RX9 67 (3), Cond.methodLink RX9 63 yX9_improve, Cond.instanceMethod yX9_improve, Cond.selects RX9 yX9_improve yX9_improve]
def wsX9_simulate_r3 : List Cond := [Cond.code yX9_improve cX9_improve 6 (some .boolean), Cond.constant RX9 61 (1000000), Cond.methodLink RX9 81 yX9_pairs, Cond.instanceMethod yX9_pairs, Cond.selects RX9 yX9_pairs yX9_pairs, Cond.code yX9_pairs cX9_pairs 3 (some .int)]
def wsX9_simulate : List Cond := .code yX9_simulate cX9_simulate 5 (some .int) :: ((wsX9_simulate_r1 ++ (wsX9_simulate_r2 ++ wsX9_simulate_r3)) ++ wsX90)
def wsX9_save : List Cond := .code yX9_save cX9_save 3 (some .int) :: ([.fieldLink RX9 54 "DyckReachabilityModel" "thrown" "I", .fieldLink RX9 32 "DyckReachabilityModel" "slotUsed" "[Z", .fieldLink RX9 29 "DyckReachabilityModel" "slots" "[I", .fieldLink RX9 20 "DyckReachabilityModel" "graph" "[I", .methodLink RX9 57 yX9_in, .static yX9_in, .initialized RX9, .code yX9_in cX9_in 6 (some .boolean)] ++ wsX90)
def wsX9_restore : List Cond := .code yX9_restore cX9_restore 3 (some .int) :: ([.fieldLink RX9 54 "DyckReachabilityModel" "thrown" "I", .fieldLink RX9 32 "DyckReachabilityModel" "slotUsed" "[Z", .fieldLink RX9 20 "DyckReachabilityModel" "graph" "[I", .fieldLink RX9 29 "DyckReachabilityModel" "slots" "[I", .fieldLink RX9 122 "DyckReachabilityModel" "remembered" "I", .methodLink RX9 57 yX9_in, .static yX9_in, .initialized RX9, .code yX9_in cX9_in 6 (some .boolean)] ++ wsX90)
def wsJ9_min_7cf53 : List Cond := .code yJ9_min_7cf53 cJ9_min_7cf53 2 (some .int) :: ([])
theorem inX0 : ∀ w ∈ wsX00, w ∈ lw_tbl := by decide +kernel
theorem inX6 : ∀ w ∈ wsX60, w ∈ lw_tbl := by decide +kernel
theorem inX7 : ∀ w ∈ wsX70, w ∈ lw_tbl := by decide +kernel
theorem inJ6 : ∀ w ∈ wsJ60, w ∈ lw_tbl := by decide +kernel
theorem inJ13 : ∀ w ∈ wsJ130, w ∈ lw_tbl := by decide +kernel
theorem inJ9 : ∀ w ∈ wsJ90, w ∈ lw_tbl := by decide +kernel
theorem dX0_ordersOf_0 : decode cX0_ordersOf 0 = .ok (.iload_n 1, 1) := by decide +kernel
theorem dX0_ordersOf_1 : decode cX0_ordersOf 1 = .ok (.iconst 1, 1) := by decide +kernel
theorem dX0_ordersOf_2 : decode cX0_ordersOf 2 = .ok (.isub, 1) := by decide +kernel
theorem dX0_ordersOf_3 : decode cX0_ordersOf 3 = .ok (.iload_n 0, 1) := by decide +kernel
theorem dX0_ordersOf_4 : decode cX0_ordersOf 4 = .ok (.isub, 1) := by decide +kernel
theorem dX0_ordersOf_5 : decode cX0_ordersOf 5 = .ok (.istore_n 2, 1) := by decide +kernel
theorem dX0_ordersOf_6 : decode cX0_ordersOf 6 = .ok (.iload_n 0, 1) := by decide +kernel
theorem dX0_ordersOf_7 : decode cX0_ordersOf 7 = .ok (.ifCond .lt 13, 3) := by decide +kernel
theorem dX0_ordersOf_10 : decode cX0_ordersOf 10 = .ok (.iload_n 2, 1) := by decide +kernel
theorem dX0_ordersOf_11 : decode cX0_ordersOf 11 = .ok (.ifCond .lt 9, 3) := by decide +kernel
theorem dX0_ordersOf_14 : decode cX0_ordersOf 14 = .ok (.iload_n 1, 1) := by decide +kernel
theorem dX0_ordersOf_15 : decode cX0_ordersOf 15 = .ok (.bipush 8, 2) := by decide +kernel
theorem dX0_ordersOf_17 : decode cX0_ordersOf 17 = .ok (.if_icmp .le 5, 3) := by decide +kernel
theorem dX0_ordersOf_20 : decode cX0_ordersOf 20 = .ok (.iconst 0, 1) := by decide +kernel
theorem dX0_ordersOf_21 : decode cX0_ordersOf 21 = .ok (.ireturn, 1) := by decide +kernel
theorem dX0_ordersOf_22 : decode cX0_ordersOf 22 = .ok (.getstatic 11, 3) := by decide +kernel
theorem dX0_ordersOf_25 : decode cX0_ordersOf 25 = .ok (.iload_n 0, 1) := by decide +kernel
theorem dX0_ordersOf_26 : decode cX0_ordersOf 26 = .ok (.iaload, 1) := by decide +kernel
theorem dX0_ordersOf_27 : decode cX0_ordersOf 27 = .ok (.getstatic 11, 3) := by decide +kernel
theorem dX0_ordersOf_30 : decode cX0_ordersOf 30 = .ok (.iload_n 2, 1) := by decide +kernel
theorem dX0_ordersOf_31 : decode cX0_ordersOf 31 = .ok (.iaload, 1) := by decide +kernel
theorem dX0_ordersOf_32 : decode cX0_ordersOf 32 = .ok (.imul, 1) := by decide +kernel
theorem dX0_ordersOf_33 : decode cX0_ordersOf 33 = .ok (.getstatic 15, 3) := by decide +kernel
theorem dX0_ordersOf_36 : decode cX0_ordersOf 36 = .ok (.iload_n 1, 1) := by decide +kernel
theorem dX0_ordersOf_37 : decode cX0_ordersOf 37 = .ok (.iaload, 1) := by decide +kernel
theorem dX0_ordersOf_38 : decode cX0_ordersOf 38 = .ok (.imul, 1) := by decide +kernel
theorem dX0_ordersOf_39 : decode cX0_ordersOf 39 = .ok (.ireturn, 1) := by decide +kernel
theorem dX0_power_0 : decode cX0_power 0 = .ok (.iconst 1, 1) := by decide +kernel
theorem dX0_power_1 : decode cX0_power 1 = .ok (.istore_n 2, 1) := by decide +kernel
theorem dX0_power_2 : decode cX0_power 2 = .ok (.iconst 0, 1) := by decide +kernel
theorem dX0_power_3 : decode cX0_power 3 = .ok (.istore_n 3, 1) := by decide +kernel
theorem dX0_power_4 : decode cX0_power 4 = .ok (.iload_n 3, 1) := by decide +kernel
theorem dX0_power_5 : decode cX0_power 5 = .ok (.iload_n 1, 1) := by decide +kernel
theorem dX0_power_6 : decode cX0_power 6 = .ok (.if_icmp .ge 13, 3) := by decide +kernel
theorem dX0_power_9 : decode cX0_power 9 = .ok (.iload_n 2, 1) := by decide +kernel
theorem dX0_power_10 : decode cX0_power 10 = .ok (.iload_n 0, 1) := by decide +kernel
theorem dX0_power_11 : decode cX0_power 11 = .ok (.imul, 1) := by decide +kernel
theorem dX0_power_12 : decode cX0_power 12 = .ok (.istore_n 2, 1) := by decide +kernel
theorem dX0_power_13 : decode cX0_power 13 = .ok (.iinc 3 1, 3) := by decide +kernel
theorem dX0_power_16 : decode cX0_power 16 = .ok (.goto (-12), 3) := by decide +kernel
theorem dX0_power_19 : decode cX0_power 19 = .ok (.iload_n 2, 1) := by decide +kernel
theorem dX0_power_20 : decode cX0_power 20 = .ok (.ireturn, 1) := by decide +kernel
theorem dX0_nextSeed_0 : decode cX0_nextSeed 0 = .ok (.lload_n 0, 1) := by decide +kernel
theorem dX0_nextSeed_1 : decode cX0_nextSeed 1 = .ok (.ldc2_w 18, 3) := by decide +kernel
theorem dX0_nextSeed_4 : decode cX0_nextSeed 4 = .ok (.lmul, 1) := by decide +kernel
theorem dX0_nextSeed_5 : decode cX0_nextSeed 5 = .ok (.ldc2_w 20, 3) := by decide +kernel
theorem dX0_nextSeed_8 : decode cX0_nextSeed 8 = .ok (.ladd, 1) := by decide +kernel
theorem dX0_nextSeed_9 : decode cX0_nextSeed 9 = .ok (.lreturn, 1) := by decide +kernel
set_option maxRecDepth 20000 in
theorem ggX0_change_X2_find : GoodIn wsX0_change wsX2_find := goodIn_r _ [5, 6, 7, 8, 9, 26, 27, 28, 29] (by decide +kernel) (by decide +kernel)
set_option maxRecDepth 20000 in
theorem gX0_change_X2_find : GoodIn wsX0_change (wsV RX0 22 RX2 yX2_find wsX2_find) := goodIn_app (goodIn_of _ (by decide +kernel)) ggX0_change_X2_find
set_option maxRecDepth 20000 in
theorem ggX0_change_X2_put : GoodIn wsX0_change wsX2_put := goodIn_r _ [13, 7, 6, 8, 9, 14, 15, 16, 4, 17, 26, 27, 28, 29] (by decide +kernel) (by decide +kernel)
set_option maxRecDepth 20000 in
theorem gX0_change_X2_put : GoodIn wsX0_change (wsV RX0 28 RX2 yX2_put wsX2_put) := goodIn_app (goodIn_of _ (by decide +kernel)) ggX0_change_X2_put
set_option maxRecDepth 20000 in
theorem ggX0_change_X2_drop : GoodIn wsX0_change wsX2_drop := goodIn_r _ [21, 6, 7, 8, 9, 22, 23, 24, 4, 25, 26, 27, 28, 29] (by decide +kernel) (by decide +kernel)
set_option maxRecDepth 20000 in
theorem gX0_change_X2_drop : GoodIn wsX0_change (wsV RX0 32 RX2 yX2_drop wsX2_drop) := goodIn_app (goodIn_of _ (by decide +kernel)) ggX0_change_X2_drop
theorem dX0_change_0 : decode cX0_change 0 = .ok (.iload_n 1, 1) := by decide +kernel
theorem dX0_change_1 : decode cX0_change 1 = .ok (.iconst 1, 1) := by decide +kernel
theorem dX0_change_2 : decode cX0_change 2 = .ok (.if_icmp .ge 4, 3) := by decide +kernel
theorem dX0_change_5 : decode cX0_change 5 = .ok (.return_, 1) := by decide +kernel
theorem dX0_change_6 : decode cX0_change 6 = .ok (.iload_n 2, 1) := by decide +kernel
theorem dX0_change_7 : decode cX0_change 7 = .ok (.iload_n 1, 1) := by decide +kernel
theorem dX0_change_8 : decode cX0_change 8 = .ok (.irem, 1) := by decide +kernel
theorem dX0_change_9 : decode cX0_change 9 = .ok (.istore_n 3, 1) := by decide +kernel
theorem dX0_change_10 : decode cX0_change 10 = .ok (.iload_n 2, 1) := by decide +kernel
theorem dX0_change_11 : decode cX0_change 11 = .ok (.bipush 8, 2) := by decide +kernel
theorem dX0_change_13 : decode cX0_change 13 = .ok (.idiv, 1) := by decide +kernel
theorem dX0_change_14 : decode cX0_change 14 = .ok (.iload_n 1, 1) := by decide +kernel
theorem dX0_change_15 : decode cX0_change 15 = .ok (.irem, 1) := by decide +kernel
theorem dX0_change_16 : decode cX0_change 16 = .ok (.istore 4, 2) := by decide +kernel
theorem dX0_change_18 : decode cX0_change 18 = .ok (.iload_n 2, 1) := by decide +kernel
theorem dX0_change_19 : decode cX0_change 19 = .ok (.bipush 64, 2) := by decide +kernel
theorem dX0_change_21 : decode cX0_change 21 = .ok (.idiv, 1) := by decide +kernel
theorem dX0_change_22 : decode cX0_change 22 = .ok (.bipush 7, 2) := by decide +kernel
theorem dX0_change_24 : decode cX0_change 24 = .ok (.irem, 1) := by decide +kernel
theorem dX0_change_25 : decode cX0_change 25 = .ok (.istore 5, 2) := by decide +kernel
theorem dX0_change_27 : decode cX0_change 27 = .ok (.aload_n 0, 1) := by decide +kernel
theorem dX0_change_28 : decode cX0_change 28 = .ok (.iload_n 3, 1) := by decide +kernel
theorem dX0_change_29 : decode cX0_change 29 = .ok (.iload 4, 2) := by decide +kernel
theorem dX0_change_31 : decode cX0_change 31 = .ok (.iload 5, 2) := by decide +kernel
theorem dX0_change_33 : decode cX0_change 33 = .ok (.invokevirtual 22, 3) := by decide +kernel
theorem dX0_change_36 : decode cX0_change 36 = .ok (.istore 6, 2) := by decide +kernel
theorem dX0_change_38 : decode cX0_change 38 = .ok (.iload 6, 2) := by decide +kernel
theorem dX0_change_40 : decode cX0_change 40 = .ok (.bipush (-9), 2) := by decide +kernel
theorem dX0_change_42 : decode cX0_change 42 = .ok (.if_icmp .ne 15, 3) := by decide +kernel
theorem dX0_change_45 : decode cX0_change 45 = .ok (.aload_n 0, 1) := by decide +kernel
theorem dX0_change_46 : decode cX0_change 46 = .ok (.iload_n 3, 1) := by decide +kernel
theorem dX0_change_47 : decode cX0_change 47 = .ok (.iload 4, 2) := by decide +kernel
theorem dX0_change_49 : decode cX0_change 49 = .ok (.iload 5, 2) := by decide +kernel
theorem dX0_change_51 : decode cX0_change 51 = .ok (.invokevirtual 28, 3) := by decide +kernel
theorem dX0_change_54 : decode cX0_change 54 = .ok (.goto 9, 3) := by decide +kernel
theorem dX0_change_57 : decode cX0_change 57 = .ok (.aload_n 0, 1) := by decide +kernel
theorem dX0_change_58 : decode cX0_change 58 = .ok (.iload 6, 2) := by decide +kernel
theorem dX0_change_60 : decode cX0_change 60 = .ok (.invokevirtual 32, 3) := by decide +kernel
theorem dX0_change_63 : decode cX0_change 63 = .ok (.return_, 1) := by decide +kernel
theorem dX1_init_0 : decode cX1_init 0 = .ok (.aload_n 0, 1) := by decide +kernel
theorem dX1_init_1 : decode cX1_init 1 = .ok (.invokespecial 5, 3) := by decide +kernel
theorem dX1_init_4 : decode cX1_init 4 = .ok (.aload_n 0, 1) := by decide +kernel
theorem dX1_init_5 : decode cX1_init 5 = .ok (.bipush 64, 2) := by decide +kernel
theorem dX1_init_7 : decode cX1_init 7 = .ok (.newarray .int, 2) := by decide +kernel
theorem dX1_init_9 : decode cX1_init 9 = .ok (.putfield 11, 3) := by decide +kernel
theorem dX1_init_12 : decode cX1_init 12 = .ok (.aload_n 0, 1) := by decide +kernel
theorem dX1_init_13 : decode cX1_init 13 = .ok (.iconst 0, 1) := by decide +kernel
theorem dX1_init_14 : decode cX1_init 14 = .ok (.putfield 15, 3) := by decide +kernel
theorem dX1_init_17 : decode cX1_init 17 = .ok (.return_, 1) := by decide +kernel
theorem dX1_between_0 : decode cX1_between 0 = .ok (.bipush 8, 2) := by decide +kernel
theorem dX1_between_2 : decode cX1_between 2 = .ok (.iload_n 1, 1) := by decide +kernel
theorem dX1_between_3 : decode cX1_between 3 = .ok (.imul, 1) := by decide +kernel
theorem dX1_between_4 : decode cX1_between 4 = .ok (.iload_n 2, 1) := by decide +kernel
theorem dX1_between_5 : decode cX1_between 5 = .ok (.iadd, 1) := by decide +kernel
theorem dX1_between_6 : decode cX1_between 6 = .ok (.istore_n 3, 1) := by decide +kernel
theorem dX1_between_7 : decode cX1_between 7 = .ok (.iload_n 3, 1) := by decide +kernel
theorem dX1_between_8 : decode cX1_between 8 = .ok (.ifCond .lt 18, 3) := by decide +kernel
theorem dX1_between_11 : decode cX1_between 11 = .ok (.iload_n 3, 1) := by decide +kernel
theorem dX1_between_12 : decode cX1_between 12 = .ok (.bipush 64, 2) := by decide +kernel
theorem dX1_between_14 : decode cX1_between 14 = .ok (.if_icmp .ge 12, 3) := by decide +kernel
theorem dX1_between_17 : decode cX1_between 17 = .ok (.aload_n 0, 1) := by decide +kernel
theorem dX1_between_18 : decode cX1_between 18 = .ok (.getfield 11, 3) := by decide +kernel
theorem dX1_between_21 : decode cX1_between 21 = .ok (.iload_n 3, 1) := by decide +kernel
theorem dX1_between_22 : decode cX1_between 22 = .ok (.iaload, 1) := by decide +kernel
theorem dX1_between_23 : decode cX1_between 23 = .ok (.goto 5, 3) := by decide +kernel
theorem dX1_between_26 : decode cX1_between 26 = .ok (.ldc 19, 2) := by decide +kernel
theorem dX1_between_28 : decode cX1_between 28 = .ok (.ireturn, 1) := by decide +kernel
set_option maxRecDepth 20000 in
theorem ggX1_reaches_X1_between : GoodIn wsX1_reaches wsX1_between := goodIn_r _ [6, 7, 1, 8, 9] (by decide +kernel) (by decide +kernel)
set_option maxRecDepth 20000 in
theorem gX1_reaches_X1_between : GoodIn wsX1_reaches (wsV RX1 20 RX1 yX1_between wsX1_between) := goodIn_app (goodIn_of _ (by decide +kernel)) ggX1_reaches_X1_between
theorem dX1_reaches_0 : decode cX1_reaches 0 = .ok (.aload_n 0, 1) := by decide +kernel
theorem dX1_reaches_1 : decode cX1_reaches 1 = .ok (.iload_n 1, 1) := by decide +kernel
theorem dX1_reaches_2 : decode cX1_reaches 2 = .ok (.iload_n 2, 1) := by decide +kernel
theorem dX1_reaches_3 : decode cX1_reaches 3 = .ok (.invokevirtual 20, 3) := by decide +kernel
theorem dX1_reaches_6 : decode cX1_reaches 6 = .ok (.ldc 19, 2) := by decide +kernel
theorem dX1_reaches_8 : decode cX1_reaches 8 = .ok (.if_icmp .eq 7, 3) := by decide +kernel
theorem dX1_reaches_11 : decode cX1_reaches 11 = .ok (.iconst 1, 1) := by decide +kernel
theorem dX1_reaches_12 : decode cX1_reaches 12 = .ok (.goto 4, 3) := by decide +kernel
theorem dX1_reaches_15 : decode cX1_reaches 15 = .ok (.iconst 0, 1) := by decide +kernel
theorem dX1_reaches_16 : decode cX1_reaches 16 = .ok (.ireturn, 1) := by decide +kernel
set_option maxRecDepth 20000 in
theorem ggX1_measure_X1_shortenBehind : GoodIn wsX1_measure wsX1_shortenBehind := goodIn_r _ [13, 14, 15, 8, 16, 17, 18, 19, 20, 21, 22, 23, 24, 12, 25, 5, 26, 1, 2, 3, 4, 6, 27, 28, 29, 30, 31, 32, 33, 7, 34, 35, 36, 37, 38, 39, 40, 41, 42, 43, 44, 45, 48, 49, 50, 51, 46, 47] (by decide +kernel) (by decide +kernel)
set_option maxRecDepth 20000 in
theorem gX1_measure_X1_shortenBehind : GoodIn wsX1_measure (wsV RX1 34 RX1 yX1_shortenBehind wsX1_shortenBehind) := goodIn_app (goodIn_of _ (by decide +kernel)) ggX1_measure_X1_shortenBehind
theorem dX1_measure_0 : decode cX1_measure 0 = .ok (.aload_n 0, 1) := by decide +kernel
theorem dX1_measure_1 : decode cX1_measure 1 = .ok (.iload_n 2, 1) := by decide +kernel
theorem dX1_measure_2 : decode cX1_measure 2 = .ok (.bipush 8, 2) := by decide +kernel
theorem dX1_measure_4 : decode cX1_measure 4 = .ok (.invokestatic 24, 3) := by decide +kernel
theorem dX1_measure_7 : decode cX1_measure 7 = .ok (.putfield 15, 3) := by decide +kernel
theorem dX1_measure_10 : decode cX1_measure 10 = .ok (.iconst 0, 1) := by decide +kernel
theorem dX1_measure_11 : decode cX1_measure 11 = .ok (.istore_n 3, 1) := by decide +kernel
theorem dX1_measure_12 : decode cX1_measure 12 = .ok (.iload_n 3, 1) := by decide +kernel
theorem dX1_measure_13 : decode cX1_measure 13 = .ok (.bipush 64, 2) := by decide +kernel
theorem dX1_measure_15 : decode cX1_measure 15 = .ok (.if_icmp .ge 17, 3) := by decide +kernel
theorem dX1_measure_18 : decode cX1_measure 18 = .ok (.aload_n 0, 1) := by decide +kernel
theorem dX1_measure_19 : decode cX1_measure 19 = .ok (.getfield 11, 3) := by decide +kernel
theorem dX1_measure_22 : decode cX1_measure 22 = .ok (.iload_n 3, 1) := by decide +kernel
theorem dX1_measure_23 : decode cX1_measure 23 = .ok (.ldc 19, 2) := by decide +kernel
theorem dX1_measure_25 : decode cX1_measure 25 = .ok (.iastore, 1) := by decide +kernel
theorem dX1_measure_26 : decode cX1_measure 26 = .ok (.iinc 3 1, 3) := by decide +kernel
theorem dX1_measure_29 : decode cX1_measure 29 = .ok (.goto (-17), 3) := by decide +kernel
theorem dX1_measure_32 : decode cX1_measure 32 = .ok (.iconst 0, 1) := by decide +kernel
theorem dX1_measure_33 : decode cX1_measure 33 = .ok (.istore_n 3, 1) := by decide +kernel
theorem dX1_measure_34 : decode cX1_measure 34 = .ok (.iload_n 3, 1) := by decide +kernel
theorem dX1_measure_35 : decode cX1_measure 35 = .ok (.aload_n 0, 1) := by decide +kernel
theorem dX1_measure_36 : decode cX1_measure 36 = .ok (.getfield 15, 3) := by decide +kernel
theorem dX1_measure_39 : decode cX1_measure 39 = .ok (.if_icmp .ge 21, 3) := by decide +kernel
theorem dX1_measure_42 : decode cX1_measure 42 = .ok (.aload_n 0, 1) := by decide +kernel
theorem dX1_measure_43 : decode cX1_measure 43 = .ok (.getfield 11, 3) := by decide +kernel
theorem dX1_measure_46 : decode cX1_measure 46 = .ok (.bipush 8, 2) := by decide +kernel
theorem dX1_measure_48 : decode cX1_measure 48 = .ok (.iload_n 3, 1) := by decide +kernel
theorem dX1_measure_49 : decode cX1_measure 49 = .ok (.imul, 1) := by decide +kernel
theorem dX1_measure_50 : decode cX1_measure 50 = .ok (.iload_n 3, 1) := by decide +kernel
theorem dX1_measure_51 : decode cX1_measure 51 = .ok (.iadd, 1) := by decide +kernel
theorem dX1_measure_52 : decode cX1_measure 52 = .ok (.iconst 0, 1) := by decide +kernel
theorem dX1_measure_53 : decode cX1_measure 53 = .ok (.iastore, 1) := by decide +kernel
theorem dX1_measure_54 : decode cX1_measure 54 = .ok (.iinc 3 1, 3) := by decide +kernel
theorem dX1_measure_57 : decode cX1_measure 57 = .ok (.goto (-23), 3) := by decide +kernel
theorem dX1_measure_60 : decode cX1_measure 60 = .ok (.iconst 1, 1) := by decide +kernel
theorem dX1_measure_61 : decode cX1_measure 61 = .ok (.istore_n 3, 1) := by decide +kernel
theorem dX1_measure_62 : decode cX1_measure 62 = .ok (.iconst 0, 1) := by decide +kernel
theorem dX1_measure_63 : decode cX1_measure 63 = .ok (.istore 4, 2) := by decide +kernel
theorem dX1_measure_65 : decode cX1_measure 65 = .ok (.iload 4, 2) := by decide +kernel
theorem dX1_measure_67 : decode cX1_measure 67 = .ok (.bipush 64, 2) := by decide +kernel
theorem dX1_measure_69 : decode cX1_measure 69 = .ok (.if_icmp .gt 45, 3) := by decide +kernel
theorem dX1_measure_72 : decode cX1_measure 72 = .ok (.iload_n 3, 1) := by decide +kernel
theorem dX1_measure_73 : decode cX1_measure 73 = .ok (.ifCond .eq 41, 3) := by decide +kernel
theorem dX1_measure_76 : decode cX1_measure 76 = .ok (.iconst 0, 1) := by decide +kernel
theorem dX1_measure_77 : decode cX1_measure 77 = .ok (.istore_n 3, 1) := by decide +kernel
theorem dX1_measure_78 : decode cX1_measure 78 = .ok (.iconst 0, 1) := by decide +kernel
theorem dX1_measure_79 : decode cX1_measure 79 = .ok (.istore 5, 2) := by decide +kernel
theorem dX1_measure_81 : decode cX1_measure 81 = .ok (.iload 5, 2) := by decide +kernel
theorem dX1_measure_83 : decode cX1_measure 83 = .ok (.aload_n 1, 1) := by decide +kernel
theorem dX1_measure_84 : decode cX1_measure 84 = .ok (.getfield 29, 3) := by decide +kernel
theorem dX1_measure_87 : decode cX1_measure 87 = .ok (.if_icmp .ge 21, 3) := by decide +kernel
theorem dX1_measure_90 : decode cX1_measure 90 = .ok (.aload_n 0, 1) := by decide +kernel
theorem dX1_measure_91 : decode cX1_measure 91 = .ok (.iload 5, 2) := by decide +kernel
theorem dX1_measure_93 : decode cX1_measure 93 = .ok (.aload_n 1, 1) := by decide +kernel
theorem dX1_measure_94 : decode cX1_measure 94 = .ok (.invokevirtual 34, 3) := by decide +kernel
theorem dX1_measure_97 : decode cX1_measure 97 = .ok (.ifCond .eq 5, 3) := by decide +kernel
theorem dX1_measure_100 : decode cX1_measure 100 = .ok (.iconst 1, 1) := by decide +kernel
theorem dX1_measure_101 : decode cX1_measure 101 = .ok (.istore_n 3, 1) := by decide +kernel
theorem dX1_measure_102 : decode cX1_measure 102 = .ok (.iinc 5 1, 3) := by decide +kernel
theorem dX1_measure_105 : decode cX1_measure 105 = .ok (.goto (-24), 3) := by decide +kernel
theorem dX1_measure_108 : decode cX1_measure 108 = .ok (.iinc 4 1, 3) := by decide +kernel
theorem dX1_measure_111 : decode cX1_measure 111 = .ok (.goto (-46), 3) := by decide +kernel
theorem dX1_measure_114 : decode cX1_measure 114 = .ok (.return_, 1) := by decide +kernel
set_option maxRecDepth 20000 in
theorem ggX1_shortenBehind_X2_isEmptyLabelled : GoodIn wsX1_shortenBehind wsX2_isEmptyLabelled := goodIn_r _ [8, 9, 42, 43, 44, 45] (by decide +kernel) (by decide +kernel)
set_option maxRecDepth 20000 in
theorem gX1_shortenBehind_X2_isEmptyLabelled : GoodIn wsX1_shortenBehind (wsV RX1 44 RX2 yX2_isEmptyLabelled wsX2_isEmptyLabelled) := goodIn_app (goodIn_of _ (by decide +kernel)) ggX1_shortenBehind_X2_isEmptyLabelled
set_option maxRecDepth 20000 in
theorem ggX1_shortenBehind_X1_shorten : GoodIn wsX1_shortenBehind wsX1_shorten := goodIn_r _ [14, 15, 16, 17, 18, 19, 20, 21, 22, 23, 24, 25, 26, 27, 13, 28, 29, 30, 31, 32, 33, 46, 47] (by decide +kernel) (by decide +kernel)
set_option maxRecDepth 20000 in
theorem gX1_shortenBehind_X1_shorten : GoodIn wsX1_shortenBehind (wsV RX1 48 RX1 yX1_shorten wsX1_shorten) := goodIn_app (goodIn_of _ (by decide +kernel)) ggX1_shortenBehind_X1_shorten
set_option maxRecDepth 20000 in
theorem ggX1_shortenBehind_X2_opens : GoodIn wsX1_shortenBehind wsX2_opens := goodIn_r _ [37, 9, 42, 43, 44, 45] (by decide +kernel) (by decide +kernel)
set_option maxRecDepth 20000 in
theorem gX1_shortenBehind_X2_opens : GoodIn wsX1_shortenBehind (wsV RX1 52 RX2 yX2_opens wsX2_opens) := goodIn_app (goodIn_of _ (by decide +kernel)) ggX1_shortenBehind_X2_opens
set_option maxRecDepth 20000 in
theorem ggX1_shortenBehind_X2_closes : GoodIn wsX1_shortenBehind wsX2_closes := goodIn_r _ [41, 9, 42, 43, 44, 45] (by decide +kernel) (by decide +kernel)
set_option maxRecDepth 20000 in
theorem gX1_shortenBehind_X2_closes : GoodIn wsX1_shortenBehind (wsV RX1 55 RX2 yX2_closes wsX2_closes) := goodIn_app (goodIn_of _ (by decide +kernel)) ggX1_shortenBehind_X2_closes
set_option maxRecDepth 20000 in
theorem ggX1_shortenBehind_X1_reaches : GoodIn wsX1_shortenBehind wsX1_reaches := goodIn_r _ [28, 29, 30, 31, 32, 13, 33, 21, 46, 47] (by decide +kernel) (by decide +kernel)
set_option maxRecDepth 20000 in
theorem gX1_shortenBehind_X1_reaches : GoodIn wsX1_shortenBehind (wsV RX1 59 RX1 yX1_reaches wsX1_reaches) := goodIn_app (goodIn_of _ (by decide +kernel)) ggX1_shortenBehind_X1_reaches
set_option maxRecDepth 20000 in
theorem ggX1_shortenBehind_X1_between : GoodIn wsX1_shortenBehind wsX1_between := goodIn_r _ [33, 21, 29, 46, 47] (by decide +kernel) (by decide +kernel)
set_option maxRecDepth 20000 in
theorem gX1_shortenBehind_X1_between : GoodIn wsX1_shortenBehind (wsV RX1 20 RX1 yX1_between wsX1_between) := goodIn_app (goodIn_of _ (by decide +kernel)) ggX1_shortenBehind_X1_between
theorem dX1_shortenBehind_0 : decode cX1_shortenBehind 0 = .ok (.aload_n 2, 1) := by decide +kernel
theorem dX1_shortenBehind_1 : decode cX1_shortenBehind 1 = .ok (.getfield 38, 3) := by decide +kernel
theorem dX1_shortenBehind_4 : decode cX1_shortenBehind 4 = .ok (.iload_n 1, 1) := by decide +kernel
theorem dX1_shortenBehind_5 : decode cX1_shortenBehind 5 = .ok (.iaload, 1) := by decide +kernel
theorem dX1_shortenBehind_6 : decode cX1_shortenBehind 6 = .ok (.istore_n 3, 1) := by decide +kernel
theorem dX1_shortenBehind_7 : decode cX1_shortenBehind 7 = .ok (.aload_n 2, 1) := by decide +kernel
theorem dX1_shortenBehind_8 : decode cX1_shortenBehind 8 = .ok (.getfield 41, 3) := by decide +kernel
theorem dX1_shortenBehind_11 : decode cX1_shortenBehind 11 = .ok (.iload_n 1, 1) := by decide +kernel
theorem dX1_shortenBehind_12 : decode cX1_shortenBehind 12 = .ok (.iaload, 1) := by decide +kernel
theorem dX1_shortenBehind_13 : decode cX1_shortenBehind 13 = .ok (.istore 4, 2) := by decide +kernel
theorem dX1_shortenBehind_15 : decode cX1_shortenBehind 15 = .ok (.aload_n 2, 1) := by decide +kernel
theorem dX1_shortenBehind_16 : decode cX1_shortenBehind 16 = .ok (.iload_n 1, 1) := by decide +kernel
theorem dX1_shortenBehind_17 : decode cX1_shortenBehind 17 = .ok (.invokevirtual 44, 3) := by decide +kernel
theorem dX1_shortenBehind_20 : decode cX1_shortenBehind 20 = .ok (.ifCond .eq 12, 3) := by decide +kernel
theorem dX1_shortenBehind_23 : decode cX1_shortenBehind 23 = .ok (.aload_n 0, 1) := by decide +kernel
theorem dX1_shortenBehind_24 : decode cX1_shortenBehind 24 = .ok (.iload_n 3, 1) := by decide +kernel
theorem dX1_shortenBehind_25 : decode cX1_shortenBehind 25 = .ok (.iconst 1, 1) := by decide +kernel
theorem dX1_shortenBehind_26 : decode cX1_shortenBehind 26 = .ok (.iload 4, 2) := by decide +kernel
theorem dX1_shortenBehind_28 : decode cX1_shortenBehind 28 = .ok (.invokevirtual 48, 3) := by decide +kernel
theorem dX1_shortenBehind_31 : decode cX1_shortenBehind 31 = .ok (.ireturn, 1) := by decide +kernel
theorem dX1_shortenBehind_32 : decode cX1_shortenBehind 32 = .ok (.aload_n 2, 1) := by decide +kernel
theorem dX1_shortenBehind_33 : decode cX1_shortenBehind 33 = .ok (.iload_n 1, 1) := by decide +kernel
theorem dX1_shortenBehind_34 : decode cX1_shortenBehind 34 = .ok (.invokevirtual 52, 3) := by decide +kernel
theorem dX1_shortenBehind_37 : decode cX1_shortenBehind 37 = .ok (.ifCond .ne 5, 3) := by decide +kernel
theorem dX1_shortenBehind_40 : decode cX1_shortenBehind 40 = .ok (.iconst 0, 1) := by decide +kernel
theorem dX1_shortenBehind_41 : decode cX1_shortenBehind 41 = .ok (.ireturn, 1) := by decide +kernel
theorem dX1_shortenBehind_42 : decode cX1_shortenBehind 42 = .ok (.iconst 0, 1) := by decide +kernel
theorem dX1_shortenBehind_43 : decode cX1_shortenBehind 43 = .ok (.istore 5, 2) := by decide +kernel
theorem dX1_shortenBehind_45 : decode cX1_shortenBehind 45 = .ok (.iconst 0, 1) := by decide +kernel
theorem dX1_shortenBehind_46 : decode cX1_shortenBehind 46 = .ok (.istore 6, 2) := by decide +kernel
theorem dX1_shortenBehind_48 : decode cX1_shortenBehind 48 = .ok (.iload 6, 2) := by decide +kernel
theorem dX1_shortenBehind_50 : decode cX1_shortenBehind 50 = .ok (.aload_n 2, 1) := by decide +kernel
theorem dX1_shortenBehind_51 : decode cX1_shortenBehind 51 = .ok (.getfield 29, 3) := by decide +kernel
theorem dX1_shortenBehind_54 : decode cX1_shortenBehind 54 = .ok (.if_icmp .ge 72, 3) := by decide +kernel
theorem dX1_shortenBehind_57 : decode cX1_shortenBehind 57 = .ok (.aload_n 2, 1) := by decide +kernel
theorem dX1_shortenBehind_58 : decode cX1_shortenBehind 58 = .ok (.iload 6, 2) := by decide +kernel
theorem dX1_shortenBehind_60 : decode cX1_shortenBehind 60 = .ok (.iload_n 1, 1) := by decide +kernel
theorem dX1_shortenBehind_61 : decode cX1_shortenBehind 61 = .ok (.invokevirtual 55, 3) := by decide +kernel
theorem dX1_shortenBehind_64 : decode cX1_shortenBehind 64 = .ok (.ifCond .eq 56, 3) := by decide +kernel
theorem dX1_shortenBehind_67 : decode cX1_shortenBehind 67 = .ok (.aload_n 0, 1) := by decide +kernel
theorem dX1_shortenBehind_68 : decode cX1_shortenBehind 68 = .ok (.iload 4, 2) := by decide +kernel
theorem dX1_shortenBehind_70 : decode cX1_shortenBehind 70 = .ok (.aload_n 2, 1) := by decide +kernel
theorem dX1_shortenBehind_71 : decode cX1_shortenBehind 71 = .ok (.getfield 38, 3) := by decide +kernel
theorem dX1_shortenBehind_74 : decode cX1_shortenBehind 74 = .ok (.iload 6, 2) := by decide +kernel
theorem dX1_shortenBehind_76 : decode cX1_shortenBehind 76 = .ok (.iaload, 1) := by decide +kernel
theorem dX1_shortenBehind_77 : decode cX1_shortenBehind 77 = .ok (.invokevirtual 59, 3) := by decide +kernel
theorem dX1_shortenBehind_80 : decode cX1_shortenBehind 80 = .ok (.ifCond .eq 40, 3) := by decide +kernel
theorem dX1_shortenBehind_83 : decode cX1_shortenBehind 83 = .ok (.aload_n 0, 1) := by decide +kernel
theorem dX1_shortenBehind_84 : decode cX1_shortenBehind 84 = .ok (.iload 4, 2) := by decide +kernel
theorem dX1_shortenBehind_86 : decode cX1_shortenBehind 86 = .ok (.aload_n 2, 1) := by decide +kernel
theorem dX1_shortenBehind_87 : decode cX1_shortenBehind 87 = .ok (.getfield 38, 3) := by decide +kernel
theorem dX1_shortenBehind_90 : decode cX1_shortenBehind 90 = .ok (.iload 6, 2) := by decide +kernel
theorem dX1_shortenBehind_92 : decode cX1_shortenBehind 92 = .ok (.iaload, 1) := by decide +kernel
theorem dX1_shortenBehind_93 : decode cX1_shortenBehind 93 = .ok (.invokevirtual 20, 3) := by decide +kernel
theorem dX1_shortenBehind_96 : decode cX1_shortenBehind 96 = .ok (.iconst 2, 1) := by decide +kernel
theorem dX1_shortenBehind_97 : decode cX1_shortenBehind 97 = .ok (.iadd, 1) := by decide +kernel
theorem dX1_shortenBehind_98 : decode cX1_shortenBehind 98 = .ok (.istore 7, 2) := by decide +kernel
theorem dX1_shortenBehind_100 : decode cX1_shortenBehind 100 = .ok (.aload_n 0, 1) := by decide +kernel
theorem dX1_shortenBehind_101 : decode cX1_shortenBehind 101 = .ok (.iload_n 3, 1) := by decide +kernel
theorem dX1_shortenBehind_102 : decode cX1_shortenBehind 102 = .ok (.iload 7, 2) := by decide +kernel
theorem dX1_shortenBehind_104 : decode cX1_shortenBehind 104 = .ok (.aload_n 2, 1) := by decide +kernel
theorem dX1_shortenBehind_105 : decode cX1_shortenBehind 105 = .ok (.getfield 41, 3) := by decide +kernel
theorem dX1_shortenBehind_108 : decode cX1_shortenBehind 108 = .ok (.iload 6, 2) := by decide +kernel
theorem dX1_shortenBehind_110 : decode cX1_shortenBehind 110 = .ok (.iaload, 1) := by decide +kernel
theorem dX1_shortenBehind_111 : decode cX1_shortenBehind 111 = .ok (.invokevirtual 48, 3) := by decide +kernel
theorem dX1_shortenBehind_114 : decode cX1_shortenBehind 114 = .ok (.ifCond .eq 6, 3) := by decide +kernel
theorem dX1_shortenBehind_117 : decode cX1_shortenBehind 117 = .ok (.iconst 1, 1) := by decide +kernel
theorem dX1_shortenBehind_118 : decode cX1_shortenBehind 118 = .ok (.istore 5, 2) := by decide +kernel
theorem dX1_shortenBehind_120 : decode cX1_shortenBehind 120 = .ok (.iinc 6 1, 3) := by decide +kernel
theorem dX1_shortenBehind_123 : decode cX1_shortenBehind 123 = .ok (.goto (-75), 3) := by decide +kernel
theorem dX1_shortenBehind_126 : decode cX1_shortenBehind 126 = .ok (.iload 5, 2) := by decide +kernel
theorem dX1_shortenBehind_128 : decode cX1_shortenBehind 128 = .ok (.ireturn, 1) := by decide +kernel
set_option maxRecDepth 20000 in
theorem ggX1_shorten_X8_isVertexNumber : GoodIn wsX1_shorten wsX8_isVertexNumber := goodIn_r _ [10] (by decide +kernel) (by decide +kernel)
set_option maxRecDepth 20000 in
theorem gX1_shorten_X8_isVertexNumber_n62 : GoodIn wsX1_shorten (wsX8_isVertexNumber) := ggX1_shorten_X8_isVertexNumber
set_option maxRecDepth 20000 in
theorem ggX1_shorten_X1_reaches : GoodIn wsX1_shorten wsX1_reaches := goodIn_r _ [15, 16, 17, 18, 19, 14, 20, 7, 21, 22] (by decide +kernel) (by decide +kernel)
set_option maxRecDepth 20000 in
theorem gX1_shorten_X1_reaches : GoodIn wsX1_shorten (wsV RX1 59 RX1 yX1_reaches wsX1_reaches) := goodIn_app (goodIn_of _ (by decide +kernel)) ggX1_shorten_X1_reaches
set_option maxRecDepth 20000 in
theorem ggX1_shorten_X1_between : GoodIn wsX1_shorten wsX1_between := goodIn_r _ [20, 7, 16, 21, 22] (by decide +kernel) (by decide +kernel)
set_option maxRecDepth 20000 in
theorem gX1_shorten_X1_between : GoodIn wsX1_shorten (wsV RX1 20 RX1 yX1_between wsX1_between) := goodIn_app (goodIn_of _ (by decide +kernel)) ggX1_shorten_X1_between
theorem dX1_shorten_0 : decode cX1_shorten 0 = .ok (.iload_n 1, 1) := by decide +kernel
theorem dX1_shorten_1 : decode cX1_shorten 1 = .ok (.invokestatic 62, 3) := by decide +kernel
theorem dX1_shorten_4 : decode cX1_shorten 4 = .ok (.ifCond .ne 5, 3) := by decide +kernel
theorem dX1_shorten_7 : decode cX1_shorten 7 = .ok (.iconst 0, 1) := by decide +kernel
theorem dX1_shorten_8 : decode cX1_shorten 8 = .ok (.ireturn, 1) := by decide +kernel
theorem dX1_shorten_9 : decode cX1_shorten 9 = .ok (.iconst 0, 1) := by decide +kernel
theorem dX1_shorten_10 : decode cX1_shorten 10 = .ok (.istore 4, 2) := by decide +kernel
theorem dX1_shorten_12 : decode cX1_shorten 12 = .ok (.iconst 0, 1) := by decide +kernel
theorem dX1_shorten_13 : decode cX1_shorten 13 = .ok (.istore 5, 2) := by decide +kernel
theorem dX1_shorten_15 : decode cX1_shorten 15 = .ok (.iload 5, 2) := by decide +kernel
theorem dX1_shorten_17 : decode cX1_shorten 17 = .ok (.aload_n 0, 1) := by decide +kernel
theorem dX1_shorten_18 : decode cX1_shorten 18 = .ok (.getfield 15, 3) := by decide +kernel
theorem dX1_shorten_21 : decode cX1_shorten 21 = .ok (.if_icmp .ge 64, 3) := by decide +kernel
theorem dX1_shorten_24 : decode cX1_shorten 24 = .ok (.aload_n 0, 1) := by decide +kernel
theorem dX1_shorten_25 : decode cX1_shorten 25 = .ok (.iload_n 3, 1) := by decide +kernel
theorem dX1_shorten_26 : decode cX1_shorten 26 = .ok (.iload 5, 2) := by decide +kernel
theorem dX1_shorten_28 : decode cX1_shorten 28 = .ok (.invokevirtual 59, 3) := by decide +kernel
theorem dX1_shorten_31 : decode cX1_shorten 31 = .ok (.ifCond .eq 48, 3) := by decide +kernel
theorem dX1_shorten_34 : decode cX1_shorten 34 = .ok (.iload_n 2, 1) := by decide +kernel
theorem dX1_shorten_35 : decode cX1_shorten 35 = .ok (.aload_n 0, 1) := by decide +kernel
theorem dX1_shorten_36 : decode cX1_shorten 36 = .ok (.iload_n 3, 1) := by decide +kernel
theorem dX1_shorten_37 : decode cX1_shorten 37 = .ok (.iload 5, 2) := by decide +kernel
theorem dX1_shorten_39 : decode cX1_shorten 39 = .ok (.invokevirtual 20, 3) := by decide +kernel
theorem dX1_shorten_42 : decode cX1_shorten 42 = .ok (.iadd, 1) := by decide +kernel
theorem dX1_shorten_43 : decode cX1_shorten 43 = .ok (.ldc 65, 2) := by decide +kernel
theorem dX1_shorten_45 : decode cX1_shorten 45 = .ok (.invokestatic 24, 3) := by decide +kernel
theorem dX1_shorten_48 : decode cX1_shorten 48 = .ok (.istore 6, 2) := by decide +kernel
theorem dX1_shorten_50 : decode cX1_shorten 50 = .ok (.iload 6, 2) := by decide +kernel
theorem dX1_shorten_52 : decode cX1_shorten 52 = .ok (.aload_n 0, 1) := by decide +kernel
theorem dX1_shorten_53 : decode cX1_shorten 53 = .ok (.iload_n 1, 1) := by decide +kernel
theorem dX1_shorten_54 : decode cX1_shorten 54 = .ok (.iload 5, 2) := by decide +kernel
theorem dX1_shorten_56 : decode cX1_shorten 56 = .ok (.invokevirtual 20, 3) := by decide +kernel
theorem dX1_shorten_59 : decode cX1_shorten 59 = .ok (.if_icmp .ge 20, 3) := by decide +kernel
theorem dX1_shorten_62 : decode cX1_shorten 62 = .ok (.aload_n 0, 1) := by decide +kernel
theorem dX1_shorten_63 : decode cX1_shorten 63 = .ok (.getfield 11, 3) := by decide +kernel
theorem dX1_shorten_66 : decode cX1_shorten 66 = .ok (.bipush 8, 2) := by decide +kernel
theorem dX1_shorten_68 : decode cX1_shorten 68 = .ok (.iload_n 1, 1) := by decide +kernel
theorem dX1_shorten_69 : decode cX1_shorten 69 = .ok (.imul, 1) := by decide +kernel
theorem dX1_shorten_70 : decode cX1_shorten 70 = .ok (.iload 5, 2) := by decide +kernel
theorem dX1_shorten_72 : decode cX1_shorten 72 = .ok (.iadd, 1) := by decide +kernel
theorem dX1_shorten_73 : decode cX1_shorten 73 = .ok (.iload 6, 2) := by decide +kernel
theorem dX1_shorten_75 : decode cX1_shorten 75 = .ok (.iastore, 1) := by decide +kernel
theorem dX1_shorten_76 : decode cX1_shorten 76 = .ok (.iconst 1, 1) := by decide +kernel
theorem dX1_shorten_77 : decode cX1_shorten 77 = .ok (.istore 4, 2) := by decide +kernel
theorem dX1_shorten_79 : decode cX1_shorten 79 = .ok (.iinc 5 1, 3) := by decide +kernel
theorem dX1_shorten_82 : decode cX1_shorten 82 = .ok (.goto (-67), 3) := by decide +kernel
theorem dX1_shorten_85 : decode cX1_shorten 85 = .ok (.iload 4, 2) := by decide +kernel
theorem dX1_shorten_87 : decode cX1_shorten 87 = .ok (.ireturn, 1) := by decide +kernel
set_option maxRecDepth 20000 in
theorem ggX1_edgeOnWitness_X1_between : GoodIn wsX1_edgeOnWitness wsX1_between := goodIn_r _ [8, 9, 10, 42, 43] (by decide +kernel) (by decide +kernel)
set_option maxRecDepth 20000 in
theorem gX1_edgeOnWitness_X1_between : GoodIn wsX1_edgeOnWitness (wsV RX1 20 RX1 yX1_between wsX1_between) := goodIn_app (goodIn_of _ (by decide +kernel)) ggX1_edgeOnWitness_X1_between
set_option maxRecDepth 20000 in
theorem ggX1_edgeOnWitness_X1_firstOnWitness : GoodIn wsX1_edgeOnWitness wsX1_firstOnWitness := goodIn_r _ [14, 15, 3, 16, 17, 18, 7, 19, 2, 20, 21, 22, 23, 24, 25, 4, 5, 6, 8, 9, 10, 26, 27, 28, 29, 30, 31, 32, 33, 34, 35, 36, 37, 38, 39, 40, 41, 42, 43] (by decide +kernel) (by decide +kernel)
set_option maxRecDepth 20000 in
theorem gX1_edgeOnWitness_X1_firstOnWitness : GoodIn wsX1_edgeOnWitness (wsV RX1 66 RX1 yX1_firstOnWitness wsX1_firstOnWitness) := goodIn_app (goodIn_of _ (by decide +kernel)) ggX1_edgeOnWitness_X1_firstOnWitness
set_option maxRecDepth 20000 in
theorem ggX1_edgeOnWitness_X2_isEmptyLabelled : GoodIn wsX1_edgeOnWitness wsX2_isEmptyLabelled := goodIn_r _ [24, 25, 38, 39, 40, 41] (by decide +kernel) (by decide +kernel)
set_option maxRecDepth 20000 in
theorem gX1_edgeOnWitness_X2_isEmptyLabelled : GoodIn wsX1_edgeOnWitness (wsV RX1 44 RX2 yX2_isEmptyLabelled wsX2_isEmptyLabelled) := goodIn_app (goodIn_of _ (by decide +kernel)) ggX1_edgeOnWitness_X2_isEmptyLabelled
set_option maxRecDepth 20000 in
theorem ggX1_edgeOnWitness_X1_closingOnWitness : GoodIn wsX1_edgeOnWitness wsX1_closingOnWitness := goodIn_r _ [33, 3, 15, 2, 4, 5, 6, 7, 8, 9, 10, 34, 35, 36, 23, 37, 25, 38, 39, 40, 41, 42, 43] (by decide +kernel) (by decide +kernel)
set_option maxRecDepth 20000 in
theorem gX1_edgeOnWitness_X1_closingOnWitness : GoodIn wsX1_edgeOnWitness (wsV RX1 70 RX1 yX1_closingOnWitness wsX1_closingOnWitness) := goodIn_app (goodIn_of _ (by decide +kernel)) ggX1_edgeOnWitness_X1_closingOnWitness
theorem dX1_edgeOnWitness_0 : decode cX1_edgeOnWitness 0 = .ok (.aload_n 0, 1) := by decide +kernel
theorem dX1_edgeOnWitness_1 : decode cX1_edgeOnWitness 1 = .ok (.iload_n 2, 1) := by decide +kernel
theorem dX1_edgeOnWitness_2 : decode cX1_edgeOnWitness 2 = .ok (.iload_n 3, 1) := by decide +kernel
theorem dX1_edgeOnWitness_3 : decode cX1_edgeOnWitness 3 = .ok (.invokevirtual 20, 3) := by decide +kernel
theorem dX1_edgeOnWitness_6 : decode cX1_edgeOnWitness 6 = .ok (.ldc 65, 2) := by decide +kernel
theorem dX1_edgeOnWitness_8 : decode cX1_edgeOnWitness 8 = .ok (.if_icmp .ge 19, 3) := by decide +kernel
theorem dX1_edgeOnWitness_11 : decode cX1_edgeOnWitness 11 = .ok (.iload 4, 2) := by decide +kernel
theorem dX1_edgeOnWitness_13 : decode cX1_edgeOnWitness 13 = .ok (.ifCond .lt 14, 3) := by decide +kernel
theorem dX1_edgeOnWitness_16 : decode cX1_edgeOnWitness 16 = .ok (.iload 4, 2) := by decide +kernel
theorem dX1_edgeOnWitness_18 : decode cX1_edgeOnWitness 18 = .ok (.aload_n 0, 1) := by decide +kernel
theorem dX1_edgeOnWitness_19 : decode cX1_edgeOnWitness 19 = .ok (.iload_n 2, 1) := by decide +kernel
theorem dX1_edgeOnWitness_20 : decode cX1_edgeOnWitness 20 = .ok (.iload_n 3, 1) := by decide +kernel
theorem dX1_edgeOnWitness_21 : decode cX1_edgeOnWitness 21 = .ok (.invokevirtual 20, 3) := by decide +kernel
theorem dX1_edgeOnWitness_24 : decode cX1_edgeOnWitness 24 = .ok (.if_icmp .lt 6, 3) := by decide +kernel
theorem dX1_edgeOnWitness_27 : decode cX1_edgeOnWitness 27 = .ok (.bipush (-9), 2) := by decide +kernel
theorem dX1_edgeOnWitness_29 : decode cX1_edgeOnWitness 29 = .ok (.ireturn, 1) := by decide +kernel
theorem dX1_edgeOnWitness_30 : decode cX1_edgeOnWitness 30 = .ok (.iload_n 2, 1) := by decide +kernel
theorem dX1_edgeOnWitness_31 : decode cX1_edgeOnWitness 31 = .ok (.istore 5, 2) := by decide +kernel
theorem dX1_edgeOnWitness_33 : decode cX1_edgeOnWitness 33 = .ok (.iload_n 3, 1) := by decide +kernel
theorem dX1_edgeOnWitness_34 : decode cX1_edgeOnWitness 34 = .ok (.istore 6, 2) := by decide +kernel
theorem dX1_edgeOnWitness_36 : decode cX1_edgeOnWitness 36 = .ok (.iload 4, 2) := by decide +kernel
theorem dX1_edgeOnWitness_38 : decode cX1_edgeOnWitness 38 = .ok (.istore 7, 2) := by decide +kernel
theorem dX1_edgeOnWitness_40 : decode cX1_edgeOnWitness 40 = .ok (.iconst 0, 1) := by decide +kernel
theorem dX1_edgeOnWitness_41 : decode cX1_edgeOnWitness 41 = .ok (.istore 8, 2) := by decide +kernel
theorem dX1_edgeOnWitness_43 : decode cX1_edgeOnWitness 43 = .ok (.iload 8, 2) := by decide +kernel
theorem dX1_edgeOnWitness_45 : decode cX1_edgeOnWitness 45 = .ok (.bipush 64, 2) := by decide +kernel
theorem dX1_edgeOnWitness_47 : decode cX1_edgeOnWitness 47 = .ok (.if_icmp .gt 156, 3) := by decide +kernel
theorem dX1_edgeOnWitness_50 : decode cX1_edgeOnWitness 50 = .ok (.aload_n 0, 1) := by decide +kernel
theorem dX1_edgeOnWitness_51 : decode cX1_edgeOnWitness 51 = .ok (.aload_n 1, 1) := by decide +kernel
theorem dX1_edgeOnWitness_52 : decode cX1_edgeOnWitness 52 = .ok (.iload 5, 2) := by decide +kernel
theorem dX1_edgeOnWitness_54 : decode cX1_edgeOnWitness 54 = .ok (.iload 6, 2) := by decide +kernel
theorem dX1_edgeOnWitness_56 : decode cX1_edgeOnWitness 56 = .ok (.invokevirtual 66, 3) := by decide +kernel
theorem dX1_edgeOnWitness_59 : decode cX1_edgeOnWitness 59 = .ok (.istore 9, 2) := by decide +kernel
theorem dX1_edgeOnWitness_61 : decode cX1_edgeOnWitness 61 = .ok (.iload 9, 2) := by decide +kernel
theorem dX1_edgeOnWitness_63 : decode cX1_edgeOnWitness 63 = .ok (.bipush (-9), 2) := by decide +kernel
theorem dX1_edgeOnWitness_65 : decode cX1_edgeOnWitness 65 = .ok (.if_icmp .eq 8, 3) := by decide +kernel
theorem dX1_edgeOnWitness_68 : decode cX1_edgeOnWitness 68 = .ok (.iload 7, 2) := by decide +kernel
theorem dX1_edgeOnWitness_70 : decode cX1_edgeOnWitness 70 = .ok (.ifCond .ne 6, 3) := by decide +kernel
theorem dX1_edgeOnWitness_73 : decode cX1_edgeOnWitness 73 = .ok (.iload 9, 2) := by decide +kernel
theorem dX1_edgeOnWitness_75 : decode cX1_edgeOnWitness 75 = .ok (.ireturn, 1) := by decide +kernel
theorem dX1_edgeOnWitness_76 : decode cX1_edgeOnWitness 76 = .ok (.iinc 7 (-1), 3) := by decide +kernel
theorem dX1_edgeOnWitness_79 : decode cX1_edgeOnWitness 79 = .ok (.aload_n 1, 1) := by decide +kernel
theorem dX1_edgeOnWitness_80 : decode cX1_edgeOnWitness 80 = .ok (.iload 9, 2) := by decide +kernel
theorem dX1_edgeOnWitness_82 : decode cX1_edgeOnWitness 82 = .ok (.invokevirtual 44, 3) := by decide +kernel
theorem dX1_edgeOnWitness_85 : decode cX1_edgeOnWitness 85 = .ok (.ifCond .eq 15, 3) := by decide +kernel
theorem dX1_edgeOnWitness_88 : decode cX1_edgeOnWitness 88 = .ok (.aload_n 1, 1) := by decide +kernel
theorem dX1_edgeOnWitness_89 : decode cX1_edgeOnWitness 89 = .ok (.getfield 41, 3) := by decide +kernel
theorem dX1_edgeOnWitness_92 : decode cX1_edgeOnWitness 92 = .ok (.iload 9, 2) := by decide +kernel
theorem dX1_edgeOnWitness_94 : decode cX1_edgeOnWitness 94 = .ok (.iaload, 1) := by decide +kernel
theorem dX1_edgeOnWitness_95 : decode cX1_edgeOnWitness 95 = .ok (.istore 5, 2) := by decide +kernel
theorem dX1_edgeOnWitness_97 : decode cX1_edgeOnWitness 97 = .ok (.goto 100, 3) := by decide +kernel
theorem dX1_edgeOnWitness_100 : decode cX1_edgeOnWitness 100 = .ok (.aload_n 0, 1) := by decide +kernel
theorem dX1_edgeOnWitness_101 : decode cX1_edgeOnWitness 101 = .ok (.aload_n 1, 1) := by decide +kernel
theorem dX1_edgeOnWitness_102 : decode cX1_edgeOnWitness 102 = .ok (.iload 9, 2) := by decide +kernel
theorem dX1_edgeOnWitness_104 : decode cX1_edgeOnWitness 104 = .ok (.iload 6, 2) := by decide +kernel
theorem dX1_edgeOnWitness_106 : decode cX1_edgeOnWitness 106 = .ok (.invokevirtual 70, 3) := by decide +kernel
theorem dX1_edgeOnWitness_109 : decode cX1_edgeOnWitness 109 = .ok (.istore 10, 2) := by decide +kernel
theorem dX1_edgeOnWitness_111 : decode cX1_edgeOnWitness 111 = .ok (.iload 10, 2) := by decide +kernel
theorem dX1_edgeOnWitness_113 : decode cX1_edgeOnWitness 113 = .ok (.bipush (-9), 2) := by decide +kernel
theorem dX1_edgeOnWitness_115 : decode cX1_edgeOnWitness 115 = .ok (.if_icmp .ne 6, 3) := by decide +kernel
theorem dX1_edgeOnWitness_118 : decode cX1_edgeOnWitness 118 = .ok (.bipush (-9), 2) := by decide +kernel
theorem dX1_edgeOnWitness_120 : decode cX1_edgeOnWitness 120 = .ok (.ireturn, 1) := by decide +kernel
theorem dX1_edgeOnWitness_121 : decode cX1_edgeOnWitness 121 = .ok (.aload_n 0, 1) := by decide +kernel
theorem dX1_edgeOnWitness_122 : decode cX1_edgeOnWitness 122 = .ok (.aload_n 1, 1) := by decide +kernel
theorem dX1_edgeOnWitness_123 : decode cX1_edgeOnWitness 123 = .ok (.getfield 41, 3) := by decide +kernel
theorem dX1_edgeOnWitness_126 : decode cX1_edgeOnWitness 126 = .ok (.iload 9, 2) := by decide +kernel
theorem dX1_edgeOnWitness_128 : decode cX1_edgeOnWitness 128 = .ok (.iaload, 1) := by decide +kernel
theorem dX1_edgeOnWitness_129 : decode cX1_edgeOnWitness 129 = .ok (.aload_n 1, 1) := by decide +kernel
theorem dX1_edgeOnWitness_130 : decode cX1_edgeOnWitness 130 = .ok (.getfield 38, 3) := by decide +kernel
theorem dX1_edgeOnWitness_133 : decode cX1_edgeOnWitness 133 = .ok (.iload 10, 2) := by decide +kernel
theorem dX1_edgeOnWitness_135 : decode cX1_edgeOnWitness 135 = .ok (.iaload, 1) := by decide +kernel
theorem dX1_edgeOnWitness_136 : decode cX1_edgeOnWitness 136 = .ok (.invokevirtual 20, 3) := by decide +kernel
theorem dX1_edgeOnWitness_139 : decode cX1_edgeOnWitness 139 = .ok (.istore 11, 2) := by decide +kernel
theorem dX1_edgeOnWitness_141 : decode cX1_edgeOnWitness 141 = .ok (.iload 7, 2) := by decide +kernel
theorem dX1_edgeOnWitness_143 : decode cX1_edgeOnWitness 143 = .ok (.iload 11, 2) := by decide +kernel
theorem dX1_edgeOnWitness_145 : decode cX1_edgeOnWitness 145 = .ok (.if_icmp .ne 6, 3) := by decide +kernel
theorem dX1_edgeOnWitness_148 : decode cX1_edgeOnWitness 148 = .ok (.iload 10, 2) := by decide +kernel
theorem dX1_edgeOnWitness_150 : decode cX1_edgeOnWitness 150 = .ok (.ireturn, 1) := by decide +kernel
theorem dX1_edgeOnWitness_151 : decode cX1_edgeOnWitness 151 = .ok (.iload 7, 2) := by decide +kernel
theorem dX1_edgeOnWitness_153 : decode cX1_edgeOnWitness 153 = .ok (.iload 11, 2) := by decide +kernel
theorem dX1_edgeOnWitness_155 : decode cX1_edgeOnWitness 155 = .ok (.if_icmp .ge 24, 3) := by decide +kernel
theorem dX1_edgeOnWitness_158 : decode cX1_edgeOnWitness 158 = .ok (.aload_n 1, 1) := by decide +kernel
theorem dX1_edgeOnWitness_159 : decode cX1_edgeOnWitness 159 = .ok (.getfield 41, 3) := by decide +kernel
theorem dX1_edgeOnWitness_162 : decode cX1_edgeOnWitness 162 = .ok (.iload 9, 2) := by decide +kernel
theorem dX1_edgeOnWitness_164 : decode cX1_edgeOnWitness 164 = .ok (.iaload, 1) := by decide +kernel
theorem dX1_edgeOnWitness_165 : decode cX1_edgeOnWitness 165 = .ok (.istore 5, 2) := by decide +kernel
theorem dX1_edgeOnWitness_167 : decode cX1_edgeOnWitness 167 = .ok (.aload_n 1, 1) := by decide +kernel
theorem dX1_edgeOnWitness_168 : decode cX1_edgeOnWitness 168 = .ok (.getfield 38, 3) := by decide +kernel
theorem dX1_edgeOnWitness_171 : decode cX1_edgeOnWitness 171 = .ok (.iload 10, 2) := by decide +kernel
theorem dX1_edgeOnWitness_173 : decode cX1_edgeOnWitness 173 = .ok (.iaload, 1) := by decide +kernel
theorem dX1_edgeOnWitness_174 : decode cX1_edgeOnWitness 174 = .ok (.istore 6, 2) := by decide +kernel
theorem dX1_edgeOnWitness_176 : decode cX1_edgeOnWitness 176 = .ok (.goto 21, 3) := by decide +kernel
theorem dX1_edgeOnWitness_179 : decode cX1_edgeOnWitness 179 = .ok (.aload_n 1, 1) := by decide +kernel
theorem dX1_edgeOnWitness_180 : decode cX1_edgeOnWitness 180 = .ok (.getfield 41, 3) := by decide +kernel
theorem dX1_edgeOnWitness_183 : decode cX1_edgeOnWitness 183 = .ok (.iload 10, 2) := by decide +kernel
theorem dX1_edgeOnWitness_185 : decode cX1_edgeOnWitness 185 = .ok (.iaload, 1) := by decide +kernel
theorem dX1_edgeOnWitness_186 : decode cX1_edgeOnWitness 186 = .ok (.istore 5, 2) := by decide +kernel
theorem dX1_edgeOnWitness_188 : decode cX1_edgeOnWitness 188 = .ok (.iload 7, 2) := by decide +kernel
theorem dX1_edgeOnWitness_190 : decode cX1_edgeOnWitness 190 = .ok (.iload 11, 2) := by decide +kernel
theorem dX1_edgeOnWitness_192 : decode cX1_edgeOnWitness 192 = .ok (.iconst 1, 1) := by decide +kernel
theorem dX1_edgeOnWitness_193 : decode cX1_edgeOnWitness 193 = .ok (.iadd, 1) := by decide +kernel
theorem dX1_edgeOnWitness_194 : decode cX1_edgeOnWitness 194 = .ok (.isub, 1) := by decide +kernel
theorem dX1_edgeOnWitness_195 : decode cX1_edgeOnWitness 195 = .ok (.istore 7, 2) := by decide +kernel
theorem dX1_edgeOnWitness_197 : decode cX1_edgeOnWitness 197 = .ok (.iinc 8 1, 3) := by decide +kernel
theorem dX1_edgeOnWitness_200 : decode cX1_edgeOnWitness 200 = .ok (.goto (-157), 3) := by decide +kernel
theorem dX1_edgeOnWitness_203 : decode cX1_edgeOnWitness 203 = .ok (.bipush (-9), 2) := by decide +kernel
theorem dX1_edgeOnWitness_205 : decode cX1_edgeOnWitness 205 = .ok (.ireturn, 1) := by decide +kernel
set_option maxRecDepth 20000 in
theorem ggX1_firstOnWitness_X1_beginsShortest : GoodIn wsX1_firstOnWitness wsX1_beginsShortest := goodIn_r _ [7, 2, 8, 9, 10, 11, 12, 13, 14, 15, 16, 17, 6, 18, 19, 20, 21, 22, 23, 24, 25, 26, 27, 28, 1, 29, 30, 31, 32, 33, 34, 35, 36, 37, 38] (by decide +kernel) (by decide +kernel)
set_option maxRecDepth 20000 in
theorem gX1_firstOnWitness_X1_beginsShortest : GoodIn wsX1_firstOnWitness (wsV RX1 73 RX1 yX1_beginsShortest wsX1_beginsShortest) := goodIn_app (goodIn_of _ (by decide +kernel)) ggX1_firstOnWitness_X1_beginsShortest
theorem dX1_firstOnWitness_0 : decode cX1_firstOnWitness 0 = .ok (.iconst 0, 1) := by decide +kernel
theorem dX1_firstOnWitness_1 : decode cX1_firstOnWitness 1 = .ok (.istore 4, 2) := by decide +kernel
theorem dX1_firstOnWitness_3 : decode cX1_firstOnWitness 3 = .ok (.iload 4, 2) := by decide +kernel
theorem dX1_firstOnWitness_5 : decode cX1_firstOnWitness 5 = .ok (.aload_n 1, 1) := by decide +kernel
theorem dX1_firstOnWitness_6 : decode cX1_firstOnWitness 6 = .ok (.getfield 29, 3) := by decide +kernel
theorem dX1_firstOnWitness_9 : decode cX1_firstOnWitness 9 = .ok (.if_icmp .ge 34, 3) := by decide +kernel
theorem dX1_firstOnWitness_12 : decode cX1_firstOnWitness 12 = .ok (.aload_n 1, 1) := by decide +kernel
theorem dX1_firstOnWitness_13 : decode cX1_firstOnWitness 13 = .ok (.getfield 38, 3) := by decide +kernel
theorem dX1_firstOnWitness_16 : decode cX1_firstOnWitness 16 = .ok (.iload 4, 2) := by decide +kernel
theorem dX1_firstOnWitness_18 : decode cX1_firstOnWitness 18 = .ok (.iaload, 1) := by decide +kernel
theorem dX1_firstOnWitness_19 : decode cX1_firstOnWitness 19 = .ok (.iload_n 2, 1) := by decide +kernel
theorem dX1_firstOnWitness_20 : decode cX1_firstOnWitness 20 = .ok (.if_icmp .ne 17, 3) := by decide +kernel
theorem dX1_firstOnWitness_23 : decode cX1_firstOnWitness 23 = .ok (.aload_n 0, 1) := by decide +kernel
theorem dX1_firstOnWitness_24 : decode cX1_firstOnWitness 24 = .ok (.aload_n 1, 1) := by decide +kernel
theorem dX1_firstOnWitness_25 : decode cX1_firstOnWitness 25 = .ok (.iload 4, 2) := by decide +kernel
theorem dX1_firstOnWitness_27 : decode cX1_firstOnWitness 27 = .ok (.iload_n 3, 1) := by decide +kernel
theorem dX1_firstOnWitness_28 : decode cX1_firstOnWitness 28 = .ok (.invokevirtual 73, 3) := by decide +kernel
theorem dX1_firstOnWitness_31 : decode cX1_firstOnWitness 31 = .ok (.ifCond .eq 6, 3) := by decide +kernel
theorem dX1_firstOnWitness_34 : decode cX1_firstOnWitness 34 = .ok (.iload 4, 2) := by decide +kernel
theorem dX1_firstOnWitness_36 : decode cX1_firstOnWitness 36 = .ok (.ireturn, 1) := by decide +kernel
theorem dX1_firstOnWitness_37 : decode cX1_firstOnWitness 37 = .ok (.iinc 4 1, 3) := by decide +kernel
theorem dX1_firstOnWitness_40 : decode cX1_firstOnWitness 40 = .ok (.goto (-37), 3) := by decide +kernel
theorem dX1_firstOnWitness_43 : decode cX1_firstOnWitness 43 = .ok (.bipush (-9), 2) := by decide +kernel
theorem dX1_firstOnWitness_45 : decode cX1_firstOnWitness 45 = .ok (.ireturn, 1) := by decide +kernel
set_option maxRecDepth 20000 in
theorem ggX1_beginsShortest_X2_isEmptyLabelled : GoodIn wsX1_beginsShortest wsX2_isEmptyLabelled := goodIn_r _ [7, 8, 29, 30, 31, 32] (by decide +kernel) (by decide +kernel)
set_option maxRecDepth 20000 in
theorem gX1_beginsShortest_X2_isEmptyLabelled : GoodIn wsX1_beginsShortest (wsV RX1 44 RX2 yX2_isEmptyLabelled wsX2_isEmptyLabelled) := goodIn_app (goodIn_of _ (by decide +kernel)) ggX1_beginsShortest_X2_isEmptyLabelled
set_option maxRecDepth 20000 in
theorem ggX1_beginsShortest_X1_between : GoodIn wsX1_beginsShortest wsX1_between := goodIn_r _ [13, 14, 15, 33, 34] (by decide +kernel) (by decide +kernel)
set_option maxRecDepth 20000 in
theorem gX1_beginsShortest_X1_between : GoodIn wsX1_beginsShortest (wsV RX1 20 RX1 yX1_between wsX1_between) := goodIn_app (goodIn_of _ (by decide +kernel)) ggX1_beginsShortest_X1_between
set_option maxRecDepth 20000 in
theorem ggX1_beginsShortest_X2_opens : GoodIn wsX1_beginsShortest wsX2_opens := goodIn_r _ [19, 8, 29, 30, 31, 32] (by decide +kernel) (by decide +kernel)
set_option maxRecDepth 20000 in
theorem gX1_beginsShortest_X2_opens : GoodIn wsX1_beginsShortest (wsV RX1 52 RX2 yX2_opens wsX2_opens) := goodIn_app (goodIn_of _ (by decide +kernel)) ggX1_beginsShortest_X2_opens
set_option maxRecDepth 20000 in
theorem ggX1_beginsShortest_X1_closingOnWitness : GoodIn wsX1_beginsShortest wsX1_closingOnWitness := goodIn_r _ [23, 1, 24, 2, 9, 10, 11, 12, 13, 14, 15, 25, 26, 27, 6, 28, 8, 29, 30, 31, 32, 33, 34] (by decide +kernel) (by decide +kernel)
set_option maxRecDepth 20000 in
theorem gX1_beginsShortest_X1_closingOnWitness : GoodIn wsX1_beginsShortest (wsV RX1 70 RX1 yX1_closingOnWitness wsX1_closingOnWitness) := goodIn_app (goodIn_of _ (by decide +kernel)) ggX1_beginsShortest_X1_closingOnWitness
theorem dX1_beginsShortest_0 : decode cX1_beginsShortest 0 = .ok (.aload_n 1, 1) := by decide +kernel
theorem dX1_beginsShortest_1 : decode cX1_beginsShortest 1 = .ok (.iload_n 2, 1) := by decide +kernel
theorem dX1_beginsShortest_2 : decode cX1_beginsShortest 2 = .ok (.invokevirtual 44, 3) := by decide +kernel
theorem dX1_beginsShortest_5 : decode cX1_beginsShortest 5 = .ok (.ifCond .eq 36, 3) := by decide +kernel
theorem dX1_beginsShortest_8 : decode cX1_beginsShortest 8 = .ok (.aload_n 0, 1) := by decide +kernel
theorem dX1_beginsShortest_9 : decode cX1_beginsShortest 9 = .ok (.aload_n 1, 1) := by decide +kernel
theorem dX1_beginsShortest_10 : decode cX1_beginsShortest 10 = .ok (.getfield 38, 3) := by decide +kernel
theorem dX1_beginsShortest_13 : decode cX1_beginsShortest 13 = .ok (.iload_n 2, 1) := by decide +kernel
theorem dX1_beginsShortest_14 : decode cX1_beginsShortest 14 = .ok (.iaload, 1) := by decide +kernel
theorem dX1_beginsShortest_15 : decode cX1_beginsShortest 15 = .ok (.iload_n 3, 1) := by decide +kernel
theorem dX1_beginsShortest_16 : decode cX1_beginsShortest 16 = .ok (.invokevirtual 20, 3) := by decide +kernel
theorem dX1_beginsShortest_19 : decode cX1_beginsShortest 19 = .ok (.aload_n 0, 1) := by decide +kernel
theorem dX1_beginsShortest_20 : decode cX1_beginsShortest 20 = .ok (.aload_n 1, 1) := by decide +kernel
theorem dX1_beginsShortest_21 : decode cX1_beginsShortest 21 = .ok (.getfield 41, 3) := by decide +kernel
theorem dX1_beginsShortest_24 : decode cX1_beginsShortest 24 = .ok (.iload_n 2, 1) := by decide +kernel
theorem dX1_beginsShortest_25 : decode cX1_beginsShortest 25 = .ok (.iaload, 1) := by decide +kernel
theorem dX1_beginsShortest_26 : decode cX1_beginsShortest 26 = .ok (.iload_n 3, 1) := by decide +kernel
theorem dX1_beginsShortest_27 : decode cX1_beginsShortest 27 = .ok (.invokevirtual 20, 3) := by decide +kernel
theorem dX1_beginsShortest_30 : decode cX1_beginsShortest 30 = .ok (.iconst 1, 1) := by decide +kernel
theorem dX1_beginsShortest_31 : decode cX1_beginsShortest 31 = .ok (.iadd, 1) := by decide +kernel
theorem dX1_beginsShortest_32 : decode cX1_beginsShortest 32 = .ok (.if_icmp .ne 7, 3) := by decide +kernel
theorem dX1_beginsShortest_35 : decode cX1_beginsShortest 35 = .ok (.iconst 1, 1) := by decide +kernel
theorem dX1_beginsShortest_36 : decode cX1_beginsShortest 36 = .ok (.goto 4, 3) := by decide +kernel
theorem dX1_beginsShortest_39 : decode cX1_beginsShortest 39 = .ok (.iconst 0, 1) := by decide +kernel
theorem dX1_beginsShortest_40 : decode cX1_beginsShortest 40 = .ok (.ireturn, 1) := by decide +kernel
theorem dX1_beginsShortest_41 : decode cX1_beginsShortest 41 = .ok (.aload_n 1, 1) := by decide +kernel
theorem dX1_beginsShortest_42 : decode cX1_beginsShortest 42 = .ok (.iload_n 2, 1) := by decide +kernel
theorem dX1_beginsShortest_43 : decode cX1_beginsShortest 43 = .ok (.invokevirtual 52, 3) := by decide +kernel
theorem dX1_beginsShortest_46 : decode cX1_beginsShortest 46 = .ok (.ifCond .eq 19, 3) := by decide +kernel
theorem dX1_beginsShortest_49 : decode cX1_beginsShortest 49 = .ok (.aload_n 0, 1) := by decide +kernel
theorem dX1_beginsShortest_50 : decode cX1_beginsShortest 50 = .ok (.aload_n 1, 1) := by decide +kernel
theorem dX1_beginsShortest_51 : decode cX1_beginsShortest 51 = .ok (.iload_n 2, 1) := by decide +kernel
theorem dX1_beginsShortest_52 : decode cX1_beginsShortest 52 = .ok (.iload_n 3, 1) := by decide +kernel
theorem dX1_beginsShortest_53 : decode cX1_beginsShortest 53 = .ok (.invokevirtual 70, 3) := by decide +kernel
theorem dX1_beginsShortest_56 : decode cX1_beginsShortest 56 = .ok (.bipush (-9), 2) := by decide +kernel
theorem dX1_beginsShortest_58 : decode cX1_beginsShortest 58 = .ok (.if_icmp .eq 7, 3) := by decide +kernel
theorem dX1_beginsShortest_61 : decode cX1_beginsShortest 61 = .ok (.iconst 1, 1) := by decide +kernel
theorem dX1_beginsShortest_62 : decode cX1_beginsShortest 62 = .ok (.goto 4, 3) := by decide +kernel
theorem dX1_beginsShortest_65 : decode cX1_beginsShortest 65 = .ok (.iconst 0, 1) := by decide +kernel
theorem dX1_beginsShortest_66 : decode cX1_beginsShortest 66 = .ok (.ireturn, 1) := by decide +kernel
set_option maxRecDepth 20000 in
theorem ggX1_closingOnWitness_X1_between : GoodIn wsX1_closingOnWitness wsX1_between := goodIn_r _ [8, 9, 10, 21, 22] (by decide +kernel) (by decide +kernel)
set_option maxRecDepth 20000 in
theorem gX1_closingOnWitness_X1_between : GoodIn wsX1_closingOnWitness (wsV RX1 20 RX1 yX1_between wsX1_between) := goodIn_app (goodIn_of _ (by decide +kernel)) ggX1_closingOnWitness_X1_between
set_option maxRecDepth 20000 in
theorem ggX1_closingOnWitness_X2_closes : GoodIn wsX1_closingOnWitness wsX2_closes := goodIn_r _ [15, 16, 17, 18, 19, 20] (by decide +kernel) (by decide +kernel)
set_option maxRecDepth 20000 in
theorem gX1_closingOnWitness_X2_closes : GoodIn wsX1_closingOnWitness (wsV RX1 55 RX2 yX2_closes wsX2_closes) := goodIn_app (goodIn_of _ (by decide +kernel)) ggX1_closingOnWitness_X2_closes
theorem dX1_closingOnWitness_0 : decode cX1_closingOnWitness 0 = .ok (.aload_n 0, 1) := by decide +kernel
theorem dX1_closingOnWitness_1 : decode cX1_closingOnWitness 1 = .ok (.aload_n 1, 1) := by decide +kernel
theorem dX1_closingOnWitness_2 : decode cX1_closingOnWitness 2 = .ok (.getfield 38, 3) := by decide +kernel
theorem dX1_closingOnWitness_5 : decode cX1_closingOnWitness 5 = .ok (.iload_n 2, 1) := by decide +kernel
theorem dX1_closingOnWitness_6 : decode cX1_closingOnWitness 6 = .ok (.iaload, 1) := by decide +kernel
theorem dX1_closingOnWitness_7 : decode cX1_closingOnWitness 7 = .ok (.iload_n 3, 1) := by decide +kernel
theorem dX1_closingOnWitness_8 : decode cX1_closingOnWitness 8 = .ok (.invokevirtual 20, 3) := by decide +kernel
theorem dX1_closingOnWitness_11 : decode cX1_closingOnWitness 11 = .ok (.istore 4, 2) := by decide +kernel
theorem dX1_closingOnWitness_13 : decode cX1_closingOnWitness 13 = .ok (.iconst 0, 1) := by decide +kernel
theorem dX1_closingOnWitness_14 : decode cX1_closingOnWitness 14 = .ok (.istore 5, 2) := by decide +kernel
theorem dX1_closingOnWitness_16 : decode cX1_closingOnWitness 16 = .ok (.iload 5, 2) := by decide +kernel
theorem dX1_closingOnWitness_18 : decode cX1_closingOnWitness 18 = .ok (.aload_n 1, 1) := by decide +kernel
theorem dX1_closingOnWitness_19 : decode cX1_closingOnWitness 19 = .ok (.getfield 29, 3) := by decide +kernel
theorem dX1_closingOnWitness_22 : decode cX1_closingOnWitness 22 = .ok (.if_icmp .ge 67, 3) := by decide +kernel
theorem dX1_closingOnWitness_25 : decode cX1_closingOnWitness 25 = .ok (.aload_n 1, 1) := by decide +kernel
theorem dX1_closingOnWitness_26 : decode cX1_closingOnWitness 26 = .ok (.iload 5, 2) := by decide +kernel
theorem dX1_closingOnWitness_28 : decode cX1_closingOnWitness 28 = .ok (.iload_n 2, 1) := by decide +kernel
theorem dX1_closingOnWitness_29 : decode cX1_closingOnWitness 29 = .ok (.invokevirtual 55, 3) := by decide +kernel
theorem dX1_closingOnWitness_32 : decode cX1_closingOnWitness 32 = .ok (.ifCond .eq 51, 3) := by decide +kernel
theorem dX1_closingOnWitness_35 : decode cX1_closingOnWitness 35 = .ok (.aload_n 0, 1) := by decide +kernel
theorem dX1_closingOnWitness_36 : decode cX1_closingOnWitness 36 = .ok (.aload_n 1, 1) := by decide +kernel
theorem dX1_closingOnWitness_37 : decode cX1_closingOnWitness 37 = .ok (.getfield 41, 3) := by decide +kernel
theorem dX1_closingOnWitness_40 : decode cX1_closingOnWitness 40 = .ok (.iload_n 2, 1) := by decide +kernel
theorem dX1_closingOnWitness_41 : decode cX1_closingOnWitness 41 = .ok (.iaload, 1) := by decide +kernel
theorem dX1_closingOnWitness_42 : decode cX1_closingOnWitness 42 = .ok (.aload_n 1, 1) := by decide +kernel
theorem dX1_closingOnWitness_43 : decode cX1_closingOnWitness 43 = .ok (.getfield 38, 3) := by decide +kernel
theorem dX1_closingOnWitness_46 : decode cX1_closingOnWitness 46 = .ok (.iload 5, 2) := by decide +kernel
theorem dX1_closingOnWitness_48 : decode cX1_closingOnWitness 48 = .ok (.iaload, 1) := by decide +kernel
theorem dX1_closingOnWitness_49 : decode cX1_closingOnWitness 49 = .ok (.invokevirtual 20, 3) := by decide +kernel
theorem dX1_closingOnWitness_52 : decode cX1_closingOnWitness 52 = .ok (.istore 6, 2) := by decide +kernel
