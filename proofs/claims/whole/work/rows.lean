section
-- ===== PART A: goes FIRST, ahead of the names: the tables' words, and 'selects' of the private methods out of them =====
/-- a private method of a class that the tables say can be made, by its rows of tables_1 -/
def lw_okq (q : MethodName × Nat) : Prop := (q.1.cls ≠ "java/lang/invoke/MethodHandle" ∧ q.1.cls ≠ "java/lang/invoke/VarHandle") ∧ Cond.instantiable q.1.cls q.2 ∈ tables_1 ∧ Cond.privateMethod q.1 ∈ tables_1 ∧ Cond.instanceMethod q.1 ∈ tables_1
theorem lw_p0 : lw_okq (⟨"DyckReachability$GraphText", "fits", "(I)Z"⟩, 2) := ⟨⟨by decide +kernel, by decide +kernel⟩, List.mem_of_getElem? (i := 87) (by decide +kernel), List.mem_of_getElem? (i := 181) (by decide +kernel), List.mem_of_getElem? (i := 182) (by decide +kernel)⟩
theorem lw_p1 : lw_okq (⟨"DyckReachability", "isVertex", "(I)Z"⟩, 11) := ⟨⟨by decide +kernel, by decide +kernel⟩, List.mem_of_getElem? (i := 15) (by decide +kernel), List.mem_of_getElem? (i := 243) (by decide +kernel), List.mem_of_getElem? (i := 244) (by decide +kernel)⟩
theorem lw_p2 : lw_okq (⟨"DyckReachability", "countPairs", "(LDyckReachability$Edges;)I"⟩, 11) := ⟨⟨by decide +kernel, by decide +kernel⟩, List.mem_of_getElem? (i := 15) (by decide +kernel), List.mem_of_getElem? (i := 324) (by decide +kernel), List.mem_of_getElem? (i := 325) (by decide +kernel)⟩
theorem lw_p3 : lw_okq (⟨"DyckReachability$Distances", "shortenBehind", "(ILDyckReachability$Edges;)Z"⟩, 2) := ⟨⟨by decide +kernel, by decide +kernel⟩, List.mem_of_getElem? (i := 54) (by decide +kernel), List.mem_of_getElem? (i := 343) (by decide +kernel), List.mem_of_getElem? (i := 344) (by decide +kernel)⟩
theorem lw_p4 : lw_okq (⟨"DyckReachability$Distances", "shorten", "(III)Z"⟩, 2) := ⟨⟨by decide +kernel, by decide +kernel⟩, List.mem_of_getElem? (i := 54) (by decide +kernel), List.mem_of_getElem? (i := 348) (by decide +kernel), List.mem_of_getElem? (i := 349) (by decide +kernel)⟩
theorem lw_p5 : lw_okq (⟨"DyckReachability$Distances", "firstOnWitness", "(LDyckReachability$Edges;II)I"⟩, 2) := ⟨⟨by decide +kernel, by decide +kernel⟩, List.mem_of_getElem? (i := 54) (by decide +kernel), List.mem_of_getElem? (i := 374) (by decide +kernel), List.mem_of_getElem? (i := 375) (by decide +kernel)⟩
theorem lw_p6 : lw_okq (⟨"DyckReachability$Distances", "beginsShortest", "(LDyckReachability$Edges;II)Z"⟩, 2) := ⟨⟨by decide +kernel, by decide +kernel⟩, List.mem_of_getElem? (i := 54) (by decide +kernel), List.mem_of_getElem? (i := 378) (by decide +kernel), List.mem_of_getElem? (i := 379) (by decide +kernel)⟩
theorem lw_p7 : lw_okq (⟨"DyckReachability$Distances", "closingOnWitness", "(LDyckReachability$Edges;II)I"⟩, 2) := ⟨⟨by decide +kernel, by decide +kernel⟩, List.mem_of_getElem? (i := 54) (by decide +kernel), List.mem_of_getElem? (i := 382) (by decide +kernel), List.mem_of_getElem? (i := 383) (by decide +kernel)⟩
theorem lw_p8 : lw_okq (⟨"DyckReachability", "countPairsWithout", "(I)I"⟩, 11) := ⟨⟨by decide +kernel, by decide +kernel⟩, List.mem_of_getElem? (i := 15) (by decide +kernel), List.mem_of_getElem? (i := 404) (by decide +kernel), List.mem_of_getElem? (i := 405) (by decide +kernel)⟩
theorem lw_p9 : lw_okq (⟨"DyckReachability", "worth", "(I)I"⟩, 11) := ⟨⟨by decide +kernel, by decide +kernel⟩, List.mem_of_getElem? (i := 15) (by decide +kernel), List.mem_of_getElem? (i := 492) (by decide +kernel), List.mem_of_getElem? (i := 493) (by decide +kernel)⟩
theorem lw_p10 : lw_okq (⟨"DyckReachabilityModel", "digit", "(II)I"⟩, 21) := ⟨⟨by decide +kernel, by decide +kernel⟩, List.mem_of_getElem? (i := 553) (by decide +kernel), List.mem_of_getElem? (i := 639) (by decide +kernel), List.mem_of_getElem? (i := 640) (by decide +kernel)⟩
theorem lw_p11 : lw_okq (⟨"DyckReachabilityModel", "labelChar", "()I"⟩, 21) := ⟨⟨by decide +kernel, by decide +kernel⟩, List.mem_of_getElem? (i := 553) (by decide +kernel), List.mem_of_getElem? (i := 643) (by decide +kernel), List.mem_of_getElem? (i := 644) (by decide +kernel)⟩
theorem lw_p12 : lw_okq (⟨"DyckReachabilityModel", "noEdge", "(I)Z"⟩, 21) := ⟨⟨by decide +kernel, by decide +kernel⟩, List.mem_of_getElem? (i := 553) (by decide +kernel), List.mem_of_getElem? (i := 674) (by decide +kernel), List.mem_of_getElem? (i := 675) (by decide +kernel)⟩
theorem lw_p13 : lw_okq (⟨"DyckReachabilityModel", "noVertex", "(I)Z"⟩, 21) := ⟨⟨by decide +kernel, by decide +kernel⟩, List.mem_of_getElem? (i := 553) (by decide +kernel), List.mem_of_getElem? (i := 690) (by decide +kernel), List.mem_of_getElem? (i := 691) (by decide +kernel)⟩
theorem lw_p14 : lw_okq (⟨"DyckReachabilityModel", "remember", "()V"⟩, 21) := ⟨⟨by decide +kernel, by decide +kernel⟩, List.mem_of_getElem? (i := 553) (by decide +kernel), List.mem_of_getElem? (i := 695) (by decide +kernel), List.mem_of_getElem? (i := 696) (by decide +kernel)⟩
theorem lw_p15 : lw_okq (⟨"DyckReachabilityModel", "closeOf", "([II)V"⟩, 21) := ⟨⟨by decide +kernel, by decide +kernel⟩, List.mem_of_getElem? (i := 553) (by decide +kernel), List.mem_of_getElem? (i := 719) (by decide +kernel), List.mem_of_getElem? (i := 720) (by decide +kernel)⟩
def lw_privs_1 : List (MethodName × Nat) := [(⟨"DyckReachability$GraphText", "fits", "(I)Z"⟩, 2), (⟨"DyckReachability", "isVertex", "(I)Z"⟩, 11), (⟨"DyckReachability", "countPairs", "(LDyckReachability$Edges;)I"⟩, 11), (⟨"DyckReachability$Distances", "shortenBehind", "(ILDyckReachability$Edges;)Z"⟩, 2), (⟨"DyckReachability$Distances", "shorten", "(III)Z"⟩, 2), (⟨"DyckReachability$Distances", "firstOnWitness", "(LDyckReachability$Edges;II)I"⟩, 2), (⟨"DyckReachability$Distances", "beginsShortest", "(LDyckReachability$Edges;II)Z"⟩, 2), (⟨"DyckReachability$Distances", "closingOnWitness", "(LDyckReachability$Edges;II)I"⟩, 2), (⟨"DyckReachability", "countPairsWithout", "(I)I"⟩, 11), (⟨"DyckReachability", "worth", "(I)I"⟩, 11), (⟨"DyckReachabilityModel", "digit", "(II)I"⟩, 21), (⟨"DyckReachabilityModel", "labelChar", "()I"⟩, 21), (⟨"DyckReachabilityModel", "noEdge", "(I)Z"⟩, 21), (⟨"DyckReachabilityModel", "noVertex", "(I)Z"⟩, 21), (⟨"DyckReachabilityModel", "remember", "()V"⟩, 21), (⟨"DyckReachabilityModel", "closeOf", "([II)V"⟩, 21)]
theorem lw_r1 : ∀ q ∈ lw_privs_1, lw_okq q := List.forall_mem_cons.mpr ⟨lw_p0, List.forall_mem_cons.mpr ⟨lw_p1, List.forall_mem_cons.mpr ⟨lw_p2, List.forall_mem_cons.mpr ⟨lw_p3, List.forall_mem_cons.mpr ⟨lw_p4, List.forall_mem_cons.mpr ⟨lw_p5, List.forall_mem_cons.mpr ⟨lw_p6, List.forall_mem_cons.mpr ⟨lw_p7, List.forall_mem_cons.mpr ⟨lw_p8, List.forall_mem_cons.mpr ⟨lw_p9, List.forall_mem_cons.mpr ⟨lw_p10, List.forall_mem_cons.mpr ⟨lw_p11, List.forall_mem_cons.mpr ⟨lw_p12, List.forall_mem_cons.mpr ⟨lw_p13, List.forall_mem_cons.mpr ⟨lw_p14, List.forall_mem_cons.mpr ⟨lw_p15, fun _ h => absurd h List.not_mem_nil⟩⟩⟩⟩⟩⟩⟩⟩⟩⟩⟩⟩⟩⟩⟩⟩
theorem lw_p16 : lw_okq (⟨"DyckReachabilityModel", "close", "(I)V"⟩, 21) := ⟨⟨by decide +kernel, by decide +kernel⟩, List.mem_of_getElem? (i := 553) (by decide +kernel), List.mem_of_getElem? (i := 726) (by decide +kernel), List.mem_of_getElem? (i := 727) (by decide +kernel)⟩
theorem lw_p17 : lw_okq (⟨"DyckReachabilityModel", "improve", "(III)Z"⟩, 21) := ⟨⟨by decide +kernel, by decide +kernel⟩, List.mem_of_getElem? (i := 553) (by decide +kernel), List.mem_of_getElem? (i := 731) (by decide +kernel), List.mem_of_getElem? (i := 732) (by decide +kernel)⟩
theorem lw_p18 : lw_okq (⟨"DyckReachabilityModel", "reaches", "(II)Z"⟩, 21) := ⟨⟨by decide +kernel, by decide +kernel⟩, List.mem_of_getElem? (i := 553) (by decide +kernel), List.mem_of_getElem? (i := 737) (by decide +kernel), List.mem_of_getElem? (i := 738) (by decide +kernel)⟩
theorem lw_p19 : lw_okq (⟨"DyckReachabilityModel", "pairsOf", "([II)I"⟩, 21) := ⟨⟨by decide +kernel, by decide +kernel⟩, List.mem_of_getElem? (i := 553) (by decide +kernel), List.mem_of_getElem? (i := 745) (by decide +kernel), List.mem_of_getElem? (i := 746) (by decide +kernel)⟩
theorem lw_p20 : lw_okq (⟨"DyckReachabilityModel", "pairs", "()I"⟩, 21) := ⟨⟨by decide +kernel, by decide +kernel⟩, List.mem_of_getElem? (i := 553) (by decide +kernel), List.mem_of_getElem? (i := 749) (by decide +kernel), List.mem_of_getElem? (i := 750) (by decide +kernel)⟩
theorem lw_p21 : lw_okq (⟨"DyckReachabilityModel", "firstStep", "(II)I"⟩, 21) := ⟨⟨by decide +kernel, by decide +kernel⟩, List.mem_of_getElem? (i := 553) (by decide +kernel), List.mem_of_getElem? (i := 761) (by decide +kernel), List.mem_of_getElem? (i := 762) (by decide +kernel)⟩
theorem lw_p22 : lw_okq (⟨"DyckReachabilityModel", "lengthBy", "(IIII)I"⟩, 21) := ⟨⟨by decide +kernel, by decide +kernel⟩, List.mem_of_getElem? (i := 553) (by decide +kernel), List.mem_of_getElem? (i := 765) (by decide +kernel), List.mem_of_getElem? (i := 766) (by decide +kernel)⟩
theorem lw_p23 : lw_okq (⟨"DyckReachabilityModel", "closeDepths", "()V"⟩, 21) := ⟨⟨by decide +kernel, by decide +kernel⟩, List.mem_of_getElem? (i := 553) (by decide +kernel), List.mem_of_getElem? (i := 773) (by decide +kernel), List.mem_of_getElem? (i := 774) (by decide +kernel)⟩
theorem lw_p24 : lw_okq (⟨"DyckReachabilityModel", "lessDeep", "(III)Z"⟩, 21) := ⟨⟨by decide +kernel, by decide +kernel⟩, List.mem_of_getElem? (i := 553) (by decide +kernel), List.mem_of_getElem? (i := 777) (by decide +kernel), List.mem_of_getElem? (i := 778) (by decide +kernel)⟩
theorem lw_p25 : lw_okq (⟨"DyckReachabilityModel", "lossOf", "(I)I"⟩, 21) := ⟨⟨by decide +kernel, by decide +kernel⟩, List.mem_of_getElem? (i := 553) (by decide +kernel), List.mem_of_getElem? (i := 785) (by decide +kernel), List.mem_of_getElem? (i := 786) (by decide +kernel)⟩
theorem lw_p26 : lw_okq (⟨"DyckReachabilityModel", "command", "(IIII)Z"⟩, 21) := ⟨⟨by decide +kernel, by decide +kernel⟩, List.mem_of_getElem? (i := 553) (by decide +kernel), List.mem_of_getElem? (i := 806) (by decide +kernel), List.mem_of_getElem? (i := 807) (by decide +kernel)⟩
theorem lw_p27 : lw_okq (⟨"DyckReachabilityModel", "toggle", "(III)V"⟩, 21) := ⟨⟨by decide +kernel, by decide +kernel⟩, List.mem_of_getElem? (i := 553) (by decide +kernel), List.mem_of_getElem? (i := 850) (by decide +kernel), List.mem_of_getElem? (i := 851) (by decide +kernel)⟩
def lw_privs_2 : List (MethodName × Nat) := [(⟨"DyckReachabilityModel", "close", "(I)V"⟩, 21), (⟨"DyckReachabilityModel", "improve", "(III)Z"⟩, 21), (⟨"DyckReachabilityModel", "reaches", "(II)Z"⟩, 21), (⟨"DyckReachabilityModel", "pairsOf", "([II)I"⟩, 21), (⟨"DyckReachabilityModel", "pairs", "()I"⟩, 21), (⟨"DyckReachabilityModel", "firstStep", "(II)I"⟩, 21), (⟨"DyckReachabilityModel", "lengthBy", "(IIII)I"⟩, 21), (⟨"DyckReachabilityModel", "closeDepths", "()V"⟩, 21), (⟨"DyckReachabilityModel", "lessDeep", "(III)Z"⟩, 21), (⟨"DyckReachabilityModel", "lossOf", "(I)I"⟩, 21), (⟨"DyckReachabilityModel", "command", "(IIII)Z"⟩, 21), (⟨"DyckReachabilityModel", "toggle", "(III)V"⟩, 21)]
theorem lw_r2 : ∀ q ∈ lw_privs_2, lw_okq q := List.forall_mem_cons.mpr ⟨lw_p16, List.forall_mem_cons.mpr ⟨lw_p17, List.forall_mem_cons.mpr ⟨lw_p18, List.forall_mem_cons.mpr ⟨lw_p19, List.forall_mem_cons.mpr ⟨lw_p20, List.forall_mem_cons.mpr ⟨lw_p21, List.forall_mem_cons.mpr ⟨lw_p22, List.forall_mem_cons.mpr ⟨lw_p23, List.forall_mem_cons.mpr ⟨lw_p24, List.forall_mem_cons.mpr ⟨lw_p25, List.forall_mem_cons.mpr ⟨lw_p26, List.forall_mem_cons.mpr ⟨lw_p27, fun _ h => absurd h List.not_mem_nil⟩⟩⟩⟩⟩⟩⟩⟩⟩⟩⟩⟩
def lw_privs : List (MethodName × Nat) := lw_privs_1 ++ (lw_privs_2)
def lw_tbl : List Cond := k2_sels lw_privs ++ tables_1
theorem lw_privs_ok : ∀ q ∈ lw_privs, lw_okq q := by
  show ∀ q ∈ lw_privs_1 ++ (lw_privs_2), lw_okq q
  exact List.forall_mem_append.mpr ⟨lw_r1, lw_r2⟩
end
section
/-! ===== BEGIN words of one list among another's, by their places ===== -/
theorem goodIn_r {big : List Cond} (ws : List Cond) (ps : List Nat) (hp : ws = ps.filterMap (fun i => big[i]?)) (h : ws.all goodWord = true) : GoodIn big ws := by
  intro w hw
  have h1 := List.all_eq_true.mp h w hw
  rw [hp] at hw
  obtain ⟨i, -, hi⟩ := List.mem_filterMap.mp hw
  have hm : w ∈ big := by first | exact List.mem_of_getElem? hi | exact List.getElem?_mem hi
  exact ⟨hm, good_of_word h1⟩
theorem goodIn_app {big a b : List Cond} (ha : GoodIn big a) (hb : GoodIn big b) : GoodIn big (a ++ b) := fun w h => (List.mem_append.mp h).elim (ha w) (hb w)
theorem goodIn_ca {big a b : List Cond} {c : Cond} (ha : GoodIn big (c :: a)) (hb : GoodIn big b) : GoodIn big (c :: (a ++ b)) := fun w h => (List.mem_cons.mp h).elim (fun e => ha w (List.mem_cons.mpr (Or.inl e))) (fun h => (List.mem_append.mp h).elim (fun h => ha w (List.mem_cons.mpr (Or.inr h))) (hb w))
theorem goodIn_sub {big ws : List Cond} (hm : ∀ w ∈ ws, w ∈ big) (h : ws.all goodWord = true) : GoodIn big ws := fun w hw => ⟨hm w hw, good_of_word (List.all_eq_true.mp h w hw)⟩
/-! ===== END ===== -/

/-! ===== BEGIN printed: names, fields, word lists, decode rows ===== -/
def RX0 : String := "DyckReachability$Chance"
def TX0 : u_T := fun k => match k with
  | _ => ("", "", "", false)
def tyX0 : Nat → FieldType := fun k => match k with
  | _ => .int
abbrev wsX00 : List Cond := u_ws RX0 TX0 0
theorem nmX0 : ∀ a, a < 0 → ∀ b, b < 0 → a ≠ b → (TX0 a).2.1 ≠ (TX0 b).2.1 := by decide +kernel
theorem tyX0_ok : ∀ k, k < 0 → parseFieldDescriptor (TX0 k).2.2.1 = some (tyX0 k) := by decide +kernel
abbrev cX0_ordersOf : ByteArray := prog_2_method_2_code
def yX0_ordersOf : MethodName := ⟨RX0, "ordersOf", "(II)I"⟩
abbrev cX0_power : ByteArray := prog_2_method_3_code
def yX0_power : MethodName := ⟨RX0, "power", "(II)I"⟩
abbrev cX0_nextSeed : ByteArray := prog_2_method_4_code
def yX0_nextSeed : MethodName := ⟨RX0, "nextSeed", "(J)J"⟩
abbrev cX0_change : ByteArray := prog_2_method_5_code
def yX0_change : MethodName := ⟨RX0, "change", "(LDyckReachability$Edges;II)V"⟩
def RX1 : String := "DyckReachability$Distances"
def TX1 : u_T := fun k => match k with
  | 0 => ("DyckReachability$Distances", "table", "[I", true)
  | _ => ("DyckReachability$Distances", "vertices", "I", false)
def tyX1 : Nat → FieldType := fun k => match k with
  | 0 => .array .int
  | _ => .int
abbrev wsX10 : List Cond := u_ws RX1 TX1 2
theorem nmX1 : ∀ a, a < 2 → ∀ b, b < 2 → a ≠ b → (TX1 a).2.1 ≠ (TX1 b).2.1 := by decide +kernel
theorem tyX1_ok : ∀ k, k < 2 → parseFieldDescriptor (TX1 k).2.2.1 = some (tyX1 k) := by decide +kernel
abbrev cX1_init : ByteArray := prog_3_method_1_code
def yX1_init : MethodName := ⟨RX1, "<init>", "()V"⟩
abbrev cX1_between : ByteArray := prog_3_method_2_code
def yX1_between : MethodName := ⟨RX1, "between", "(II)I"⟩
abbrev cX1_reaches : ByteArray := prog_3_method_3_code
def yX1_reaches : MethodName := ⟨RX1, "reaches", "(II)Z"⟩
abbrev cX1_measure : ByteArray := prog_3_method_4_code
def yX1_measure : MethodName := ⟨RX1, "measure", "(LDyckReachability$Edges;I)V"⟩
abbrev cX1_shortenBehind : ByteArray := prog_3_method_5_code
def yX1_shortenBehind : MethodName := ⟨RX1, "shortenBehind", "(ILDyckReachability$Edges;)Z"⟩
abbrev cX1_shorten : ByteArray := prog_3_method_6_code
def yX1_shorten : MethodName := ⟨RX1, "shorten", "(III)Z"⟩
abbrev cX1_edgeOnWitness : ByteArray := prog_3_method_7_code
def yX1_edgeOnWitness : MethodName := ⟨RX1, "edgeOnWitness", "(LDyckReachability$Edges;III)I"⟩
abbrev cX1_firstOnWitness : ByteArray := prog_3_method_8_code
def yX1_firstOnWitness : MethodName := ⟨RX1, "firstOnWitness", "(LDyckReachability$Edges;II)I"⟩
abbrev cX1_beginsShortest : ByteArray := prog_3_method_9_code
def yX1_beginsShortest : MethodName := ⟨RX1, "beginsShortest", "(LDyckReachability$Edges;II)Z"⟩
abbrev cX1_closingOnWitness : ByteArray := prog_3_method_10_code
def yX1_closingOnWitness : MethodName := ⟨RX1, "closingOnWitness", "(LDyckReachability$Edges;II)I"⟩
def RX2 : String := "DyckReachability$Edges"
def TX2 : u_T := fun k => match k with
  | 0 => ("DyckReachability$Edges", "sources", "[I", true)
  | 1 => ("DyckReachability$Edges", "targets", "[I", true)
  | 2 => ("DyckReachability$Edges", "labels", "[I", true)
  | _ => ("DyckReachability$Edges", "size", "I", false)
def tyX2 : Nat → FieldType := fun k => match k with
  | 0 => .array .int
  | 1 => .array .int
  | 2 => .array .int
  | _ => .int
abbrev wsX20 : List Cond := u_ws RX2 TX2 4
theorem nmX2 : ∀ a, a < 4 → ∀ b, b < 4 → a ≠ b → (TX2 a).2.1 ≠ (TX2 b).2.1 := by decide +kernel
theorem tyX2_ok : ∀ k, k < 4 → parseFieldDescriptor (TX2 k).2.2.1 = some (tyX2 k) := by decide +kernel
abbrev cX2_init : ByteArray := prog_4_method_1_code
def yX2_init : MethodName := ⟨RX2, "<init>", "(I)V"⟩
abbrev cX2_holds : ByteArray := prog_4_method_2_code
def yX2_holds : MethodName := ⟨RX2, "holds", "(I)Z"⟩
abbrev cX2_isFull : ByteArray := prog_4_method_3_code
def yX2_isFull : MethodName := ⟨RX2, "isFull", "()Z"⟩
abbrev cX2_put : ByteArray := prog_4_method_4_code
def yX2_put : MethodName := ⟨RX2, "put", "(III)V"⟩
abbrev cX2_drop : ByteArray := prog_4_method_5_code
def yX2_drop : MethodName := ⟨RX2, "drop", "(I)V"⟩
abbrev cX2_take : ByteArray := prog_4_method_6_code
def yX2_take : MethodName := ⟨RX2, "take", "(LDyckReachability$Edges;)V"⟩
abbrev cX2_takeSome : ByteArray := prog_4_method_7_code
def yX2_takeSome : MethodName := ⟨RX2, "takeSome", "(LDyckReachability$Edges;I)V"⟩
abbrev cX2_takeBothWays : ByteArray := prog_4_method_8_code
def yX2_takeBothWays : MethodName := ⟨RX2, "takeBothWays", "(LDyckReachability$Edges;)V"⟩
abbrev cX2_find : ByteArray := prog_4_method_9_code
def yX2_find : MethodName := ⟨RX2, "find", "(III)I"⟩
abbrev cX2_isEmptyLabelled : ByteArray := prog_4_method_10_code
def yX2_isEmptyLabelled : MethodName := ⟨RX2, "isEmptyLabelled", "(I)Z"⟩
abbrev cX2_opens : ByteArray := prog_4_method_11_code
def yX2_opens : MethodName := ⟨RX2, "opens", "(I)Z"⟩
abbrev cX2_closes : ByteArray := prog_4_method_12_code
def yX2_closes : MethodName := ⟨RX2, "closes", "(II)Z"⟩
abbrev cX2_otherBracket : ByteArray := prog_4_method_13_code
def yX2_otherBracket : MethodName := ⟨RX2, "otherBracket", "(I)I"⟩
def RX3 : String := "DyckReachability$GraphText"
def TX3 : u_T := fun k => match k with
  | 0 => ("DyckReachability$GraphText", "signs", "[I", true)
  | _ => ("DyckReachability$GraphText", "length", "I", false)
def tyX3 : Nat → FieldType := fun k => match k with
  | 0 => .array .int
  | _ => .int
abbrev wsX30 : List Cond := u_ws RX3 TX3 2
theorem nmX3 : ∀ a, a < 2 → ∀ b, b < 2 → a ≠ b → (TX3 a).2.1 ≠ (TX3 b).2.1 := by decide +kernel
theorem tyX3_ok : ∀ k, k < 2 → parseFieldDescriptor (TX3 k).2.2.1 = some (tyX3 k) := by decide +kernel
abbrev cX3_init : ByteArray := prog_5_method_1_code
def yX3_init : MethodName := ⟨RX3, "<init>", "()V"⟩
abbrev cX3_isFull : ByteArray := prog_5_method_2_code
def yX3_isFull : MethodName := ⟨RX3, "isFull", "()Z"⟩
abbrev cX3_put : ByteArray := prog_5_method_3_code
def yX3_put : MethodName := ⟨RX3, "put", "(I)V"⟩
abbrev cX3_firstFault : ByteArray := prog_5_method_4_code
def yX3_firstFault : MethodName := ⟨RX3, "firstFault", "()I"⟩
abbrev cX3_fits : ByteArray := prog_5_method_5_code
def yX3_fits : MethodName := ⟨RX3, "fits", "(I)Z"⟩
abbrev cX3_labelOf : ByteArray := prog_5_method_6_code
def yX3_labelOf : MethodName := ⟨RX3, "labelOf", "(I)I"⟩
abbrev cX3_writtenVertices : ByteArray := prog_5_method_7_code
def yX3_writtenVertices : MethodName := ⟨RX3, "writtenVertices", "()I"⟩
abbrev cX3_writeEdgesTo : ByteArray := prog_5_method_8_code
def yX3_writeEdgesTo : MethodName := ⟨RX3, "writeEdgesTo", "(LDyckReachability$Edges;)V"⟩
def RX4 : String := "DyckReachability$History"
def TX4 : u_T := fun k => match k with
  | 0 => ("DyckReachability$History", "states", "[LDyckReachability$Edges;", true)
  | 1 => ("DyckReachability$History", "next", "I", false)
  | _ => ("DyckReachability$History", "size", "I", false)
def tyX4 : Nat → FieldType := fun k => match k with
  | 0 => .array (.object "DyckReachability$Edges")
  | 1 => .int
  | _ => .int
abbrev wsX40 : List Cond := u_ws RX4 TX4 3
theorem nmX4 : ∀ a, a < 3 → ∀ b, b < 3 → a ≠ b → (TX4 a).2.1 ≠ (TX4 b).2.1 := by decide +kernel
theorem tyX4_ok : ∀ k, k < 3 → parseFieldDescriptor (TX4 k).2.2.1 = some (tyX4 k) := by decide +kernel
abbrev cX4_init : ByteArray := prog_6_method_1_code
def yX4_init : MethodName := ⟨RX4, "<init>", "()V"⟩
abbrev cX4_remember : ByteArray := prog_6_method_2_code
def yX4_remember : MethodName := ⟨RX4, "remember", "(LDyckReachability$Edges;)V"⟩
abbrev cX4_giveBack : ByteArray := prog_6_method_3_code
def yX4_giveBack : MethodName := ⟨RX4, "giveBack", "(LDyckReachability$Edges;)V"⟩
abbrev cX4_forgetAll : ByteArray := prog_6_method_4_code
def yX4_forgetAll : MethodName := ⟨RX4, "forgetAll", "()V"⟩
def RX5 : String := "DyckReachability$Observations"
def TX5 : u_T := fun k => match k with
  | 0 => ("DyckReachability$Observations", "starts", "[I", true)
  | 1 => ("DyckReachability$Observations", "ends", "[I", true)
  | 2 => ("DyckReachability$Observations", "answers", "[I", true)
  | _ => ("DyckReachability$Observations", "size", "I", false)
def tyX5 : Nat → FieldType := fun k => match k with
  | 0 => .array .int
  | 1 => .array .int
  | 2 => .array .int
  | _ => .int
abbrev wsX50 : List Cond := u_ws RX5 TX5 4
theorem nmX5 : ∀ a, a < 4 → ∀ b, b < 4 → a ≠ b → (TX5 a).2.1 ≠ (TX5 b).2.1 := by decide +kernel
theorem tyX5_ok : ∀ k, k < 4 → parseFieldDescriptor (TX5 k).2.2.1 = some (tyX5 k) := by decide +kernel
abbrev cX5_init : ByteArray := prog_7_method_1_code
def yX5_init : MethodName := ⟨RX5, "<init>", "()V"⟩
abbrev cX5_isFull : ByteArray := prog_7_method_2_code
def yX5_isFull : MethodName := ⟨RX5, "isFull", "()Z"⟩
abbrev cX5_put : ByteArray := prog_7_method_3_code
def yX5_put : MethodName := ⟨RX5, "put", "(III)V"⟩
abbrev cX5_allHold : ByteArray := prog_7_method_4_code
def yX5_allHold : MethodName := ⟨RX5, "allHold", "(JI)Z"⟩
def RX6 : String := "DyckReachability$Relation"
def TX6 : u_T := fun k => match k with
  | _ => ("", "", "", false)
def tyX6 : Nat → FieldType := fun k => match k with
  | _ => .int
abbrev wsX60 : List Cond := u_ws RX6 TX6 0
theorem nmX6 : ∀ a, a < 0 → ∀ b, b < 0 → a ≠ b → (TX6 a).2.1 ≠ (TX6 b).2.1 := by decide +kernel
theorem tyX6_ok : ∀ k, k < 0 → parseFieldDescriptor (TX6 k).2.2.1 = some (tyX6 k) := by decide +kernel
abbrev cX6_row : ByteArray := prog_8_method_2_code
def yX6_row : MethodName := ⟨RX6, "row", "(JI)I"⟩
abbrev cX6_has : ByteArray := prog_8_method_3_code
def yX6_has : MethodName := ⟨RX6, "has", "(JII)Z"⟩
abbrev cX6_withRow : ByteArray := prog_8_method_4_code
def yX6_withRow : MethodName := ⟨RX6, "withRow", "(JII)J"⟩
abbrev cX6_identity : ByteArray := prog_8_method_5_code
def yX6_identity : MethodName := ⟨RX6, "identity", "(I)J"⟩
abbrev cX6_ofBalancedPaths : ByteArray := prog_8_method_6_code
def yX6_ofBalancedPaths : MethodName := ⟨RX6, "ofBalancedPaths", "(LDyckReachability$Edges;I)J"⟩
abbrev cX6_withPathsBehind : ByteArray := prog_8_method_7_code
def yX6_withPathsBehind : MethodName := ⟨RX6, "withPathsBehind", "(IJLDyckReachability$Edges;)J"⟩
abbrev cX6_nestedAround : ByteArray := prog_8_method_8_code
def yX6_nestedAround : MethodName := ⟨RX6, "nestedAround", "(JLDyckReachability$Edges;I)J"⟩
abbrev cX6_stepsBy : ByteArray := prog_8_method_9_code
def yX6_stepsBy : MethodName := ⟨RX6, "stepsBy", "(IJLDyckReachability$Edges;)I"⟩
abbrev cX6_transitive : ByteArray := prog_8_method_10_code
def yX6_transitive : MethodName := ⟨RX6, "transitive", "(J)J"⟩
def RX7 : String := "DyckReachability$Script"
def TX7 : u_T := fun k => match k with
  | _ => ("", "", "", false)
def tyX7 : Nat → FieldType := fun k => match k with
  | _ => .int
abbrev wsX70 : List Cond := u_ws RX7 TX7 0
theorem nmX7 : ∀ a, a < 0 → ∀ b, b < 0 → a ≠ b → (TX7 a).2.1 ≠ (TX7 b).2.1 := by decide +kernel
theorem tyX7_ok : ∀ k, k < 0 → parseFieldDescriptor (TX7 k).2.2.1 = some (tyX7 k) := by decide +kernel
abbrev cX7_withoutLowest : ByteArray := prog_9_method_2_code
def yX7_withoutLowest : MethodName := ⟨RX7, "withoutLowest", "(IJ)J"⟩
abbrev cX7_lowestGroup : ByteArray := prog_9_method_3_code
def yX7_lowestGroup : MethodName := ⟨RX7, "lowestGroup", "(J)I"⟩
abbrev cX7_succeeds : ByteArray := prog_9_method_4_code
def yX7_succeeds : MethodName := ⟨RX7, "succeeds", "(ILDyckReachability$Edges;ILDyckReachability$Distances;)Z"⟩
abbrev cX7_adds : ByteArray := prog_9_method_5_code
def yX7_adds : MethodName := ⟨RX7, "adds", "(LDyckReachability$Edges;IIII)Z"⟩
abbrev cX7_removes : ByteArray := prog_9_method_6_code
def yX7_removes : MethodName := ⟨RX7, "removes", "(LDyckReachability$Edges;I)Z"⟩
def RX8 : String := "DyckReachability"
def TX8 : u_T := fun k => match k with
  | 0 => ("DyckReachability", "vertices", "I", false)
  | 1 => ("DyckReachability", "seed", "J", false)
  | 2 => ("DyckReachability", "edges", "LDyckReachability$Edges;", true)
  | 3 => ("DyckReachability", "copy", "LDyckReachability$Edges;", true)
  | 4 => ("DyckReachability", "bothWays", "LDyckReachability$Edges;", true)
  | 5 => ("DyckReachability", "distances", "LDyckReachability$Distances;", true)
  | 6 => ("DyckReachability", "history", "LDyckReachability$History;", true)
  | 7 => ("DyckReachability", "slots", "[LDyckReachability$Edges;", true)
  | 8 => ("DyckReachability", "slotFilled", "[Z", true)
  | 9 => ("DyckReachability", "text", "LDyckReachability$GraphText;", true)
  | _ => ("DyckReachability", "observations", "LDyckReachability$Observations;", true)
def tyX8 : Nat → FieldType := fun k => match k with
  | 0 => .int
  | 1 => .long
  | 2 => .object "DyckReachability$Edges"
  | 3 => .object "DyckReachability$Edges"
  | 4 => .object "DyckReachability$Edges"
  | 5 => .object "DyckReachability$Distances"
  | 6 => .object "DyckReachability$History"
  | 7 => .array (.object "DyckReachability$Edges")
  | 8 => .array .boolean
  | 9 => .object "DyckReachability$GraphText"
  | _ => .object "DyckReachability$Observations"
abbrev wsX80 : List Cond := u_ws RX8 TX8 11
theorem nmX8 : ∀ a, a < 11 → ∀ b, b < 11 → a ≠ b → (TX8 a).2.1 ≠ (TX8 b).2.1 := by decide +kernel
theorem tyX8_ok : ∀ k, k < 11 → parseFieldDescriptor (TX8 k).2.2.1 = some (tyX8 k) := by decide +kernel
abbrev cX8_init : ByteArray := prog_1_method_1_code
def yX8_init : MethodName := ⟨RX8, "<init>", "()V"⟩
abbrev cX8_append : ByteArray := prog_1_method_2_code
def yX8_append : MethodName := ⟨RX8, "append", "(I)I"⟩
abbrev cX8_clearText : ByteArray := prog_1_method_3_code
def yX8_clearText : MethodName := ⟨RX8, "clearText", "()I"⟩
abbrev cX8_errorPosition : ByteArray := prog_1_method_4_code
def yX8_errorPosition : MethodName := ⟨RX8, "errorPosition", "()I"⟩
abbrev cX8_load : ByteArray := prog_1_method_5_code
def yX8_load : MethodName := ⟨RX8, "load", "()I"⟩
abbrev cX8_vertexCount : ByteArray := prog_1_method_6_code
def yX8_vertexCount : MethodName := ⟨RX8, "vertexCount", "()I"⟩
abbrev cX8_edgeCount : ByteArray := prog_1_method_7_code
def yX8_edgeCount : MethodName := ⟨RX8, "edgeCount", "()I"⟩
abbrev cX8_source : ByteArray := prog_1_method_8_code
def yX8_source : MethodName := ⟨RX8, "source", "(I)I"⟩
abbrev cX8_target : ByteArray := prog_1_method_9_code
def yX8_target : MethodName := ⟨RX8, "target", "(I)I"⟩
abbrev cX8_label : ByteArray := prog_1_method_10_code
def yX8_label : MethodName := ⟨RX8, "label", "(I)I"⟩
abbrev cX8_addEdge : ByteArray := prog_1_method_11_code
def yX8_addEdge : MethodName := ⟨RX8, "addEdge", "(III)I"⟩
abbrev cX8_removeEdge : ByteArray := prog_1_method_12_code
def yX8_removeEdge : MethodName := ⟨RX8, "removeEdge", "(I)I"⟩
abbrev cX8_setLabel : ByteArray := prog_1_method_13_code
def yX8_setLabel : MethodName := ⟨RX8, "setLabel", "(II)I"⟩
abbrev cX8_undo : ByteArray := prog_1_method_14_code
def yX8_undo : MethodName := ⟨RX8, "undo", "()I"⟩
abbrev cX8_reachableFrom : ByteArray := prog_1_method_15_code
def yX8_reachableFrom : MethodName := ⟨RX8, "reachableFrom", "(I)I"⟩
abbrev cX8_pairCount : ByteArray := prog_1_method_16_code
def yX8_pairCount : MethodName := ⟨RX8, "pairCount", "()I"⟩
abbrev cX8_distance : ByteArray := prog_1_method_17_code
def yX8_distance : MethodName := ⟨RX8, "distance", "(II)I"⟩
abbrev cX8_witnessEdge : ByteArray := prog_1_method_18_code
def yX8_witnessEdge : MethodName := ⟨RX8, "witnessEdge", "(III)I"⟩
abbrev cX8_depth : ByteArray := prog_1_method_19_code
def yX8_depth : MethodName := ⟨RX8, "depth", "(II)I"⟩
abbrev cX8_loss : ByteArray := prog_1_method_20_code
def yX8_loss : MethodName := ⟨RX8, "loss", "(I)I"⟩
abbrev cX8_criticalEdge : ByteArray := prog_1_method_21_code
def yX8_criticalEdge : MethodName := ⟨RX8, "criticalEdge", "()I"⟩
abbrev cX8_representative : ByteArray := prog_1_method_22_code
def yX8_representative : MethodName := ⟨RX8, "representative", "(I)I"⟩
abbrev cX8_runScript : ByteArray := prog_1_method_23_code
def yX8_runScript : MethodName := ⟨RX8, "runScript", "(IJ)I"⟩
abbrev cX8_observe : ByteArray := prog_1_method_24_code
def yX8_observe : MethodName := ⟨RX8, "observe", "(III)I"⟩
abbrev cX8_clearObservations : ByteArray := prog_1_method_25_code
def yX8_clearObservations : MethodName := ⟨RX8, "clearObservations", "()I"⟩
abbrev cX8_possibleLabels : ByteArray := prog_1_method_26_code
def yX8_possibleLabels : MethodName := ⟨RX8, "possibleLabels", "(I)I"⟩
abbrev cX8_share : ByteArray := prog_1_method_27_code
def yX8_share : MethodName := ⟨RX8, "share", "(I)I"⟩
abbrev cX8_reliability : ByteArray := prog_1_method_28_code
def yX8_reliability : MethodName := ⟨RX8, "reliability", "(III)I"⟩
abbrev cX8_setSeed : ByteArray := prog_1_method_29_code
def yX8_setSeed : MethodName := ⟨RX8, "setSeed", "(J)J"⟩
abbrev cX8_simulate : ByteArray := prog_1_method_30_code
def yX8_simulate : MethodName := ⟨RX8, "simulate", "(I)I"⟩
abbrev cX8_save : ByteArray := prog_1_method_31_code
def yX8_save : MethodName := ⟨RX8, "save", "(I)I"⟩
abbrev cX8_restore : ByteArray := prog_1_method_32_code
def yX8_restore : MethodName := ⟨RX8, "restore", "(I)I"⟩
abbrev cX8_isVertex : ByteArray := prog_1_method_33_code
def yX8_isVertex : MethodName := ⟨RX8, "isVertex", "(I)Z"⟩
abbrev cX8_isVertexNumber : ByteArray := prog_1_method_34_code
def yX8_isVertexNumber : MethodName := ⟨RX8, "isVertexNumber", "(I)Z"⟩
abbrev cX8_isLabel : ByteArray := prog_1_method_35_code
def yX8_isLabel : MethodName := ⟨RX8, "isLabel", "(I)Z"⟩
abbrev cX8_isSlot : ByteArray := prog_1_method_36_code
def yX8_isSlot : MethodName := ⟨RX8, "isSlot", "(I)Z"⟩
abbrev cX8_countPairs : ByteArray := prog_1_method_37_code
def yX8_countPairs : MethodName := ⟨RX8, "countPairs", "(LDyckReachability$Edges;)I"⟩
abbrev cX8_countPairsWithout : ByteArray := prog_1_method_38_code
def yX8_countPairsWithout : MethodName := ⟨RX8, "countPairsWithout", "(I)I"⟩
abbrev cX8_worth : ByteArray := prog_1_method_39_code
def yX8_worth : MethodName := ⟨RX8, "worth", "(I)I"⟩
def RX9 : String := "DyckReachabilityModel"
def TX9 : u_T := fun k => match k with
  | 0 => ("DyckReachabilityModel", "thrown", "I", false)
  | 1 => ("DyckReachabilityModel", "text", "[I", true)
  | 2 => ("DyckReachabilityModel", "textSize", "I", false)
  | 3 => ("DyckReachabilityModel", "pos", "I", false)
  | 4 => ("DyckReachabilityModel", "parsedVertices", "I", false)
  | 5 => ("DyckReachabilityModel", "parsed", "[I", true)
  | 6 => ("DyckReachabilityModel", "vertices", "I", false)
  | 7 => ("DyckReachabilityModel", "graph", "[I", true)
  | 8 => ("DyckReachabilityModel", "copy", "[I", true)
  | 9 => ("DyckReachabilityModel", "history", "[I", true)
  | 10 => ("DyckReachabilityModel", "remembered", "I", false)
  | 11 => ("DyckReachabilityModel", "slots", "[I", true)
  | 12 => ("DyckReachabilityModel", "slotUsed", "[Z", true)
  | 13 => ("DyckReachabilityModel", "observed", "I", false)
  | 14 => ("DyckReachabilityModel", "observedFrom", "[I", true)
  | 15 => ("DyckReachabilityModel", "observedTo", "[I", true)
  | 16 => ("DyckReachabilityModel", "observedIs", "[I", true)
  | 17 => ("DyckReachabilityModel", "seed", "J", false)
  | 18 => ("DyckReachabilityModel", "lengths", "[I", true)
  | 19 => ("DyckReachabilityModel", "depths", "[I", true)
  | _ => ("DyckReachabilityModel", "wide", "[I", true)
def tyX9 : Nat → FieldType := fun k => match k with
  | 0 => .int
  | 1 => .array .int
  | 2 => .int
  | 3 => .int
  | 4 => .int
  | 5 => .array .int
  | 6 => .int
  | 7 => .array .int
  | 8 => .array .int
  | 9 => .array .int
  | 10 => .int
  | 11 => .array .int
  | 12 => .array .boolean
  | 13 => .int
  | 14 => .array .int
  | 15 => .array .int
  | 16 => .array .int
  | 17 => .long
  | 18 => .array .int
  | 19 => .array .int
  | _ => .array .int
abbrev wsX90 : List Cond := u_ws RX9 TX9 21
theorem nmX9 : ∀ a, a < 21 → ∀ b, b < 21 → a ≠ b → (TX9 a).2.1 ≠ (TX9 b).2.1 := by decide +kernel
theorem tyX9_ok : ∀ k, k < 21 → parseFieldDescriptor (TX9 k).2.2.1 = some (tyX9 k) := by decide +kernel
abbrev cX9_init : ByteArray := prog_11_method_1_code
def yX9_init : MethodName := ⟨RX9, "<init>", "()V"⟩
abbrev cX9_in : ByteArray := prog_11_method_3_code
def yX9_in : MethodName := ⟨RX9, "in", "(JJJ)Z"⟩
abbrev cX9_has : ByteArray := prog_11_method_4_code
def yX9_has : MethodName := ⟨RX9, "has", "(II)Z"⟩
abbrev cX9_bits : ByteArray := prog_11_method_5_code
def yX9_bits : MethodName := ⟨RX9, "bits", "(I)I"⟩
abbrev cX9_assign : ByteArray := prog_11_method_6_code
def yX9_assign : MethodName := ⟨RX9, "assign", "([I[I)V"⟩
abbrev cX9_noVertex : ByteArray := prog_11_method_7_code
def yX9_noVertex : MethodName := ⟨RX9, "noVertex", "(I)Z"⟩
abbrev cX9_noEdge : ByteArray := prog_11_method_8_code
def yX9_noEdge : MethodName := ⟨RX9, "noEdge", "(I)Z"⟩
abbrev cX9_improve : ByteArray := prog_11_method_9_code
def yX9_improve : MethodName := ⟨RX9, "improve", "(III)Z"⟩
abbrev cX9_close : ByteArray := prog_11_method_10_code
def yX9_close : MethodName := ⟨RX9, "close", "(I)V"⟩
abbrev cX9_closeOf : ByteArray := prog_11_method_11_code
def yX9_closeOf : MethodName := ⟨RX9, "closeOf", "([II)V"⟩
abbrev cX9_reaches : ByteArray := prog_11_method_12_code
def yX9_reaches : MethodName := ⟨RX9, "reaches", "(II)Z"⟩
abbrev cX9_pairs : ByteArray := prog_11_method_13_code
def yX9_pairs : MethodName := ⟨RX9, "pairs", "()I"⟩
abbrev cX9_pairsOf : ByteArray := prog_11_method_14_code
def yX9_pairsOf : MethodName := ⟨RX9, "pairsOf", "([II)I"⟩
abbrev cX9_append : ByteArray := prog_11_method_15_code
def yX9_append : MethodName := ⟨RX9, "append", "(I)I"⟩
abbrev cX9_clearText : ByteArray := prog_11_method_16_code
def yX9_clearText : MethodName := ⟨RX9, "clearText", "()I"⟩
abbrev cX9_digit : ByteArray := prog_11_method_17_code
def yX9_digit : MethodName := ⟨RX9, "digit", "(II)I"⟩
abbrev cX9_labelChar : ByteArray := prog_11_method_18_code
def yX9_labelChar : MethodName := ⟨RX9, "labelChar", "()I"⟩
abbrev cX9_errorPosition : ByteArray := prog_11_method_19_code
def yX9_errorPosition : MethodName := ⟨RX9, "errorPosition", "()I"⟩
abbrev cX9_put : ByteArray := prog_11_method_20_code
def yX9_put : MethodName := ⟨RX9, "put", "([IIII)V"⟩
abbrev cX9_drop : ByteArray := prog_11_method_21_code
def yX9_drop : MethodName := ⟨RX9, "drop", "([II)V"⟩
abbrev cX9_load : ByteArray := prog_11_method_22_code
def yX9_load : MethodName := ⟨RX9, "load", "()I"⟩
abbrev cX9_vertexCount : ByteArray := prog_11_method_23_code
def yX9_vertexCount : MethodName := ⟨RX9, "vertexCount", "()I"⟩
abbrev cX9_edgeCount : ByteArray := prog_11_method_24_code
def yX9_edgeCount : MethodName := ⟨RX9, "edgeCount", "()I"⟩
abbrev cX9_source : ByteArray := prog_11_method_25_code
def yX9_source : MethodName := ⟨RX9, "source", "(I)I"⟩
abbrev cX9_target : ByteArray := prog_11_method_26_code
def yX9_target : MethodName := ⟨RX9, "target", "(I)I"⟩
abbrev cX9_label : ByteArray := prog_11_method_27_code
def yX9_label : MethodName := ⟨RX9, "label", "(I)I"⟩
abbrev cX9_remember : ByteArray := prog_11_method_28_code
def yX9_remember : MethodName := ⟨RX9, "remember", "()V"⟩
abbrev cX9_addEdge : ByteArray := prog_11_method_29_code
def yX9_addEdge : MethodName := ⟨RX9, "addEdge", "(III)I"⟩
abbrev cX9_removeEdge : ByteArray := prog_11_method_30_code
def yX9_removeEdge : MethodName := ⟨RX9, "removeEdge", "(I)I"⟩
abbrev cX9_setLabel : ByteArray := prog_11_method_31_code
def yX9_setLabel : MethodName := ⟨RX9, "setLabel", "(II)I"⟩
abbrev cX9_undo : ByteArray := prog_11_method_32_code
def yX9_undo : MethodName := ⟨RX9, "undo", "()I"⟩
abbrev cX9_reachableFrom : ByteArray := prog_11_method_33_code
def yX9_reachableFrom : MethodName := ⟨RX9, "reachableFrom", "(I)I"⟩
abbrev cX9_pairCount : ByteArray := prog_11_method_34_code
def yX9_pairCount : MethodName := ⟨RX9, "pairCount", "()I"⟩
abbrev cX9_distance : ByteArray := prog_11_method_35_code
def yX9_distance : MethodName := ⟨RX9, "distance", "(II)I"⟩
abbrev cX9_lengthBy : ByteArray := prog_11_method_36_code
def yX9_lengthBy : MethodName := ⟨RX9, "lengthBy", "(IIII)I"⟩
abbrev cX9_firstStep : ByteArray := prog_11_method_37_code
def yX9_firstStep : MethodName := ⟨RX9, "firstStep", "(II)I"⟩
abbrev cX9_witnessEdge : ByteArray := prog_11_method_38_code
def yX9_witnessEdge : MethodName := ⟨RX9, "witnessEdge", "(III)I"⟩
abbrev cX9_lessDeep : ByteArray := prog_11_method_39_code
def yX9_lessDeep : MethodName := ⟨RX9, "lessDeep", "(III)Z"⟩
abbrev cX9_closeDepths : ByteArray := prog_11_method_40_code
def yX9_closeDepths : MethodName := ⟨RX9, "closeDepths", "()V"⟩
abbrev cX9_depth : ByteArray := prog_11_method_41_code
def yX9_depth : MethodName := ⟨RX9, "depth", "(II)I"⟩
abbrev cX9_lossOf : ByteArray := prog_11_method_42_code
def yX9_lossOf : MethodName := ⟨RX9, "lossOf", "(I)I"⟩
abbrev cX9_loss : ByteArray := prog_11_method_43_code
def yX9_loss : MethodName := ⟨RX9, "loss", "(I)I"⟩
abbrev cX9_criticalEdge : ByteArray := prog_11_method_44_code
def yX9_criticalEdge : MethodName := ⟨RX9, "criticalEdge", "()I"⟩
abbrev cX9_representative : ByteArray := prog_11_method_45_code
def yX9_representative : MethodName := ⟨RX9, "representative", "(I)I"⟩
abbrev cX9_command : ByteArray := prog_11_method_46_code
def yX9_command : MethodName := ⟨RX9, "command", "(IIII)Z"⟩
abbrev cX9_tenThousands : ByteArray := prog_11_method_47_code
def yX9_tenThousands : MethodName := ⟨RX9, "tenThousands", "(I)J"⟩
abbrev cX9_runScript : ByteArray := prog_11_method_48_code
def yX9_runScript : MethodName := ⟨RX9, "runScript", "(IJ)I"⟩
abbrev cX9_observe : ByteArray := prog_11_method_49_code
def yX9_observe : MethodName := ⟨RX9, "observe", "(III)I"⟩
abbrev cX9_clearObservations : ByteArray := prog_11_method_50_code
def yX9_clearObservations : MethodName := ⟨RX9, "clearObservations", "()I"⟩
abbrev cX9_possibleLabels : ByteArray := prog_11_method_51_code
def yX9_possibleLabels : MethodName := ⟨RX9, "possibleLabels", "(I)I"⟩
abbrev cX9_factorial : ByteArray := prog_11_method_52_code
def yX9_factorial : MethodName := ⟨RX9, "factorial", "(I)I"⟩
abbrev cX9_share : ByteArray := prog_11_method_53_code
def yX9_share : MethodName := ⟨RX9, "share", "(I)I"⟩
abbrev cX9_reliability : ByteArray := prog_11_method_54_code
def yX9_reliability : MethodName := ⟨RX9, "reliability", "(III)I"⟩
abbrev cX9_setSeed : ByteArray := prog_11_method_55_code
def yX9_setSeed : MethodName := ⟨RX9, "setSeed", "(J)J"⟩
abbrev cX9_toggle : ByteArray := prog_11_method_56_code
def yX9_toggle : MethodName := ⟨RX9, "toggle", "(III)V"⟩
abbrev cX9_simulate : ByteArray := prog_11_method_57_code
def yX9_simulate : MethodName := ⟨RX9, "simulate", "(I)I"⟩
abbrev cX9_save : ByteArray := prog_11_method_58_code
def yX9_save : MethodName := ⟨RX9, "save", "(I)I"⟩
abbrev cX9_restore : ByteArray := prog_11_method_59_code
def yX9_restore : MethodName := ⟨RX9, "restore", "(I)I"⟩
def RJ6 : String := "java/lang/Integer"
def TJ6 : u_T := fun k => match k with
  | _ => ("", "", "", false)
def tyJ6 : Nat → FieldType := fun k => match k with
  | _ => .int
abbrev wsJ60 : List Cond := u_ws RJ6 TJ6 0
theorem nmJ6 : ∀ a, a < 0 → ∀ b, b < 0 → a ≠ b → (TJ6 a).2.1 ≠ (TJ6 b).2.1 := by decide +kernel
theorem tyJ6_ok : ∀ k, k < 0 → parseFieldDescriptor (TJ6 k).2.2.1 = some (tyJ6 k) := by decide +kernel
abbrev cJ6_numberOfTrailingZeros_0f7a4 : ByteArray := prog_12_method_48_code
def yJ6_numberOfTrailingZeros_0f7a4 : MethodName := ⟨RJ6, "numberOfTrailingZeros", "(I)I"⟩
abbrev cJ6_bitCount_0f7a4 : ByteArray := prog_12_method_49_code
def yJ6_bitCount_0f7a4 : MethodName := ⟨RJ6, "bitCount", "(I)I"⟩
def RJ13 : String := "java/lang/Long"
def TJ13 : u_T := fun k => match k with
  | _ => ("", "", "", false)
def tyJ13 : Nat → FieldType := fun k => match k with
  | _ => .int
abbrev wsJ130 : List Cond := u_ws RJ13 TJ13 0
theorem nmJ13 : ∀ a, a < 0 → ∀ b, b < 0 → a ≠ b → (TJ13 a).2.1 ≠ (TJ13 b).2.1 := by decide +kernel
theorem tyJ13_ok : ∀ k, k < 0 → parseFieldDescriptor (TJ13 k).2.2.1 = some (tyJ13 k) := by decide +kernel
abbrev cJ13_bitCount_95d88 : ByteArray := prog_13_method_50_code
def yJ13_bitCount_95d88 : MethodName := ⟨RJ13, "bitCount", "(J)I"⟩
def RJ9 : String := "java/lang/Math"
def TJ9 : u_T := fun k => match k with
  | _ => ("", "", "", false)
def tyJ9 : Nat → FieldType := fun k => match k with
  | _ => .int
abbrev wsJ90 : List Cond := u_ws RJ9 TJ9 0
theorem nmJ9 : ∀ a, a < 0 → ∀ b, b < 0 → a ≠ b → (TJ9 a).2.1 ≠ (TJ9 b).2.1 := by decide +kernel
theorem tyJ9_ok : ∀ k, k < 0 → parseFieldDescriptor (TJ9 k).2.2.1 = some (tyJ9 k) := by decide +kernel
abbrev cJ9_min_7cf53 : ByteArray := prog_14_method_69_code
def yJ9_min_7cf53 : MethodName := ⟨RJ9, "min", "(II)I"⟩
def RL : String := "DyckReachabilityLaw"
def wsX0_ordersOf : List Cond := .code yX0_ordersOf cX0_ordersOf 3 (some .int) :: ([.fieldLink RX0 11 "DyckReachability$Chance" "FACTORIALS" "[I", .fieldLink RX0 15 "DyckReachability$Chance" "SCALES" "[I"])
def wsX0_power : List Cond := .code yX0_power cX0_power 4 (some .int) :: ([])
def wsX0_nextSeed : List Cond := .code yX0_nextSeed cX0_nextSeed 2 (some .long) :: ([.constantLong RX0 18 (6364136223846793005), .constantLong RX0 20 (1442695040888963407)])
def wsX2_find : List Cond := .code yX2_find cX2_find 5 (some .int) :: ([.fieldLink RX2 21 "DyckReachability$Edges" "size" "I", .fieldLink RX2 9 "DyckReachability$Edges" "sources" "[I", .fieldLink RX2 15 "DyckReachability$Edges" "targets" "[I", .fieldLink RX2 18 "DyckReachability$Edges" "labels" "[I"] ++ wsX20)
def wsX2_isFull : List Cond := .code yX2_isFull cX2_isFull 1 (some .boolean) :: ([.fieldLink RX2 21 "DyckReachability$Edges" "size" "I", .fieldLink RX2 9 "DyckReachability$Edges" "sources" "[I"] ++ wsX20)
def wsX2_put : List Cond := .code yX2_put cX2_put 4 none :: ([.fieldLink RX2 9 "DyckReachability$Edges" "sources" "[I", .fieldLink RX2 21 "DyckReachability$Edges" "size" "I", .fieldLink RX2 15 "DyckReachability$Edges" "targets" "[I", .fieldLink RX2 18 "DyckReachability$Edges" "labels" "[I", .methodLink RX2 25 yX2_isFull, .instanceMethod yX2_isFull, .selects RX2 yX2_isFull yX2_isFull, .initialized RX2, .code yX2_isFull cX2_isFull 1 (some .boolean)] ++ wsX20)
def wsX2_holds : List Cond := .code yX2_holds cX2_holds 2 (some .boolean) :: ([.fieldLink RX2 21 "DyckReachability$Edges" "size" "I"] ++ wsX20)
def wsX2_drop : List Cond := .code yX2_drop cX2_drop 3 none :: ([.fieldLink RX2 21 "DyckReachability$Edges" "size" "I", .fieldLink RX2 9 "DyckReachability$Edges" "sources" "[I", .fieldLink RX2 15 "DyckReachability$Edges" "targets" "[I", .fieldLink RX2 18 "DyckReachability$Edges" "labels" "[I", .methodLink RX2 29 yX2_holds, .instanceMethod yX2_holds, .selects RX2 yX2_holds yX2_holds, .initialized RX2, .code yX2_holds cX2_holds 2 (some .boolean)] ++ wsX20)
def wsX0_change_r1 : List Cond := [Cond.methodLink RX0 22 yX2_find, Cond.instanceMethod yX2_find, Cond.selects RX2 yX2_find yX2_find, Cond.initialized RX2, Cond.code yX2_find cX2_find 5 (some .int), Cond.fieldLink RX2 21 "DyckReachability$Edges" "size" "I", Cond.fieldLink RX2 9 "DyckReachability$Edges" "sources" "[I", Cond.fieldLink RX2 15 "DyckReachability$Edges" "targets" "[I", Cond.fieldLink RX2 18 "DyckReachability$Edges" "labels" "[I", Cond.methodLink RX0 28 yX2_put, Cond.instanceMethod yX2_put, Cond.selects RX2 yX2_put yX2_put, Cond.code yX2_put cX2_put 4 none, Cond.methodLink RX2 25 yX2_isFull, Cond.instanceMethod yX2_isFull, Cond.selects RX2 yX2_isFull yX2_isFull, Cond.code yX2_isFull cX2_isFull 1 (some .boolean), Cond.methodLink RX0 32 yX2_drop, Cond.instanceMethod yX2_drop, Cond.selects RX2 yX2_drop yX2_drop, Cond.code yX2_drop cX2_drop 3 none, Cond.methodLink RX2 29 yX2_holds, Cond.instanceMethod yX2_holds, Cond.selects RX2 yX2_holds yX2_holds]
def wsX0_change_r2 : List Cond := [Cond.code yX2_holds cX2_holds 2 (some .boolean)]
def wsX0_change : List Cond := .code yX0_change cX0_change 7 none :: ((wsX0_change_r1 ++ wsX0_change_r2) ++ wsX20)
def wsX1_init : List Cond := .code yX1_init cX1_init 1 none :: ([.methodLink RX1 5 objectInit, .instanceMethod objectInit, .code objectInit ⟨#[0xb1]⟩ 1 none, .arrayClass .int, .fieldLink RX1 11 "DyckReachability$Distances" "table" "[I", .fieldLink RX1 15 "DyckReachability$Distances" "vertices" "I"] ++ wsX10)
def wsX1_between : List Cond := .code yX1_between cX1_between 3 (some .int) :: ([.fieldLink RX1 11 "DyckReachability$Distances" "table" "[I"] ++ wsX10)
def wsX1_reaches : List Cond := .code yX1_reaches cX1_reaches 3 (some .boolean) :: ([.constant RX1 23 (1000001), .methodLink RX1 19 yX1_between, .instanceMethod yX1_between, .selects RX1 yX1_between yX1_between, .initialized RX1, .code yX1_between cX1_between 3 (some .int), .fieldLink RX1 11 "DyckReachability$Distances" "table" "[I"] ++ wsX10)
def wsX2_isEmptyLabelled : List Cond := .code yX2_isEmptyLabelled cX2_isEmptyLabelled 2 (some .boolean) :: ([.fieldLink RX2 18 "DyckReachability$Edges" "labels" "[I"] ++ wsX20)
def wsX1_shorten : List Cond := .code yX1_shorten cX1_shorten 7 (some .boolean) :: ([.fieldLink RX1 15 "DyckReachability$Distances" "vertices" "I", .constant RX1 57 (1000000), .methodLink RX1 58 Lib.Math.min.name, .static Lib.Math.min.name, .initialized "java/lang/Math", .code Lib.Math.min.name Lib.Math.min.code 2 (some .int), .fieldLink RX1 11 "DyckReachability$Distances" "table" "[I", .methodLink RX1 54 yX1_reaches, .instanceMethod yX1_reaches, .selects RX1 yX1_reaches yX1_reaches, .initialized RX1, .code yX1_reaches cX1_reaches 3 (some .boolean), .constant RX1 23 (1000001), .methodLink RX1 19 yX1_between, .instanceMethod yX1_between, .selects RX1 yX1_between yX1_between, .code yX1_between cX1_between 3 (some .int)] ++ wsX10)
def wsX2_opens : List Cond := .code yX2_opens cX2_opens 2 (some .boolean) :: ([.fieldLink RX2 18 "DyckReachability$Edges" "labels" "[I"] ++ wsX20)
def wsX2_closes : List Cond := .code yX2_closes cX2_closes 3 (some .boolean) :: ([.fieldLink RX2 18 "DyckReachability$Edges" "labels" "[I"] ++ wsX20)
def wsX1_shortenBehind_r1 : List Cond := [Cond.fieldLink RX1 33 "DyckReachability$Edges" "sources" "[I", Cond.fieldLink RX1 36 "DyckReachability$Edges" "targets" "[I", Cond.fieldLink RX1 24 "DyckReachability$Edges" "size" "I", Cond.methodLink RX1 39 yX2_isEmptyLabelled, Cond.instanceMethod yX2_isEmptyLabelled, Cond.selects RX2 yX2_isEmptyLabelled yX2_isEmptyLabelled, Cond.initialized RX2, Cond.code yX2_isEmptyLabelled cX2_isEmptyLabelled 2 (some .boolean), Cond.fieldLink RX2 18 "DyckReachability$Edges" "labels" "[I", Cond.methodLink RX1 43 yX1_shorten, Cond.instanceMethod yX1_shorten, Cond.selects RX1 yX1_shorten yX1_shorten, Cond.initialized RX1, Cond.code yX1_shorten cX1_shorten 7 (some .boolean), Cond.fieldLink RX1 15 "DyckReachability$Distances" "vertices" "I", Cond.constant RX1 57 (1000000), Cond.methodLink RX1 58 Lib.Math.min.name, Cond.static Lib.Math.min.name, Cond.initialized "java/lang/Math", Cond.code Lib.Math.min.name Lib.Math.min.code 2 (some .int), Cond.fieldLink RX1 11 "DyckReachability$Distances" "table" "[I", Cond.methodLink RX1 54 yX1_reaches, Cond.instanceMethod yX1_reaches, Cond.selects RX1 yX1_reaches yX1_reaches]
def wsX1_shortenBehind_r2 : List Cond := [Cond.code yX1_reaches cX1_reaches 3 (some .boolean), Cond.constant RX1 23 (1000001), Cond.methodLink RX1 19 yX1_between, Cond.instanceMethod yX1_between, Cond.selects RX1 yX1_between yX1_between, Cond.code yX1_between cX1_between 3 (some .int), Cond.methodLink RX1 47 yX2_opens, Cond.instanceMethod yX2_opens, Cond.selects RX2 yX2_opens yX2_opens, Cond.code yX2_opens cX2_opens 2 (some .boolean), Cond.methodLink RX1 50 yX2_closes, Cond.instanceMethod yX2_closes, Cond.selects RX2 yX2_closes yX2_closes, Cond.code yX2_closes cX2_closes 3 (some .boolean)]
def wsX1_shortenBehind : List Cond := .code yX1_shortenBehind cX1_shortenBehind 8 (some .boolean) :: ((wsX1_shortenBehind_r1 ++ wsX1_shortenBehind_r2) ++ wsX20 ++ wsX10)
def wsX1_measure_r1 : List Cond := [Cond.fieldLink RX1 15 "DyckReachability$Distances" "vertices" "I", Cond.fieldLink RX1 11 "DyckReachability$Distances" "table" "[I", Cond.constant RX1 23 (1000001), Cond.fieldLink RX1 24 "DyckReachability$Edges" "size" "I", Cond.methodLink RX1 29 yX1_shortenBehind, Cond.instanceMethod yX1_shortenBehind, Cond.selects RX1 yX1_shortenBehind yX1_shortenBehind, Cond.initialized RX1, Cond.code yX1_shortenBehind cX1_shortenBehind 8 (some .boolean), Cond.fieldLink RX1 33 "DyckReachability$Edges" "sources" "[I", Cond.fieldLink RX1 36 "DyckReachability$Edges" "targets" "[I", Cond.methodLink RX1 39 yX2_isEmptyLabelled, Cond.instanceMethod yX2_isEmptyLabelled, Cond.selects RX2 yX2_isEmptyLabelled yX2_isEmptyLabelled, Cond.initialized RX2, Cond.code yX2_isEmptyLabelled cX2_isEmptyLabelled 2 (some .boolean), Cond.fieldLink RX2 18 "DyckReachability$Edges" "labels" "[I", Cond.methodLink RX1 43 yX1_shorten, Cond.instanceMethod yX1_shorten, Cond.selects RX1 yX1_shorten yX1_shorten, Cond.code yX1_shorten cX1_shorten 7 (some .boolean), Cond.constant RX1 57 (1000000), Cond.methodLink RX1 58 Lib.Math.min.name, Cond.static Lib.Math.min.name]
def wsX1_measure_r2 : List Cond := [Cond.initialized "java/lang/Math", Cond.code Lib.Math.min.name Lib.Math.min.code 2 (some .int), Cond.methodLink RX1 54 yX1_reaches, Cond.instanceMethod yX1_reaches, Cond.selects RX1 yX1_reaches yX1_reaches, Cond.code yX1_reaches cX1_reaches 3 (some .boolean), Cond.methodLink RX1 19 yX1_between, Cond.instanceMethod yX1_between, Cond.selects RX1 yX1_between yX1_between, Cond.code yX1_between cX1_between 3 (some .int), Cond.methodLink RX1 47 yX2_opens, Cond.instanceMethod yX2_opens, Cond.selects RX2 yX2_opens yX2_opens, Cond.code yX2_opens cX2_opens 2 (some .boolean), Cond.methodLink RX1 50 yX2_closes, Cond.instanceMethod yX2_closes, Cond.selects RX2 yX2_closes yX2_closes, Cond.code yX2_closes cX2_closes 3 (some .boolean)]
def wsX1_measure : List Cond := .code yX1_measure cX1_measure 6 none :: ((wsX1_measure_r1 ++ wsX1_measure_r2) ++ wsX10 ++ wsX20)
def wsX1_closingOnWitness : List Cond := .code yX1_closingOnWitness cX1_closingOnWitness 8 (some .int) :: ([.fieldLink RX1 33 "DyckReachability$Edges" "sources" "[I", .fieldLink RX1 24 "DyckReachability$Edges" "size" "I", .fieldLink RX1 36 "DyckReachability$Edges" "targets" "[I", .methodLink RX1 19 yX1_between, .instanceMethod yX1_between, .selects RX1 yX1_between yX1_between, .initialized RX1, .code yX1_between cX1_between 3 (some .int), .fieldLink RX1 11 "DyckReachability$Distances" "table" "[I", .methodLink RX1 50 yX2_closes, .instanceMethod yX2_closes, .selects RX2 yX2_closes yX2_closes, .initialized RX2, .code yX2_closes cX2_closes 3 (some .boolean), .fieldLink RX2 18 "DyckReachability$Edges" "labels" "[I"] ++ wsX20 ++ wsX10)
def wsX1_beginsShortest_r1 : List Cond := [Cond.fieldLink RX1 33 "DyckReachability$Edges" "sources" "[I", Cond.fieldLink RX1 36 "DyckReachability$Edges" "targets" "[I", Cond.methodLink RX1 39 yX2_isEmptyLabelled, Cond.instanceMethod yX2_isEmptyLabelled, Cond.selects RX2 yX2_isEmptyLabelled yX2_isEmptyLabelled, Cond.initialized RX2, Cond.code yX2_isEmptyLabelled cX2_isEmptyLabelled 2 (some .boolean), Cond.fieldLink RX2 18 "DyckReachability$Edges" "labels" "[I", Cond.methodLink RX1 19 yX1_between, Cond.instanceMethod yX1_between, Cond.selects RX1 yX1_between yX1_between, Cond.initialized RX1, Cond.code yX1_between cX1_between 3 (some .int), Cond.fieldLink RX1 11 "DyckReachability$Distances" "table" "[I", Cond.methodLink RX1 47 yX2_opens, Cond.instanceMethod yX2_opens, Cond.selects RX2 yX2_opens yX2_opens, Cond.code yX2_opens cX2_opens 2 (some .boolean), Cond.methodLink RX1 67 yX1_closingOnWitness, Cond.instanceMethod yX1_closingOnWitness, Cond.selects RX1 yX1_closingOnWitness yX1_closingOnWitness, Cond.code yX1_closingOnWitness cX1_closingOnWitness 8 (some .int), Cond.fieldLink RX1 24 "DyckReachability$Edges" "size" "I", Cond.methodLink RX1 50 yX2_closes]
def wsX1_beginsShortest_r2 : List Cond := [Cond.instanceMethod yX2_closes, Cond.selects RX2 yX2_closes yX2_closes, Cond.code yX2_closes cX2_closes 3 (some .boolean)]
def wsX1_beginsShortest : List Cond := .code yX1_beginsShortest cX1_beginsShortest 4 (some .boolean) :: ((wsX1_beginsShortest_r1 ++ wsX1_beginsShortest_r2) ++ wsX20 ++ wsX10)
def wsX1_firstOnWitness_r1 : List Cond := [Cond.fieldLink RX1 24 "DyckReachability$Edges" "size" "I", Cond.fieldLink RX1 33 "DyckReachability$Edges" "sources" "[I", Cond.methodLink RX1 70 yX1_beginsShortest, Cond.instanceMethod yX1_beginsShortest, Cond.selects RX1 yX1_beginsShortest yX1_beginsShortest, Cond.initialized RX1, Cond.code yX1_beginsShortest cX1_beginsShortest 4 (some .boolean), Cond.fieldLink RX1 36 "DyckReachability$Edges" "targets" "[I", Cond.methodLink RX1 39 yX2_isEmptyLabelled, Cond.instanceMethod yX2_isEmptyLabelled, Cond.selects RX2 yX2_isEmptyLabelled yX2_isEmptyLabelled, Cond.initialized RX2, Cond.code yX2_isEmptyLabelled cX2_isEmptyLabelled 2 (some .boolean), Cond.fieldLink RX2 18 "DyckReachability$Edges" "labels" "[I", Cond.methodLink RX1 19 yX1_between, Cond.instanceMethod yX1_between, Cond.selects RX1 yX1_between yX1_between, Cond.code yX1_between cX1_between 3 (some .int), Cond.fieldLink RX1 11 "DyckReachability$Distances" "table" "[I", Cond.methodLink RX1 47 yX2_opens, Cond.instanceMethod yX2_opens, Cond.selects RX2 yX2_opens yX2_opens, Cond.code yX2_opens cX2_opens 2 (some .boolean), Cond.methodLink RX1 67 yX1_closingOnWitness]
def wsX1_firstOnWitness_r2 : List Cond := [Cond.instanceMethod yX1_closingOnWitness, Cond.selects RX1 yX1_closingOnWitness yX1_closingOnWitness, Cond.code yX1_closingOnWitness cX1_closingOnWitness 8 (some .int), Cond.methodLink RX1 50 yX2_closes, Cond.instanceMethod yX2_closes, Cond.selects RX2 yX2_closes yX2_closes, Cond.code yX2_closes cX2_closes 3 (some .boolean)]
def wsX1_firstOnWitness : List Cond := .code yX1_firstOnWitness cX1_firstOnWitness 5 (some .int) :: ((wsX1_firstOnWitness_r1 ++ wsX1_firstOnWitness_r2) ++ wsX20 ++ wsX10)
def wsX1_edgeOnWitness_r1 : List Cond := [Cond.constant RX1 57 (1000000), Cond.fieldLink RX1 36 "DyckReachability$Edges" "targets" "[I", Cond.fieldLink RX1 33 "DyckReachability$Edges" "sources" "[I", Cond.methodLink RX1 19 yX1_between, Cond.instanceMethod yX1_between, Cond.selects RX1 yX1_between yX1_between, Cond.initialized RX1, Cond.code yX1_between cX1_between 3 (some .int), Cond.fieldLink RX1 11 "DyckReachability$Distances" "table" "[I", Cond.methodLink RX1 63 yX1_firstOnWitness, Cond.instanceMethod yX1_firstOnWitness, Cond.selects RX1 yX1_firstOnWitness yX1_firstOnWitness, Cond.code yX1_firstOnWitness cX1_firstOnWitness 5 (some .int), Cond.fieldLink RX1 24 "DyckReachability$Edges" "size" "I", Cond.methodLink RX1 70 yX1_beginsShortest, Cond.instanceMethod yX1_beginsShortest, Cond.selects RX1 yX1_beginsShortest yX1_beginsShortest, Cond.code yX1_beginsShortest cX1_beginsShortest 4 (some .boolean), Cond.methodLink RX1 39 yX2_isEmptyLabelled, Cond.instanceMethod yX2_isEmptyLabelled, Cond.selects RX2 yX2_isEmptyLabelled yX2_isEmptyLabelled, Cond.initialized RX2, Cond.code yX2_isEmptyLabelled cX2_isEmptyLabelled 2 (some .boolean), Cond.fieldLink RX2 18 "DyckReachability$Edges" "labels" "[I"]
def wsX1_edgeOnWitness_r2 : List Cond := [Cond.methodLink RX1 47 yX2_opens, Cond.instanceMethod yX2_opens, Cond.selects RX2 yX2_opens yX2_opens, Cond.code yX2_opens cX2_opens 2 (some .boolean), Cond.methodLink RX1 67 yX1_closingOnWitness, Cond.instanceMethod yX1_closingOnWitness, Cond.selects RX1 yX1_closingOnWitness yX1_closingOnWitness, Cond.code yX1_closingOnWitness cX1_closingOnWitness 8 (some .int), Cond.methodLink RX1 50 yX2_closes, Cond.instanceMethod yX2_closes, Cond.selects RX2 yX2_closes yX2_closes, Cond.code yX2_closes cX2_closes 3 (some .boolean)]
def wsX1_edgeOnWitness : List Cond := .code yX1_edgeOnWitness cX1_edgeOnWitness 12 (some .int) :: ((wsX1_edgeOnWitness_r1 ++ wsX1_edgeOnWitness_r2) ++ wsX20 ++ wsX10)
def wsX2_init : List Cond := .code yX2_init cX2_init 2 none :: ([.methodLink RX2 3 objectInit, .instanceMethod objectInit, .code objectInit ⟨#[0xb1]⟩ 1 none, .arrayClass .int, .fieldLink RX2 9 "DyckReachability$Edges" "sources" "[I", .fieldLink RX2 15 "DyckReachability$Edges" "targets" "[I", .fieldLink RX2 18 "DyckReachability$Edges" "labels" "[I", .fieldLink RX2 21 "DyckReachability$Edges" "size" "I"] ++ wsX20)
def wsX2_take : List Cond := .code yX2_take cX2_take 3 none :: ([.fieldLink RX2 21 "DyckReachability$Edges" "size" "I", .fieldLink RX2 9 "DyckReachability$Edges" "sources" "[I", .fieldLink RX2 15 "DyckReachability$Edges" "targets" "[I", .fieldLink RX2 18 "DyckReachability$Edges" "labels" "[I", .methodLink RX2 33 yX2_put, .instanceMethod yX2_put, .selects RX2 yX2_put yX2_put, .initialized RX2, .code yX2_put cX2_put 4 none, .methodLink RX2 25 yX2_isFull, .instanceMethod yX2_isFull, .selects RX2 yX2_isFull yX2_isFull, .code yX2_isFull cX2_isFull 1 (some .boolean)] ++ wsX20)
def wsX2_takeSome : List Cond := .code yX2_takeSome cX2_takeSome 4 none :: ([.fieldLink RX2 21 "DyckReachability$Edges" "size" "I", .fieldLink RX2 9 "DyckReachability$Edges" "sources" "[I", .fieldLink RX2 15 "DyckReachability$Edges" "targets" "[I", .fieldLink RX2 18 "DyckReachability$Edges" "labels" "[I", .methodLink RX2 33 yX2_put, .instanceMethod yX2_put, .selects RX2 yX2_put yX2_put, .initialized RX2, .code yX2_put cX2_put 4 none, .methodLink RX2 25 yX2_isFull, .instanceMethod yX2_isFull, .selects RX2 yX2_isFull yX2_isFull, .code yX2_isFull cX2_isFull 1 (some .boolean)] ++ wsX20)
def wsX2_otherBracket : List Cond := .code yX2_otherBracket cX2_otherBracket 1 (some .int) :: ([])
def wsX2_takeBothWays : List Cond := .code yX2_takeBothWays cX2_takeBothWays 3 none :: ([.fieldLink RX2 21 "DyckReachability$Edges" "size" "I", .fieldLink RX2 15 "DyckReachability$Edges" "targets" "[I", .fieldLink RX2 9 "DyckReachability$Edges" "sources" "[I", .fieldLink RX2 18 "DyckReachability$Edges" "labels" "[I", .methodLink RX2 37 yX2_take, .instanceMethod yX2_take, .selects RX2 yX2_take yX2_take, .initialized RX2, .code yX2_take cX2_take 3 none, .methodLink RX2 33 yX2_put, .instanceMethod yX2_put, .selects RX2 yX2_put yX2_put, .code yX2_put cX2_put 4 none, .methodLink RX2 25 yX2_isFull, .instanceMethod yX2_isFull, .selects RX2 yX2_isFull yX2_isFull, .code yX2_isFull cX2_isFull 1 (some .boolean), .methodLink RX2 41 yX2_otherBracket, .static yX2_otherBracket, .code yX2_otherBracket cX2_otherBracket 1 (some .int)] ++ wsX20)
def wsX3_init : List Cond := .code yX3_init cX3_init 1 none :: ([.methodLink RX3 3 objectInit, .instanceMethod objectInit, .code objectInit ⟨#[0xb1]⟩ 1 none, .arrayClass .int, .fieldLink RX3 11 "DyckReachability$GraphText" "signs" "[I", .fieldLink RX3 15 "DyckReachability$GraphText" "length" "I"] ++ wsX30)
def wsX3_isFull : List Cond := .code yX3_isFull cX3_isFull 1 (some .boolean) :: ([.fieldLink RX3 15 "DyckReachability$GraphText" "length" "I"] ++ wsX30)
def wsX3_put : List Cond := .code yX3_put cX3_put 2 none :: ([.fieldLink RX3 11 "DyckReachability$GraphText" "signs" "[I", .fieldLink RX3 15 "DyckReachability$GraphText" "length" "I", .methodLink RX3 19 yX3_isFull, .instanceMethod yX3_isFull, .selects RX3 yX3_isFull yX3_isFull, .initialized RX3, .code yX3_isFull cX3_isFull 1 (some .boolean)] ++ wsX30)
def wsX3_labelOf : List Cond := .code yX3_labelOf cX3_labelOf 2 (some .int) :: ([.fieldLink RX3 35 "DyckReachability$GraphText" "LABEL_SIGNS" "[C"])
def wsX3_writtenVertices : List Cond := .code yX3_writtenVertices cX3_writtenVertices 1 (some .int) :: ([.fieldLink RX3 11 "DyckReachability$GraphText" "signs" "[I"] ++ wsX30)
def wsX3_fits : List Cond := .code yX3_fits cX3_fits 3 (some .boolean) :: ([.fieldLink RX3 11 "DyckReachability$GraphText" "signs" "[I", .methodLink RX3 27 yX3_labelOf, .static yX3_labelOf, .initialized RX3, .code yX3_labelOf cX3_labelOf 2 (some .int), .fieldLink RX3 35 "DyckReachability$GraphText" "LABEL_SIGNS" "[C", .methodLink RX3 31 yX3_writtenVertices, .instanceMethod yX3_writtenVertices, .selects RX3 yX3_writtenVertices yX3_writtenVertices, .code yX3_writtenVertices cX3_writtenVertices 1 (some .int)] ++ wsX30)
def wsX3_firstFault : List Cond := .code yX3_firstFault cX3_firstFault 2 (some .int) :: ([.fieldLink RX3 15 "DyckReachability$GraphText" "length" "I", .methodLink RX3 23 yX3_fits, .instanceMethod yX3_fits, .selects RX3 yX3_fits yX3_fits, .initialized RX3, .code yX3_fits cX3_fits 3 (some .boolean), .fieldLink RX3 11 "DyckReachability$GraphText" "signs" "[I", .methodLink RX3 27 yX3_labelOf, .static yX3_labelOf, .code yX3_labelOf cX3_labelOf 2 (some .int), .fieldLink RX3 35 "DyckReachability$GraphText" "LABEL_SIGNS" "[C", .methodLink RX3 31 yX3_writtenVertices, .instanceMethod yX3_writtenVertices, .selects RX3 yX3_writtenVertices yX3_writtenVertices, .code yX3_writtenVertices cX3_writtenVertices 1 (some .int)] ++ wsX30)
def wsX3_writeEdgesTo : List Cond := .code yX3_writeEdgesTo cX3_writeEdgesTo 3 none :: ([.fieldLink RX3 39 "DyckReachability$Edges" "size" "I", .fieldLink RX3 15 "DyckReachability$GraphText" "length" "I", .fieldLink RX3 11 "DyckReachability$GraphText" "signs" "[I", .methodLink RX3 27 yX3_labelOf, .static yX3_labelOf, .initialized RX3, .code yX3_labelOf cX3_labelOf 2 (some .int), .fieldLink RX3 35 "DyckReachability$GraphText" "LABEL_SIGNS" "[C", .methodLink RX3 44 yX2_put, .instanceMethod yX2_put, .selects RX2 yX2_put yX2_put, .initialized RX2, .code yX2_put cX2_put 4 none, .fieldLink RX2 9 "DyckReachability$Edges" "sources" "[I", .fieldLink RX2 21 "DyckReachability$Edges" "size" "I", .fieldLink RX2 15 "DyckReachability$Edges" "targets" "[I", .fieldLink RX2 18 "DyckReachability$Edges" "labels" "[I", .methodLink RX2 25 yX2_isFull, .instanceMethod yX2_isFull, .selects RX2 yX2_isFull yX2_isFull, .code yX2_isFull cX2_isFull 1 (some .boolean)] ++ wsX20 ++ wsX30)
def wsX4_init : List Cond := .code yX4_init cX4_init 2 none :: ([.methodLink RX4 3 objectInit, .instanceMethod objectInit, .code objectInit ⟨#[0xb1]⟩ 1 none, .classLink RX4 11 RX2, .fieldLink RX4 13 "DyckReachability$History" "states" "[LDyckReachability$Edges;", .instantiable RX2 4, .initialized RX2, .fieldLink RX4 20 "DyckReachability$History" "next" "I", .fieldLink RX4 24 "DyckReachability$History" "size" "I", .methodLink RX4 17 yX2_init, .instanceMethod yX2_init, .code yX2_init cX2_init 2 none, .methodLink RX2 3 objectInit, .arrayClass .int, .fieldLink RX2 9 "DyckReachability$Edges" "sources" "[I", .fieldLink RX2 15 "DyckReachability$Edges" "targets" "[I", .fieldLink RX2 18 "DyckReachability$Edges" "labels" "[I", .fieldLink RX2 21 "DyckReachability$Edges" "size" "I"] ++ wsX40 ++ wsX20)
def wsX4_remember : List Cond := .code yX4_remember cX4_remember 2 none :: ([.fieldLink RX4 13 "DyckReachability$History" "states" "[LDyckReachability$Edges;", .fieldLink RX4 20 "DyckReachability$History" "next" "I", .fieldLink RX4 24 "DyckReachability$History" "size" "I", .methodLink RX4 31 Lib.Math.min.name, .static Lib.Math.min.name, .initialized "java/lang/Math", .code Lib.Math.min.name Lib.Math.min.code 2 (some .int), .methodLink RX4 27 yX2_take, .instanceMethod yX2_take, .selects RX2 yX2_take yX2_take, .initialized RX2, .code yX2_take cX2_take 3 none, .fieldLink RX2 21 "DyckReachability$Edges" "size" "I", .fieldLink RX2 9 "DyckReachability$Edges" "sources" "[I", .fieldLink RX2 15 "DyckReachability$Edges" "targets" "[I", .fieldLink RX2 18 "DyckReachability$Edges" "labels" "[I", .methodLink RX2 33 yX2_put, .instanceMethod yX2_put, .selects RX2 yX2_put yX2_put, .code yX2_put cX2_put 4 none, .methodLink RX2 25 yX2_isFull, .instanceMethod yX2_isFull, .selects RX2 yX2_isFull yX2_isFull, .code yX2_isFull cX2_isFull 1 (some .boolean)] ++ wsX40 ++ wsX20)
def wsX4_giveBack : List Cond := .code yX4_giveBack cX4_giveBack 2 none :: ([.fieldLink RX4 24 "DyckReachability$History" "size" "I", .fieldLink RX4 20 "DyckReachability$History" "next" "I", .fieldLink RX4 13 "DyckReachability$History" "states" "[LDyckReachability$Edges;", .methodLink RX4 27 yX2_take, .instanceMethod yX2_take, .selects RX2 yX2_take yX2_take, .initialized RX2, .code yX2_take cX2_take 3 none, .fieldLink RX2 21 "DyckReachability$Edges" "size" "I", .fieldLink RX2 9 "DyckReachability$Edges" "sources" "[I", .fieldLink RX2 15 "DyckReachability$Edges" "targets" "[I", .fieldLink RX2 18 "DyckReachability$Edges" "labels" "[I", .methodLink RX2 33 yX2_put, .instanceMethod yX2_put, .selects RX2 yX2_put yX2_put, .code yX2_put cX2_put 4 none, .methodLink RX2 25 yX2_isFull, .instanceMethod yX2_isFull, .selects RX2 yX2_isFull yX2_isFull, .code yX2_isFull cX2_isFull 1 (some .boolean)] ++ wsX40 ++ wsX20)
def wsX4_forgetAll : List Cond := .code yX4_forgetAll cX4_forgetAll 1 none :: ([.fieldLink RX4 24 "DyckReachability$History" "size" "I"] ++ wsX40)
def wsX5_init : List Cond := .code yX5_init cX5_init 1 none :: ([.methodLink RX5 1 objectInit, .instanceMethod objectInit, .code objectInit ⟨#[0xb1]⟩ 1 none, .arrayClass .int, .fieldLink RX5 9 "DyckReachability$Observations" "starts" "[I", .fieldLink RX5 13 "DyckReachability$Observations" "ends" "[I", .fieldLink RX5 16 "DyckReachability$Observations" "answers" "[I", .fieldLink RX5 19 "DyckReachability$Observations" "size" "I"] ++ wsX50)
def wsX5_isFull : List Cond := .code yX5_isFull cX5_isFull 1 (some .boolean) :: ([.fieldLink RX5 19 "DyckReachability$Observations" "size" "I"] ++ wsX50)
def wsX5_put : List Cond := .code yX5_put cX5_put 4 none :: ([.fieldLink RX5 9 "DyckReachability$Observations" "starts" "[I", .fieldLink RX5 19 "DyckReachability$Observations" "size" "I", .fieldLink RX5 13 "DyckReachability$Observations" "ends" "[I", .fieldLink RX5 16 "DyckReachability$Observations" "answers" "[I", .methodLink RX5 23 yX5_isFull, .instanceMethod yX5_isFull, .selects RX5 yX5_isFull yX5_isFull, .initialized RX5, .code yX5_isFull cX5_isFull 1 (some .boolean)] ++ wsX50)
def wsX6_row : List Cond := .code yX6_row cX6_row 3 (some .int) :: ([])
def wsX6_has : List Cond := .code yX6_has cX6_has 4 (some .boolean) :: ([.methodLink RX6 11 yX6_row, .static yX6_row, .initialized RX6, .code yX6_row cX6_row 3 (some .int)])
def wsX5_allHold : List Cond := .code yX5_allHold cX5_allHold 7 (some .boolean) :: ([.fieldLink RX5 19 "DyckReachability$Observations" "size" "I", .fieldLink RX5 9 "DyckReachability$Observations" "starts" "[I", .fieldLink RX5 13 "DyckReachability$Observations" "ends" "[I", .fieldLink RX5 16 "DyckReachability$Observations" "answers" "[I", .methodLink RX5 27 yX6_has, .static yX6_has, .initialized RX6, .code yX6_has cX6_has 4 (some .boolean), .methodLink RX6 11 yX6_row, .static yX6_row, .code yX6_row cX6_row 3 (some .int)] ++ wsX50)
def wsX6_withRow : List Cond := .code yX6_withRow cX6_withRow 4 (some .long) :: ([])
def wsX6_identity : List Cond := .code yX6_identity cX6_identity 4 (some .long) :: ([.methodLink RX6 15 yX6_withRow, .static yX6_withRow, .initialized RX6, .code yX6_withRow cX6_withRow 4 (some .long)])
def wsX6_withPathsBehind_r1 : List Cond := [Cond.fieldLink RX6 33 "DyckReachability$Edges" "sources" "[I", Cond.fieldLink RX6 37 "DyckReachability$Edges" "targets" "[I", Cond.fieldLink RX6 23 "DyckReachability$Edges" "size" "I", Cond.methodLink RX6 40 yX2_isEmptyLabelled, Cond.instanceMethod yX2_isEmptyLabelled, Cond.selects RX2 yX2_isEmptyLabelled yX2_isEmptyLabelled, Cond.initialized RX2, Cond.code yX2_isEmptyLabelled cX2_isEmptyLabelled 2 (some .boolean), Cond.fieldLink RX2 18 "DyckReachability$Edges" "labels" "[I", Cond.methodLink RX6 11 yX6_row, Cond.static yX6_row, Cond.initialized RX6, Cond.code yX6_row cX6_row 3 (some .int), Cond.methodLink RX6 15 yX6_withRow, Cond.static yX6_withRow, Cond.code yX6_withRow cX6_withRow 4 (some .long), Cond.methodLink RX6 44 yX2_opens, Cond.instanceMethod yX2_opens, Cond.selects RX2 yX2_opens yX2_opens, Cond.code yX2_opens cX2_opens 2 (some .boolean), Cond.methodLink RX6 47 yX2_closes, Cond.instanceMethod yX2_closes, Cond.selects RX2 yX2_closes yX2_closes, Cond.code yX2_closes cX2_closes 3 (some .boolean)]
def wsX6_withPathsBehind_r2 : List Cond := [Cond.methodLink RX6 51 yX6_has, Cond.static yX6_has, Cond.code yX6_has cX6_has 4 (some .boolean)]
def wsX6_withPathsBehind : List Cond := .code yX6_withPathsBehind cX6_withPathsBehind 9 (some .long) :: ((wsX6_withPathsBehind_r1 ++ wsX6_withPathsBehind_r2) ++ wsX20)
def wsX6_ofBalancedPaths_r1 : List Cond := [Cond.fieldLink RX6 23 "DyckReachability$Edges" "size" "I", Cond.methodLink RX6 19 yX6_identity, Cond.static yX6_identity, Cond.initialized RX6, Cond.code yX6_identity cX6_identity 4 (some .long), Cond.methodLink RX6 15 yX6_withRow, Cond.static yX6_withRow, Cond.code yX6_withRow cX6_withRow 4 (some .long), Cond.methodLink RX6 29 yX6_withPathsBehind, Cond.static yX6_withPathsBehind, Cond.code yX6_withPathsBehind cX6_withPathsBehind 9 (some .long), Cond.fieldLink RX6 33 "DyckReachability$Edges" "sources" "[I", Cond.fieldLink RX6 37 "DyckReachability$Edges" "targets" "[I", Cond.methodLink RX6 40 yX2_isEmptyLabelled, Cond.instanceMethod yX2_isEmptyLabelled, Cond.selects RX2 yX2_isEmptyLabelled yX2_isEmptyLabelled, Cond.initialized RX2, Cond.code yX2_isEmptyLabelled cX2_isEmptyLabelled 2 (some .boolean), Cond.fieldLink RX2 18 "DyckReachability$Edges" "labels" "[I", Cond.methodLink RX6 11 yX6_row, Cond.static yX6_row, Cond.code yX6_row cX6_row 3 (some .int), Cond.methodLink RX6 44 yX2_opens, Cond.instanceMethod yX2_opens]
def wsX6_ofBalancedPaths_r2 : List Cond := [Cond.selects RX2 yX2_opens yX2_opens, Cond.code yX2_opens cX2_opens 2 (some .boolean), Cond.methodLink RX6 47 yX2_closes, Cond.instanceMethod yX2_closes, Cond.selects RX2 yX2_closes yX2_closes, Cond.code yX2_closes cX2_closes 3 (some .boolean), Cond.methodLink RX6 51 yX6_has, Cond.static yX6_has, Cond.code yX6_has cX6_has 4 (some .boolean)]
def wsX6_ofBalancedPaths : List Cond := .code yX6_ofBalancedPaths cX6_ofBalancedPaths 8 (some .long) :: ((wsX6_ofBalancedPaths_r1 ++ wsX6_ofBalancedPaths_r2) ++ wsX20)
def wsX6_stepsBy : List Cond := .code yX6_stepsBy cX6_stepsBy 7 (some .int) :: ([.fieldLink RX6 37 "DyckReachability$Edges" "targets" "[I", .fieldLink RX6 23 "DyckReachability$Edges" "size" "I", .fieldLink RX6 33 "DyckReachability$Edges" "sources" "[I", .methodLink RX6 40 yX2_isEmptyLabelled, .instanceMethod yX2_isEmptyLabelled, .selects RX2 yX2_isEmptyLabelled yX2_isEmptyLabelled, .initialized RX2, .code yX2_isEmptyLabelled cX2_isEmptyLabelled 2 (some .boolean), .fieldLink RX2 18 "DyckReachability$Edges" "labels" "[I", .methodLink RX6 44 yX2_opens, .instanceMethod yX2_opens, .selects RX2 yX2_opens yX2_opens, .code yX2_opens cX2_opens 2 (some .boolean), .methodLink RX6 47 yX2_closes, .instanceMethod yX2_closes, .selects RX2 yX2_closes yX2_closes, .code yX2_closes cX2_closes 3 (some .boolean), .methodLink RX6 51 yX6_has, .static yX6_has, .initialized RX6, .code yX6_has cX6_has 4 (some .boolean), .methodLink RX6 11 yX6_row, .static yX6_row, .code yX6_row cX6_row 3 (some .int)] ++ wsX20)
def wsX6_transitive : List Cond := .code yX6_transitive cX6_transitive 6 (some .long) :: ([.methodLink RX6 51 yX6_has, .static yX6_has, .initialized RX6, .code yX6_has cX6_has 4 (some .boolean), .methodLink RX6 11 yX6_row, .static yX6_row, .code yX6_row cX6_row 3 (some .int), .methodLink RX6 15 yX6_withRow, .static yX6_withRow, .code yX6_withRow cX6_withRow 4 (some .long)])
def wsX6_nestedAround_r1 : List Cond := [Cond.fieldLink RX6 23 "DyckReachability$Edges" "size" "I", Cond.fieldLink RX6 33 "DyckReachability$Edges" "sources" "[I", Cond.methodLink RX6 19 yX6_identity, Cond.static yX6_identity, Cond.initialized RX6, Cond.code yX6_identity cX6_identity 4 (some .long), Cond.methodLink RX6 15 yX6_withRow, Cond.static yX6_withRow, Cond.code yX6_withRow cX6_withRow 4 (some .long), Cond.methodLink RX6 55 yX6_stepsBy, Cond.static yX6_stepsBy, Cond.code yX6_stepsBy cX6_stepsBy 7 (some .int), Cond.fieldLink RX6 37 "DyckReachability$Edges" "targets" "[I", Cond.methodLink RX6 40 yX2_isEmptyLabelled, Cond.instanceMethod yX2_isEmptyLabelled, Cond.selects RX2 yX2_isEmptyLabelled yX2_isEmptyLabelled, Cond.initialized RX2, Cond.code yX2_isEmptyLabelled cX2_isEmptyLabelled 2 (some .boolean), Cond.fieldLink RX2 18 "DyckReachability$Edges" "labels" "[I", Cond.methodLink RX6 44 yX2_opens, Cond.instanceMethod yX2_opens, Cond.selects RX2 yX2_opens yX2_opens, Cond.code yX2_opens cX2_opens 2 (some .boolean), Cond.methodLink RX6 47 yX2_closes]
def wsX6_nestedAround_r2 : List Cond := [Cond.instanceMethod yX2_closes, Cond.selects RX2 yX2_closes yX2_closes, Cond.code yX2_closes cX2_closes 3 (some .boolean), Cond.methodLink RX6 51 yX6_has, Cond.static yX6_has, Cond.code yX6_has cX6_has 4 (some .boolean), Cond.methodLink RX6 11 yX6_row, Cond.static yX6_row, Cond.code yX6_row cX6_row 3 (some .int), Cond.methodLink RX6 59 yX6_transitive, Cond.static yX6_transitive, Cond.code yX6_transitive cX6_transitive 6 (some .long)]
def wsX6_nestedAround : List Cond := .code yX6_nestedAround cX6_nestedAround 7 (some .long) :: ((wsX6_nestedAround_r1 ++ wsX6_nestedAround_r2) ++ wsX20)
def wsX7_withoutLowest : List Cond := .code yX7_withoutLowest cX7_withoutLowest 6 (some .long) :: ([.constantLong RX7 9 (10000)])
def wsX7_lowestGroup : List Cond := .code yX7_lowestGroup cX7_lowestGroup 2 (some .int) :: ([.constantLong RX7 9 (10000)])
def wsX8_isLabel : List Cond := .code yX8_isLabel cX8_isLabel 1 (some .boolean) :: ([])
def wsX7_adds : List Cond := .code yX7_adds cX7_adds 5 (some .boolean) :: ([.static yX8_isLabel, .initialized RX8, .code yX8_isLabel cX8_isLabel 1 (some .boolean), .methodLink RX7 51 yX2_isFull, .instanceMethod yX2_isFull, .selects RX2 yX2_isFull yX2_isFull, .initialized RX2, .code yX2_isFull cX2_isFull 1 (some .boolean), .fieldLink RX2 21 "DyckReachability$Edges" "size" "I", .fieldLink RX2 9 "DyckReachability$Edges" "sources" "[I", .methodLink RX7 57 yX2_put, .instanceMethod yX2_put, .selects RX2 yX2_put yX2_put, .code yX2_put cX2_put 4 none, .fieldLink RX2 15 "DyckReachability$Edges" "targets" "[I", .fieldLink RX2 18 "DyckReachability$Edges" "labels" "[I", .methodLink RX2 25 yX2_isFull] ++ wsX20)
def wsX7_removes : List Cond := .code yX7_removes cX7_removes 2 (some .boolean) :: ([.methodLink RX7 61 yX2_holds, .instanceMethod yX2_holds, .selects RX2 yX2_holds yX2_holds, .initialized RX2, .code yX2_holds cX2_holds 2 (some .boolean), .fieldLink RX2 21 "DyckReachability$Edges" "size" "I", .methodLink RX7 64 yX2_drop, .instanceMethod yX2_drop, .selects RX2 yX2_drop yX2_drop, .code yX2_drop cX2_drop 3 none, .fieldLink RX2 9 "DyckReachability$Edges" "sources" "[I", .fieldLink RX2 15 "DyckReachability$Edges" "targets" "[I", .fieldLink RX2 18 "DyckReachability$Edges" "labels" "[I", .methodLink RX2 29 yX2_holds] ++ wsX20)
def wsJ13_bitCount_95d88 : List Cond := .code yJ13_bitCount_95d88 cJ13_bitCount_95d88 2 (some .int) :: ([.constantLong RJ13 314 (6148914691236517205), .constantLong RJ13 316 (3689348814741910323), .constantLong RJ13 318 (1085102592571150095)])
def wsX7_succeeds_r1 : List Cond := [Cond.methodLink RX7 11 yX7_adds, Cond.static yX7_adds, Cond.initialized RX7, Cond.code yX7_adds cX7_adds 5 (some .boolean), Cond.static yX8_isLabel, Cond.initialized RX8, Cond.code yX8_isLabel cX8_isLabel 1 (some .boolean), Cond.methodLink RX7 51 yX2_isFull, Cond.instanceMethod yX2_isFull, Cond.selects RX2 yX2_isFull yX2_isFull, Cond.initialized RX2, Cond.code yX2_isFull cX2_isFull 1 (some .boolean), Cond.fieldLink RX2 21 "DyckReachability$Edges" "size" "I", Cond.fieldLink RX2 9 "DyckReachability$Edges" "sources" "[I", Cond.methodLink RX7 57 yX2_put, Cond.instanceMethod yX2_put, Cond.selects RX2 yX2_put yX2_put, Cond.code yX2_put cX2_put 4 none, Cond.fieldLink RX2 15 "DyckReachability$Edges" "targets" "[I", Cond.fieldLink RX2 18 "DyckReachability$Edges" "labels" "[I", Cond.methodLink RX2 25 yX2_isFull, Cond.methodLink RX7 15 yX7_removes, Cond.static yX7_removes, Cond.code yX7_removes cX7_removes 2 (some .boolean)]
def wsX7_succeeds_r2 : List Cond := [Cond.methodLink RX7 61 yX2_holds, Cond.instanceMethod yX2_holds, Cond.selects RX2 yX2_holds yX2_holds, Cond.code yX2_holds cX2_holds 2 (some .boolean), Cond.methodLink RX7 64 yX2_drop, Cond.instanceMethod yX2_drop, Cond.selects RX2 yX2_drop yX2_drop, Cond.code yX2_drop cX2_drop 3 none, Cond.methodLink RX2 29 yX2_holds, Cond.methodLink RX7 19 yX6_ofBalancedPaths, Cond.static yX6_ofBalancedPaths, Cond.initialized RX6, Cond.code yX6_ofBalancedPaths cX6_ofBalancedPaths 8 (some .long), Cond.fieldLink RX6 23 "DyckReachability$Edges" "size" "I", Cond.methodLink RX6 19 yX6_identity, Cond.static yX6_identity, Cond.code yX6_identity cX6_identity 4 (some .long), Cond.methodLink RX6 15 yX6_withRow, Cond.static yX6_withRow, Cond.code yX6_withRow cX6_withRow 4 (some .long), Cond.methodLink RX6 29 yX6_withPathsBehind, Cond.static yX6_withPathsBehind, Cond.code yX6_withPathsBehind cX6_withPathsBehind 9 (some .long), Cond.fieldLink RX6 33 "DyckReachability$Edges" "sources" "[I"]
def wsX7_succeeds_r3 : List Cond := [Cond.fieldLink RX6 37 "DyckReachability$Edges" "targets" "[I", Cond.methodLink RX6 40 yX2_isEmptyLabelled, Cond.instanceMethod yX2_isEmptyLabelled, Cond.selects RX2 yX2_isEmptyLabelled yX2_isEmptyLabelled, Cond.code yX2_isEmptyLabelled cX2_isEmptyLabelled 2 (some .boolean), Cond.methodLink RX6 11 yX6_row, Cond.static yX6_row, Cond.code yX6_row cX6_row 3 (some .int), Cond.methodLink RX6 44 yX2_opens, Cond.instanceMethod yX2_opens, Cond.selects RX2 yX2_opens yX2_opens, Cond.code yX2_opens cX2_opens 2 (some .boolean), Cond.methodLink RX6 47 yX2_closes, Cond.instanceMethod yX2_closes, Cond.selects RX2 yX2_closes yX2_closes, Cond.code yX2_closes cX2_closes 3 (some .boolean), Cond.methodLink RX6 51 yX6_has, Cond.static yX6_has, Cond.code yX6_has cX6_has 4 (some .boolean), Cond.methodLink RX7 25 yX6_has, Cond.methodLink RX7 29 yJ13_bitCount_95d88, Cond.static yJ13_bitCount_95d88, Cond.initialized RJ13, Cond.code yJ13_bitCount_95d88 cJ13_bitCount_95d88 2 (some .int)]
def wsX7_succeeds_r4 : List Cond := [Cond.constantLong RJ13 314 (6148914691236517205), Cond.constantLong RJ13 316 (3689348814741910323), Cond.constantLong RJ13 318 (1085102592571150095), Cond.methodLink RX7 35 yX1_measure, Cond.instanceMethod yX1_measure, Cond.selects RX1 yX1_measure yX1_measure, Cond.initialized RX1, Cond.code yX1_measure cX1_measure 6 none, Cond.fieldLink RX1 15 "DyckReachability$Distances" "vertices" "I", Cond.fieldLink RX1 11 "DyckReachability$Distances" "table" "[I", Cond.constant RX1 23 (1000001), Cond.fieldLink RX1 24 "DyckReachability$Edges" "size" "I", Cond.methodLink RX1 29 yX1_shortenBehind, Cond.instanceMethod yX1_shortenBehind, Cond.selects RX1 yX1_shortenBehind yX1_shortenBehind, Cond.code yX1_shortenBehind cX1_shortenBehind 8 (some .boolean), Cond.fieldLink RX1 33 "DyckReachability$Edges" "sources" "[I", Cond.fieldLink RX1 36 "DyckReachability$Edges" "targets" "[I", Cond.methodLink RX1 39 yX2_isEmptyLabelled, Cond.methodLink RX1 43 yX1_shorten, Cond.instanceMethod yX1_shorten, Cond.selects RX1 yX1_shorten yX1_shorten, Cond.code yX1_shorten cX1_shorten 7 (some .boolean), Cond.constant RX1 57 (1000000)]
def wsX7_succeeds_r5 : List Cond := [Cond.methodLink RX1 58 Lib.Math.min.name, Cond.static Lib.Math.min.name, Cond.initialized "java/lang/Math", Cond.code Lib.Math.min.name Lib.Math.min.code 2 (some .int), Cond.methodLink RX1 54 yX1_reaches, Cond.instanceMethod yX1_reaches, Cond.selects RX1 yX1_reaches yX1_reaches, Cond.code yX1_reaches cX1_reaches 3 (some .boolean), Cond.methodLink RX1 19 yX1_between, Cond.instanceMethod yX1_between, Cond.selects RX1 yX1_between yX1_between, Cond.code yX1_between cX1_between 3 (some .int), Cond.methodLink RX1 47 yX2_opens, Cond.methodLink RX1 50 yX2_closes, Cond.methodLink RX7 41 yX1_between]
def wsX7_succeeds : List Cond := .code yX7_succeeds cX7_succeeds 7 (some .boolean) :: ((wsX7_succeeds_r1 ++ (wsX7_succeeds_r2 ++ (wsX7_succeeds_r3 ++ (wsX7_succeeds_r4 ++ wsX7_succeeds_r5)))) ++ wsX20 ++ wsX10)
def wsX8_init_r1 : List Cond := [Cond.methodLink RX8 3 objectInit, Cond.instanceMethod objectInit, Cond.code objectInit ⟨#[0xb1]⟩ 1 none, Cond.fieldLink RX8 9 "DyckReachability" "vertices" "I", Cond.fieldLink RX8 13 "DyckReachability" "seed" "J", Cond.classLink RX8 17 RX2, Cond.instantiable RX2 4, Cond.initialized RX2, Cond.fieldLink RX8 22 "DyckReachability" "edges" "LDyckReachability$Edges;", Cond.fieldLink RX8 26 "DyckReachability" "copy" "LDyckReachability$Edges;", Cond.fieldLink RX8 29 "DyckReachability" "bothWays" "LDyckReachability$Edges;", Cond.classLink RX8 32 RX1, Cond.instantiable RX1 2, Cond.initialized RX1, Cond.fieldLink RX8 35 "DyckReachability" "distances" "LDyckReachability$Distances;", Cond.classLink RX8 39 RX4, Cond.instantiable RX4 3, Cond.initialized RX4, Cond.fieldLink RX8 42 "DyckReachability" "history" "LDyckReachability$History;", Cond.fieldLink RX8 46 "DyckReachability" "slots" "[LDyckReachability$Edges;", Cond.arrayClass .boolean, Cond.fieldLink RX8 50 "DyckReachability" "slotFilled" "[Z", Cond.classLink RX8 54 RX3, Cond.instantiable RX3 2]
def wsX8_init_r2 : List Cond := [Cond.initialized RX3, Cond.fieldLink RX8 57 "DyckReachability" "text" "LDyckReachability$GraphText;", Cond.classLink RX8 61 RX5, Cond.instantiable RX5 4, Cond.initialized RX5, Cond.fieldLink RX8 64 "DyckReachability" "observations" "LDyckReachability$Observations;", Cond.methodLink RX8 19 yX2_init, Cond.instanceMethod yX2_init, Cond.code yX2_init cX2_init 2 none, Cond.methodLink RX2 3 objectInit, Cond.arrayClass .int, Cond.fieldLink RX2 9 "DyckReachability$Edges" "sources" "[I", Cond.fieldLink RX2 15 "DyckReachability$Edges" "targets" "[I", Cond.fieldLink RX2 18 "DyckReachability$Edges" "labels" "[I", Cond.fieldLink RX2 21 "DyckReachability$Edges" "size" "I", Cond.methodLink RX8 34 yX1_init, Cond.instanceMethod yX1_init, Cond.code yX1_init cX1_init 1 none, Cond.methodLink RX1 5 objectInit, Cond.fieldLink RX1 11 "DyckReachability$Distances" "table" "[I", Cond.fieldLink RX1 15 "DyckReachability$Distances" "vertices" "I", Cond.methodLink RX8 41 yX4_init, Cond.instanceMethod yX4_init, Cond.code yX4_init cX4_init 2 none]
def wsX8_init_r3 : List Cond := [Cond.methodLink RX4 3 objectInit, Cond.classLink RX4 11 RX2, Cond.fieldLink RX4 13 "DyckReachability$History" "states" "[LDyckReachability$Edges;", Cond.fieldLink RX4 20 "DyckReachability$History" "next" "I", Cond.fieldLink RX4 24 "DyckReachability$History" "size" "I", Cond.methodLink RX4 17 yX2_init, Cond.methodLink RX8 56 yX3_init, Cond.instanceMethod yX3_init, Cond.code yX3_init cX3_init 1 none, Cond.methodLink RX3 3 objectInit, Cond.fieldLink RX3 11 "DyckReachability$GraphText" "signs" "[I", Cond.fieldLink RX3 15 "DyckReachability$GraphText" "length" "I", Cond.methodLink RX8 63 yX5_init, Cond.instanceMethod yX5_init, Cond.code yX5_init cX5_init 1 none, Cond.methodLink RX5 1 objectInit, Cond.fieldLink RX5 9 "DyckReachability$Observations" "starts" "[I", Cond.fieldLink RX5 13 "DyckReachability$Observations" "ends" "[I", Cond.fieldLink RX5 16 "DyckReachability$Observations" "answers" "[I", Cond.fieldLink RX5 19 "DyckReachability$Observations" "size" "I"]
def wsX8_init : List Cond := .code yX8_init cX8_init 2 none :: ((wsX8_init_r1 ++ (wsX8_init_r2 ++ wsX8_init_r3)) ++ wsX80 ++ wsX20 ++ wsX10 ++ wsX40 ++ wsX30 ++ wsX50)
def wsX8_append : List Cond := .code yX8_append cX8_append 2 (some .int) :: ([.fieldLink RX8 57 "DyckReachability" "text" "LDyckReachability$GraphText;", .fieldLink RX8 75 "DyckReachability$GraphText" "length" "I", .methodLink RX8 68 yX3_isFull, .instanceMethod yX3_isFull, .selects RX3 yX3_isFull yX3_isFull, .initialized RX3, .code yX3_isFull cX3_isFull 1 (some .boolean), .fieldLink RX3 15 "DyckReachability$GraphText" "length" "I", .methodLink RX8 72 yX3_put, .instanceMethod yX3_put, .selects RX3 yX3_put yX3_put, .code yX3_put cX3_put 2 none, .fieldLink RX3 11 "DyckReachability$GraphText" "signs" "[I", .methodLink RX3 19 yX3_isFull] ++ wsX80 ++ wsX30)
def wsX8_clearText : List Cond := .code yX8_clearText cX8_clearText 2 (some .int) :: ([.fieldLink RX8 57 "DyckReachability" "text" "LDyckReachability$GraphText;", .fieldLink RX8 75 "DyckReachability$GraphText" "length" "I"] ++ wsX80 ++ wsX30)
def wsX8_errorPosition : List Cond := .code yX8_errorPosition cX8_errorPosition 1 (some .int) :: ([.fieldLink RX8 57 "DyckReachability" "text" "LDyckReachability$GraphText;", .methodLink RX8 78 yX3_firstFault, .instanceMethod yX3_firstFault, .selects RX3 yX3_firstFault yX3_firstFault, .initialized RX3, .code yX3_firstFault cX3_firstFault 2 (some .int), .fieldLink RX3 15 "DyckReachability$GraphText" "length" "I", .methodLink RX3 23 yX3_fits, .instanceMethod yX3_fits, .selects RX3 yX3_fits yX3_fits, .code yX3_fits cX3_fits 3 (some .boolean), .fieldLink RX3 11 "DyckReachability$GraphText" "signs" "[I", .methodLink RX3 27 yX3_labelOf, .static yX3_labelOf, .code yX3_labelOf cX3_labelOf 2 (some .int), .fieldLink RX3 35 "DyckReachability$GraphText" "LABEL_SIGNS" "[C", .methodLink RX3 31 yX3_writtenVertices, .instanceMethod yX3_writtenVertices, .selects RX3 yX3_writtenVertices yX3_writtenVertices, .code yX3_writtenVertices cX3_writtenVertices 1 (some .int)] ++ wsX80 ++ wsX30)
def wsX8_load_r1 : List Cond := [Cond.fieldLink RX8 57 "DyckReachability" "text" "LDyckReachability$GraphText;", Cond.fieldLink RX8 9 "DyckReachability" "vertices" "I", Cond.fieldLink RX8 22 "DyckReachability" "edges" "LDyckReachability$Edges;", Cond.fieldLink RX8 42 "DyckReachability" "history" "LDyckReachability$History;", Cond.fieldLink RX8 50 "DyckReachability" "slotFilled" "[Z", Cond.fieldLink RX8 92 "DyckReachability$Edges" "size" "I", Cond.methodLink RX8 78 yX3_firstFault, Cond.instanceMethod yX3_firstFault, Cond.selects RX3 yX3_firstFault yX3_firstFault, Cond.initialized RX3, Cond.code yX3_firstFault cX3_firstFault 2 (some .int), Cond.fieldLink RX3 15 "DyckReachability$GraphText" "length" "I", Cond.methodLink RX3 23 yX3_fits, Cond.instanceMethod yX3_fits, Cond.selects RX3 yX3_fits yX3_fits, Cond.code yX3_fits cX3_fits 3 (some .boolean), Cond.fieldLink RX3 11 "DyckReachability$GraphText" "signs" "[I", Cond.methodLink RX3 27 yX3_labelOf, Cond.static yX3_labelOf, Cond.code yX3_labelOf cX3_labelOf 2 (some .int), Cond.fieldLink RX3 35 "DyckReachability$GraphText" "LABEL_SIGNS" "[C", Cond.methodLink RX3 31 yX3_writtenVertices, Cond.instanceMethod yX3_writtenVertices, Cond.selects RX3 yX3_writtenVertices yX3_writtenVertices]
def wsX8_load_r2 : List Cond := [Cond.code yX3_writtenVertices cX3_writtenVertices 1 (some .int), Cond.methodLink RX8 82 yX3_writtenVertices, Cond.methodLink RX8 85 yX3_writeEdgesTo, Cond.instanceMethod yX3_writeEdgesTo, Cond.selects RX3 yX3_writeEdgesTo yX3_writeEdgesTo, Cond.code yX3_writeEdgesTo cX3_writeEdgesTo 3 none, Cond.fieldLink RX3 39 "DyckReachability$Edges" "size" "I", Cond.methodLink RX3 44 yX2_put, Cond.instanceMethod yX2_put, Cond.selects RX2 yX2_put yX2_put, Cond.initialized RX2, Cond.code yX2_put cX2_put 4 none, Cond.fieldLink RX2 9 "DyckReachability$Edges" "sources" "[I", Cond.fieldLink RX2 21 "DyckReachability$Edges" "size" "I", Cond.fieldLink RX2 15 "DyckReachability$Edges" "targets" "[I", Cond.fieldLink RX2 18 "DyckReachability$Edges" "labels" "[I", Cond.methodLink RX2 25 yX2_isFull, Cond.instanceMethod yX2_isFull, Cond.selects RX2 yX2_isFull yX2_isFull, Cond.code yX2_isFull cX2_isFull 1 (some .boolean), Cond.methodLink RX8 89 yX4_forgetAll, Cond.instanceMethod yX4_forgetAll, Cond.selects RX4 yX4_forgetAll yX4_forgetAll, Cond.initialized RX4]
def wsX8_load_r3 : List Cond := [Cond.code yX4_forgetAll cX4_forgetAll 1 none, Cond.fieldLink RX4 24 "DyckReachability$History" "size" "I"]
def wsX8_load : List Cond := .code yX8_load cX8_load 2 (some .int) :: ((wsX8_load_r1 ++ (wsX8_load_r2 ++ wsX8_load_r3)) ++ wsX80 ++ wsX20 ++ wsX30 ++ wsX40)
def wsX8_vertexCount : List Cond := .code yX8_vertexCount cX8_vertexCount 1 (some .int) :: ([.fieldLink RX8 9 "DyckReachability" "vertices" "I"] ++ wsX80)
def wsX8_edgeCount : List Cond := .code yX8_edgeCount cX8_edgeCount 1 (some .int) :: ([.fieldLink RX8 22 "DyckReachability" "edges" "LDyckReachability$Edges;", .fieldLink RX8 92 "DyckReachability$Edges" "size" "I"] ++ wsX80 ++ wsX20)
def wsX8_source : List Cond := .code yX8_source cX8_source 2 (some .int) :: ([.fieldLink RX8 22 "DyckReachability" "edges" "LDyckReachability$Edges;", .fieldLink RX8 99 "DyckReachability$Edges" "sources" "[I", .methodLink RX8 95 yX2_holds, .instanceMethod yX2_holds, .selects RX2 yX2_holds yX2_holds, .initialized RX2, .code yX2_holds cX2_holds 2 (some .boolean), .fieldLink RX2 21 "DyckReachability$Edges" "size" "I"] ++ wsX80 ++ wsX20)
def wsX8_target : List Cond := .code yX8_target cX8_target 2 (some .int) :: ([.fieldLink RX8 22 "DyckReachability" "edges" "LDyckReachability$Edges;", .fieldLink RX8 103 "DyckReachability$Edges" "targets" "[I", .methodLink RX8 95 yX2_holds, .instanceMethod yX2_holds, .selects RX2 yX2_holds yX2_holds, .initialized RX2, .code yX2_holds cX2_holds 2 (some .boolean), .fieldLink RX2 21 "DyckReachability$Edges" "size" "I"] ++ wsX80 ++ wsX20)
def wsX8_label : List Cond := .code yX8_label cX8_label 2 (some .int) :: ([.fieldLink RX8 22 "DyckReachability" "edges" "LDyckReachability$Edges;", .fieldLink RX8 106 "DyckReachability$Edges" "labels" "[I", .methodLink RX8 95 yX2_holds, .instanceMethod yX2_holds, .selects RX2 yX2_holds yX2_holds, .initialized RX2, .code yX2_holds cX2_holds 2 (some .boolean), .fieldLink RX2 21 "DyckReachability$Edges" "size" "I"] ++ wsX80 ++ wsX20)
def wsX8_isVertex : List Cond := .code yX8_isVertex cX8_isVertex 2 (some .boolean) :: ([.fieldLink RX8 9 "DyckReachability" "vertices" "I"] ++ wsX80)
def wsX8_addEdge_r1 : List Cond := [Cond.fieldLink RX8 22 "DyckReachability" "edges" "LDyckReachability$Edges;", Cond.fieldLink RX8 42 "DyckReachability" "history" "LDyckReachability$History;", Cond.fieldLink RX8 92 "DyckReachability$Edges" "size" "I", Cond.methodLink RX8 109 yX8_isVertex, Cond.instanceMethod yX8_isVertex, Cond.selects RX8 yX8_isVertex yX8_isVertex, Cond.initialized RX8, Cond.code yX8_isVertex cX8_isVertex 2 (some .boolean), Cond.fieldLink RX8 9 "DyckReachability" "vertices" "I", Cond.methodLink RX8 112 yX8_isLabel, Cond.static yX8_isLabel, Cond.code yX8_isLabel cX8_isLabel 1 (some .boolean), Cond.methodLink RX8 115 yX2_isFull, Cond.instanceMethod yX2_isFull, Cond.selects RX2 yX2_isFull yX2_isFull, Cond.initialized RX2, Cond.code yX2_isFull cX2_isFull 1 (some .boolean), Cond.fieldLink RX2 21 "DyckReachability$Edges" "size" "I", Cond.fieldLink RX2 9 "DyckReachability$Edges" "sources" "[I", Cond.methodLink RX8 116 yX4_remember, Cond.instanceMethod yX4_remember, Cond.selects RX4 yX4_remember yX4_remember, Cond.initialized RX4, Cond.code yX4_remember cX4_remember 2 none]
def wsX8_addEdge_r2 : List Cond := [Cond.fieldLink RX4 13 "DyckReachability$History" "states" "[LDyckReachability$Edges;", Cond.fieldLink RX4 20 "DyckReachability$History" "next" "I", Cond.fieldLink RX4 24 "DyckReachability$History" "size" "I", Cond.methodLink RX4 31 Lib.Math.min.name, Cond.static Lib.Math.min.name, Cond.initialized "java/lang/Math", Cond.code Lib.Math.min.name Lib.Math.min.code 2 (some .int), Cond.methodLink RX4 27 yX2_take, Cond.instanceMethod yX2_take, Cond.selects RX2 yX2_take yX2_take, Cond.code yX2_take cX2_take 3 none, Cond.fieldLink RX2 15 "DyckReachability$Edges" "targets" "[I", Cond.fieldLink RX2 18 "DyckReachability$Edges" "labels" "[I", Cond.methodLink RX2 33 yX2_put, Cond.instanceMethod yX2_put, Cond.selects RX2 yX2_put yX2_put, Cond.code yX2_put cX2_put 4 none, Cond.methodLink RX2 25 yX2_isFull, Cond.methodLink RX8 119 yX2_put]
def wsX8_addEdge : List Cond := .code yX8_addEdge cX8_addEdge 4 (some .int) :: ((wsX8_addEdge_r1 ++ wsX8_addEdge_r2) ++ wsX80 ++ wsX20 ++ wsX40)
def wsX8_removeEdge_r1 : List Cond := [Cond.fieldLink RX8 22 "DyckReachability" "edges" "LDyckReachability$Edges;", Cond.fieldLink RX8 42 "DyckReachability" "history" "LDyckReachability$History;", Cond.fieldLink RX8 92 "DyckReachability$Edges" "size" "I", Cond.methodLink RX8 95 yX2_holds, Cond.instanceMethod yX2_holds, Cond.selects RX2 yX2_holds yX2_holds, Cond.initialized RX2, Cond.code yX2_holds cX2_holds 2 (some .boolean), Cond.fieldLink RX2 21 "DyckReachability$Edges" "size" "I", Cond.methodLink RX8 116 yX4_remember, Cond.instanceMethod yX4_remember, Cond.selects RX4 yX4_remember yX4_remember, Cond.initialized RX4, Cond.code yX4_remember cX4_remember 2 none, Cond.fieldLink RX4 13 "DyckReachability$History" "states" "[LDyckReachability$Edges;", Cond.fieldLink RX4 20 "DyckReachability$History" "next" "I", Cond.fieldLink RX4 24 "DyckReachability$History" "size" "I", Cond.methodLink RX4 31 Lib.Math.min.name, Cond.static Lib.Math.min.name, Cond.initialized "java/lang/Math", Cond.code Lib.Math.min.name Lib.Math.min.code 2 (some .int), Cond.methodLink RX4 27 yX2_take, Cond.instanceMethod yX2_take, Cond.selects RX2 yX2_take yX2_take]
def wsX8_removeEdge_r2 : List Cond := [Cond.code yX2_take cX2_take 3 none, Cond.fieldLink RX2 9 "DyckReachability$Edges" "sources" "[I", Cond.fieldLink RX2 15 "DyckReachability$Edges" "targets" "[I", Cond.fieldLink RX2 18 "DyckReachability$Edges" "labels" "[I", Cond.methodLink RX2 33 yX2_put, Cond.instanceMethod yX2_put, Cond.selects RX2 yX2_put yX2_put, Cond.code yX2_put cX2_put 4 none, Cond.methodLink RX2 25 yX2_isFull, Cond.instanceMethod yX2_isFull, Cond.selects RX2 yX2_isFull yX2_isFull, Cond.code yX2_isFull cX2_isFull 1 (some .boolean), Cond.methodLink RX8 122 yX2_drop, Cond.instanceMethod yX2_drop, Cond.selects RX2 yX2_drop yX2_drop, Cond.code yX2_drop cX2_drop 3 none, Cond.methodLink RX2 29 yX2_holds]
def wsX8_removeEdge : List Cond := .code yX8_removeEdge cX8_removeEdge 2 (some .int) :: ((wsX8_removeEdge_r1 ++ wsX8_removeEdge_r2) ++ wsX80 ++ wsX20 ++ wsX40)
def wsX8_setLabel_r1 : List Cond := [Cond.fieldLink RX8 22 "DyckReachability" "edges" "LDyckReachability$Edges;", Cond.fieldLink RX8 42 "DyckReachability" "history" "LDyckReachability$History;", Cond.fieldLink RX8 106 "DyckReachability$Edges" "labels" "[I", Cond.methodLink RX8 95 yX2_holds, Cond.instanceMethod yX2_holds, Cond.selects RX2 yX2_holds yX2_holds, Cond.initialized RX2, Cond.code yX2_holds cX2_holds 2 (some .boolean), Cond.fieldLink RX2 21 "DyckReachability$Edges" "size" "I", Cond.methodLink RX8 112 yX8_isLabel, Cond.static yX8_isLabel, Cond.initialized RX8, Cond.code yX8_isLabel cX8_isLabel 1 (some .boolean), Cond.methodLink RX8 116 yX4_remember, Cond.instanceMethod yX4_remember, Cond.selects RX4 yX4_remember yX4_remember, Cond.initialized RX4, Cond.code yX4_remember cX4_remember 2 none, Cond.fieldLink RX4 13 "DyckReachability$History" "states" "[LDyckReachability$Edges;", Cond.fieldLink RX4 20 "DyckReachability$History" "next" "I", Cond.fieldLink RX4 24 "DyckReachability$History" "size" "I", Cond.methodLink RX4 31 Lib.Math.min.name, Cond.static Lib.Math.min.name, Cond.initialized "java/lang/Math"]
def wsX8_setLabel_r2 : List Cond := [Cond.code Lib.Math.min.name Lib.Math.min.code 2 (some .int), Cond.methodLink RX4 27 yX2_take, Cond.instanceMethod yX2_take, Cond.selects RX2 yX2_take yX2_take, Cond.code yX2_take cX2_take 3 none, Cond.fieldLink RX2 9 "DyckReachability$Edges" "sources" "[I", Cond.fieldLink RX2 15 "DyckReachability$Edges" "targets" "[I", Cond.fieldLink RX2 18 "DyckReachability$Edges" "labels" "[I", Cond.methodLink RX2 33 yX2_put, Cond.instanceMethod yX2_put, Cond.selects RX2 yX2_put yX2_put, Cond.code yX2_put cX2_put 4 none, Cond.methodLink RX2 25 yX2_isFull, Cond.instanceMethod yX2_isFull, Cond.selects RX2 yX2_isFull yX2_isFull, Cond.code yX2_isFull cX2_isFull 1 (some .boolean)]
def wsX8_setLabel : List Cond := .code yX8_setLabel cX8_setLabel 4 (some .int) :: ((wsX8_setLabel_r1 ++ wsX8_setLabel_r2) ++ wsX80 ++ wsX20 ++ wsX40)
def wsX8_undo_r1 : List Cond := [Cond.fieldLink RX8 42 "DyckReachability" "history" "LDyckReachability$History;", Cond.fieldLink RX8 125 "DyckReachability$History" "size" "I", Cond.fieldLink RX8 22 "DyckReachability" "edges" "LDyckReachability$Edges;", Cond.methodLink RX8 126 yX4_giveBack, Cond.instanceMethod yX4_giveBack, Cond.selects RX4 yX4_giveBack yX4_giveBack, Cond.initialized RX4, Cond.code yX4_giveBack cX4_giveBack 2 none, Cond.fieldLink RX4 24 "DyckReachability$History" "size" "I", Cond.fieldLink RX4 20 "DyckReachability$History" "next" "I", Cond.fieldLink RX4 13 "DyckReachability$History" "states" "[LDyckReachability$Edges;", Cond.methodLink RX4 27 yX2_take, Cond.instanceMethod yX2_take, Cond.selects RX2 yX2_take yX2_take, Cond.initialized RX2, Cond.code yX2_take cX2_take 3 none, Cond.fieldLink RX2 21 "DyckReachability$Edges" "size" "I", Cond.fieldLink RX2 9 "DyckReachability$Edges" "sources" "[I", Cond.fieldLink RX2 15 "DyckReachability$Edges" "targets" "[I", Cond.fieldLink RX2 18 "DyckReachability$Edges" "labels" "[I", Cond.methodLink RX2 33 yX2_put, Cond.instanceMethod yX2_put, Cond.selects RX2 yX2_put yX2_put, Cond.code yX2_put cX2_put 4 none]
def wsX8_undo_r2 : List Cond := [Cond.methodLink RX2 25 yX2_isFull, Cond.instanceMethod yX2_isFull, Cond.selects RX2 yX2_isFull yX2_isFull, Cond.code yX2_isFull cX2_isFull 1 (some .boolean)]
def wsX8_undo : List Cond := .code yX8_undo cX8_undo 1 (some .int) :: ((wsX8_undo_r1 ++ wsX8_undo_r2) ++ wsX80 ++ wsX40 ++ wsX20)
def wsX8_reachableFrom_r1 : List Cond := [Cond.fieldLink RX8 22 "DyckReachability" "edges" "LDyckReachability$Edges;", Cond.fieldLink RX8 9 "DyckReachability" "vertices" "I", Cond.methodLink RX8 109 yX8_isVertex, Cond.instanceMethod yX8_isVertex, Cond.selects RX8 yX8_isVertex yX8_isVertex, Cond.initialized RX8, Cond.code yX8_isVertex cX8_isVertex 2 (some .boolean), Cond.methodLink RX8 129 yX6_ofBalancedPaths, Cond.static yX6_ofBalancedPaths, Cond.initialized RX6, Cond.code yX6_ofBalancedPaths cX6_ofBalancedPaths 8 (some .long), Cond.fieldLink RX6 23 "DyckReachability$Edges" "size" "I", Cond.methodLink RX6 19 yX6_identity, Cond.static yX6_identity, Cond.code yX6_identity cX6_identity 4 (some .long), Cond.methodLink RX6 15 yX6_withRow, Cond.static yX6_withRow, Cond.code yX6_withRow cX6_withRow 4 (some .long), Cond.methodLink RX6 29 yX6_withPathsBehind, Cond.static yX6_withPathsBehind, Cond.code yX6_withPathsBehind cX6_withPathsBehind 9 (some .long), Cond.fieldLink RX6 33 "DyckReachability$Edges" "sources" "[I", Cond.fieldLink RX6 37 "DyckReachability$Edges" "targets" "[I", Cond.methodLink RX6 40 yX2_isEmptyLabelled]
def wsX8_reachableFrom_r2 : List Cond := [Cond.instanceMethod yX2_isEmptyLabelled, Cond.selects RX2 yX2_isEmptyLabelled yX2_isEmptyLabelled, Cond.initialized RX2, Cond.code yX2_isEmptyLabelled cX2_isEmptyLabelled 2 (some .boolean), Cond.fieldLink RX2 18 "DyckReachability$Edges" "labels" "[I", Cond.methodLink RX6 11 yX6_row, Cond.static yX6_row, Cond.code yX6_row cX6_row 3 (some .int), Cond.methodLink RX6 44 yX2_opens, Cond.instanceMethod yX2_opens, Cond.selects RX2 yX2_opens yX2_opens, Cond.code yX2_opens cX2_opens 2 (some .boolean), Cond.methodLink RX6 47 yX2_closes, Cond.instanceMethod yX2_closes, Cond.selects RX2 yX2_closes yX2_closes, Cond.code yX2_closes cX2_closes 3 (some .boolean), Cond.methodLink RX6 51 yX6_has, Cond.static yX6_has, Cond.code yX6_has cX6_has 4 (some .boolean), Cond.methodLink RX8 135 yX6_row]
def wsX8_reachableFrom : List Cond := .code yX8_reachableFrom cX8_reachableFrom 2 (some .int) :: ((wsX8_reachableFrom_r1 ++ wsX8_reachableFrom_r2) ++ wsX80 ++ wsX20)
def wsX8_countPairs_r1 : List Cond := [Cond.fieldLink RX8 9 "DyckReachability" "vertices" "I", Cond.methodLink RX8 129 yX6_ofBalancedPaths, Cond.static yX6_ofBalancedPaths, Cond.initialized RX6, Cond.code yX6_ofBalancedPaths cX6_ofBalancedPaths 8 (some .long), Cond.fieldLink RX6 23 "DyckReachability$Edges" "size" "I", Cond.methodLink RX6 19 yX6_identity, Cond.static yX6_identity, Cond.code yX6_identity cX6_identity 4 (some .long), Cond.methodLink RX6 15 yX6_withRow, Cond.static yX6_withRow, Cond.code yX6_withRow cX6_withRow 4 (some .long), Cond.methodLink RX6 29 yX6_withPathsBehind, Cond.static yX6_withPathsBehind, Cond.code yX6_withPathsBehind cX6_withPathsBehind 9 (some .long), Cond.fieldLink RX6 33 "DyckReachability$Edges" "sources" "[I", Cond.fieldLink RX6 37 "DyckReachability$Edges" "targets" "[I", Cond.methodLink RX6 40 yX2_isEmptyLabelled, Cond.instanceMethod yX2_isEmptyLabelled, Cond.selects RX2 yX2_isEmptyLabelled yX2_isEmptyLabelled, Cond.initialized RX2, Cond.code yX2_isEmptyLabelled cX2_isEmptyLabelled 2 (some .boolean), Cond.fieldLink RX2 18 "DyckReachability$Edges" "labels" "[I", Cond.methodLink RX6 11 yX6_row]
def wsX8_countPairs_r2 : List Cond := [Cond.static yX6_row, Cond.code yX6_row cX6_row 3 (some .int), Cond.methodLink RX6 44 yX2_opens, Cond.instanceMethod yX2_opens, Cond.selects RX2 yX2_opens yX2_opens, Cond.code yX2_opens cX2_opens 2 (some .boolean), Cond.methodLink RX6 47 yX2_closes, Cond.instanceMethod yX2_closes, Cond.selects RX2 yX2_closes yX2_closes, Cond.code yX2_closes cX2_closes 3 (some .boolean), Cond.methodLink RX6 51 yX6_has, Cond.static yX6_has, Cond.code yX6_has cX6_has 4 (some .boolean), Cond.methodLink RX8 234 yJ13_bitCount_95d88, Cond.static yJ13_bitCount_95d88, Cond.initialized RJ13, Cond.code yJ13_bitCount_95d88 cJ13_bitCount_95d88 2 (some .int), Cond.constantLong RJ13 314 (6148914691236517205), Cond.constantLong RJ13 316 (3689348814741910323), Cond.constantLong RJ13 318 (1085102592571150095)]
def wsX8_countPairs : List Cond := .code yX8_countPairs cX8_countPairs 2 (some .int) :: ((wsX8_countPairs_r1 ++ wsX8_countPairs_r2) ++ wsX80 ++ wsX20)
def wsX8_pairCount_r1 : List Cond := [Cond.fieldLink RX8 22 "DyckReachability" "edges" "LDyckReachability$Edges;", Cond.methodLink RX8 139 yX8_countPairs, Cond.instanceMethod yX8_countPairs, Cond.selects RX8 yX8_countPairs yX8_countPairs, Cond.initialized RX8, Cond.code yX8_countPairs cX8_countPairs 2 (some .int), Cond.fieldLink RX8 9 "DyckReachability" "vertices" "I", Cond.methodLink RX8 129 yX6_ofBalancedPaths, Cond.static yX6_ofBalancedPaths, Cond.initialized RX6, Cond.code yX6_ofBalancedPaths cX6_ofBalancedPaths 8 (some .long), Cond.fieldLink RX6 23 "DyckReachability$Edges" "size" "I", Cond.methodLink RX6 19 yX6_identity, Cond.static yX6_identity, Cond.code yX6_identity cX6_identity 4 (some .long), Cond.methodLink RX6 15 yX6_withRow, Cond.static yX6_withRow, Cond.code yX6_withRow cX6_withRow 4 (some .long), Cond.methodLink RX6 29 yX6_withPathsBehind, Cond.static yX6_withPathsBehind, Cond.code yX6_withPathsBehind cX6_withPathsBehind 9 (some .long), Cond.fieldLink RX6 33 "DyckReachability$Edges" "sources" "[I", Cond.fieldLink RX6 37 "DyckReachability$Edges" "targets" "[I", Cond.methodLink RX6 40 yX2_isEmptyLabelled]
def wsX8_pairCount_r2 : List Cond := [Cond.instanceMethod yX2_isEmptyLabelled, Cond.selects RX2 yX2_isEmptyLabelled yX2_isEmptyLabelled, Cond.initialized RX2, Cond.code yX2_isEmptyLabelled cX2_isEmptyLabelled 2 (some .boolean), Cond.fieldLink RX2 18 "DyckReachability$Edges" "labels" "[I", Cond.methodLink RX6 11 yX6_row, Cond.static yX6_row, Cond.code yX6_row cX6_row 3 (some .int), Cond.methodLink RX6 44 yX2_opens, Cond.instanceMethod yX2_opens, Cond.selects RX2 yX2_opens yX2_opens, Cond.code yX2_opens cX2_opens 2 (some .boolean), Cond.methodLink RX6 47 yX2_closes, Cond.instanceMethod yX2_closes, Cond.selects RX2 yX2_closes yX2_closes, Cond.code yX2_closes cX2_closes 3 (some .boolean), Cond.methodLink RX6 51 yX6_has, Cond.static yX6_has, Cond.code yX6_has cX6_has 4 (some .boolean), Cond.methodLink RX8 234 yJ13_bitCount_95d88, Cond.static yJ13_bitCount_95d88, Cond.initialized RJ13, Cond.code yJ13_bitCount_95d88 cJ13_bitCount_95d88 2 (some .int), Cond.constantLong RJ13 314 (6148914691236517205)]
def wsX8_pairCount_r3 : List Cond := [Cond.constantLong RJ13 316 (3689348814741910323), Cond.constantLong RJ13 318 (1085102592571150095)]
def wsX8_pairCount : List Cond := .code yX8_pairCount cX8_pairCount 1 (some .int) :: ((wsX8_pairCount_r1 ++ (wsX8_pairCount_r2 ++ wsX8_pairCount_r3)) ++ wsX80 ++ wsX20)
def wsX8_distance_r1 : List Cond := [Cond.fieldLink RX8 35 "DyckReachability" "distances" "LDyckReachability$Distances;", Cond.fieldLink RX8 22 "DyckReachability" "edges" "LDyckReachability$Edges;", Cond.fieldLink RX8 9 "DyckReachability" "vertices" "I", Cond.methodLink RX8 109 yX8_isVertex, Cond.instanceMethod yX8_isVertex, Cond.selects RX8 yX8_isVertex yX8_isVertex, Cond.initialized RX8, Cond.code yX8_isVertex cX8_isVertex 2 (some .boolean), Cond.methodLink RX8 143 yX1_measure, Cond.instanceMethod yX1_measure, Cond.selects RX1 yX1_measure yX1_measure, Cond.initialized RX1, Cond.code yX1_measure cX1_measure 6 none, Cond.fieldLink RX1 15 "DyckReachability$Distances" "vertices" "I", Cond.fieldLink RX1 11 "DyckReachability$Distances" "table" "[I", Cond.constant RX1 23 (1000001), Cond.fieldLink RX1 24 "DyckReachability$Edges" "size" "I", Cond.methodLink RX1 29 yX1_shortenBehind, Cond.instanceMethod yX1_shortenBehind, Cond.selects RX1 yX1_shortenBehind yX1_shortenBehind, Cond.code yX1_shortenBehind cX1_shortenBehind 8 (some .boolean), Cond.fieldLink RX1 33 "DyckReachability$Edges" "sources" "[I", Cond.fieldLink RX1 36 "DyckReachability$Edges" "targets" "[I", Cond.methodLink RX1 39 yX2_isEmptyLabelled]
def wsX8_distance_r2 : List Cond := [Cond.instanceMethod yX2_isEmptyLabelled, Cond.selects RX2 yX2_isEmptyLabelled yX2_isEmptyLabelled, Cond.initialized RX2, Cond.code yX2_isEmptyLabelled cX2_isEmptyLabelled 2 (some .boolean), Cond.fieldLink RX2 18 "DyckReachability$Edges" "labels" "[I", Cond.methodLink RX1 43 yX1_shorten, Cond.instanceMethod yX1_shorten, Cond.selects RX1 yX1_shorten yX1_shorten, Cond.code yX1_shorten cX1_shorten 7 (some .boolean), Cond.constant RX1 57 (1000000), Cond.methodLink RX1 58 Lib.Math.min.name, Cond.static Lib.Math.min.name, Cond.initialized "java/lang/Math", Cond.code Lib.Math.min.name Lib.Math.min.code 2 (some .int), Cond.methodLink RX1 54 yX1_reaches, Cond.instanceMethod yX1_reaches, Cond.selects RX1 yX1_reaches yX1_reaches, Cond.code yX1_reaches cX1_reaches 3 (some .boolean), Cond.methodLink RX1 19 yX1_between, Cond.instanceMethod yX1_between, Cond.selects RX1 yX1_between yX1_between, Cond.code yX1_between cX1_between 3 (some .int), Cond.methodLink RX1 47 yX2_opens, Cond.instanceMethod yX2_opens]
def wsX8_distance_r3 : List Cond := [Cond.selects RX2 yX2_opens yX2_opens, Cond.code yX2_opens cX2_opens 2 (some .boolean), Cond.methodLink RX1 50 yX2_closes, Cond.instanceMethod yX2_closes, Cond.selects RX2 yX2_closes yX2_closes, Cond.code yX2_closes cX2_closes 3 (some .boolean), Cond.methodLink RX8 147 yX1_reaches, Cond.methodLink RX8 151 yX1_between]
def wsX8_distance : List Cond := .code yX8_distance cX8_distance 3 (some .int) :: ((wsX8_distance_r1 ++ (wsX8_distance_r2 ++ wsX8_distance_r3)) ++ wsX80 ++ wsX10 ++ wsX20)
def wsX8_witnessEdge_r1 : List Cond := [Cond.fieldLink RX8 35 "DyckReachability" "distances" "LDyckReachability$Distances;", Cond.fieldLink RX8 22 "DyckReachability" "edges" "LDyckReachability$Edges;", Cond.fieldLink RX8 9 "DyckReachability" "vertices" "I", Cond.methodLink RX8 109 yX8_isVertex, Cond.instanceMethod yX8_isVertex, Cond.selects RX8 yX8_isVertex yX8_isVertex, Cond.initialized RX8, Cond.code yX8_isVertex cX8_isVertex 2 (some .boolean), Cond.methodLink RX8 143 yX1_measure, Cond.instanceMethod yX1_measure, Cond.selects RX1 yX1_measure yX1_measure, Cond.initialized RX1, Cond.code yX1_measure cX1_measure 6 none, Cond.fieldLink RX1 15 "DyckReachability$Distances" "vertices" "I", Cond.fieldLink RX1 11 "DyckReachability$Distances" "table" "[I", Cond.constant RX1 23 (1000001), Cond.fieldLink RX1 24 "DyckReachability$Edges" "size" "I", Cond.methodLink RX1 29 yX1_shortenBehind, Cond.instanceMethod yX1_shortenBehind, Cond.selects RX1 yX1_shortenBehind yX1_shortenBehind, Cond.code yX1_shortenBehind cX1_shortenBehind 8 (some .boolean), Cond.fieldLink RX1 33 "DyckReachability$Edges" "sources" "[I", Cond.fieldLink RX1 36 "DyckReachability$Edges" "targets" "[I", Cond.methodLink RX1 39 yX2_isEmptyLabelled]
def wsX8_witnessEdge_r2 : List Cond := [Cond.instanceMethod yX2_isEmptyLabelled, Cond.selects RX2 yX2_isEmptyLabelled yX2_isEmptyLabelled, Cond.initialized RX2, Cond.code yX2_isEmptyLabelled cX2_isEmptyLabelled 2 (some .boolean), Cond.fieldLink RX2 18 "DyckReachability$Edges" "labels" "[I", Cond.methodLink RX1 43 yX1_shorten, Cond.instanceMethod yX1_shorten, Cond.selects RX1 yX1_shorten yX1_shorten, Cond.code yX1_shorten cX1_shorten 7 (some .boolean), Cond.constant RX1 57 (1000000), Cond.methodLink RX1 58 Lib.Math.min.name, Cond.static Lib.Math.min.name, Cond.initialized "java/lang/Math", Cond.code Lib.Math.min.name Lib.Math.min.code 2 (some .int), Cond.methodLink RX1 54 yX1_reaches, Cond.instanceMethod yX1_reaches, Cond.selects RX1 yX1_reaches yX1_reaches, Cond.code yX1_reaches cX1_reaches 3 (some .boolean), Cond.methodLink RX1 19 yX1_between, Cond.instanceMethod yX1_between, Cond.selects RX1 yX1_between yX1_between, Cond.code yX1_between cX1_between 3 (some .int), Cond.methodLink RX1 47 yX2_opens, Cond.instanceMethod yX2_opens]
def wsX8_witnessEdge_r3 : List Cond := [Cond.selects RX2 yX2_opens yX2_opens, Cond.code yX2_opens cX2_opens 2 (some .boolean), Cond.methodLink RX1 50 yX2_closes, Cond.instanceMethod yX2_closes, Cond.selects RX2 yX2_closes yX2_closes, Cond.code yX2_closes cX2_closes 3 (some .boolean), Cond.methodLink RX8 155 yX1_edgeOnWitness, Cond.instanceMethod yX1_edgeOnWitness, Cond.selects RX1 yX1_edgeOnWitness yX1_edgeOnWitness, Cond.code yX1_edgeOnWitness cX1_edgeOnWitness 12 (some .int), Cond.methodLink RX1 63 yX1_firstOnWitness, Cond.instanceMethod yX1_firstOnWitness, Cond.selects RX1 yX1_firstOnWitness yX1_firstOnWitness, Cond.code yX1_firstOnWitness cX1_firstOnWitness 5 (some .int), Cond.methodLink RX1 70 yX1_beginsShortest, Cond.instanceMethod yX1_beginsShortest, Cond.selects RX1 yX1_beginsShortest yX1_beginsShortest, Cond.code yX1_beginsShortest cX1_beginsShortest 4 (some .boolean), Cond.methodLink RX1 67 yX1_closingOnWitness, Cond.instanceMethod yX1_closingOnWitness, Cond.selects RX1 yX1_closingOnWitness yX1_closingOnWitness, Cond.code yX1_closingOnWitness cX1_closingOnWitness 8 (some .int)]
def wsX8_witnessEdge : List Cond := .code yX8_witnessEdge cX8_witnessEdge 4 (some .int) :: ((wsX8_witnessEdge_r1 ++ (wsX8_witnessEdge_r2 ++ wsX8_witnessEdge_r3)) ++ wsX80 ++ wsX10 ++ wsX20)
def wsX8_depth_r1 : List Cond := [Cond.fieldLink RX8 22 "DyckReachability" "edges" "LDyckReachability$Edges;", Cond.fieldLink RX8 9 "DyckReachability" "vertices" "I", Cond.methodLink RX8 109 yX8_isVertex, Cond.instanceMethod yX8_isVertex, Cond.selects RX8 yX8_isVertex yX8_isVertex, Cond.initialized RX8, Cond.code yX8_isVertex cX8_isVertex 2 (some .boolean), Cond.methodLink RX8 159 yX6_nestedAround, Cond.static yX6_nestedAround, Cond.initialized RX6, Cond.code yX6_nestedAround cX6_nestedAround 7 (some .long), Cond.fieldLink RX6 23 "DyckReachability$Edges" "size" "I", Cond.fieldLink RX6 33 "DyckReachability$Edges" "sources" "[I", Cond.methodLink RX6 19 yX6_identity, Cond.static yX6_identity, Cond.code yX6_identity cX6_identity 4 (some .long), Cond.methodLink RX6 15 yX6_withRow, Cond.static yX6_withRow, Cond.code yX6_withRow cX6_withRow 4 (some .long), Cond.methodLink RX6 55 yX6_stepsBy, Cond.static yX6_stepsBy, Cond.code yX6_stepsBy cX6_stepsBy 7 (some .int), Cond.fieldLink RX6 37 "DyckReachability$Edges" "targets" "[I", Cond.methodLink RX6 40 yX2_isEmptyLabelled]
def wsX8_depth_r2 : List Cond := [Cond.instanceMethod yX2_isEmptyLabelled, Cond.selects RX2 yX2_isEmptyLabelled yX2_isEmptyLabelled, Cond.initialized RX2, Cond.code yX2_isEmptyLabelled cX2_isEmptyLabelled 2 (some .boolean), Cond.fieldLink RX2 18 "DyckReachability$Edges" "labels" "[I", Cond.methodLink RX6 44 yX2_opens, Cond.instanceMethod yX2_opens, Cond.selects RX2 yX2_opens yX2_opens, Cond.code yX2_opens cX2_opens 2 (some .boolean), Cond.methodLink RX6 47 yX2_closes, Cond.instanceMethod yX2_closes, Cond.selects RX2 yX2_closes yX2_closes, Cond.code yX2_closes cX2_closes 3 (some .boolean), Cond.methodLink RX6 51 yX6_has, Cond.static yX6_has, Cond.code yX6_has cX6_has 4 (some .boolean), Cond.methodLink RX6 11 yX6_row, Cond.static yX6_row, Cond.code yX6_row cX6_row 3 (some .int), Cond.methodLink RX6 59 yX6_transitive, Cond.static yX6_transitive, Cond.code yX6_transitive cX6_transitive 6 (some .long), Cond.methodLink RX8 163 yX6_has]
def wsX8_depth : List Cond := .code yX8_depth cX8_depth 8 (some .int) :: ((wsX8_depth_r1 ++ wsX8_depth_r2) ++ wsX80 ++ wsX20)
def wsX8_countPairsWithout_r1 : List Cond := [Cond.fieldLink RX8 26 "DyckReachability" "copy" "LDyckReachability$Edges;", Cond.fieldLink RX8 22 "DyckReachability" "edges" "LDyckReachability$Edges;", Cond.methodLink RX8 185 yX2_take, Cond.instanceMethod yX2_take, Cond.selects RX2 yX2_take yX2_take, Cond.initialized RX2, Cond.code yX2_take cX2_take 3 none, Cond.fieldLink RX2 21 "DyckReachability$Edges" "size" "I", Cond.fieldLink RX2 9 "DyckReachability$Edges" "sources" "[I", Cond.fieldLink RX2 15 "DyckReachability$Edges" "targets" "[I", Cond.fieldLink RX2 18 "DyckReachability$Edges" "labels" "[I", Cond.methodLink RX2 33 yX2_put, Cond.instanceMethod yX2_put, Cond.selects RX2 yX2_put yX2_put, Cond.code yX2_put cX2_put 4 none, Cond.methodLink RX2 25 yX2_isFull, Cond.instanceMethod yX2_isFull, Cond.selects RX2 yX2_isFull yX2_isFull, Cond.code yX2_isFull cX2_isFull 1 (some .boolean), Cond.methodLink RX8 122 yX2_drop, Cond.instanceMethod yX2_drop, Cond.selects RX2 yX2_drop yX2_drop, Cond.code yX2_drop cX2_drop 3 none, Cond.methodLink RX2 29 yX2_holds]
def wsX8_countPairsWithout_r2 : List Cond := [Cond.instanceMethod yX2_holds, Cond.selects RX2 yX2_holds yX2_holds, Cond.code yX2_holds cX2_holds 2 (some .boolean), Cond.methodLink RX8 139 yX8_countPairs, Cond.instanceMethod yX8_countPairs, Cond.selects RX8 yX8_countPairs yX8_countPairs, Cond.initialized RX8, Cond.code yX8_countPairs cX8_countPairs 2 (some .int), Cond.fieldLink RX8 9 "DyckReachability" "vertices" "I", Cond.methodLink RX8 129 yX6_ofBalancedPaths, Cond.static yX6_ofBalancedPaths, Cond.initialized RX6, Cond.code yX6_ofBalancedPaths cX6_ofBalancedPaths 8 (some .long), Cond.fieldLink RX6 23 "DyckReachability$Edges" "size" "I", Cond.methodLink RX6 19 yX6_identity, Cond.static yX6_identity, Cond.code yX6_identity cX6_identity 4 (some .long), Cond.methodLink RX6 15 yX6_withRow, Cond.static yX6_withRow, Cond.code yX6_withRow cX6_withRow 4 (some .long), Cond.methodLink RX6 29 yX6_withPathsBehind, Cond.static yX6_withPathsBehind, Cond.code yX6_withPathsBehind cX6_withPathsBehind 9 (some .long), Cond.fieldLink RX6 33 "DyckReachability$Edges" "sources" "[I"]
def wsX8_countPairsWithout_r3 : List Cond := [Cond.fieldLink RX6 37 "DyckReachability$Edges" "targets" "[I", Cond.methodLink RX6 40 yX2_isEmptyLabelled, Cond.instanceMethod yX2_isEmptyLabelled, Cond.selects RX2 yX2_isEmptyLabelled yX2_isEmptyLabelled, Cond.code yX2_isEmptyLabelled cX2_isEmptyLabelled 2 (some .boolean), Cond.methodLink RX6 11 yX6_row, Cond.static yX6_row, Cond.code yX6_row cX6_row 3 (some .int), Cond.methodLink RX6 44 yX2_opens, Cond.instanceMethod yX2_opens, Cond.selects RX2 yX2_opens yX2_opens, Cond.code yX2_opens cX2_opens 2 (some .boolean), Cond.methodLink RX6 47 yX2_closes, Cond.instanceMethod yX2_closes, Cond.selects RX2 yX2_closes yX2_closes, Cond.code yX2_closes cX2_closes 3 (some .boolean), Cond.methodLink RX6 51 yX6_has, Cond.static yX6_has, Cond.code yX6_has cX6_has 4 (some .boolean), Cond.methodLink RX8 234 yJ13_bitCount_95d88, Cond.static yJ13_bitCount_95d88, Cond.initialized RJ13, Cond.code yJ13_bitCount_95d88 cJ13_bitCount_95d88 2 (some .int), Cond.constantLong RJ13 314 (6148914691236517205)]
def wsX8_countPairsWithout_r4 : List Cond := [Cond.constantLong RJ13 316 (3689348814741910323), Cond.constantLong RJ13 318 (1085102592571150095)]
def wsX8_countPairsWithout : List Cond := .code yX8_countPairsWithout cX8_countPairsWithout 2 (some .int) :: ((wsX8_countPairsWithout_r1 ++ (wsX8_countPairsWithout_r2 ++ (wsX8_countPairsWithout_r3 ++ wsX8_countPairsWithout_r4))) ++ wsX80 ++ wsX20)
def wsX8_loss_r1 : List Cond := [Cond.fieldLink RX8 22 "DyckReachability" "edges" "LDyckReachability$Edges;", Cond.methodLink RX8 95 yX2_holds, Cond.instanceMethod yX2_holds, Cond.selects RX2 yX2_holds yX2_holds, Cond.initialized RX2, Cond.code yX2_holds cX2_holds 2 (some .boolean), Cond.fieldLink RX2 21 "DyckReachability$Edges" "size" "I", Cond.methodLink RX8 139 yX8_countPairs, Cond.instanceMethod yX8_countPairs, Cond.selects RX8 yX8_countPairs yX8_countPairs, Cond.initialized RX8, Cond.code yX8_countPairs cX8_countPairs 2 (some .int), Cond.fieldLink RX8 9 "DyckReachability" "vertices" "I", Cond.methodLink RX8 129 yX6_ofBalancedPaths, Cond.static yX6_ofBalancedPaths, Cond.initialized RX6, Cond.code yX6_ofBalancedPaths cX6_ofBalancedPaths 8 (some .long), Cond.fieldLink RX6 23 "DyckReachability$Edges" "size" "I", Cond.methodLink RX6 19 yX6_identity, Cond.static yX6_identity, Cond.code yX6_identity cX6_identity 4 (some .long), Cond.methodLink RX6 15 yX6_withRow, Cond.static yX6_withRow, Cond.code yX6_withRow cX6_withRow 4 (some .long)]
def wsX8_loss_r2 : List Cond := [Cond.methodLink RX6 29 yX6_withPathsBehind, Cond.static yX6_withPathsBehind, Cond.code yX6_withPathsBehind cX6_withPathsBehind 9 (some .long), Cond.fieldLink RX6 33 "DyckReachability$Edges" "sources" "[I", Cond.fieldLink RX6 37 "DyckReachability$Edges" "targets" "[I", Cond.methodLink RX6 40 yX2_isEmptyLabelled, Cond.instanceMethod yX2_isEmptyLabelled, Cond.selects RX2 yX2_isEmptyLabelled yX2_isEmptyLabelled, Cond.code yX2_isEmptyLabelled cX2_isEmptyLabelled 2 (some .boolean), Cond.fieldLink RX2 18 "DyckReachability$Edges" "labels" "[I", Cond.methodLink RX6 11 yX6_row, Cond.static yX6_row, Cond.code yX6_row cX6_row 3 (some .int), Cond.methodLink RX6 44 yX2_opens, Cond.instanceMethod yX2_opens, Cond.selects RX2 yX2_opens yX2_opens, Cond.code yX2_opens cX2_opens 2 (some .boolean), Cond.methodLink RX6 47 yX2_closes, Cond.instanceMethod yX2_closes, Cond.selects RX2 yX2_closes yX2_closes, Cond.code yX2_closes cX2_closes 3 (some .boolean), Cond.methodLink RX6 51 yX6_has, Cond.static yX6_has, Cond.code yX6_has cX6_has 4 (some .boolean)]
def wsX8_loss_r3 : List Cond := [Cond.methodLink RX8 234 yJ13_bitCount_95d88, Cond.static yJ13_bitCount_95d88, Cond.initialized RJ13, Cond.code yJ13_bitCount_95d88 cJ13_bitCount_95d88 2 (some .int), Cond.constantLong RJ13 314 (6148914691236517205), Cond.constantLong RJ13 316 (3689348814741910323), Cond.constantLong RJ13 318 (1085102592571150095), Cond.methodLink RX8 167 yX8_countPairsWithout, Cond.instanceMethod yX8_countPairsWithout, Cond.selects RX8 yX8_countPairsWithout yX8_countPairsWithout, Cond.code yX8_countPairsWithout cX8_countPairsWithout 2 (some .int), Cond.fieldLink RX8 26 "DyckReachability" "copy" "LDyckReachability$Edges;", Cond.methodLink RX8 185 yX2_take, Cond.instanceMethod yX2_take, Cond.selects RX2 yX2_take yX2_take, Cond.code yX2_take cX2_take 3 none, Cond.fieldLink RX2 9 "DyckReachability$Edges" "sources" "[I", Cond.fieldLink RX2 15 "DyckReachability$Edges" "targets" "[I", Cond.methodLink RX2 33 yX2_put, Cond.instanceMethod yX2_put, Cond.selects RX2 yX2_put yX2_put, Cond.code yX2_put cX2_put 4 none, Cond.methodLink RX2 25 yX2_isFull, Cond.instanceMethod yX2_isFull]
def wsX8_loss_r4 : List Cond := [Cond.selects RX2 yX2_isFull yX2_isFull, Cond.code yX2_isFull cX2_isFull 1 (some .boolean), Cond.methodLink RX8 122 yX2_drop, Cond.instanceMethod yX2_drop, Cond.selects RX2 yX2_drop yX2_drop, Cond.code yX2_drop cX2_drop 3 none, Cond.methodLink RX2 29 yX2_holds]
def wsX8_loss : List Cond := .code yX8_loss cX8_loss 2 (some .int) :: ((wsX8_loss_r1 ++ (wsX8_loss_r2 ++ (wsX8_loss_r3 ++ wsX8_loss_r4))) ++ wsX80 ++ wsX20)
def wsX8_criticalEdge_r1 : List Cond := [Cond.fieldLink RX8 22 "DyckReachability" "edges" "LDyckReachability$Edges;", Cond.fieldLink RX8 92 "DyckReachability$Edges" "size" "I", Cond.methodLink RX8 167 yX8_countPairsWithout, Cond.instanceMethod yX8_countPairsWithout, Cond.selects RX8 yX8_countPairsWithout yX8_countPairsWithout, Cond.initialized RX8, Cond.code yX8_countPairsWithout cX8_countPairsWithout 2 (some .int), Cond.fieldLink RX8 26 "DyckReachability" "copy" "LDyckReachability$Edges;", Cond.methodLink RX8 185 yX2_take, Cond.instanceMethod yX2_take, Cond.selects RX2 yX2_take yX2_take, Cond.initialized RX2, Cond.code yX2_take cX2_take 3 none, Cond.fieldLink RX2 21 "DyckReachability$Edges" "size" "I", Cond.fieldLink RX2 9 "DyckReachability$Edges" "sources" "[I", Cond.fieldLink RX2 15 "DyckReachability$Edges" "targets" "[I", Cond.fieldLink RX2 18 "DyckReachability$Edges" "labels" "[I", Cond.methodLink RX2 33 yX2_put, Cond.instanceMethod yX2_put, Cond.selects RX2 yX2_put yX2_put, Cond.code yX2_put cX2_put 4 none, Cond.methodLink RX2 25 yX2_isFull, Cond.instanceMethod yX2_isFull, Cond.selects RX2 yX2_isFull yX2_isFull]
def wsX8_criticalEdge_r2 : List Cond := [Cond.code yX2_isFull cX2_isFull 1 (some .boolean), Cond.methodLink RX8 122 yX2_drop, Cond.instanceMethod yX2_drop, Cond.selects RX2 yX2_drop yX2_drop, Cond.code yX2_drop cX2_drop 3 none, Cond.methodLink RX2 29 yX2_holds, Cond.instanceMethod yX2_holds, Cond.selects RX2 yX2_holds yX2_holds, Cond.code yX2_holds cX2_holds 2 (some .boolean), Cond.methodLink RX8 139 yX8_countPairs, Cond.instanceMethod yX8_countPairs, Cond.selects RX8 yX8_countPairs yX8_countPairs, Cond.code yX8_countPairs cX8_countPairs 2 (some .int), Cond.fieldLink RX8 9 "DyckReachability" "vertices" "I", Cond.methodLink RX8 129 yX6_ofBalancedPaths, Cond.static yX6_ofBalancedPaths, Cond.initialized RX6, Cond.code yX6_ofBalancedPaths cX6_ofBalancedPaths 8 (some .long), Cond.fieldLink RX6 23 "DyckReachability$Edges" "size" "I", Cond.methodLink RX6 19 yX6_identity, Cond.static yX6_identity, Cond.code yX6_identity cX6_identity 4 (some .long), Cond.methodLink RX6 15 yX6_withRow, Cond.static yX6_withRow]
def wsX8_criticalEdge_r3 : List Cond := [Cond.code yX6_withRow cX6_withRow 4 (some .long), Cond.methodLink RX6 29 yX6_withPathsBehind, Cond.static yX6_withPathsBehind, Cond.code yX6_withPathsBehind cX6_withPathsBehind 9 (some .long), Cond.fieldLink RX6 33 "DyckReachability$Edges" "sources" "[I", Cond.fieldLink RX6 37 "DyckReachability$Edges" "targets" "[I", Cond.methodLink RX6 40 yX2_isEmptyLabelled, Cond.instanceMethod yX2_isEmptyLabelled, Cond.selects RX2 yX2_isEmptyLabelled yX2_isEmptyLabelled, Cond.code yX2_isEmptyLabelled cX2_isEmptyLabelled 2 (some .boolean), Cond.methodLink RX6 11 yX6_row, Cond.static yX6_row, Cond.code yX6_row cX6_row 3 (some .int), Cond.methodLink RX6 44 yX2_opens, Cond.instanceMethod yX2_opens, Cond.selects RX2 yX2_opens yX2_opens, Cond.code yX2_opens cX2_opens 2 (some .boolean), Cond.methodLink RX6 47 yX2_closes, Cond.instanceMethod yX2_closes, Cond.selects RX2 yX2_closes yX2_closes, Cond.code yX2_closes cX2_closes 3 (some .boolean), Cond.methodLink RX6 51 yX6_has, Cond.static yX6_has, Cond.code yX6_has cX6_has 4 (some .boolean)]
def wsX8_criticalEdge_r4 : List Cond := [Cond.methodLink RX8 234 yJ13_bitCount_95d88, Cond.static yJ13_bitCount_95d88, Cond.initialized RJ13, Cond.code yJ13_bitCount_95d88 cJ13_bitCount_95d88 2 (some .int), Cond.constantLong RJ13 314 (6148914691236517205), Cond.constantLong RJ13 316 (3689348814741910323), Cond.constantLong RJ13 318 (1085102592571150095)]
def wsX8_criticalEdge : List Cond := .code yX8_criticalEdge cX8_criticalEdge 5 (some .int) :: ((wsX8_criticalEdge_r1 ++ (wsX8_criticalEdge_r2 ++ (wsX8_criticalEdge_r3 ++ wsX8_criticalEdge_r4))) ++ wsX80 ++ wsX20)
def wsJ6_numberOfTrailingZeros_0f7a4 : List Cond := .code yJ6_numberOfTrailingZeros_0f7a4 cJ6_numberOfTrailingZeros_0f7a4 2 (some .int) :: ([.constant RJ6 264 (65536)])
def wsX8_representative_r1 : List Cond := [Cond.fieldLink RX8 29 "DyckReachability" "bothWays" "LDyckReachability$Edges;", Cond.fieldLink RX8 22 "DyckReachability" "edges" "LDyckReachability$Edges;", Cond.fieldLink RX8 9 "DyckReachability" "vertices" "I", Cond.methodLink RX8 109 yX8_isVertex, Cond.instanceMethod yX8_isVertex, Cond.selects RX8 yX8_isVertex yX8_isVertex, Cond.initialized RX8, Cond.code yX8_isVertex cX8_isVertex 2 (some .boolean), Cond.methodLink RX8 171 yX2_takeBothWays, Cond.instanceMethod yX2_takeBothWays, Cond.selects RX2 yX2_takeBothWays yX2_takeBothWays, Cond.initialized RX2, Cond.code yX2_takeBothWays cX2_takeBothWays 3 none, Cond.fieldLink RX2 21 "DyckReachability$Edges" "size" "I", Cond.fieldLink RX2 15 "DyckReachability$Edges" "targets" "[I", Cond.fieldLink RX2 9 "DyckReachability$Edges" "sources" "[I", Cond.fieldLink RX2 18 "DyckReachability$Edges" "labels" "[I", Cond.methodLink RX2 37 yX2_take, Cond.instanceMethod yX2_take, Cond.selects RX2 yX2_take yX2_take, Cond.code yX2_take cX2_take 3 none, Cond.methodLink RX2 33 yX2_put, Cond.instanceMethod yX2_put, Cond.selects RX2 yX2_put yX2_put]
def wsX8_representative_r2 : List Cond := [Cond.code yX2_put cX2_put 4 none, Cond.methodLink RX2 25 yX2_isFull, Cond.instanceMethod yX2_isFull, Cond.selects RX2 yX2_isFull yX2_isFull, Cond.code yX2_isFull cX2_isFull 1 (some .boolean), Cond.methodLink RX2 41 yX2_otherBracket, Cond.static yX2_otherBracket, Cond.code yX2_otherBracket cX2_otherBracket 1 (some .int), Cond.methodLink RX8 129 yX6_ofBalancedPaths, Cond.static yX6_ofBalancedPaths, Cond.initialized RX6, Cond.code yX6_ofBalancedPaths cX6_ofBalancedPaths 8 (some .long), Cond.fieldLink RX6 23 "DyckReachability$Edges" "size" "I", Cond.methodLink RX6 19 yX6_identity, Cond.static yX6_identity, Cond.code yX6_identity cX6_identity 4 (some .long), Cond.methodLink RX6 15 yX6_withRow, Cond.static yX6_withRow, Cond.code yX6_withRow cX6_withRow 4 (some .long), Cond.methodLink RX6 29 yX6_withPathsBehind, Cond.static yX6_withPathsBehind, Cond.code yX6_withPathsBehind cX6_withPathsBehind 9 (some .long), Cond.fieldLink RX6 33 "DyckReachability$Edges" "sources" "[I", Cond.fieldLink RX6 37 "DyckReachability$Edges" "targets" "[I"]
def wsX8_representative_r3 : List Cond := [Cond.methodLink RX6 40 yX2_isEmptyLabelled, Cond.instanceMethod yX2_isEmptyLabelled, Cond.selects RX2 yX2_isEmptyLabelled yX2_isEmptyLabelled, Cond.code yX2_isEmptyLabelled cX2_isEmptyLabelled 2 (some .boolean), Cond.methodLink RX6 11 yX6_row, Cond.static yX6_row, Cond.code yX6_row cX6_row 3 (some .int), Cond.methodLink RX6 44 yX2_opens, Cond.instanceMethod yX2_opens, Cond.selects RX2 yX2_opens yX2_opens, Cond.code yX2_opens cX2_opens 2 (some .boolean), Cond.methodLink RX6 47 yX2_closes, Cond.instanceMethod yX2_closes, Cond.selects RX2 yX2_closes yX2_closes, Cond.code yX2_closes cX2_closes 3 (some .boolean), Cond.methodLink RX6 51 yX6_has, Cond.static yX6_has, Cond.code yX6_has cX6_has 4 (some .boolean), Cond.methodLink RX8 135 yX6_row, Cond.methodLink RX8 174 yJ6_numberOfTrailingZeros_0f7a4, Cond.static yJ6_numberOfTrailingZeros_0f7a4, Cond.initialized RJ6, Cond.code yJ6_numberOfTrailingZeros_0f7a4 cJ6_numberOfTrailingZeros_0f7a4 2 (some .int), Cond.constant RJ6 264 (65536)]
def wsX8_representative : List Cond := .code yX8_representative cX8_representative 4 (some .int) :: ((wsX8_representative_r1 ++ (wsX8_representative_r2 ++ wsX8_representative_r3)) ++ wsX80 ++ wsX20)
def wsX8_runScript_r1 : List Cond := [Cond.fieldLink RX8 26 "DyckReachability" "copy" "LDyckReachability$Edges;", Cond.fieldLink RX8 22 "DyckReachability" "edges" "LDyckReachability$Edges;", Cond.fieldLink RX8 9 "DyckReachability" "vertices" "I", Cond.fieldLink RX8 35 "DyckReachability" "distances" "LDyckReachability$Distances;", Cond.methodLink RX8 179 yX7_withoutLowest, Cond.static yX7_withoutLowest, Cond.initialized RX7, Cond.code yX7_withoutLowest cX7_withoutLowest 6 (some .long), Cond.constantLong RX7 9 (10000), Cond.methodLink RX8 185 yX2_take, Cond.instanceMethod yX2_take, Cond.selects RX2 yX2_take yX2_take, Cond.initialized RX2, Cond.code yX2_take cX2_take 3 none, Cond.fieldLink RX2 21 "DyckReachability$Edges" "size" "I", Cond.fieldLink RX2 9 "DyckReachability$Edges" "sources" "[I", Cond.fieldLink RX2 15 "DyckReachability$Edges" "targets" "[I", Cond.fieldLink RX2 18 "DyckReachability$Edges" "labels" "[I", Cond.methodLink RX2 33 yX2_put, Cond.instanceMethod yX2_put, Cond.selects RX2 yX2_put yX2_put, Cond.code yX2_put cX2_put 4 none, Cond.methodLink RX2 25 yX2_isFull, Cond.instanceMethod yX2_isFull]
def wsX8_runScript_r2 : List Cond := [Cond.selects RX2 yX2_isFull yX2_isFull, Cond.code yX2_isFull cX2_isFull 1 (some .boolean), Cond.methodLink RX8 188 yX7_lowestGroup, Cond.static yX7_lowestGroup, Cond.code yX7_lowestGroup cX7_lowestGroup 2 (some .int), Cond.methodLink RX8 192 yX7_succeeds, Cond.static yX7_succeeds, Cond.code yX7_succeeds cX7_succeeds 7 (some .boolean), Cond.methodLink RX7 11 yX7_adds, Cond.static yX7_adds, Cond.code yX7_adds cX7_adds 5 (some .boolean), Cond.static yX8_isLabel, Cond.initialized RX8, Cond.code yX8_isLabel cX8_isLabel 1 (some .boolean), Cond.methodLink RX7 51 yX2_isFull, Cond.methodLink RX7 57 yX2_put, Cond.methodLink RX7 15 yX7_removes, Cond.static yX7_removes, Cond.code yX7_removes cX7_removes 2 (some .boolean), Cond.methodLink RX7 61 yX2_holds, Cond.instanceMethod yX2_holds, Cond.selects RX2 yX2_holds yX2_holds, Cond.code yX2_holds cX2_holds 2 (some .boolean), Cond.methodLink RX7 64 yX2_drop]
def wsX8_runScript_r3 : List Cond := [Cond.instanceMethod yX2_drop, Cond.selects RX2 yX2_drop yX2_drop, Cond.code yX2_drop cX2_drop 3 none, Cond.methodLink RX2 29 yX2_holds, Cond.methodLink RX7 19 yX6_ofBalancedPaths, Cond.static yX6_ofBalancedPaths, Cond.initialized RX6, Cond.code yX6_ofBalancedPaths cX6_ofBalancedPaths 8 (some .long), Cond.fieldLink RX6 23 "DyckReachability$Edges" "size" "I", Cond.methodLink RX6 19 yX6_identity, Cond.static yX6_identity, Cond.code yX6_identity cX6_identity 4 (some .long), Cond.methodLink RX6 15 yX6_withRow, Cond.static yX6_withRow, Cond.code yX6_withRow cX6_withRow 4 (some .long), Cond.methodLink RX6 29 yX6_withPathsBehind, Cond.static yX6_withPathsBehind, Cond.code yX6_withPathsBehind cX6_withPathsBehind 9 (some .long), Cond.fieldLink RX6 33 "DyckReachability$Edges" "sources" "[I", Cond.fieldLink RX6 37 "DyckReachability$Edges" "targets" "[I", Cond.methodLink RX6 40 yX2_isEmptyLabelled, Cond.instanceMethod yX2_isEmptyLabelled, Cond.selects RX2 yX2_isEmptyLabelled yX2_isEmptyLabelled, Cond.code yX2_isEmptyLabelled cX2_isEmptyLabelled 2 (some .boolean)]
def wsX8_runScript_r4 : List Cond := [Cond.methodLink RX6 11 yX6_row, Cond.static yX6_row, Cond.code yX6_row cX6_row 3 (some .int), Cond.methodLink RX6 44 yX2_opens, Cond.instanceMethod yX2_opens, Cond.selects RX2 yX2_opens yX2_opens, Cond.code yX2_opens cX2_opens 2 (some .boolean), Cond.methodLink RX6 47 yX2_closes, Cond.instanceMethod yX2_closes, Cond.selects RX2 yX2_closes yX2_closes, Cond.code yX2_closes cX2_closes 3 (some .boolean), Cond.methodLink RX6 51 yX6_has, Cond.static yX6_has, Cond.code yX6_has cX6_has 4 (some .boolean), Cond.methodLink RX7 25 yX6_has, Cond.methodLink RX7 29 yJ13_bitCount_95d88, Cond.static yJ13_bitCount_95d88, Cond.initialized RJ13, Cond.code yJ13_bitCount_95d88 cJ13_bitCount_95d88 2 (some .int), Cond.constantLong RJ13 314 (6148914691236517205), Cond.constantLong RJ13 316 (3689348814741910323), Cond.constantLong RJ13 318 (1085102592571150095), Cond.methodLink RX7 35 yX1_measure, Cond.instanceMethod yX1_measure]
def wsX8_runScript_r5 : List Cond := [Cond.selects RX1 yX1_measure yX1_measure, Cond.initialized RX1, Cond.code yX1_measure cX1_measure 6 none, Cond.fieldLink RX1 15 "DyckReachability$Distances" "vertices" "I", Cond.fieldLink RX1 11 "DyckReachability$Distances" "table" "[I", Cond.constant RX1 23 (1000001), Cond.fieldLink RX1 24 "DyckReachability$Edges" "size" "I", Cond.methodLink RX1 29 yX1_shortenBehind, Cond.instanceMethod yX1_shortenBehind, Cond.selects RX1 yX1_shortenBehind yX1_shortenBehind, Cond.code yX1_shortenBehind cX1_shortenBehind 8 (some .boolean), Cond.fieldLink RX1 33 "DyckReachability$Edges" "sources" "[I", Cond.fieldLink RX1 36 "DyckReachability$Edges" "targets" "[I", Cond.methodLink RX1 39 yX2_isEmptyLabelled, Cond.methodLink RX1 43 yX1_shorten, Cond.instanceMethod yX1_shorten, Cond.selects RX1 yX1_shorten yX1_shorten, Cond.code yX1_shorten cX1_shorten 7 (some .boolean), Cond.constant RX1 57 (1000000), Cond.methodLink RX1 58 Lib.Math.min.name, Cond.static Lib.Math.min.name, Cond.initialized "java/lang/Math", Cond.code Lib.Math.min.name Lib.Math.min.code 2 (some .int), Cond.methodLink RX1 54 yX1_reaches]
def wsX8_runScript_r6 : List Cond := [Cond.instanceMethod yX1_reaches, Cond.selects RX1 yX1_reaches yX1_reaches, Cond.code yX1_reaches cX1_reaches 3 (some .boolean), Cond.methodLink RX1 19 yX1_between, Cond.instanceMethod yX1_between, Cond.selects RX1 yX1_between yX1_between, Cond.code yX1_between cX1_between 3 (some .int), Cond.methodLink RX1 47 yX2_opens, Cond.methodLink RX1 50 yX2_closes, Cond.methodLink RX7 41 yX1_between]
def wsX8_runScript : List Cond := .code yX8_runScript cX8_runScript 6 (some .int) :: ((wsX8_runScript_r1 ++ (wsX8_runScript_r2 ++ (wsX8_runScript_r3 ++ (wsX8_runScript_r4 ++ (wsX8_runScript_r5 ++ wsX8_runScript_r6))))) ++ wsX80 ++ wsX20 ++ wsX10)
def wsX8_isVertexNumber : List Cond := .code yX8_isVertexNumber cX8_isVertexNumber 1 (some .boolean) :: ([])
def wsX8_observe : List Cond := .code yX8_observe cX8_observe 4 (some .int) :: ([.fieldLink RX8 64 "DyckReachability" "observations" "LDyckReachability$Observations;", .fieldLink RX8 201 "DyckReachability$Observations" "size" "I", .methodLink RX8 196 yX8_isVertexNumber, .static yX8_isVertexNumber, .initialized RX8, .code yX8_isVertexNumber cX8_isVertexNumber 1 (some .boolean), .methodLink RX8 199 yX5_isFull, .instanceMethod yX5_isFull, .selects RX5 yX5_isFull yX5_isFull, .initialized RX5, .code yX5_isFull cX5_isFull 1 (some .boolean), .fieldLink RX5 19 "DyckReachability$Observations" "size" "I", .methodLink RX8 200 yX5_put, .instanceMethod yX5_put, .selects RX5 yX5_put yX5_put, .code yX5_put cX5_put 4 none, .fieldLink RX5 9 "DyckReachability$Observations" "starts" "[I", .fieldLink RX5 13 "DyckReachability$Observations" "ends" "[I", .fieldLink RX5 16 "DyckReachability$Observations" "answers" "[I", .methodLink RX5 23 yX5_isFull] ++ wsX80 ++ wsX50)
def wsX8_clearObservations : List Cond := .code yX8_clearObservations cX8_clearObservations 2 (some .int) :: ([.fieldLink RX8 64 "DyckReachability" "observations" "LDyckReachability$Observations;", .fieldLink RX8 201 "DyckReachability$Observations" "size" "I"] ++ wsX80 ++ wsX50)
def wsX8_possibleLabels_r1 : List Cond := [Cond.fieldLink RX8 22 "DyckReachability" "edges" "LDyckReachability$Edges;", Cond.fieldLink RX8 26 "DyckReachability" "copy" "LDyckReachability$Edges;", Cond.fieldLink RX8 106 "DyckReachability$Edges" "labels" "[I", Cond.fieldLink RX8 64 "DyckReachability" "observations" "LDyckReachability$Observations;", Cond.fieldLink RX8 9 "DyckReachability" "vertices" "I", Cond.methodLink RX8 95 yX2_holds, Cond.instanceMethod yX2_holds, Cond.selects RX2 yX2_holds yX2_holds, Cond.initialized RX2, Cond.code yX2_holds cX2_holds 2 (some .boolean), Cond.fieldLink RX2 21 "DyckReachability$Edges" "size" "I", Cond.methodLink RX8 185 yX2_take, Cond.instanceMethod yX2_take, Cond.selects RX2 yX2_take yX2_take, Cond.code yX2_take cX2_take 3 none, Cond.fieldLink RX2 9 "DyckReachability$Edges" "sources" "[I", Cond.fieldLink RX2 15 "DyckReachability$Edges" "targets" "[I", Cond.fieldLink RX2 18 "DyckReachability$Edges" "labels" "[I", Cond.methodLink RX2 33 yX2_put, Cond.instanceMethod yX2_put, Cond.selects RX2 yX2_put yX2_put, Cond.code yX2_put cX2_put 4 none, Cond.methodLink RX2 25 yX2_isFull, Cond.instanceMethod yX2_isFull]
def wsX8_possibleLabels_r2 : List Cond := [Cond.selects RX2 yX2_isFull yX2_isFull, Cond.code yX2_isFull cX2_isFull 1 (some .boolean), Cond.methodLink RX8 129 yX6_ofBalancedPaths, Cond.static yX6_ofBalancedPaths, Cond.initialized RX6, Cond.code yX6_ofBalancedPaths cX6_ofBalancedPaths 8 (some .long), Cond.fieldLink RX6 23 "DyckReachability$Edges" "size" "I", Cond.methodLink RX6 19 yX6_identity, Cond.static yX6_identity, Cond.code yX6_identity cX6_identity 4 (some .long), Cond.methodLink RX6 15 yX6_withRow, Cond.static yX6_withRow, Cond.code yX6_withRow cX6_withRow 4 (some .long), Cond.methodLink RX6 29 yX6_withPathsBehind, Cond.static yX6_withPathsBehind, Cond.code yX6_withPathsBehind cX6_withPathsBehind 9 (some .long), Cond.fieldLink RX6 33 "DyckReachability$Edges" "sources" "[I", Cond.fieldLink RX6 37 "DyckReachability$Edges" "targets" "[I", Cond.methodLink RX6 40 yX2_isEmptyLabelled, Cond.instanceMethod yX2_isEmptyLabelled, Cond.selects RX2 yX2_isEmptyLabelled yX2_isEmptyLabelled, Cond.code yX2_isEmptyLabelled cX2_isEmptyLabelled 2 (some .boolean), Cond.methodLink RX6 11 yX6_row, Cond.static yX6_row]
def wsX8_possibleLabels_r3 : List Cond := [Cond.code yX6_row cX6_row 3 (some .int), Cond.methodLink RX6 44 yX2_opens, Cond.instanceMethod yX2_opens, Cond.selects RX2 yX2_opens yX2_opens, Cond.code yX2_opens cX2_opens 2 (some .boolean), Cond.methodLink RX6 47 yX2_closes, Cond.instanceMethod yX2_closes, Cond.selects RX2 yX2_closes yX2_closes, Cond.code yX2_closes cX2_closes 3 (some .boolean), Cond.methodLink RX6 51 yX6_has, Cond.static yX6_has, Cond.code yX6_has cX6_has 4 (some .boolean), Cond.methodLink RX8 202 yX5_allHold, Cond.instanceMethod yX5_allHold, Cond.selects RX5 yX5_allHold yX5_allHold, Cond.initialized RX5, Cond.code yX5_allHold cX5_allHold 7 (some .boolean), Cond.fieldLink RX5 19 "DyckReachability$Observations" "size" "I", Cond.fieldLink RX5 9 "DyckReachability$Observations" "starts" "[I", Cond.fieldLink RX5 13 "DyckReachability$Observations" "ends" "[I", Cond.fieldLink RX5 16 "DyckReachability$Observations" "answers" "[I", Cond.methodLink RX5 27 yX6_has]
def wsX8_possibleLabels : List Cond := .code yX8_possibleLabels cX8_possibleLabels 4 (some .int) :: ((wsX8_possibleLabels_r1 ++ (wsX8_possibleLabels_r2 ++ wsX8_possibleLabels_r3)) ++ wsX80 ++ wsX20 ++ wsX50)
def wsX8_worth_r1 : List Cond := [Cond.fieldLink RX8 26 "DyckReachability" "copy" "LDyckReachability$Edges;", Cond.fieldLink RX8 22 "DyckReachability" "edges" "LDyckReachability$Edges;", Cond.methodLink RX8 217 yX2_takeSome, Cond.instanceMethod yX2_takeSome, Cond.selects RX2 yX2_takeSome yX2_takeSome, Cond.initialized RX2, Cond.code yX2_takeSome cX2_takeSome 4 none, Cond.fieldLink RX2 21 "DyckReachability$Edges" "size" "I", Cond.fieldLink RX2 9 "DyckReachability$Edges" "sources" "[I", Cond.fieldLink RX2 15 "DyckReachability$Edges" "targets" "[I", Cond.fieldLink RX2 18 "DyckReachability$Edges" "labels" "[I", Cond.methodLink RX2 33 yX2_put, Cond.instanceMethod yX2_put, Cond.selects RX2 yX2_put yX2_put, Cond.code yX2_put cX2_put 4 none, Cond.methodLink RX2 25 yX2_isFull, Cond.instanceMethod yX2_isFull, Cond.selects RX2 yX2_isFull yX2_isFull, Cond.code yX2_isFull cX2_isFull 1 (some .boolean), Cond.methodLink RX8 139 yX8_countPairs, Cond.instanceMethod yX8_countPairs, Cond.selects RX8 yX8_countPairs yX8_countPairs, Cond.initialized RX8, Cond.code yX8_countPairs cX8_countPairs 2 (some .int)]
def wsX8_worth_r2 : List Cond := [Cond.fieldLink RX8 9 "DyckReachability" "vertices" "I", Cond.methodLink RX8 129 yX6_ofBalancedPaths, Cond.static yX6_ofBalancedPaths, Cond.initialized RX6, Cond.code yX6_ofBalancedPaths cX6_ofBalancedPaths 8 (some .long), Cond.fieldLink RX6 23 "DyckReachability$Edges" "size" "I", Cond.methodLink RX6 19 yX6_identity, Cond.static yX6_identity, Cond.code yX6_identity cX6_identity 4 (some .long), Cond.methodLink RX6 15 yX6_withRow, Cond.static yX6_withRow, Cond.code yX6_withRow cX6_withRow 4 (some .long), Cond.methodLink RX6 29 yX6_withPathsBehind, Cond.static yX6_withPathsBehind, Cond.code yX6_withPathsBehind cX6_withPathsBehind 9 (some .long), Cond.fieldLink RX6 33 "DyckReachability$Edges" "sources" "[I", Cond.fieldLink RX6 37 "DyckReachability$Edges" "targets" "[I", Cond.methodLink RX6 40 yX2_isEmptyLabelled, Cond.instanceMethod yX2_isEmptyLabelled, Cond.selects RX2 yX2_isEmptyLabelled yX2_isEmptyLabelled, Cond.code yX2_isEmptyLabelled cX2_isEmptyLabelled 2 (some .boolean), Cond.methodLink RX6 11 yX6_row, Cond.static yX6_row, Cond.code yX6_row cX6_row 3 (some .int)]
def wsX8_worth_r3 : List Cond := [Cond.methodLink RX6 44 yX2_opens, Cond.instanceMethod yX2_opens, Cond.selects RX2 yX2_opens yX2_opens, Cond.code yX2_opens cX2_opens 2 (some .boolean), Cond.methodLink RX6 47 yX2_closes, Cond.instanceMethod yX2_closes, Cond.selects RX2 yX2_closes yX2_closes, Cond.code yX2_closes cX2_closes 3 (some .boolean), Cond.methodLink RX6 51 yX6_has, Cond.static yX6_has, Cond.code yX6_has cX6_has 4 (some .boolean), Cond.methodLink RX8 234 yJ13_bitCount_95d88, Cond.static yJ13_bitCount_95d88, Cond.initialized RJ13, Cond.code yJ13_bitCount_95d88 cJ13_bitCount_95d88 2 (some .int), Cond.constantLong RJ13 314 (6148914691236517205), Cond.constantLong RJ13 316 (3689348814741910323), Cond.constantLong RJ13 318 (1085102592571150095)]
def wsX8_worth : List Cond := .code yX8_worth cX8_worth 2 (some .int) :: ((wsX8_worth_r1 ++ (wsX8_worth_r2 ++ wsX8_worth_r3)) ++ wsX80 ++ wsX20)
def wsJ6_bitCount_0f7a4 : List Cond := .code yJ6_bitCount_0f7a4 cJ6_bitCount_0f7a4 1 (some .int) :: ([.constant RJ6 265 (1431655765), .constant RJ6 266 (858993459), .constant RJ6 267 (252645135)])
def wsX8_share_r1 : List Cond := [Cond.fieldLink RX8 22 "DyckReachability" "edges" "LDyckReachability$Edges;", Cond.fieldLink RX8 92 "DyckReachability$Edges" "size" "I", Cond.methodLink RX8 95 yX2_holds, Cond.instanceMethod yX2_holds, Cond.selects RX2 yX2_holds yX2_holds, Cond.initialized RX2, Cond.code yX2_holds cX2_holds 2 (some .boolean), Cond.fieldLink RX2 21 "DyckReachability$Edges" "size" "I", Cond.methodLink RX8 208 yX8_worth, Cond.instanceMethod yX8_worth, Cond.selects RX8 yX8_worth yX8_worth, Cond.initialized RX8, Cond.code yX8_worth cX8_worth 2 (some .int), Cond.fieldLink RX8 26 "DyckReachability" "copy" "LDyckReachability$Edges;", Cond.methodLink RX8 217 yX2_takeSome, Cond.instanceMethod yX2_takeSome, Cond.selects RX2 yX2_takeSome yX2_takeSome, Cond.code yX2_takeSome cX2_takeSome 4 none, Cond.fieldLink RX2 9 "DyckReachability$Edges" "sources" "[I", Cond.fieldLink RX2 15 "DyckReachability$Edges" "targets" "[I", Cond.fieldLink RX2 18 "DyckReachability$Edges" "labels" "[I", Cond.methodLink RX2 33 yX2_put, Cond.instanceMethod yX2_put, Cond.selects RX2 yX2_put yX2_put]
def wsX8_share_r2 : List Cond := [Cond.code yX2_put cX2_put 4 none, Cond.methodLink RX2 25 yX2_isFull, Cond.instanceMethod yX2_isFull, Cond.selects RX2 yX2_isFull yX2_isFull, Cond.code yX2_isFull cX2_isFull 1 (some .boolean), Cond.methodLink RX8 139 yX8_countPairs, Cond.instanceMethod yX8_countPairs, Cond.selects RX8 yX8_countPairs yX8_countPairs, Cond.code yX8_countPairs cX8_countPairs 2 (some .int), Cond.fieldLink RX8 9 "DyckReachability" "vertices" "I", Cond.methodLink RX8 129 yX6_ofBalancedPaths, Cond.static yX6_ofBalancedPaths, Cond.initialized RX6, Cond.code yX6_ofBalancedPaths cX6_ofBalancedPaths 8 (some .long), Cond.fieldLink RX6 23 "DyckReachability$Edges" "size" "I", Cond.methodLink RX6 19 yX6_identity, Cond.static yX6_identity, Cond.code yX6_identity cX6_identity 4 (some .long), Cond.methodLink RX6 15 yX6_withRow, Cond.static yX6_withRow, Cond.code yX6_withRow cX6_withRow 4 (some .long), Cond.methodLink RX6 29 yX6_withPathsBehind, Cond.static yX6_withPathsBehind, Cond.code yX6_withPathsBehind cX6_withPathsBehind 9 (some .long)]
def wsX8_share_r3 : List Cond := [Cond.fieldLink RX6 33 "DyckReachability$Edges" "sources" "[I", Cond.fieldLink RX6 37 "DyckReachability$Edges" "targets" "[I", Cond.methodLink RX6 40 yX2_isEmptyLabelled, Cond.instanceMethod yX2_isEmptyLabelled, Cond.selects RX2 yX2_isEmptyLabelled yX2_isEmptyLabelled, Cond.code yX2_isEmptyLabelled cX2_isEmptyLabelled 2 (some .boolean), Cond.methodLink RX6 11 yX6_row, Cond.static yX6_row, Cond.code yX6_row cX6_row 3 (some .int), Cond.methodLink RX6 44 yX2_opens, Cond.instanceMethod yX2_opens, Cond.selects RX2 yX2_opens yX2_opens, Cond.code yX2_opens cX2_opens 2 (some .boolean), Cond.methodLink RX6 47 yX2_closes, Cond.instanceMethod yX2_closes, Cond.selects RX2 yX2_closes yX2_closes, Cond.code yX2_closes cX2_closes 3 (some .boolean), Cond.methodLink RX6 51 yX6_has, Cond.static yX6_has, Cond.code yX6_has cX6_has 4 (some .boolean), Cond.methodLink RX8 234 yJ13_bitCount_95d88, Cond.static yJ13_bitCount_95d88, Cond.initialized RJ13, Cond.code yJ13_bitCount_95d88 cJ13_bitCount_95d88 2 (some .int)]
def wsX8_share_r4 : List Cond := [Cond.constantLong RJ13 314 (6148914691236517205), Cond.constantLong RJ13 316 (3689348814741910323), Cond.constantLong RJ13 318 (1085102592571150095), Cond.methodLink RX8 211 yJ6_bitCount_0f7a4, Cond.static yJ6_bitCount_0f7a4, Cond.initialized RJ6, Cond.code yJ6_bitCount_0f7a4 cJ6_bitCount_0f7a4 1 (some .int), Cond.constant RJ6 265 (1431655765), Cond.constant RJ6 266 (858993459), Cond.constant RJ6 267 (252645135), Cond.methodLink RX8 214 yX0_ordersOf, Cond.static yX0_ordersOf, Cond.initialized RX0, Cond.code yX0_ordersOf cX0_ordersOf 3 (some .int), Cond.fieldLink RX0 11 "DyckReachability$Chance" "FACTORIALS" "[I", Cond.fieldLink RX0 15 "DyckReachability$Chance" "SCALES" "[I"]
def wsX8_share : List Cond := .code yX8_share cX8_share 7 (some .int) :: ((wsX8_share_r1 ++ (wsX8_share_r2 ++ (wsX8_share_r3 ++ wsX8_share_r4))) ++ wsX80 ++ wsX20)
def wsX8_reliability_r1 : List Cond := [Cond.fieldLink RX8 22 "DyckReachability" "edges" "LDyckReachability$Edges;", Cond.fieldLink RX8 92 "DyckReachability$Edges" "size" "I", Cond.fieldLink RX8 26 "DyckReachability" "copy" "LDyckReachability$Edges;", Cond.fieldLink RX8 9 "DyckReachability" "vertices" "I", Cond.methodLink RX8 109 yX8_isVertex, Cond.instanceMethod yX8_isVertex, Cond.selects RX8 yX8_isVertex yX8_isVertex, Cond.initialized RX8, Cond.code yX8_isVertex cX8_isVertex 2 (some .boolean), Cond.methodLink RX8 217 yX2_takeSome, Cond.instanceMethod yX2_takeSome, Cond.selects RX2 yX2_takeSome yX2_takeSome, Cond.initialized RX2, Cond.code yX2_takeSome cX2_takeSome 4 none, Cond.fieldLink RX2 21 "DyckReachability$Edges" "size" "I", Cond.fieldLink RX2 9 "DyckReachability$Edges" "sources" "[I", Cond.fieldLink RX2 15 "DyckReachability$Edges" "targets" "[I", Cond.fieldLink RX2 18 "DyckReachability$Edges" "labels" "[I", Cond.methodLink RX2 33 yX2_put, Cond.instanceMethod yX2_put, Cond.selects RX2 yX2_put yX2_put, Cond.code yX2_put cX2_put 4 none, Cond.methodLink RX2 25 yX2_isFull, Cond.instanceMethod yX2_isFull]
def wsX8_reliability_r2 : List Cond := [Cond.selects RX2 yX2_isFull yX2_isFull, Cond.code yX2_isFull cX2_isFull 1 (some .boolean), Cond.methodLink RX8 129 yX6_ofBalancedPaths, Cond.static yX6_ofBalancedPaths, Cond.initialized RX6, Cond.code yX6_ofBalancedPaths cX6_ofBalancedPaths 8 (some .long), Cond.fieldLink RX6 23 "DyckReachability$Edges" "size" "I", Cond.methodLink RX6 19 yX6_identity, Cond.static yX6_identity, Cond.code yX6_identity cX6_identity 4 (some .long), Cond.methodLink RX6 15 yX6_withRow, Cond.static yX6_withRow, Cond.code yX6_withRow cX6_withRow 4 (some .long), Cond.methodLink RX6 29 yX6_withPathsBehind, Cond.static yX6_withPathsBehind, Cond.code yX6_withPathsBehind cX6_withPathsBehind 9 (some .long), Cond.fieldLink RX6 33 "DyckReachability$Edges" "sources" "[I", Cond.fieldLink RX6 37 "DyckReachability$Edges" "targets" "[I", Cond.methodLink RX6 40 yX2_isEmptyLabelled, Cond.instanceMethod yX2_isEmptyLabelled, Cond.selects RX2 yX2_isEmptyLabelled yX2_isEmptyLabelled, Cond.code yX2_isEmptyLabelled cX2_isEmptyLabelled 2 (some .boolean), Cond.methodLink RX6 11 yX6_row, Cond.static yX6_row]
def wsX8_reliability_r3 : List Cond := [Cond.code yX6_row cX6_row 3 (some .int), Cond.methodLink RX6 44 yX2_opens, Cond.instanceMethod yX2_opens, Cond.selects RX2 yX2_opens yX2_opens, Cond.code yX2_opens cX2_opens 2 (some .boolean), Cond.methodLink RX6 47 yX2_closes, Cond.instanceMethod yX2_closes, Cond.selects RX2 yX2_closes yX2_closes, Cond.code yX2_closes cX2_closes 3 (some .boolean), Cond.methodLink RX6 51 yX6_has, Cond.static yX6_has, Cond.code yX6_has cX6_has 4 (some .boolean), Cond.methodLink RX8 163 yX6_has, Cond.methodLink RX8 220 yX0_power, Cond.static yX0_power, Cond.initialized RX0, Cond.code yX0_power cX0_power 4 (some .int)]
def wsX8_reliability : List Cond := .code yX8_reliability cX8_reliability 8 (some .int) :: ((wsX8_reliability_r1 ++ (wsX8_reliability_r2 ++ wsX8_reliability_r3)) ++ wsX80 ++ wsX20)
def wsX8_setSeed : List Cond := .code yX8_setSeed cX8_setSeed 5 (some .long) :: ([.fieldLink RX8 13 "DyckReachability" "seed" "J"] ++ wsX80)
def wsX8_simulate_r1 : List Cond := [Cond.fieldLink RX8 26 "DyckReachability" "copy" "LDyckReachability$Edges;", Cond.fieldLink RX8 22 "DyckReachability" "edges" "LDyckReachability$Edges;", Cond.fieldLink RX8 13 "DyckReachability" "seed" "J", Cond.fieldLink RX8 9 "DyckReachability" "vertices" "I", Cond.methodLink RX8 185 yX2_take, Cond.instanceMethod yX2_take, Cond.selects RX2 yX2_take yX2_take, Cond.initialized RX2, Cond.code yX2_take cX2_take 3 none, Cond.fieldLink RX2 21 "DyckReachability$Edges" "size" "I", Cond.fieldLink RX2 9 "DyckReachability$Edges" "sources" "[I", Cond.fieldLink RX2 15 "DyckReachability$Edges" "targets" "[I", Cond.fieldLink RX2 18 "DyckReachability$Edges" "labels" "[I", Cond.methodLink RX2 33 yX2_put, Cond.instanceMethod yX2_put, Cond.selects RX2 yX2_put yX2_put, Cond.code yX2_put cX2_put 4 none, Cond.methodLink RX2 25 yX2_isFull, Cond.instanceMethod yX2_isFull, Cond.selects RX2 yX2_isFull yX2_isFull, Cond.code yX2_isFull cX2_isFull 1 (some .boolean), Cond.methodLink RX8 223 yX0_nextSeed, Cond.static yX0_nextSeed, Cond.initialized RX0]
def wsX8_simulate_r2 : List Cond := [Cond.code yX0_nextSeed cX0_nextSeed 2 (some .long), Cond.constantLong RX0 18 (6364136223846793005), Cond.constantLong RX0 20 (1442695040888963407), Cond.methodLink RX8 227 yX0_change, Cond.static yX0_change, Cond.code yX0_change cX0_change 7 none, Cond.methodLink RX0 22 yX2_find, Cond.instanceMethod yX2_find, Cond.selects RX2 yX2_find yX2_find, Cond.code yX2_find cX2_find 5 (some .int), Cond.methodLink RX0 28 yX2_put, Cond.methodLink RX0 32 yX2_drop, Cond.instanceMethod yX2_drop, Cond.selects RX2 yX2_drop yX2_drop, Cond.code yX2_drop cX2_drop 3 none, Cond.methodLink RX2 29 yX2_holds, Cond.instanceMethod yX2_holds, Cond.selects RX2 yX2_holds yX2_holds, Cond.code yX2_holds cX2_holds 2 (some .boolean), Cond.methodLink RX8 139 yX8_countPairs, Cond.instanceMethod yX8_countPairs, Cond.selects RX8 yX8_countPairs yX8_countPairs, Cond.initialized RX8, Cond.code yX8_countPairs cX8_countPairs 2 (some .int)]
def wsX8_simulate_r3 : List Cond := [Cond.methodLink RX8 129 yX6_ofBalancedPaths, Cond.static yX6_ofBalancedPaths, Cond.initialized RX6, Cond.code yX6_ofBalancedPaths cX6_ofBalancedPaths 8 (some .long), Cond.fieldLink RX6 23 "DyckReachability$Edges" "size" "I", Cond.methodLink RX6 19 yX6_identity, Cond.static yX6_identity, Cond.code yX6_identity cX6_identity 4 (some .long), Cond.methodLink RX6 15 yX6_withRow, Cond.static yX6_withRow, Cond.code yX6_withRow cX6_withRow 4 (some .long), Cond.methodLink RX6 29 yX6_withPathsBehind, Cond.static yX6_withPathsBehind, Cond.code yX6_withPathsBehind cX6_withPathsBehind 9 (some .long), Cond.fieldLink RX6 33 "DyckReachability$Edges" "sources" "[I", Cond.fieldLink RX6 37 "DyckReachability$Edges" "targets" "[I", Cond.methodLink RX6 40 yX2_isEmptyLabelled, Cond.instanceMethod yX2_isEmptyLabelled, Cond.selects RX2 yX2_isEmptyLabelled yX2_isEmptyLabelled, Cond.code yX2_isEmptyLabelled cX2_isEmptyLabelled 2 (some .boolean), Cond.methodLink RX6 11 yX6_row, Cond.static yX6_row, Cond.code yX6_row cX6_row 3 (some .int), Cond.methodLink RX6 44 yX2_opens]
def wsX8_simulate_r4 : List Cond := [Cond.instanceMethod yX2_opens, Cond.selects RX2 yX2_opens yX2_opens, Cond.code yX2_opens cX2_opens 2 (some .boolean), Cond.methodLink RX6 47 yX2_closes, Cond.instanceMethod yX2_closes, Cond.selects RX2 yX2_closes yX2_closes, Cond.code yX2_closes cX2_closes 3 (some .boolean), Cond.methodLink RX6 51 yX6_has, Cond.static yX6_has, Cond.code yX6_has cX6_has 4 (some .boolean), Cond.methodLink RX8 234 yJ13_bitCount_95d88, Cond.static yJ13_bitCount_95d88, Cond.initialized RJ13, Cond.code yJ13_bitCount_95d88 cJ13_bitCount_95d88 2 (some .int), Cond.constantLong RJ13 314 (6148914691236517205), Cond.constantLong RJ13 316 (3689348814741910323), Cond.constantLong RJ13 318 (1085102592571150095)]
def wsX8_simulate : List Cond := .code yX8_simulate cX8_simulate 4 (some .int) :: ((wsX8_simulate_r1 ++ (wsX8_simulate_r2 ++ (wsX8_simulate_r3 ++ wsX8_simulate_r4))) ++ wsX80 ++ wsX20)
def wsX8_isSlot : List Cond := .code yX8_isSlot cX8_isSlot 1 (some .boolean) :: ([])
def wsX8_save_r1 : List Cond := [Cond.fieldLink RX8 46 "DyckReachability" "slots" "[LDyckReachability$Edges;", Cond.fieldLink RX8 22 "DyckReachability" "edges" "LDyckReachability$Edges;", Cond.fieldLink RX8 50 "DyckReachability" "slotFilled" "[Z", Cond.fieldLink RX8 92 "DyckReachability$Edges" "size" "I", Cond.methodLink RX8 231 yX8_isSlot, Cond.static yX8_isSlot, Cond.initialized RX8, Cond.code yX8_isSlot cX8_isSlot 1 (some .boolean), Cond.methodLink RX8 185 yX2_take, Cond.instanceMethod yX2_take, Cond.selects RX2 yX2_take yX2_take, Cond.initialized RX2, Cond.code yX2_take cX2_take 3 none, Cond.fieldLink RX2 21 "DyckReachability$Edges" "size" "I", Cond.fieldLink RX2 9 "DyckReachability$Edges" "sources" "[I", Cond.fieldLink RX2 15 "DyckReachability$Edges" "targets" "[I", Cond.fieldLink RX2 18 "DyckReachability$Edges" "labels" "[I", Cond.methodLink RX2 33 yX2_put, Cond.instanceMethod yX2_put, Cond.selects RX2 yX2_put yX2_put, Cond.code yX2_put cX2_put 4 none, Cond.methodLink RX2 25 yX2_isFull, Cond.instanceMethod yX2_isFull, Cond.selects RX2 yX2_isFull yX2_isFull]
def wsX8_save_r2 : List Cond := [Cond.code yX2_isFull cX2_isFull 1 (some .boolean)]
def wsX8_save : List Cond := .code yX8_save cX8_save 2 (some .int) :: ((wsX8_save_r1 ++ wsX8_save_r2) ++ wsX80 ++ wsX20)
def wsX8_restore_r1 : List Cond := [Cond.fieldLink RX8 50 "DyckReachability" "slotFilled" "[Z", Cond.fieldLink RX8 22 "DyckReachability" "edges" "LDyckReachability$Edges;", Cond.fieldLink RX8 46 "DyckReachability" "slots" "[LDyckReachability$Edges;", Cond.fieldLink RX8 42 "DyckReachability" "history" "LDyckReachability$History;", Cond.fieldLink RX8 92 "DyckReachability$Edges" "size" "I", Cond.methodLink RX8 231 yX8_isSlot, Cond.static yX8_isSlot, Cond.initialized RX8, Cond.code yX8_isSlot cX8_isSlot 1 (some .boolean), Cond.methodLink RX8 185 yX2_take, Cond.instanceMethod yX2_take, Cond.selects RX2 yX2_take yX2_take, Cond.initialized RX2, Cond.code yX2_take cX2_take 3 none, Cond.fieldLink RX2 21 "DyckReachability$Edges" "size" "I", Cond.fieldLink RX2 9 "DyckReachability$Edges" "sources" "[I", Cond.fieldLink RX2 15 "DyckReachability$Edges" "targets" "[I", Cond.fieldLink RX2 18 "DyckReachability$Edges" "labels" "[I", Cond.methodLink RX2 33 yX2_put, Cond.instanceMethod yX2_put, Cond.selects RX2 yX2_put yX2_put, Cond.code yX2_put cX2_put 4 none, Cond.methodLink RX2 25 yX2_isFull, Cond.instanceMethod yX2_isFull]
def wsX8_restore_r2 : List Cond := [Cond.selects RX2 yX2_isFull yX2_isFull, Cond.code yX2_isFull cX2_isFull 1 (some .boolean), Cond.methodLink RX8 89 yX4_forgetAll, Cond.instanceMethod yX4_forgetAll, Cond.selects RX4 yX4_forgetAll yX4_forgetAll, Cond.initialized RX4, Cond.code yX4_forgetAll cX4_forgetAll 1 none, Cond.fieldLink RX4 24 "DyckReachability$History" "size" "I"]
def wsX8_restore : List Cond := .code yX8_restore cX8_restore 2 (some .int) :: ((wsX8_restore_r1 ++ wsX8_restore_r2) ++ wsX80 ++ wsX20 ++ wsX40)
def wsX9_init : List Cond := .code yX9_init cX9_init 1 none :: ([.methodLink RX9 1 objectInit, .instanceMethod objectInit, .code objectInit ⟨#[0xb1]⟩ 1 none, .arrayClass .int, .fieldLink RX9 7 "DyckReachabilityModel" "text" "[I", .fieldLink RX9 13 "DyckReachabilityModel" "parsed" "[I", .fieldLink RX9 16 "DyckReachabilityModel" "vertices" "I", .fieldLink RX9 20 "DyckReachabilityModel" "graph" "[I", .fieldLink RX9 23 "DyckReachabilityModel" "copy" "[I", .fieldLink RX9 26 "DyckReachabilityModel" "history" "[I", .fieldLink RX9 29 "DyckReachabilityModel" "slots" "[I", .arrayClass .boolean, .fieldLink RX9 32 "DyckReachabilityModel" "slotUsed" "[Z", .fieldLink RX9 36 "DyckReachabilityModel" "observedFrom" "[I", .fieldLink RX9 39 "DyckReachabilityModel" "observedTo" "[I", .fieldLink RX9 42 "DyckReachabilityModel" "observedIs" "[I", .fieldLink RX9 45 "DyckReachabilityModel" "lengths" "[I", .fieldLink RX9 48 "DyckReachabilityModel" "depths" "[I", .fieldLink RX9 51 "DyckReachabilityModel" "wide" "[I"] ++ wsX90)
def wsX9_in : List Cond := .code yX9_in cX9_in 6 (some .boolean) :: ([])
def wsX9_has : List Cond := .code yX9_has cX9_has 2 (some .boolean) :: ([])
def wsX9_bits : List Cond := .code yX9_bits cX9_bits 3 (some .int) :: ([])
def wsX9_assign : List Cond := .code yX9_assign cX9_assign 3 none :: ([])
def wsX9_noVertex : List Cond := .code yX9_noVertex cX9_noVertex 2 (some .boolean) :: ([.fieldLink RX9 16 "DyckReachabilityModel" "vertices" "I", .methodLink RX9 57 yX9_in, .static yX9_in, .initialized RX9, .code yX9_in cX9_in 6 (some .boolean)] ++ wsX90)
def wsX9_noEdge : List Cond := .code yX9_noEdge cX9_noEdge 2 (some .boolean) :: ([.fieldLink RX9 20 "DyckReachabilityModel" "graph" "[I", .methodLink RX9 57 yX9_in, .static yX9_in, .initialized RX9, .code yX9_in cX9_in 6 (some .boolean)] ++ wsX90)
def wsX9_improve : List Cond := .code yX9_improve cX9_improve 6 (some .boolean) :: ([.constant RX9 61 (1000000), .fieldLink RX9 45 "DyckReachabilityModel" "lengths" "[I"] ++ wsX90)
def wsX9_close : List Cond := .code yX9_close cX9_close 7 none :: ([.fieldLink RX9 45 "DyckReachabilityModel" "lengths" "[I", .constant RX9 62 (2000000), .fieldLink RX9 51 "DyckReachabilityModel" "wide" "[I", .constantLong RX9 67 (3), .methodLink RX9 63 yX9_improve, .instanceMethod yX9_improve, .selects RX9 yX9_improve yX9_improve, .initialized RX9, .code yX9_improve cX9_improve 6 (some .boolean), .constant RX9 61 (1000000), .methodLink RX9 57 yX9_in, .static yX9_in, .code yX9_in cX9_in 6 (some .boolean)] ++ wsX90)
def wsX9_closeOf : List Cond := .code yX9_closeOf cX9_closeOf 6 none :: ([.fieldLink RX9 51 "DyckReachabilityModel" "wide" "[I", .methodLink RX9 69 yX9_has, .static yX9_has, .initialized RX9, .code yX9_has cX9_has 2 (some .boolean), .methodLink RX9 73 yX9_close, .instanceMethod yX9_close, .selects RX9 yX9_close yX9_close, .code yX9_close cX9_close 7 none, .fieldLink RX9 45 "DyckReachabilityModel" "lengths" "[I", .constant RX9 62 (2000000), .constantLong RX9 67 (3), .methodLink RX9 63 yX9_improve, .instanceMethod yX9_improve, .selects RX9 yX9_improve yX9_improve, .code yX9_improve cX9_improve 6 (some .boolean), .constant RX9 61 (1000000), .methodLink RX9 57 yX9_in, .static yX9_in, .code yX9_in cX9_in 6 (some .boolean)] ++ wsX90)
def wsX9_reaches : List Cond := .code yX9_reaches cX9_reaches 3 (some .boolean) :: ([.fieldLink RX9 45 "DyckReachabilityModel" "lengths" "[I", .constant RX9 62 (2000000)] ++ wsX90)
def wsX9_pairs : List Cond := .code yX9_pairs cX9_pairs 3 (some .int) :: ([.fieldLink RX9 16 "DyckReachabilityModel" "vertices" "I", .fieldLink RX9 45 "DyckReachabilityModel" "lengths" "[I", .constant RX9 62 (2000000)] ++ wsX90)
def wsX9_pairsOf_r1 : List Cond := [Cond.methodLink RX9 77 yX9_closeOf, Cond.instanceMethod yX9_closeOf, Cond.selects RX9 yX9_closeOf yX9_closeOf, Cond.initialized RX9, Cond.code yX9_closeOf cX9_closeOf 6 none, Cond.fieldLink RX9 51 "DyckReachabilityModel" "wide" "[I", Cond.methodLink RX9 69 yX9_has, Cond.static yX9_has, Cond.code yX9_has cX9_has 2 (some .boolean), Cond.methodLink RX9 73 yX9_close, Cond.instanceMethod yX9_close, Cond.selects RX9 yX9_close yX9_close, Cond.code yX9_close cX9_close 7 none, Cond.fieldLink RX9 45 "DyckReachabilityModel" "lengths" "[I", Cond.constant RX9 62 (2000000), Cond.constantLong RX9 67 (3), Cond.methodLink RX9 63 yX9_improve, Cond.instanceMethod yX9_improve, Cond.selects RX9 yX9_improve yX9_improve, Cond.code yX9_improve cX9_improve 6 (some .boolean), Cond.constant RX9 61 (1000000), Cond.methodLink RX9 57 yX9_in, Cond.static yX9_in, Cond.code yX9_in cX9_in 6 (some .boolean)]
def wsX9_pairsOf_r2 : List Cond := [Cond.methodLink RX9 81 yX9_pairs, Cond.instanceMethod yX9_pairs, Cond.selects RX9 yX9_pairs yX9_pairs, Cond.code yX9_pairs cX9_pairs 3 (some .int), Cond.fieldLink RX9 16 "DyckReachabilityModel" "vertices" "I"]
def wsX9_pairsOf : List Cond := .code yX9_pairsOf cX9_pairsOf 3 (some .int) :: ((wsX9_pairsOf_r1 ++ wsX9_pairsOf_r2) ++ wsX90)
def wsX9_append : List Cond := .code yX9_append cX9_append 2 (some .int) :: ([.fieldLink RX9 54 "DyckReachabilityModel" "thrown" "I", .constantLong RX9 85 (255), .fieldLink RX9 87 "DyckReachabilityModel" "textSize" "I", .fieldLink RX9 7 "DyckReachabilityModel" "text" "[I", .methodLink RX9 57 yX9_in, .static yX9_in, .initialized RX9, .code yX9_in cX9_in 6 (some .boolean)] ++ wsX90)
def wsX9_clearText : List Cond := .code yX9_clearText cX9_clearText 2 (some .int) :: ([.fieldLink RX9 54 "DyckReachabilityModel" "thrown" "I", .fieldLink RX9 87 "DyckReachabilityModel" "textSize" "I"] ++ wsX90)
def wsX9_digit : List Cond := .code yX9_digit cX9_digit 4 (some .int) :: ([.fieldLink RX9 90 "DyckReachabilityModel" "pos" "I", .fieldLink RX9 87 "DyckReachabilityModel" "textSize" "I", .fieldLink RX9 7 "DyckReachabilityModel" "text" "[I", .methodLink RX9 57 yX9_in, .static yX9_in, .initialized RX9, .code yX9_in cX9_in 6 (some .boolean)] ++ wsX90)
def wsX9_labelChar : List Cond := .code yX9_labelChar cX9_labelChar 3 (some .int) :: ([.fieldLink RX9 90 "DyckReachabilityModel" "pos" "I", .fieldLink RX9 87 "DyckReachabilityModel" "textSize" "I", .fieldLink RX9 7 "DyckReachabilityModel" "text" "[I", .constantLong RX9 93 (97), .constantLong RX9 95 (99), .constantLong RX9 97 (65), .constantLong RX9 99 (67), .methodLink RX9 57 yX9_in, .static yX9_in, .initialized RX9, .code yX9_in cX9_in 6 (some .boolean)] ++ wsX90)
def wsX9_put : List Cond := .code yX9_put cX9_put 5 none :: ([])
def wsX9_errorPosition_r1 : List Cond := [Cond.fieldLink RX9 54 "DyckReachabilityModel" "thrown" "I", Cond.fieldLink RX9 90 "DyckReachabilityModel" "pos" "I", Cond.fieldLink RX9 13 "DyckReachabilityModel" "parsed" "[I", Cond.fieldLink RX9 87 "DyckReachabilityModel" "textSize" "I", Cond.fieldLink RX9 7 "DyckReachabilityModel" "text" "[I", Cond.fieldLink RX9 105 "DyckReachabilityModel" "parsedVertices" "I", Cond.methodLink RX9 101 yX9_digit, Cond.instanceMethod yX9_digit, Cond.selects RX9 yX9_digit yX9_digit, Cond.initialized RX9, Cond.code yX9_digit cX9_digit 4 (some .int), Cond.methodLink RX9 57 yX9_in, Cond.static yX9_in, Cond.code yX9_in cX9_in 6 (some .boolean), Cond.methodLink RX9 108 yX9_labelChar, Cond.instanceMethod yX9_labelChar, Cond.selects RX9 yX9_labelChar yX9_labelChar, Cond.code yX9_labelChar cX9_labelChar 3 (some .int), Cond.constantLong RX9 93 (97), Cond.constantLong RX9 95 (99), Cond.constantLong RX9 97 (65), Cond.constantLong RX9 99 (67), Cond.methodLink RX9 111 yX9_put, Cond.static yX9_put]
def wsX9_errorPosition_r2 : List Cond := [Cond.code yX9_put cX9_put 5 none]
def wsX9_errorPosition : List Cond := .code yX9_errorPosition cX9_errorPosition 4 (some .int) :: ((wsX9_errorPosition_r1 ++ wsX9_errorPosition_r2) ++ wsX90)
def wsX9_drop : List Cond := .code yX9_drop cX9_drop 3 none :: ([])
def wsX9_load_r1 : List Cond := [Cond.fieldLink RX9 54 "DyckReachabilityModel" "thrown" "I", Cond.fieldLink RX9 105 "DyckReachabilityModel" "parsedVertices" "I", Cond.fieldLink RX9 16 "DyckReachabilityModel" "vertices" "I", Cond.fieldLink RX9 13 "DyckReachabilityModel" "parsed" "[I", Cond.fieldLink RX9 20 "DyckReachabilityModel" "graph" "[I", Cond.fieldLink RX9 122 "DyckReachabilityModel" "remembered" "I", Cond.fieldLink RX9 32 "DyckReachabilityModel" "slotUsed" "[Z", Cond.methodLink RX9 115 yX9_errorPosition, Cond.instanceMethod yX9_errorPosition, Cond.selects RX9 yX9_errorPosition yX9_errorPosition, Cond.initialized RX9, Cond.code yX9_errorPosition cX9_errorPosition 4 (some .int), Cond.fieldLink RX9 90 "DyckReachabilityModel" "pos" "I", Cond.fieldLink RX9 87 "DyckReachabilityModel" "textSize" "I", Cond.fieldLink RX9 7 "DyckReachabilityModel" "text" "[I", Cond.methodLink RX9 101 yX9_digit, Cond.instanceMethod yX9_digit, Cond.selects RX9 yX9_digit yX9_digit, Cond.code yX9_digit cX9_digit 4 (some .int), Cond.methodLink RX9 57 yX9_in, Cond.static yX9_in, Cond.code yX9_in cX9_in 6 (some .boolean), Cond.methodLink RX9 108 yX9_labelChar, Cond.instanceMethod yX9_labelChar]
def wsX9_load_r2 : List Cond := [Cond.selects RX9 yX9_labelChar yX9_labelChar, Cond.code yX9_labelChar cX9_labelChar 3 (some .int), Cond.constantLong RX9 93 (97), Cond.constantLong RX9 95 (99), Cond.constantLong RX9 97 (65), Cond.constantLong RX9 99 (67), Cond.methodLink RX9 111 yX9_put, Cond.static yX9_put, Cond.code yX9_put cX9_put 5 none, Cond.methodLink RX9 118 yX9_assign, Cond.static yX9_assign, Cond.code yX9_assign cX9_assign 3 none]
def wsX9_load : List Cond := .code yX9_load cX9_load 1 (some .int) :: ((wsX9_load_r1 ++ wsX9_load_r2) ++ wsX90)
def wsX9_vertexCount : List Cond := .code yX9_vertexCount cX9_vertexCount 1 (some .int) :: ([.fieldLink RX9 54 "DyckReachabilityModel" "thrown" "I", .fieldLink RX9 16 "DyckReachabilityModel" "vertices" "I"] ++ wsX90)
def wsX9_edgeCount : List Cond := .code yX9_edgeCount cX9_edgeCount 1 (some .int) :: ([.fieldLink RX9 54 "DyckReachabilityModel" "thrown" "I", .fieldLink RX9 20 "DyckReachabilityModel" "graph" "[I"] ++ wsX90)
def wsX9_source : List Cond := .code yX9_source cX9_source 2 (some .int) :: ([.fieldLink RX9 54 "DyckReachabilityModel" "thrown" "I", .fieldLink RX9 20 "DyckReachabilityModel" "graph" "[I", .methodLink RX9 125 yX9_noEdge, .instanceMethod yX9_noEdge, .selects RX9 yX9_noEdge yX9_noEdge, .initialized RX9, .code yX9_noEdge cX9_noEdge 2 (some .boolean), .methodLink RX9 57 yX9_in, .static yX9_in, .code yX9_in cX9_in 6 (some .boolean)] ++ wsX90)
def wsX9_target : List Cond := .code yX9_target cX9_target 2 (some .int) :: ([.fieldLink RX9 54 "DyckReachabilityModel" "thrown" "I", .fieldLink RX9 20 "DyckReachabilityModel" "graph" "[I", .methodLink RX9 125 yX9_noEdge, .instanceMethod yX9_noEdge, .selects RX9 yX9_noEdge yX9_noEdge, .initialized RX9, .code yX9_noEdge cX9_noEdge 2 (some .boolean), .methodLink RX9 57 yX9_in, .static yX9_in, .code yX9_in cX9_in 6 (some .boolean)] ++ wsX90)
def wsX9_label : List Cond := .code yX9_label cX9_label 2 (some .int) :: ([.fieldLink RX9 54 "DyckReachabilityModel" "thrown" "I", .fieldLink RX9 20 "DyckReachabilityModel" "graph" "[I", .methodLink RX9 125 yX9_noEdge, .instanceMethod yX9_noEdge, .selects RX9 yX9_noEdge yX9_noEdge, .initialized RX9, .code yX9_noEdge cX9_noEdge 2 (some .boolean), .methodLink RX9 57 yX9_in, .static yX9_in, .code yX9_in cX9_in 6 (some .boolean)] ++ wsX90)
def wsX9_remember : List Cond := .code yX9_remember cX9_remember 2 none :: ([.fieldLink RX9 122 "DyckReachabilityModel" "remembered" "I", .fieldLink RX9 26 "DyckReachabilityModel" "history" "[I", .fieldLink RX9 20 "DyckReachabilityModel" "graph" "[I"] ++ wsX90)
def wsX9_addEdge : List Cond := .code yX9_addEdge cX9_addEdge 4 (some .int) :: ([.fieldLink RX9 54 "DyckReachabilityModel" "thrown" "I", .constantLong RX9 132 (6), .fieldLink RX9 20 "DyckReachabilityModel" "graph" "[I", .methodLink RX9 129 yX9_noVertex, .instanceMethod yX9_noVertex, .selects RX9 yX9_noVertex yX9_noVertex, .initialized RX9, .code yX9_noVertex cX9_noVertex 2 (some .boolean), .fieldLink RX9 16 "DyckReachabilityModel" "vertices" "I", .methodLink RX9 57 yX9_in, .static yX9_in, .code yX9_in cX9_in 6 (some .boolean), .methodLink RX9 134 yX9_remember, .instanceMethod yX9_remember, .selects RX9 yX9_remember yX9_remember, .code yX9_remember cX9_remember 2 none, .fieldLink RX9 122 "DyckReachabilityModel" "remembered" "I", .fieldLink RX9 26 "DyckReachabilityModel" "history" "[I", .methodLink RX9 111 yX9_put, .static yX9_put, .code yX9_put cX9_put 5 none] ++ wsX90)
def wsX9_removeEdge : List Cond := .code yX9_removeEdge cX9_removeEdge 2 (some .int) :: ([.fieldLink RX9 54 "DyckReachabilityModel" "thrown" "I", .fieldLink RX9 20 "DyckReachabilityModel" "graph" "[I", .methodLink RX9 125 yX9_noEdge, .instanceMethod yX9_noEdge, .selects RX9 yX9_noEdge yX9_noEdge, .initialized RX9, .code yX9_noEdge cX9_noEdge 2 (some .boolean), .methodLink RX9 57 yX9_in, .static yX9_in, .code yX9_in cX9_in 6 (some .boolean), .methodLink RX9 134 yX9_remember, .instanceMethod yX9_remember, .selects RX9 yX9_remember yX9_remember, .code yX9_remember cX9_remember 2 none, .fieldLink RX9 122 "DyckReachabilityModel" "remembered" "I", .fieldLink RX9 26 "DyckReachabilityModel" "history" "[I", .methodLink RX9 137 yX9_drop, .static yX9_drop, .code yX9_drop cX9_drop 3 none] ++ wsX90)
def wsX9_setLabel : List Cond := .code yX9_setLabel cX9_setLabel 4 (some .int) :: ([.fieldLink RX9 54 "DyckReachabilityModel" "thrown" "I", .constantLong RX9 132 (6), .fieldLink RX9 20 "DyckReachabilityModel" "graph" "[I", .methodLink RX9 125 yX9_noEdge, .instanceMethod yX9_noEdge, .selects RX9 yX9_noEdge yX9_noEdge, .initialized RX9, .code yX9_noEdge cX9_noEdge 2 (some .boolean), .methodLink RX9 57 yX9_in, .static yX9_in, .code yX9_in cX9_in 6 (some .boolean), .methodLink RX9 134 yX9_remember, .instanceMethod yX9_remember, .selects RX9 yX9_remember yX9_remember, .code yX9_remember cX9_remember 2 none, .fieldLink RX9 122 "DyckReachabilityModel" "remembered" "I", .fieldLink RX9 26 "DyckReachabilityModel" "history" "[I"] ++ wsX90)
def wsX9_undo : List Cond := .code yX9_undo cX9_undo 2 (some .int) :: ([.fieldLink RX9 54 "DyckReachabilityModel" "thrown" "I", .fieldLink RX9 122 "DyckReachabilityModel" "remembered" "I", .fieldLink RX9 20 "DyckReachabilityModel" "graph" "[I", .fieldLink RX9 26 "DyckReachabilityModel" "history" "[I"] ++ wsX90)
def wsX9_reachableFrom_r1 : List Cond := [Cond.fieldLink RX9 54 "DyckReachabilityModel" "thrown" "I", Cond.fieldLink RX9 20 "DyckReachabilityModel" "graph" "[I", Cond.constant RX9 140 (65535), Cond.fieldLink RX9 16 "DyckReachabilityModel" "vertices" "I", Cond.methodLink RX9 129 yX9_noVertex, Cond.instanceMethod yX9_noVertex, Cond.selects RX9 yX9_noVertex yX9_noVertex, Cond.initialized RX9, Cond.code yX9_noVertex cX9_noVertex 2 (some .boolean), Cond.methodLink RX9 57 yX9_in, Cond.static yX9_in, Cond.code yX9_in cX9_in 6 (some .boolean), Cond.methodLink RX9 77 yX9_closeOf, Cond.instanceMethod yX9_closeOf, Cond.selects RX9 yX9_closeOf yX9_closeOf, Cond.code yX9_closeOf cX9_closeOf 6 none, Cond.fieldLink RX9 51 "DyckReachabilityModel" "wide" "[I", Cond.methodLink RX9 69 yX9_has, Cond.static yX9_has, Cond.code yX9_has cX9_has 2 (some .boolean), Cond.methodLink RX9 73 yX9_close, Cond.instanceMethod yX9_close, Cond.selects RX9 yX9_close yX9_close, Cond.code yX9_close cX9_close 7 none]
def wsX9_reachableFrom_r2 : List Cond := [Cond.fieldLink RX9 45 "DyckReachabilityModel" "lengths" "[I", Cond.constant RX9 62 (2000000), Cond.constantLong RX9 67 (3), Cond.methodLink RX9 63 yX9_improve, Cond.instanceMethod yX9_improve, Cond.selects RX9 yX9_improve yX9_improve, Cond.code yX9_improve cX9_improve 6 (some .boolean), Cond.constant RX9 61 (1000000), Cond.methodLink RX9 141 yX9_reaches, Cond.instanceMethod yX9_reaches, Cond.selects RX9 yX9_reaches yX9_reaches, Cond.code yX9_reaches cX9_reaches 3 (some .boolean)]
def wsX9_reachableFrom : List Cond := .code yX9_reachableFrom cX9_reachableFrom 4 (some .int) :: ((wsX9_reachableFrom_r1 ++ wsX9_reachableFrom_r2) ++ wsX90)
def wsX9_pairCount_r1 : List Cond := [Cond.fieldLink RX9 54 "DyckReachabilityModel" "thrown" "I", Cond.fieldLink RX9 20 "DyckReachabilityModel" "graph" "[I", Cond.constant RX9 140 (65535), Cond.methodLink RX9 144 yX9_pairsOf, Cond.instanceMethod yX9_pairsOf, Cond.selects RX9 yX9_pairsOf yX9_pairsOf, Cond.initialized RX9, Cond.code yX9_pairsOf cX9_pairsOf 3 (some .int), Cond.methodLink RX9 77 yX9_closeOf, Cond.instanceMethod yX9_closeOf, Cond.selects RX9 yX9_closeOf yX9_closeOf, Cond.code yX9_closeOf cX9_closeOf 6 none, Cond.fieldLink RX9 51 "DyckReachabilityModel" "wide" "[I", Cond.methodLink RX9 69 yX9_has, Cond.static yX9_has, Cond.code yX9_has cX9_has 2 (some .boolean), Cond.methodLink RX9 73 yX9_close, Cond.instanceMethod yX9_close, Cond.selects RX9 yX9_close yX9_close, Cond.code yX9_close cX9_close 7 none, Cond.fieldLink RX9 45 "DyckReachabilityModel" "lengths" "[I", Cond.constant RX9 62 (2000000), Cond.constantLong RX9 67 (3), Cond.methodLink RX9 63 yX9_improve]
def wsX9_pairCount_r2 : List Cond := [Cond.instanceMethod yX9_improve, Cond.selects RX9 yX9_improve yX9_improve, Cond.code yX9_improve cX9_improve 6 (some .boolean), Cond.constant RX9 61 (1000000), Cond.methodLink RX9 57 yX9_in, Cond.static yX9_in, Cond.code yX9_in cX9_in 6 (some .boolean), Cond.methodLink RX9 81 yX9_pairs, Cond.instanceMethod yX9_pairs, Cond.selects RX9 yX9_pairs yX9_pairs, Cond.code yX9_pairs cX9_pairs 3 (some .int), Cond.fieldLink RX9 16 "DyckReachabilityModel" "vertices" "I"]
def wsX9_pairCount : List Cond := .code yX9_pairCount cX9_pairCount 1 (some .int) :: ((wsX9_pairCount_r1 ++ wsX9_pairCount_r2) ++ wsX90)
def wsX9_distance_r1 : List Cond := [Cond.fieldLink RX9 54 "DyckReachabilityModel" "thrown" "I", Cond.fieldLink RX9 20 "DyckReachabilityModel" "graph" "[I", Cond.constant RX9 140 (65535), Cond.fieldLink RX9 45 "DyckReachabilityModel" "lengths" "[I", Cond.methodLink RX9 129 yX9_noVertex, Cond.instanceMethod yX9_noVertex, Cond.selects RX9 yX9_noVertex yX9_noVertex, Cond.initialized RX9, Cond.code yX9_noVertex cX9_noVertex 2 (some .boolean), Cond.fieldLink RX9 16 "DyckReachabilityModel" "vertices" "I", Cond.methodLink RX9 57 yX9_in, Cond.static yX9_in, Cond.code yX9_in cX9_in 6 (some .boolean), Cond.methodLink RX9 77 yX9_closeOf, Cond.instanceMethod yX9_closeOf, Cond.selects RX9 yX9_closeOf yX9_closeOf, Cond.code yX9_closeOf cX9_closeOf 6 none, Cond.fieldLink RX9 51 "DyckReachabilityModel" "wide" "[I", Cond.methodLink RX9 69 yX9_has, Cond.static yX9_has, Cond.code yX9_has cX9_has 2 (some .boolean), Cond.methodLink RX9 73 yX9_close, Cond.instanceMethod yX9_close, Cond.selects RX9 yX9_close yX9_close]
def wsX9_distance_r2 : List Cond := [Cond.code yX9_close cX9_close 7 none, Cond.constant RX9 62 (2000000), Cond.constantLong RX9 67 (3), Cond.methodLink RX9 63 yX9_improve, Cond.instanceMethod yX9_improve, Cond.selects RX9 yX9_improve yX9_improve, Cond.code yX9_improve cX9_improve 6 (some .boolean), Cond.constant RX9 61 (1000000), Cond.methodLink RX9 141 yX9_reaches, Cond.instanceMethod yX9_reaches, Cond.selects RX9 yX9_reaches yX9_reaches, Cond.code yX9_reaches cX9_reaches 3 (some .boolean)]
def wsX9_distance : List Cond := .code yX9_distance cX9_distance 3 (some .int) :: ((wsX9_distance_r1 ++ wsX9_distance_r2) ++ wsX90)
def wsX9_lengthBy : List Cond := .code yX9_lengthBy cX9_lengthBy 8 (some .int) :: ([.fieldLink RX9 20 "DyckReachabilityModel" "graph" "[I", .constant RX9 62 (2000000), .fieldLink RX9 45 "DyckReachabilityModel" "lengths" "[I", .constantLong RX9 67 (3), .methodLink RX9 57 yX9_in, .static yX9_in, .initialized RX9, .code yX9_in cX9_in 6 (some .boolean)] ++ wsX90)
def wsX9_firstStep : List Cond := .code yX9_firstStep cX9_firstStep 4 (some .int) :: ([.fieldLink RX9 20 "DyckReachabilityModel" "graph" "[I", .fieldLink RX9 45 "DyckReachabilityModel" "lengths" "[I", .methodLink RX9 148 yX9_lengthBy, .instanceMethod yX9_lengthBy, .selects RX9 yX9_lengthBy yX9_lengthBy, .initialized RX9, .code yX9_lengthBy cX9_lengthBy 8 (some .int), .constant RX9 62 (2000000), .constantLong RX9 67 (3), .methodLink RX9 57 yX9_in, .static yX9_in, .code yX9_in cX9_in 6 (some .boolean)] ++ wsX90)
def wsX9_witnessEdge_r1 : List Cond := [Cond.fieldLink RX9 54 "DyckReachabilityModel" "thrown" "I", Cond.fieldLink RX9 20 "DyckReachabilityModel" "graph" "[I", Cond.constant RX9 140 (65535), Cond.fieldLink RX9 45 "DyckReachabilityModel" "lengths" "[I", Cond.constant RX9 61 (1000000), Cond.methodLink RX9 129 yX9_noVertex, Cond.instanceMethod yX9_noVertex, Cond.selects RX9 yX9_noVertex yX9_noVertex, Cond.initialized RX9, Cond.code yX9_noVertex cX9_noVertex 2 (some .boolean), Cond.fieldLink RX9 16 "DyckReachabilityModel" "vertices" "I", Cond.methodLink RX9 57 yX9_in, Cond.static yX9_in, Cond.code yX9_in cX9_in 6 (some .boolean), Cond.methodLink RX9 77 yX9_closeOf, Cond.instanceMethod yX9_closeOf, Cond.selects RX9 yX9_closeOf yX9_closeOf, Cond.code yX9_closeOf cX9_closeOf 6 none, Cond.fieldLink RX9 51 "DyckReachabilityModel" "wide" "[I", Cond.methodLink RX9 69 yX9_has, Cond.static yX9_has, Cond.code yX9_has cX9_has 2 (some .boolean), Cond.methodLink RX9 73 yX9_close, Cond.instanceMethod yX9_close]
def wsX9_witnessEdge_r2 : List Cond := [Cond.selects RX9 yX9_close yX9_close, Cond.code yX9_close cX9_close 7 none, Cond.constant RX9 62 (2000000), Cond.constantLong RX9 67 (3), Cond.methodLink RX9 63 yX9_improve, Cond.instanceMethod yX9_improve, Cond.selects RX9 yX9_improve yX9_improve, Cond.code yX9_improve cX9_improve 6 (some .boolean), Cond.methodLink RX9 152 yX9_firstStep, Cond.instanceMethod yX9_firstStep, Cond.selects RX9 yX9_firstStep yX9_firstStep, Cond.code yX9_firstStep cX9_firstStep 4 (some .int), Cond.methodLink RX9 148 yX9_lengthBy, Cond.instanceMethod yX9_lengthBy, Cond.selects RX9 yX9_lengthBy yX9_lengthBy, Cond.code yX9_lengthBy cX9_lengthBy 8 (some .int)]
def wsX9_witnessEdge : List Cond := .code yX9_witnessEdge cX9_witnessEdge 13 (some .int) :: ((wsX9_witnessEdge_r1 ++ wsX9_witnessEdge_r2) ++ wsX90)
def wsX9_lessDeep : List Cond := .code yX9_lessDeep cX9_lessDeep 5 (some .boolean) :: ([.fieldLink RX9 48 "DyckReachabilityModel" "depths" "[I"] ++ wsX90)
def wsX9_closeDepths : List Cond := .code yX9_closeDepths cX9_closeDepths 5 none :: ([.fieldLink RX9 48 "DyckReachabilityModel" "depths" "[I", .constant RX9 62 (2000000), .fieldLink RX9 20 "DyckReachabilityModel" "graph" "[I", .constantLong RX9 67 (3), .methodLink RX9 155 yX9_lessDeep, .instanceMethod yX9_lessDeep, .selects RX9 yX9_lessDeep yX9_lessDeep, .initialized RX9, .code yX9_lessDeep cX9_lessDeep 5 (some .boolean), .methodLink RX9 57 yX9_in, .static yX9_in, .code yX9_in cX9_in 6 (some .boolean)] ++ wsX90)
def wsX9_depth : List Cond := .code yX9_depth cX9_depth 4 (some .int) :: ([.fieldLink RX9 54 "DyckReachabilityModel" "thrown" "I", .fieldLink RX9 48 "DyckReachabilityModel" "depths" "[I", .constant RX9 62 (2000000), .methodLink RX9 129 yX9_noVertex, .instanceMethod yX9_noVertex, .selects RX9 yX9_noVertex yX9_noVertex, .initialized RX9, .code yX9_noVertex cX9_noVertex 2 (some .boolean), .fieldLink RX9 16 "DyckReachabilityModel" "vertices" "I", .methodLink RX9 57 yX9_in, .static yX9_in, .code yX9_in cX9_in 6 (some .boolean), .methodLink RX9 158 yX9_closeDepths, .instanceMethod yX9_closeDepths, .selects RX9 yX9_closeDepths yX9_closeDepths, .code yX9_closeDepths cX9_closeDepths 5 none, .fieldLink RX9 20 "DyckReachabilityModel" "graph" "[I", .constantLong RX9 67 (3), .methodLink RX9 155 yX9_lessDeep, .instanceMethod yX9_lessDeep, .selects RX9 yX9_lessDeep yX9_lessDeep, .code yX9_lessDeep cX9_lessDeep 5 (some .boolean)] ++ wsX90)
def wsX9_lossOf_r1 : List Cond := [Cond.fieldLink RX9 20 "DyckReachabilityModel" "graph" "[I", Cond.constant RX9 140 (65535), Cond.methodLink RX9 144 yX9_pairsOf, Cond.instanceMethod yX9_pairsOf, Cond.selects RX9 yX9_pairsOf yX9_pairsOf, Cond.initialized RX9, Cond.code yX9_pairsOf cX9_pairsOf 3 (some .int), Cond.methodLink RX9 77 yX9_closeOf, Cond.instanceMethod yX9_closeOf, Cond.selects RX9 yX9_closeOf yX9_closeOf, Cond.code yX9_closeOf cX9_closeOf 6 none, Cond.fieldLink RX9 51 "DyckReachabilityModel" "wide" "[I", Cond.methodLink RX9 69 yX9_has, Cond.static yX9_has, Cond.code yX9_has cX9_has 2 (some .boolean), Cond.methodLink RX9 73 yX9_close, Cond.instanceMethod yX9_close, Cond.selects RX9 yX9_close yX9_close, Cond.code yX9_close cX9_close 7 none, Cond.fieldLink RX9 45 "DyckReachabilityModel" "lengths" "[I", Cond.constant RX9 62 (2000000), Cond.constantLong RX9 67 (3), Cond.methodLink RX9 63 yX9_improve, Cond.instanceMethod yX9_improve]
def wsX9_lossOf_r2 : List Cond := [Cond.selects RX9 yX9_improve yX9_improve, Cond.code yX9_improve cX9_improve 6 (some .boolean), Cond.constant RX9 61 (1000000), Cond.methodLink RX9 57 yX9_in, Cond.static yX9_in, Cond.code yX9_in cX9_in 6 (some .boolean), Cond.methodLink RX9 81 yX9_pairs, Cond.instanceMethod yX9_pairs, Cond.selects RX9 yX9_pairs yX9_pairs, Cond.code yX9_pairs cX9_pairs 3 (some .int), Cond.fieldLink RX9 16 "DyckReachabilityModel" "vertices" "I"]
def wsX9_lossOf : List Cond := .code yX9_lossOf cX9_lossOf 2 (some .int) :: ((wsX9_lossOf_r1 ++ wsX9_lossOf_r2) ++ wsX90)
def wsX9_loss_r1 : List Cond := [Cond.fieldLink RX9 54 "DyckReachabilityModel" "thrown" "I", Cond.methodLink RX9 125 yX9_noEdge, Cond.instanceMethod yX9_noEdge, Cond.selects RX9 yX9_noEdge yX9_noEdge, Cond.initialized RX9, Cond.code yX9_noEdge cX9_noEdge 2 (some .boolean), Cond.fieldLink RX9 20 "DyckReachabilityModel" "graph" "[I", Cond.methodLink RX9 57 yX9_in, Cond.static yX9_in, Cond.code yX9_in cX9_in 6 (some .boolean), Cond.methodLink RX9 161 yX9_lossOf, Cond.instanceMethod yX9_lossOf, Cond.selects RX9 yX9_lossOf yX9_lossOf, Cond.code yX9_lossOf cX9_lossOf 2 (some .int), Cond.constant RX9 140 (65535), Cond.methodLink RX9 144 yX9_pairsOf, Cond.instanceMethod yX9_pairsOf, Cond.selects RX9 yX9_pairsOf yX9_pairsOf, Cond.code yX9_pairsOf cX9_pairsOf 3 (some .int), Cond.methodLink RX9 77 yX9_closeOf, Cond.instanceMethod yX9_closeOf, Cond.selects RX9 yX9_closeOf yX9_closeOf, Cond.code yX9_closeOf cX9_closeOf 6 none, Cond.fieldLink RX9 51 "DyckReachabilityModel" "wide" "[I"]
def wsX9_loss_r2 : List Cond := [Cond.methodLink RX9 69 yX9_has, Cond.static yX9_has, Cond.code yX9_has cX9_has 2 (some .boolean), Cond.methodLink RX9 73 yX9_close, Cond.instanceMethod yX9_close, Cond.selects RX9 yX9_close yX9_close, Cond.code yX9_close cX9_close 7 none, Cond.fieldLink RX9 45 "DyckReachabilityModel" "lengths" "[I", Cond.constant RX9 62 (2000000), Cond.constantLong RX9 67 (3), Cond.methodLink RX9 63 yX9_improve, Cond.instanceMethod yX9_improve, Cond.selects RX9 yX9_improve yX9_improve, Cond.code yX9_improve cX9_improve 6 (some .boolean), Cond.constant RX9 61 (1000000), Cond.methodLink RX9 81 yX9_pairs, Cond.instanceMethod yX9_pairs, Cond.selects RX9 yX9_pairs yX9_pairs, Cond.code yX9_pairs cX9_pairs 3 (some .int), Cond.fieldLink RX9 16 "DyckReachabilityModel" "vertices" "I"]
def wsX9_loss : List Cond := .code yX9_loss cX9_loss 2 (some .int) :: ((wsX9_loss_r1 ++ wsX9_loss_r2) ++ wsX90)
def wsX9_criticalEdge_r1 : List Cond := [Cond.fieldLink RX9 54 "DyckReachabilityModel" "thrown" "I", Cond.fieldLink RX9 20 "DyckReachabilityModel" "graph" "[I", Cond.methodLink RX9 161 yX9_lossOf, Cond.instanceMethod yX9_lossOf, Cond.selects RX9 yX9_lossOf yX9_lossOf, Cond.initialized RX9, Cond.code yX9_lossOf cX9_lossOf 2 (some .int), Cond.constant RX9 140 (65535), Cond.methodLink RX9 144 yX9_pairsOf, Cond.instanceMethod yX9_pairsOf, Cond.selects RX9 yX9_pairsOf yX9_pairsOf, Cond.code yX9_pairsOf cX9_pairsOf 3 (some .int), Cond.methodLink RX9 77 yX9_closeOf, Cond.instanceMethod yX9_closeOf, Cond.selects RX9 yX9_closeOf yX9_closeOf, Cond.code yX9_closeOf cX9_closeOf 6 none, Cond.fieldLink RX9 51 "DyckReachabilityModel" "wide" "[I", Cond.methodLink RX9 69 yX9_has, Cond.static yX9_has, Cond.code yX9_has cX9_has 2 (some .boolean), Cond.methodLink RX9 73 yX9_close, Cond.instanceMethod yX9_close, Cond.selects RX9 yX9_close yX9_close, Cond.code yX9_close cX9_close 7 none]
def wsX9_criticalEdge_r2 : List Cond := [Cond.fieldLink RX9 45 "DyckReachabilityModel" "lengths" "[I", Cond.constant RX9 62 (2000000), Cond.constantLong RX9 67 (3), Cond.methodLink RX9 63 yX9_improve, Cond.instanceMethod yX9_improve, Cond.selects RX9 yX9_improve yX9_improve, Cond.code yX9_improve cX9_improve 6 (some .boolean), Cond.constant RX9 61 (1000000), Cond.methodLink RX9 57 yX9_in, Cond.static yX9_in, Cond.code yX9_in cX9_in 6 (some .boolean), Cond.methodLink RX9 81 yX9_pairs, Cond.instanceMethod yX9_pairs, Cond.selects RX9 yX9_pairs yX9_pairs, Cond.code yX9_pairs cX9_pairs 3 (some .int), Cond.fieldLink RX9 16 "DyckReachabilityModel" "vertices" "I"]
def wsX9_criticalEdge : List Cond := .code yX9_criticalEdge cX9_criticalEdge 5 (some .int) :: ((wsX9_criticalEdge_r1 ++ wsX9_criticalEdge_r2) ++ wsX90)
def wsX9_representative_r1 : List Cond := [Cond.fieldLink RX9 54 "DyckReachabilityModel" "thrown" "I", Cond.fieldLink RX9 20 "DyckReachabilityModel" "graph" "[I", Cond.fieldLink RX9 51 "DyckReachabilityModel" "wide" "[I", Cond.methodLink RX9 129 yX9_noVertex, Cond.instanceMethod yX9_noVertex, Cond.selects RX9 yX9_noVertex yX9_noVertex, Cond.initialized RX9, Cond.code yX9_noVertex cX9_noVertex 2 (some .boolean), Cond.fieldLink RX9 16 "DyckReachabilityModel" "vertices" "I", Cond.methodLink RX9 57 yX9_in, Cond.static yX9_in, Cond.code yX9_in cX9_in 6 (some .boolean), Cond.methodLink RX9 73 yX9_close, Cond.instanceMethod yX9_close, Cond.selects RX9 yX9_close yX9_close, Cond.code yX9_close cX9_close 7 none, Cond.fieldLink RX9 45 "DyckReachabilityModel" "lengths" "[I", Cond.constant RX9 62 (2000000), Cond.constantLong RX9 67 (3), Cond.methodLink RX9 63 yX9_improve, Cond.instanceMethod yX9_improve, Cond.selects RX9 yX9_improve yX9_improve, Cond.code yX9_improve cX9_improve 6 (some .boolean), Cond.constant RX9 61 (1000000)]
def wsX9_representative_r2 : List Cond := [Cond.methodLink RX9 141 yX9_reaches, Cond.instanceMethod yX9_reaches, Cond.selects RX9 yX9_reaches yX9_reaches, Cond.code yX9_reaches cX9_reaches 3 (some .boolean)]
def wsX9_representative : List Cond := .code yX9_representative cX9_representative 4 (some .int) :: ((wsX9_representative_r1 ++ wsX9_representative_r2) ++ wsX90)
def wsX9_command_r1 : List Cond := [Cond.fieldLink RX9 23 "DyckReachabilityModel" "copy" "[I", Cond.constant RX9 140 (65535), Cond.fieldLink RX9 45 "DyckReachabilityModel" "lengths" "[I", Cond.methodLink RX9 129 yX9_noVertex, Cond.instanceMethod yX9_noVertex, Cond.selects RX9 yX9_noVertex yX9_noVertex, Cond.initialized RX9, Cond.code yX9_noVertex cX9_noVertex 2 (some .boolean), Cond.fieldLink RX9 16 "DyckReachabilityModel" "vertices" "I", Cond.methodLink RX9 57 yX9_in, Cond.static yX9_in, Cond.code yX9_in cX9_in 6 (some .boolean), Cond.methodLink RX9 111 yX9_put, Cond.static yX9_put, Cond.code yX9_put cX9_put 5 none, Cond.methodLink RX9 137 yX9_drop, Cond.static yX9_drop, Cond.code yX9_drop cX9_drop 3 none, Cond.methodLink RX9 77 yX9_closeOf, Cond.instanceMethod yX9_closeOf, Cond.selects RX9 yX9_closeOf yX9_closeOf, Cond.code yX9_closeOf cX9_closeOf 6 none, Cond.fieldLink RX9 51 "DyckReachabilityModel" "wide" "[I", Cond.methodLink RX9 69 yX9_has]
def wsX9_command_r2 : List Cond := [Cond.static yX9_has, Cond.code yX9_has cX9_has 2 (some .boolean), Cond.methodLink RX9 73 yX9_close, Cond.instanceMethod yX9_close, Cond.selects RX9 yX9_close yX9_close, Cond.code yX9_close cX9_close 7 none, Cond.constant RX9 62 (2000000), Cond.constantLong RX9 67 (3), Cond.methodLink RX9 63 yX9_improve, Cond.instanceMethod yX9_improve, Cond.selects RX9 yX9_improve yX9_improve, Cond.code yX9_improve cX9_improve 6 (some .boolean), Cond.constant RX9 61 (1000000), Cond.methodLink RX9 141 yX9_reaches, Cond.instanceMethod yX9_reaches, Cond.selects RX9 yX9_reaches yX9_reaches, Cond.code yX9_reaches cX9_reaches 3 (some .boolean), Cond.methodLink RX9 144 yX9_pairsOf, Cond.instanceMethod yX9_pairsOf, Cond.selects RX9 yX9_pairsOf yX9_pairsOf, Cond.code yX9_pairsOf cX9_pairsOf 3 (some .int), Cond.methodLink RX9 81 yX9_pairs, Cond.instanceMethod yX9_pairs, Cond.selects RX9 yX9_pairs yX9_pairs]
def wsX9_command_r3 : List Cond := [Cond.code yX9_pairs cX9_pairs 3 (some .int)]
def wsX9_command : List Cond := .code yX9_command cX9_command 6 (some .boolean) :: ((wsX9_command_r1 ++ (wsX9_command_r2 ++ wsX9_command_r3)) ++ wsX90)
def wsX9_tenThousands : List Cond := .code yX9_tenThousands cX9_tenThousands 4 (some .long) :: ([.constantLong RX9 165 (10000)])
def wsX9_runScript_r1 : List Cond := [Cond.fieldLink RX9 54 "DyckReachabilityModel" "thrown" "I", Cond.constantLong RX9 167 (4), Cond.fieldLink RX9 20 "DyckReachabilityModel" "graph" "[I", Cond.fieldLink RX9 23 "DyckReachabilityModel" "copy" "[I", Cond.constantLong RX9 165 (10000), Cond.methodLink RX9 57 yX9_in, Cond.static yX9_in, Cond.initialized RX9, Cond.code yX9_in cX9_in 6 (some .boolean), Cond.methodLink RX9 169 yX9_tenThousands, Cond.static yX9_tenThousands, Cond.code yX9_tenThousands cX9_tenThousands 4 (some .long), Cond.methodLink RX9 118 yX9_assign, Cond.static yX9_assign, Cond.code yX9_assign cX9_assign 3 none, Cond.methodLink RX9 173 yX9_command, Cond.instanceMethod yX9_command, Cond.selects RX9 yX9_command yX9_command, Cond.code yX9_command cX9_command 6 (some .boolean), Cond.constant RX9 140 (65535), Cond.fieldLink RX9 45 "DyckReachabilityModel" "lengths" "[I", Cond.methodLink RX9 129 yX9_noVertex, Cond.instanceMethod yX9_noVertex, Cond.selects RX9 yX9_noVertex yX9_noVertex]
def wsX9_runScript_r2 : List Cond := [Cond.code yX9_noVertex cX9_noVertex 2 (some .boolean), Cond.fieldLink RX9 16 "DyckReachabilityModel" "vertices" "I", Cond.methodLink RX9 111 yX9_put, Cond.static yX9_put, Cond.code yX9_put cX9_put 5 none, Cond.methodLink RX9 137 yX9_drop, Cond.static yX9_drop, Cond.code yX9_drop cX9_drop 3 none, Cond.methodLink RX9 77 yX9_closeOf, Cond.instanceMethod yX9_closeOf, Cond.selects RX9 yX9_closeOf yX9_closeOf, Cond.code yX9_closeOf cX9_closeOf 6 none, Cond.fieldLink RX9 51 "DyckReachabilityModel" "wide" "[I", Cond.methodLink RX9 69 yX9_has, Cond.static yX9_has, Cond.code yX9_has cX9_has 2 (some .boolean), Cond.methodLink RX9 73 yX9_close, Cond.instanceMethod yX9_close, Cond.selects RX9 yX9_close yX9_close, Cond.code yX9_close cX9_close 7 none, Cond.constant RX9 62 (2000000), Cond.constantLong RX9 67 (3), Cond.methodLink RX9 63 yX9_improve, Cond.instanceMethod yX9_improve]
def wsX9_runScript_r3 : List Cond := [Cond.selects RX9 yX9_improve yX9_improve, Cond.code yX9_improve cX9_improve 6 (some .boolean), Cond.constant RX9 61 (1000000), Cond.methodLink RX9 141 yX9_reaches, Cond.instanceMethod yX9_reaches, Cond.selects RX9 yX9_reaches yX9_reaches, Cond.code yX9_reaches cX9_reaches 3 (some .boolean), Cond.methodLink RX9 144 yX9_pairsOf, Cond.instanceMethod yX9_pairsOf, Cond.selects RX9 yX9_pairsOf yX9_pairsOf, Cond.code yX9_pairsOf cX9_pairsOf 3 (some .int), Cond.methodLink RX9 81 yX9_pairs, Cond.instanceMethod yX9_pairs, Cond.selects RX9 yX9_pairs yX9_pairs, Cond.code yX9_pairs cX9_pairs 3 (some .int)]
def wsX9_runScript : List Cond := .code yX9_runScript cX9_runScript 6 (some .int) :: ((wsX9_runScript_r1 ++ (wsX9_runScript_r2 ++ wsX9_runScript_r3)) ++ wsX90)
def wsX9_observe : List Cond := .code yX9_observe cX9_observe 4 (some .int) :: ([.fieldLink RX9 54 "DyckReachabilityModel" "thrown" "I", .constantLong RX9 177 (7), .fieldLink RX9 179 "DyckReachabilityModel" "observed" "I", .fieldLink RX9 36 "DyckReachabilityModel" "observedFrom" "[I", .fieldLink RX9 39 "DyckReachabilityModel" "observedTo" "[I", .fieldLink RX9 42 "DyckReachabilityModel" "observedIs" "[I", .methodLink RX9 57 yX9_in, .static yX9_in, .initialized RX9, .code yX9_in cX9_in 6 (some .boolean)] ++ wsX90)
def wsX9_clearObservations : List Cond := .code yX9_clearObservations cX9_clearObservations 2 (some .int) :: ([.fieldLink RX9 54 "DyckReachabilityModel" "thrown" "I", .fieldLink RX9 179 "DyckReachabilityModel" "observed" "I"] ++ wsX90)
def wsX9_possibleLabels_r1 : List Cond := [Cond.fieldLink RX9 54 "DyckReachabilityModel" "thrown" "I", Cond.fieldLink RX9 20 "DyckReachabilityModel" "graph" "[I", Cond.fieldLink RX9 23 "DyckReachabilityModel" "copy" "[I", Cond.constant RX9 140 (65535), Cond.fieldLink RX9 179 "DyckReachabilityModel" "observed" "I", Cond.fieldLink RX9 36 "DyckReachabilityModel" "observedFrom" "[I", Cond.fieldLink RX9 39 "DyckReachabilityModel" "observedTo" "[I", Cond.fieldLink RX9 42 "DyckReachabilityModel" "observedIs" "[I", Cond.methodLink RX9 125 yX9_noEdge, Cond.instanceMethod yX9_noEdge, Cond.selects RX9 yX9_noEdge yX9_noEdge, Cond.initialized RX9, Cond.code yX9_noEdge cX9_noEdge 2 (some .boolean), Cond.methodLink RX9 57 yX9_in, Cond.static yX9_in, Cond.code yX9_in cX9_in 6 (some .boolean), Cond.methodLink RX9 118 yX9_assign, Cond.static yX9_assign, Cond.code yX9_assign cX9_assign 3 none, Cond.methodLink RX9 77 yX9_closeOf, Cond.instanceMethod yX9_closeOf, Cond.selects RX9 yX9_closeOf yX9_closeOf, Cond.code yX9_closeOf cX9_closeOf 6 none, Cond.fieldLink RX9 51 "DyckReachabilityModel" "wide" "[I"]
def wsX9_possibleLabels_r2 : List Cond := [Cond.methodLink RX9 69 yX9_has, Cond.static yX9_has, Cond.code yX9_has cX9_has 2 (some .boolean), Cond.methodLink RX9 73 yX9_close, Cond.instanceMethod yX9_close, Cond.selects RX9 yX9_close yX9_close, Cond.code yX9_close cX9_close 7 none, Cond.fieldLink RX9 45 "DyckReachabilityModel" "lengths" "[I", Cond.constant RX9 62 (2000000), Cond.constantLong RX9 67 (3), Cond.methodLink RX9 63 yX9_improve, Cond.instanceMethod yX9_improve, Cond.selects RX9 yX9_improve yX9_improve, Cond.code yX9_improve cX9_improve 6 (some .boolean), Cond.constant RX9 61 (1000000), Cond.methodLink RX9 129 yX9_noVertex, Cond.instanceMethod yX9_noVertex, Cond.selects RX9 yX9_noVertex yX9_noVertex, Cond.code yX9_noVertex cX9_noVertex 2 (some .boolean), Cond.fieldLink RX9 16 "DyckReachabilityModel" "vertices" "I", Cond.methodLink RX9 141 yX9_reaches, Cond.instanceMethod yX9_reaches, Cond.selects RX9 yX9_reaches yX9_reaches, Cond.code yX9_reaches cX9_reaches 3 (some .boolean)]
def wsX9_possibleLabels : List Cond := .code yX9_possibleLabels cX9_possibleLabels 7 (some .int) :: ((wsX9_possibleLabels_r1 ++ wsX9_possibleLabels_r2) ++ wsX90)
def wsX9_factorial : List Cond := .code yX9_factorial cX9_factorial 3 (some .int) :: ([])
def wsX9_share_r1 : List Cond := [Cond.fieldLink RX9 54 "DyckReachabilityModel" "thrown" "I", Cond.fieldLink RX9 20 "DyckReachabilityModel" "graph" "[I", Cond.constant RX9 188 (40320), Cond.methodLink RX9 125 yX9_noEdge, Cond.instanceMethod yX9_noEdge, Cond.selects RX9 yX9_noEdge yX9_noEdge, Cond.initialized RX9, Cond.code yX9_noEdge cX9_noEdge 2 (some .boolean), Cond.methodLink RX9 57 yX9_in, Cond.static yX9_in, Cond.code yX9_in cX9_in 6 (some .boolean), Cond.methodLink RX9 69 yX9_has, Cond.static yX9_has, Cond.code yX9_has cX9_has 2 (some .boolean), Cond.methodLink RX9 182 yX9_bits, Cond.static yX9_bits, Cond.code yX9_bits cX9_bits 3 (some .int), Cond.methodLink RX9 185 yX9_factorial, Cond.static yX9_factorial, Cond.code yX9_factorial cX9_factorial 3 (some .int), Cond.methodLink RX9 144 yX9_pairsOf, Cond.instanceMethod yX9_pairsOf, Cond.selects RX9 yX9_pairsOf yX9_pairsOf, Cond.code yX9_pairsOf cX9_pairsOf 3 (some .int)]
def wsX9_share_r2 : List Cond := [Cond.methodLink RX9 77 yX9_closeOf, Cond.instanceMethod yX9_closeOf, Cond.selects RX9 yX9_closeOf yX9_closeOf, Cond.code yX9_closeOf cX9_closeOf 6 none, Cond.fieldLink RX9 51 "DyckReachabilityModel" "wide" "[I", Cond.methodLink RX9 73 yX9_close, Cond.instanceMethod yX9_close, Cond.selects RX9 yX9_close yX9_close, Cond.code yX9_close cX9_close 7 none, Cond.fieldLink RX9 45 "DyckReachabilityModel" "lengths" "[I", Cond.constant RX9 62 (2000000), Cond.constantLong RX9 67 (3), Cond.methodLink RX9 63 yX9_improve, Cond.instanceMethod yX9_improve, Cond.selects RX9 yX9_improve yX9_improve, Cond.code yX9_improve cX9_improve 6 (some .boolean), Cond.constant RX9 61 (1000000), Cond.methodLink RX9 81 yX9_pairs, Cond.instanceMethod yX9_pairs, Cond.selects RX9 yX9_pairs yX9_pairs, Cond.code yX9_pairs cX9_pairs 3 (some .int), Cond.fieldLink RX9 16 "DyckReachabilityModel" "vertices" "I"]
def wsX9_share : List Cond := .code yX9_share cX9_share 6 (some .int) :: ((wsX9_share_r1 ++ wsX9_share_r2) ++ wsX90)
def wsX9_reliability_r1 : List Cond := [Cond.fieldLink RX9 54 "DyckReachabilityModel" "thrown" "I", Cond.constantLong RX9 189 (10), Cond.fieldLink RX9 20 "DyckReachabilityModel" "graph" "[I", Cond.methodLink RX9 129 yX9_noVertex, Cond.instanceMethod yX9_noVertex, Cond.selects RX9 yX9_noVertex yX9_noVertex, Cond.initialized RX9, Cond.code yX9_noVertex cX9_noVertex 2 (some .boolean), Cond.fieldLink RX9 16 "DyckReachabilityModel" "vertices" "I", Cond.methodLink RX9 57 yX9_in, Cond.static yX9_in, Cond.code yX9_in cX9_in 6 (some .boolean), Cond.methodLink RX9 77 yX9_closeOf, Cond.instanceMethod yX9_closeOf, Cond.selects RX9 yX9_closeOf yX9_closeOf, Cond.code yX9_closeOf cX9_closeOf 6 none, Cond.fieldLink RX9 51 "DyckReachabilityModel" "wide" "[I", Cond.methodLink RX9 69 yX9_has, Cond.static yX9_has, Cond.code yX9_has cX9_has 2 (some .boolean), Cond.methodLink RX9 73 yX9_close, Cond.instanceMethod yX9_close, Cond.selects RX9 yX9_close yX9_close, Cond.code yX9_close cX9_close 7 none]
def wsX9_reliability_r2 : List Cond := [Cond.fieldLink RX9 45 "DyckReachabilityModel" "lengths" "[I", Cond.constant RX9 62 (2000000), Cond.constantLong RX9 67 (3), Cond.methodLink RX9 63 yX9_improve, Cond.instanceMethod yX9_improve, Cond.selects RX9 yX9_improve yX9_improve, Cond.code yX9_improve cX9_improve 6 (some .boolean), Cond.constant RX9 61 (1000000), Cond.methodLink RX9 141 yX9_reaches, Cond.instanceMethod yX9_reaches, Cond.selects RX9 yX9_reaches yX9_reaches, Cond.code yX9_reaches cX9_reaches 3 (some .boolean)]
def wsX9_reliability : List Cond := .code yX9_reliability cX9_reliability 9 (some .int) :: ((wsX9_reliability_r1 ++ wsX9_reliability_r2) ++ wsX90)
def wsX9_setSeed : List Cond := .code yX9_setSeed cX9_setSeed 5 (some .long) :: ([.fieldLink RX9 54 "DyckReachabilityModel" "thrown" "I", .fieldLink RX9 191 "DyckReachabilityModel" "seed" "J"] ++ wsX90)
def wsX9_toggle : List Cond := .code yX9_toggle cX9_toggle 6 none :: ([.fieldLink RX9 23 "DyckReachabilityModel" "copy" "[I", .methodLink RX9 137 yX9_drop, .static yX9_drop, .initialized RX9, .code yX9_drop cX9_drop 3 none, .methodLink RX9 111 yX9_put, .static yX9_put, .code yX9_put cX9_put 5 none] ++ wsX90)
def wsX9_simulate_r1 : List Cond := [Cond.fieldLink RX9 54 "DyckReachabilityModel" "thrown" "I", Cond.constantLong RX9 195 (40), Cond.fieldLink RX9 20 "DyckReachabilityModel" "graph" "[I", Cond.fieldLink RX9 23 "DyckReachabilityModel" "copy" "[I", Cond.fieldLink RX9 191 "DyckReachabilityModel" "seed" "J", Cond.constantLong RX9 197 (6364136223846793005), Cond.constantLong RX9 199 (1442695040888963407), Cond.fieldLink RX9 16 "DyckReachabilityModel" "vertices" "I", Cond.constant RX9 140 (65535), Cond.methodLink RX9 57 yX9_in, Cond.static yX9_in, Cond.initialized RX9, Cond.code yX9_in cX9_in 6 (some .boolean), Cond.methodLink RX9 118 yX9_assign, Cond.static yX9_assign, Cond.code yX9_assign cX9_assign 3 none, Cond.methodLink RX9 201 yX9_toggle, Cond.instanceMethod yX9_toggle, Cond.selects RX9 yX9_toggle yX9_toggle, Cond.code yX9_toggle cX9_toggle 6 none, Cond.methodLink RX9 137 yX9_drop, Cond.static yX9_drop, Cond.code yX9_drop cX9_drop 3 none, Cond.methodLink RX9 111 yX9_put]
def wsX9_simulate_r2 : List Cond := [Cond.static yX9_put, Cond.code yX9_put cX9_put 5 none, Cond.methodLink RX9 144 yX9_pairsOf, Cond.instanceMethod yX9_pairsOf, Cond.selects RX9 yX9_pairsOf yX9_pairsOf, Cond.code yX9_pairsOf cX9_pairsOf 3 (some .int), Cond.methodLink RX9 77 yX9_closeOf, Cond.instanceMethod yX9_closeOf, Cond.selects RX9 yX9_closeOf yX9_closeOf, Cond.code yX9_closeOf cX9_closeOf 6 none, Cond.fieldLink RX9 51 "DyckReachabilityModel" "wide" "[I", Cond.methodLink RX9 69 yX9_has, Cond.static yX9_has, Cond.code yX9_has cX9_has 2 (some .boolean), Cond.methodLink RX9 73 yX9_close, Cond.instanceMethod yX9_close, Cond.selects RX9 yX9_close yX9_close, Cond.code yX9_close cX9_close 7 none, Cond.fieldLink RX9 45 "DyckReachabilityModel" "lengths" "[I", Cond.constant RX9 62 (2000000), Cond.constantLong RX9 67 (3), Cond.methodLink RX9 63 yX9_improve, Cond.instanceMethod yX9_improve, Cond.selects RX9 yX9_improve yX9_improve]
def wsX9_simulate_r3 : List Cond := [Cond.code yX9_improve cX9_improve 6 (some .boolean), Cond.constant RX9 61 (1000000), Cond.methodLink RX9 81 yX9_pairs, Cond.instanceMethod yX9_pairs, Cond.selects RX9 yX9_pairs yX9_pairs, Cond.code yX9_pairs cX9_pairs 3 (some .int)]
def wsX9_simulate : List Cond := .code yX9_simulate cX9_simulate 5 (some .int) :: ((wsX9_simulate_r1 ++ (wsX9_simulate_r2 ++ wsX9_simulate_r3)) ++ wsX90)
def wsX9_save : List Cond := .code yX9_save cX9_save 3 (some .int) :: ([.fieldLink RX9 54 "DyckReachabilityModel" "thrown" "I", .fieldLink RX9 32 "DyckReachabilityModel" "slotUsed" "[Z", .fieldLink RX9 29 "DyckReachabilityModel" "slots" "[I", .fieldLink RX9 20 "DyckReachabilityModel" "graph" "[I", .methodLink RX9 57 yX9_in, .static yX9_in, .initialized RX9, .code yX9_in cX9_in 6 (some .boolean)] ++ wsX90)
def wsX9_restore : List Cond := .code yX9_restore cX9_restore 3 (some .int) :: ([.fieldLink RX9 54 "DyckReachabilityModel" "thrown" "I", .fieldLink RX9 32 "DyckReachabilityModel" "slotUsed" "[Z", .fieldLink RX9 20 "DyckReachabilityModel" "graph" "[I", .fieldLink RX9 29 "DyckReachabilityModel" "slots" "[I", .fieldLink RX9 122 "DyckReachabilityModel" "remembered" "I", .methodLink RX9 57 yX9_in, .static yX9_in, .initialized RX9, .code yX9_in cX9_in 6 (some .boolean)] ++ wsX90)
def wsJ9_min_7cf53 : List Cond := .code yJ9_min_7cf53 cJ9_min_7cf53 2 (some .int) :: ([])
theorem inX0 : ∀ w ∈ wsX00, w ∈ lw_tbl := by decide +kernel
theorem inX6 : ∀ w ∈ wsX60, w ∈ lw_tbl := by decide +kernel
theorem inX7 : ∀ w ∈ wsX70, w ∈ lw_tbl := by decide +kernel
theorem inJ6 : ∀ w ∈ wsJ60, w ∈ lw_tbl := by decide +kernel
theorem inJ13 : ∀ w ∈ wsJ130, w ∈ lw_tbl := by decide +kernel
theorem inJ9 : ∀ w ∈ wsJ90, w ∈ lw_tbl := by decide +kernel
theorem dX0_ordersOf_0 : decode cX0_ordersOf 0 = .ok (.iload_n 1, 1) := by decide +kernel
theorem dX0_ordersOf_1 : decode cX0_ordersOf 1 = .ok (.iconst 1, 1) := by decide +kernel
theorem dX0_ordersOf_2 : decode cX0_ordersOf 2 = .ok (.isub, 1) := by decide +kernel
theorem dX0_ordersOf_3 : decode cX0_ordersOf 3 = .ok (.iload_n 0, 1) := by decide +kernel
theorem dX0_ordersOf_4 : decode cX0_ordersOf 4 = .ok (.isub, 1) := by decide +kernel
theorem dX0_ordersOf_5 : decode cX0_ordersOf 5 = .ok (.istore_n 2, 1) := by decide +kernel
theorem dX0_ordersOf_6 : decode cX0_ordersOf 6 = .ok (.iload_n 0, 1) := by decide +kernel
theorem dX0_ordersOf_7 : decode cX0_ordersOf 7 = .ok (.ifCond .lt 13, 3) := by decide +kernel
theorem dX0_ordersOf_10 : decode cX0_ordersOf 10 = .ok (.iload_n 2, 1) := by decide +kernel
theorem dX0_ordersOf_11 : decode cX0_ordersOf 11 = .ok (.ifCond .lt 9, 3) := by decide +kernel
theorem dX0_ordersOf_14 : decode cX0_ordersOf 14 = .ok (.iload_n 1, 1) := by decide +kernel
theorem dX0_ordersOf_15 : decode cX0_ordersOf 15 = .ok (.bipush 8, 2) := by decide +kernel
theorem dX0_ordersOf_17 : decode cX0_ordersOf 17 = .ok (.if_icmp .le 5, 3) := by decide +kernel
theorem dX0_ordersOf_20 : decode cX0_ordersOf 20 = .ok (.iconst 0, 1) := by decide +kernel
theorem dX0_ordersOf_21 : decode cX0_ordersOf 21 = .ok (.ireturn, 1) := by decide +kernel
theorem dX0_ordersOf_22 : decode cX0_ordersOf 22 = .ok (.getstatic 11, 3) := by decide +kernel
theorem dX0_ordersOf_25 : decode cX0_ordersOf 25 = .ok (.iload_n 0, 1) := by decide +kernel
theorem dX0_ordersOf_26 : decode cX0_ordersOf 26 = .ok (.iaload, 1) := by decide +kernel
theorem dX0_ordersOf_27 : decode cX0_ordersOf 27 = .ok (.getstatic 11, 3) := by decide +kernel
theorem dX0_ordersOf_30 : decode cX0_ordersOf 30 = .ok (.iload_n 2, 1) := by decide +kernel
theorem dX0_ordersOf_31 : decode cX0_ordersOf 31 = .ok (.iaload, 1) := by decide +kernel
theorem dX0_ordersOf_32 : decode cX0_ordersOf 32 = .ok (.imul, 1) := by decide +kernel
theorem dX0_ordersOf_33 : decode cX0_ordersOf 33 = .ok (.getstatic 15, 3) := by decide +kernel
theorem dX0_ordersOf_36 : decode cX0_ordersOf 36 = .ok (.iload_n 1, 1) := by decide +kernel
theorem dX0_ordersOf_37 : decode cX0_ordersOf 37 = .ok (.iaload, 1) := by decide +kernel
theorem dX0_ordersOf_38 : decode cX0_ordersOf 38 = .ok (.imul, 1) := by decide +kernel
theorem dX0_ordersOf_39 : decode cX0_ordersOf 39 = .ok (.ireturn, 1) := by decide +kernel
theorem dX0_power_0 : decode cX0_power 0 = .ok (.iconst 1, 1) := by decide +kernel
theorem dX0_power_1 : decode cX0_power 1 = .ok (.istore_n 2, 1) := by decide +kernel
theorem dX0_power_2 : decode cX0_power 2 = .ok (.iconst 0, 1) := by decide +kernel
theorem dX0_power_3 : decode cX0_power 3 = .ok (.istore_n 3, 1) := by decide +kernel
theorem dX0_power_4 : decode cX0_power 4 = .ok (.iload_n 3, 1) := by decide +kernel
theorem dX0_power_5 : decode cX0_power 5 = .ok (.iload_n 1, 1) := by decide +kernel
theorem dX0_power_6 : decode cX0_power 6 = .ok (.if_icmp .ge 13, 3) := by decide +kernel
theorem dX0_power_9 : decode cX0_power 9 = .ok (.iload_n 2, 1) := by decide +kernel
theorem dX0_power_10 : decode cX0_power 10 = .ok (.iload_n 0, 1) := by decide +kernel
theorem dX0_power_11 : decode cX0_power 11 = .ok (.imul, 1) := by decide +kernel
theorem dX0_power_12 : decode cX0_power 12 = .ok (.istore_n 2, 1) := by decide +kernel
theorem dX0_power_13 : decode cX0_power 13 = .ok (.iinc 3 1, 3) := by decide +kernel
theorem dX0_power_16 : decode cX0_power 16 = .ok (.goto (-12), 3) := by decide +kernel
theorem dX0_power_19 : decode cX0_power 19 = .ok (.iload_n 2, 1) := by decide +kernel
theorem dX0_power_20 : decode cX0_power 20 = .ok (.ireturn, 1) := by decide +kernel
theorem dX0_nextSeed_0 : decode cX0_nextSeed 0 = .ok (.lload_n 0, 1) := by decide +kernel
theorem dX0_nextSeed_1 : decode cX0_nextSeed 1 = .ok (.ldc2_w 18, 3) := by decide +kernel
theorem dX0_nextSeed_4 : decode cX0_nextSeed 4 = .ok (.lmul, 1) := by decide +kernel
theorem dX0_nextSeed_5 : decode cX0_nextSeed 5 = .ok (.ldc2_w 20, 3) := by decide +kernel
theorem dX0_nextSeed_8 : decode cX0_nextSeed 8 = .ok (.ladd, 1) := by decide +kernel
theorem dX0_nextSeed_9 : decode cX0_nextSeed 9 = .ok (.lreturn, 1) := by decide +kernel
set_option maxRecDepth 20000 in
theorem ggX0_change_X2_find : GoodIn wsX0_change wsX2_find := goodIn_r _ [5, 6, 7, 8, 9, 26, 27, 28, 29] (by decide +kernel) (by decide +kernel)
set_option maxRecDepth 20000 in
theorem gX0_change_X2_find : GoodIn wsX0_change (wsV RX0 22 RX2 yX2_find wsX2_find) := goodIn_app (goodIn_of _ (by decide +kernel)) ggX0_change_X2_find
set_option maxRecDepth 20000 in
theorem ggX0_change_X2_put : GoodIn wsX0_change wsX2_put := goodIn_r _ [13, 7, 6, 8, 9, 14, 15, 16, 4, 17, 26, 27, 28, 29] (by decide +kernel) (by decide +kernel)
set_option maxRecDepth 20000 in
theorem gX0_change_X2_put : GoodIn wsX0_change (wsV RX0 28 RX2 yX2_put wsX2_put) := goodIn_app (goodIn_of _ (by decide +kernel)) ggX0_change_X2_put
set_option maxRecDepth 20000 in
theorem ggX0_change_X2_drop : GoodIn wsX0_change wsX2_drop := goodIn_r _ [21, 6, 7, 8, 9, 22, 23, 24, 4, 25, 26, 27, 28, 29] (by decide +kernel) (by decide +kernel)
set_option maxRecDepth 20000 in
theorem gX0_change_X2_drop : GoodIn wsX0_change (wsV RX0 32 RX2 yX2_drop wsX2_drop) := goodIn_app (goodIn_of _ (by decide +kernel)) ggX0_change_X2_drop
theorem dX0_change_0 : decode cX0_change 0 = .ok (.iload_n 1, 1) := by decide +kernel
theorem dX0_change_1 : decode cX0_change 1 = .ok (.iconst 1, 1) := by decide +kernel
theorem dX0_change_2 : decode cX0_change 2 = .ok (.if_icmp .ge 4, 3) := by decide +kernel
theorem dX0_change_5 : decode cX0_change 5 = .ok (.return_, 1) := by decide +kernel
theorem dX0_change_6 : decode cX0_change 6 = .ok (.iload_n 2, 1) := by decide +kernel
theorem dX0_change_7 : decode cX0_change 7 = .ok (.iload_n 1, 1) := by decide +kernel
theorem dX0_change_8 : decode cX0_change 8 = .ok (.irem, 1) := by decide +kernel
theorem dX0_change_9 : decode cX0_change 9 = .ok (.istore_n 3, 1) := by decide +kernel
theorem dX0_change_10 : decode cX0_change 10 = .ok (.iload_n 2, 1) := by decide +kernel
theorem dX0_change_11 : decode cX0_change 11 = .ok (.bipush 8, 2) := by decide +kernel
theorem dX0_change_13 : decode cX0_change 13 = .ok (.idiv, 1) := by decide +kernel
theorem dX0_change_14 : decode cX0_change 14 = .ok (.iload_n 1, 1) := by decide +kernel
theorem dX0_change_15 : decode cX0_change 15 = .ok (.irem, 1) := by decide +kernel
theorem dX0_change_16 : decode cX0_change 16 = .ok (.istore 4, 2) := by decide +kernel
theorem dX0_change_18 : decode cX0_change 18 = .ok (.iload_n 2, 1) := by decide +kernel
theorem dX0_change_19 : decode cX0_change 19 = .ok (.bipush 64, 2) := by decide +kernel
theorem dX0_change_21 : decode cX0_change 21 = .ok (.idiv, 1) := by decide +kernel
theorem dX0_change_22 : decode cX0_change 22 = .ok (.bipush 7, 2) := by decide +kernel
theorem dX0_change_24 : decode cX0_change 24 = .ok (.irem, 1) := by decide +kernel
theorem dX0_change_25 : decode cX0_change 25 = .ok (.istore 5, 2) := by decide +kernel
theorem dX0_change_27 : decode cX0_change 27 = .ok (.aload_n 0, 1) := by decide +kernel
theorem dX0_change_28 : decode cX0_change 28 = .ok (.iload_n 3, 1) := by decide +kernel
theorem dX0_change_29 : decode cX0_change 29 = .ok (.iload 4, 2) := by decide +kernel
theorem dX0_change_31 : decode cX0_change 31 = .ok (.iload 5, 2) := by decide +kernel
theorem dX0_change_33 : decode cX0_change 33 = .ok (.invokevirtual 22, 3) := by decide +kernel
theorem dX0_change_36 : decode cX0_change 36 = .ok (.istore 6, 2) := by decide +kernel
theorem dX0_change_38 : decode cX0_change 38 = .ok (.iload 6, 2) := by decide +kernel
theorem dX0_change_40 : decode cX0_change 40 = .ok (.bipush (-9), 2) := by decide +kernel
theorem dX0_change_42 : decode cX0_change 42 = .ok (.if_icmp .ne 15, 3) := by decide +kernel
theorem dX0_change_45 : decode cX0_change 45 = .ok (.aload_n 0, 1) := by decide +kernel
theorem dX0_change_46 : decode cX0_change 46 = .ok (.iload_n 3, 1) := by decide +kernel
theorem dX0_change_47 : decode cX0_change 47 = .ok (.iload 4, 2) := by decide +kernel
theorem dX0_change_49 : decode cX0_change 49 = .ok (.iload 5, 2) := by decide +kernel
theorem dX0_change_51 : decode cX0_change 51 = .ok (.invokevirtual 28, 3) := by decide +kernel
theorem dX0_change_54 : decode cX0_change 54 = .ok (.goto 9, 3) := by decide +kernel
theorem dX0_change_57 : decode cX0_change 57 = .ok (.aload_n 0, 1) := by decide +kernel
theorem dX0_change_58 : decode cX0_change 58 = .ok (.iload 6, 2) := by decide +kernel
theorem dX0_change_60 : decode cX0_change 60 = .ok (.invokevirtual 32, 3) := by decide +kernel
theorem dX0_change_63 : decode cX0_change 63 = .ok (.return_, 1) := by decide +kernel
theorem dX1_init_0 : decode cX1_init 0 = .ok (.aload_n 0, 1) := by decide +kernel
theorem dX1_init_1 : decode cX1_init 1 = .ok (.invokespecial 5, 3) := by decide +kernel
theorem dX1_init_4 : decode cX1_init 4 = .ok (.aload_n 0, 1) := by decide +kernel
theorem dX1_init_5 : decode cX1_init 5 = .ok (.bipush 64, 2) := by decide +kernel
theorem dX1_init_7 : decode cX1_init 7 = .ok (.newarray .int, 2) := by decide +kernel
theorem dX1_init_9 : decode cX1_init 9 = .ok (.putfield 11, 3) := by decide +kernel
theorem dX1_init_12 : decode cX1_init 12 = .ok (.aload_n 0, 1) := by decide +kernel
theorem dX1_init_13 : decode cX1_init 13 = .ok (.iconst 0, 1) := by decide +kernel
theorem dX1_init_14 : decode cX1_init 14 = .ok (.putfield 15, 3) := by decide +kernel
theorem dX1_init_17 : decode cX1_init 17 = .ok (.return_, 1) := by decide +kernel
theorem dX1_between_0 : decode cX1_between 0 = .ok (.aload_n 0, 1) := by decide +kernel
theorem dX1_between_1 : decode cX1_between 1 = .ok (.getfield 11, 3) := by decide +kernel
theorem dX1_between_4 : decode cX1_between 4 = .ok (.bipush 8, 2) := by decide +kernel
theorem dX1_between_6 : decode cX1_between 6 = .ok (.iload_n 1, 1) := by decide +kernel
theorem dX1_between_7 : decode cX1_between 7 = .ok (.imul, 1) := by decide +kernel
theorem dX1_between_8 : decode cX1_between 8 = .ok (.iload_n 2, 1) := by decide +kernel
theorem dX1_between_9 : decode cX1_between 9 = .ok (.iadd, 1) := by decide +kernel
theorem dX1_between_10 : decode cX1_between 10 = .ok (.iaload, 1) := by decide +kernel
theorem dX1_between_11 : decode cX1_between 11 = .ok (.ireturn, 1) := by decide +kernel
set_option maxRecDepth 20000 in
theorem ggX1_reaches_X1_between : GoodIn wsX1_reaches wsX1_between := goodIn_r _ [6, 7, 8, 9] (by decide +kernel) (by decide +kernel)
set_option maxRecDepth 20000 in
theorem gX1_reaches_X1_between : GoodIn wsX1_reaches (wsV RX1 19 RX1 yX1_between wsX1_between) := goodIn_app (goodIn_of _ (by decide +kernel)) ggX1_reaches_X1_between
theorem dX1_reaches_0 : decode cX1_reaches 0 = .ok (.aload_n 0, 1) := by decide +kernel
theorem dX1_reaches_1 : decode cX1_reaches 1 = .ok (.iload_n 1, 1) := by decide +kernel
theorem dX1_reaches_2 : decode cX1_reaches 2 = .ok (.iload_n 2, 1) := by decide +kernel
theorem dX1_reaches_3 : decode cX1_reaches 3 = .ok (.invokevirtual 19, 3) := by decide +kernel
theorem dX1_reaches_6 : decode cX1_reaches 6 = .ok (.ldc 23, 2) := by decide +kernel
theorem dX1_reaches_8 : decode cX1_reaches 8 = .ok (.if_icmp .eq 7, 3) := by decide +kernel
theorem dX1_reaches_11 : decode cX1_reaches 11 = .ok (.iconst 1, 1) := by decide +kernel
theorem dX1_reaches_12 : decode cX1_reaches 12 = .ok (.goto 4, 3) := by decide +kernel
theorem dX1_reaches_15 : decode cX1_reaches 15 = .ok (.iconst 0, 1) := by decide +kernel
theorem dX1_reaches_16 : decode cX1_reaches 16 = .ok (.ireturn, 1) := by decide +kernel
set_option maxRecDepth 20000 in
theorem ggX1_measure_X1_shortenBehind : GoodIn wsX1_measure wsX1_shortenBehind := goodIn_r _ [9, 10, 11, 4, 12, 13, 14, 15, 16, 17, 18, 19, 20, 8, 21, 1, 22, 23, 24, 25, 26, 2, 27, 28, 29, 30, 3, 31, 32, 33, 34, 35, 36, 37, 38, 39, 40, 41, 42, 45, 46, 47, 48, 43, 44] (by decide +kernel) (by decide +kernel)
set_option maxRecDepth 20000 in
theorem gX1_measure_X1_shortenBehind : GoodIn wsX1_measure (wsV RX1 29 RX1 yX1_shortenBehind wsX1_shortenBehind) := goodIn_app (goodIn_of _ (by decide +kernel)) ggX1_measure_X1_shortenBehind
theorem dX1_measure_0 : decode cX1_measure 0 = .ok (.aload_n 0, 1) := by decide +kernel
theorem dX1_measure_1 : decode cX1_measure 1 = .ok (.iload_n 2, 1) := by decide +kernel
theorem dX1_measure_2 : decode cX1_measure 2 = .ok (.putfield 15, 3) := by decide +kernel
theorem dX1_measure_5 : decode cX1_measure 5 = .ok (.iconst 0, 1) := by decide +kernel
theorem dX1_measure_6 : decode cX1_measure 6 = .ok (.istore_n 3, 1) := by decide +kernel
theorem dX1_measure_7 : decode cX1_measure 7 = .ok (.iload_n 3, 1) := by decide +kernel
theorem dX1_measure_8 : decode cX1_measure 8 = .ok (.bipush 64, 2) := by decide +kernel
theorem dX1_measure_10 : decode cX1_measure 10 = .ok (.if_icmp .ge 17, 3) := by decide +kernel
theorem dX1_measure_13 : decode cX1_measure 13 = .ok (.aload_n 0, 1) := by decide +kernel
theorem dX1_measure_14 : decode cX1_measure 14 = .ok (.getfield 11, 3) := by decide +kernel
theorem dX1_measure_17 : decode cX1_measure 17 = .ok (.iload_n 3, 1) := by decide +kernel
theorem dX1_measure_18 : decode cX1_measure 18 = .ok (.ldc 23, 2) := by decide +kernel
theorem dX1_measure_20 : decode cX1_measure 20 = .ok (.iastore, 1) := by decide +kernel
theorem dX1_measure_21 : decode cX1_measure 21 = .ok (.iinc 3 1, 3) := by decide +kernel
theorem dX1_measure_24 : decode cX1_measure 24 = .ok (.goto (-17), 3) := by decide +kernel
theorem dX1_measure_27 : decode cX1_measure 27 = .ok (.iconst 0, 1) := by decide +kernel
theorem dX1_measure_28 : decode cX1_measure 28 = .ok (.istore_n 3, 1) := by decide +kernel
theorem dX1_measure_29 : decode cX1_measure 29 = .ok (.iload_n 3, 1) := by decide +kernel
theorem dX1_measure_30 : decode cX1_measure 30 = .ok (.aload_n 0, 1) := by decide +kernel
theorem dX1_measure_31 : decode cX1_measure 31 = .ok (.getfield 15, 3) := by decide +kernel
theorem dX1_measure_34 : decode cX1_measure 34 = .ok (.if_icmp .ge 21, 3) := by decide +kernel
theorem dX1_measure_37 : decode cX1_measure 37 = .ok (.aload_n 0, 1) := by decide +kernel
theorem dX1_measure_38 : decode cX1_measure 38 = .ok (.getfield 11, 3) := by decide +kernel
theorem dX1_measure_41 : decode cX1_measure 41 = .ok (.bipush 8, 2) := by decide +kernel
theorem dX1_measure_43 : decode cX1_measure 43 = .ok (.iload_n 3, 1) := by decide +kernel
theorem dX1_measure_44 : decode cX1_measure 44 = .ok (.imul, 1) := by decide +kernel
theorem dX1_measure_45 : decode cX1_measure 45 = .ok (.iload_n 3, 1) := by decide +kernel
theorem dX1_measure_46 : decode cX1_measure 46 = .ok (.iadd, 1) := by decide +kernel
theorem dX1_measure_47 : decode cX1_measure 47 = .ok (.iconst 0, 1) := by decide +kernel
theorem dX1_measure_48 : decode cX1_measure 48 = .ok (.iastore, 1) := by decide +kernel
theorem dX1_measure_49 : decode cX1_measure 49 = .ok (.iinc 3 1, 3) := by decide +kernel
theorem dX1_measure_52 : decode cX1_measure 52 = .ok (.goto (-23), 3) := by decide +kernel
theorem dX1_measure_55 : decode cX1_measure 55 = .ok (.iconst 1, 1) := by decide +kernel
theorem dX1_measure_56 : decode cX1_measure 56 = .ok (.istore_n 3, 1) := by decide +kernel
theorem dX1_measure_57 : decode cX1_measure 57 = .ok (.iconst 0, 1) := by decide +kernel
theorem dX1_measure_58 : decode cX1_measure 58 = .ok (.istore 4, 2) := by decide +kernel
theorem dX1_measure_60 : decode cX1_measure 60 = .ok (.iload 4, 2) := by decide +kernel
theorem dX1_measure_62 : decode cX1_measure 62 = .ok (.bipush 64, 2) := by decide +kernel
theorem dX1_measure_64 : decode cX1_measure 64 = .ok (.if_icmp .gt 45, 3) := by decide +kernel
theorem dX1_measure_67 : decode cX1_measure 67 = .ok (.iload_n 3, 1) := by decide +kernel
theorem dX1_measure_68 : decode cX1_measure 68 = .ok (.ifCond .eq 41, 3) := by decide +kernel
theorem dX1_measure_71 : decode cX1_measure 71 = .ok (.iconst 0, 1) := by decide +kernel
theorem dX1_measure_72 : decode cX1_measure 72 = .ok (.istore_n 3, 1) := by decide +kernel
theorem dX1_measure_73 : decode cX1_measure 73 = .ok (.iconst 0, 1) := by decide +kernel
theorem dX1_measure_74 : decode cX1_measure 74 = .ok (.istore 5, 2) := by decide +kernel
theorem dX1_measure_76 : decode cX1_measure 76 = .ok (.iload 5, 2) := by decide +kernel
theorem dX1_measure_78 : decode cX1_measure 78 = .ok (.aload_n 1, 1) := by decide +kernel
theorem dX1_measure_79 : decode cX1_measure 79 = .ok (.getfield 24, 3) := by decide +kernel
theorem dX1_measure_82 : decode cX1_measure 82 = .ok (.if_icmp .ge 21, 3) := by decide +kernel
theorem dX1_measure_85 : decode cX1_measure 85 = .ok (.aload_n 0, 1) := by decide +kernel
theorem dX1_measure_86 : decode cX1_measure 86 = .ok (.iload 5, 2) := by decide +kernel
theorem dX1_measure_88 : decode cX1_measure 88 = .ok (.aload_n 1, 1) := by decide +kernel
theorem dX1_measure_89 : decode cX1_measure 89 = .ok (.invokevirtual 29, 3) := by decide +kernel
theorem dX1_measure_92 : decode cX1_measure 92 = .ok (.ifCond .eq 5, 3) := by decide +kernel
theorem dX1_measure_95 : decode cX1_measure 95 = .ok (.iconst 1, 1) := by decide +kernel
theorem dX1_measure_96 : decode cX1_measure 96 = .ok (.istore_n 3, 1) := by decide +kernel
theorem dX1_measure_97 : decode cX1_measure 97 = .ok (.iinc 5 1, 3) := by decide +kernel
theorem dX1_measure_100 : decode cX1_measure 100 = .ok (.goto (-24), 3) := by decide +kernel
theorem dX1_measure_103 : decode cX1_measure 103 = .ok (.iinc 4 1, 3) := by decide +kernel
theorem dX1_measure_106 : decode cX1_measure 106 = .ok (.goto (-46), 3) := by decide +kernel
theorem dX1_measure_109 : decode cX1_measure 109 = .ok (.return_, 1) := by decide +kernel
set_option maxRecDepth 20000 in
theorem ggX1_shortenBehind_X2_isEmptyLabelled : GoodIn wsX1_shortenBehind wsX2_isEmptyLabelled := goodIn_r _ [8, 9, 39, 40, 41, 42] (by decide +kernel) (by decide +kernel)
set_option maxRecDepth 20000 in
theorem gX1_shortenBehind_X2_isEmptyLabelled : GoodIn wsX1_shortenBehind (wsV RX1 39 RX2 yX2_isEmptyLabelled wsX2_isEmptyLabelled) := goodIn_app (goodIn_of _ (by decide +kernel)) ggX1_shortenBehind_X2_isEmptyLabelled
set_option maxRecDepth 20000 in
theorem ggX1_shortenBehind_X1_shorten : GoodIn wsX1_shortenBehind wsX1_shorten := goodIn_r _ [14, 15, 16, 17, 18, 19, 20, 21, 22, 23, 24, 13, 25, 26, 27, 28, 29, 30, 43, 44] (by decide +kernel) (by decide +kernel)
set_option maxRecDepth 20000 in
theorem gX1_shortenBehind_X1_shorten : GoodIn wsX1_shortenBehind (wsV RX1 43 RX1 yX1_shorten wsX1_shorten) := goodIn_app (goodIn_of _ (by decide +kernel)) ggX1_shortenBehind_X1_shorten
set_option maxRecDepth 20000 in
theorem ggX1_shortenBehind_X2_opens : GoodIn wsX1_shortenBehind wsX2_opens := goodIn_r _ [34, 9, 39, 40, 41, 42] (by decide +kernel) (by decide +kernel)
set_option maxRecDepth 20000 in
theorem gX1_shortenBehind_X2_opens : GoodIn wsX1_shortenBehind (wsV RX1 47 RX2 yX2_opens wsX2_opens) := goodIn_app (goodIn_of _ (by decide +kernel)) ggX1_shortenBehind_X2_opens
set_option maxRecDepth 20000 in
theorem ggX1_shortenBehind_X2_closes : GoodIn wsX1_shortenBehind wsX2_closes := goodIn_r _ [38, 9, 39, 40, 41, 42] (by decide +kernel) (by decide +kernel)
set_option maxRecDepth 20000 in
theorem gX1_shortenBehind_X2_closes : GoodIn wsX1_shortenBehind (wsV RX1 50 RX2 yX2_closes wsX2_closes) := goodIn_app (goodIn_of _ (by decide +kernel)) ggX1_shortenBehind_X2_closes
set_option maxRecDepth 20000 in
theorem ggX1_shortenBehind_X1_reaches : GoodIn wsX1_shortenBehind wsX1_reaches := goodIn_r _ [25, 26, 27, 28, 29, 13, 30, 21, 43, 44] (by decide +kernel) (by decide +kernel)
set_option maxRecDepth 20000 in
theorem gX1_shortenBehind_X1_reaches : GoodIn wsX1_shortenBehind (wsV RX1 54 RX1 yX1_reaches wsX1_reaches) := goodIn_app (goodIn_of _ (by decide +kernel)) ggX1_shortenBehind_X1_reaches
set_option maxRecDepth 20000 in
theorem ggX1_shortenBehind_X1_between : GoodIn wsX1_shortenBehind wsX1_between := goodIn_r _ [30, 21, 43, 44] (by decide +kernel) (by decide +kernel)
set_option maxRecDepth 20000 in
theorem gX1_shortenBehind_X1_between : GoodIn wsX1_shortenBehind (wsV RX1 19 RX1 yX1_between wsX1_between) := goodIn_app (goodIn_of _ (by decide +kernel)) ggX1_shortenBehind_X1_between
theorem dX1_shortenBehind_0 : decode cX1_shortenBehind 0 = .ok (.aload_n 2, 1) := by decide +kernel
theorem dX1_shortenBehind_1 : decode cX1_shortenBehind 1 = .ok (.getfield 33, 3) := by decide +kernel
theorem dX1_shortenBehind_4 : decode cX1_shortenBehind 4 = .ok (.iload_n 1, 1) := by decide +kernel
theorem dX1_shortenBehind_5 : decode cX1_shortenBehind 5 = .ok (.iaload, 1) := by decide +kernel
theorem dX1_shortenBehind_6 : decode cX1_shortenBehind 6 = .ok (.istore_n 3, 1) := by decide +kernel
theorem dX1_shortenBehind_7 : decode cX1_shortenBehind 7 = .ok (.aload_n 2, 1) := by decide +kernel
theorem dX1_shortenBehind_8 : decode cX1_shortenBehind 8 = .ok (.getfield 36, 3) := by decide +kernel
theorem dX1_shortenBehind_11 : decode cX1_shortenBehind 11 = .ok (.iload_n 1, 1) := by decide +kernel
theorem dX1_shortenBehind_12 : decode cX1_shortenBehind 12 = .ok (.iaload, 1) := by decide +kernel
theorem dX1_shortenBehind_13 : decode cX1_shortenBehind 13 = .ok (.istore 4, 2) := by decide +kernel
theorem dX1_shortenBehind_15 : decode cX1_shortenBehind 15 = .ok (.aload_n 2, 1) := by decide +kernel
theorem dX1_shortenBehind_16 : decode cX1_shortenBehind 16 = .ok (.iload_n 1, 1) := by decide +kernel
theorem dX1_shortenBehind_17 : decode cX1_shortenBehind 17 = .ok (.invokevirtual 39, 3) := by decide +kernel
theorem dX1_shortenBehind_20 : decode cX1_shortenBehind 20 = .ok (.ifCond .eq 12, 3) := by decide +kernel
theorem dX1_shortenBehind_23 : decode cX1_shortenBehind 23 = .ok (.aload_n 0, 1) := by decide +kernel
theorem dX1_shortenBehind_24 : decode cX1_shortenBehind 24 = .ok (.iload_n 3, 1) := by decide +kernel
theorem dX1_shortenBehind_25 : decode cX1_shortenBehind 25 = .ok (.iconst 1, 1) := by decide +kernel
theorem dX1_shortenBehind_26 : decode cX1_shortenBehind 26 = .ok (.iload 4, 2) := by decide +kernel
theorem dX1_shortenBehind_28 : decode cX1_shortenBehind 28 = .ok (.invokevirtual 43, 3) := by decide +kernel
theorem dX1_shortenBehind_31 : decode cX1_shortenBehind 31 = .ok (.ireturn, 1) := by decide +kernel
theorem dX1_shortenBehind_32 : decode cX1_shortenBehind 32 = .ok (.aload_n 2, 1) := by decide +kernel
theorem dX1_shortenBehind_33 : decode cX1_shortenBehind 33 = .ok (.iload_n 1, 1) := by decide +kernel
theorem dX1_shortenBehind_34 : decode cX1_shortenBehind 34 = .ok (.invokevirtual 47, 3) := by decide +kernel
theorem dX1_shortenBehind_37 : decode cX1_shortenBehind 37 = .ok (.ifCond .ne 5, 3) := by decide +kernel
theorem dX1_shortenBehind_40 : decode cX1_shortenBehind 40 = .ok (.iconst 0, 1) := by decide +kernel
theorem dX1_shortenBehind_41 : decode cX1_shortenBehind 41 = .ok (.ireturn, 1) := by decide +kernel
theorem dX1_shortenBehind_42 : decode cX1_shortenBehind 42 = .ok (.iconst 0, 1) := by decide +kernel
theorem dX1_shortenBehind_43 : decode cX1_shortenBehind 43 = .ok (.istore 5, 2) := by decide +kernel
theorem dX1_shortenBehind_45 : decode cX1_shortenBehind 45 = .ok (.iconst 0, 1) := by decide +kernel
theorem dX1_shortenBehind_46 : decode cX1_shortenBehind 46 = .ok (.istore 6, 2) := by decide +kernel
theorem dX1_shortenBehind_48 : decode cX1_shortenBehind 48 = .ok (.iload 6, 2) := by decide +kernel
theorem dX1_shortenBehind_50 : decode cX1_shortenBehind 50 = .ok (.aload_n 2, 1) := by decide +kernel
theorem dX1_shortenBehind_51 : decode cX1_shortenBehind 51 = .ok (.getfield 24, 3) := by decide +kernel
theorem dX1_shortenBehind_54 : decode cX1_shortenBehind 54 = .ok (.if_icmp .ge 72, 3) := by decide +kernel
theorem dX1_shortenBehind_57 : decode cX1_shortenBehind 57 = .ok (.aload_n 2, 1) := by decide +kernel
theorem dX1_shortenBehind_58 : decode cX1_shortenBehind 58 = .ok (.iload 6, 2) := by decide +kernel
theorem dX1_shortenBehind_60 : decode cX1_shortenBehind 60 = .ok (.iload_n 1, 1) := by decide +kernel
theorem dX1_shortenBehind_61 : decode cX1_shortenBehind 61 = .ok (.invokevirtual 50, 3) := by decide +kernel
theorem dX1_shortenBehind_64 : decode cX1_shortenBehind 64 = .ok (.ifCond .eq 56, 3) := by decide +kernel
theorem dX1_shortenBehind_67 : decode cX1_shortenBehind 67 = .ok (.aload_n 0, 1) := by decide +kernel
theorem dX1_shortenBehind_68 : decode cX1_shortenBehind 68 = .ok (.iload 4, 2) := by decide +kernel
theorem dX1_shortenBehind_70 : decode cX1_shortenBehind 70 = .ok (.aload_n 2, 1) := by decide +kernel
theorem dX1_shortenBehind_71 : decode cX1_shortenBehind 71 = .ok (.getfield 33, 3) := by decide +kernel
theorem dX1_shortenBehind_74 : decode cX1_shortenBehind 74 = .ok (.iload 6, 2) := by decide +kernel
theorem dX1_shortenBehind_76 : decode cX1_shortenBehind 76 = .ok (.iaload, 1) := by decide +kernel
theorem dX1_shortenBehind_77 : decode cX1_shortenBehind 77 = .ok (.invokevirtual 54, 3) := by decide +kernel
theorem dX1_shortenBehind_80 : decode cX1_shortenBehind 80 = .ok (.ifCond .eq 40, 3) := by decide +kernel
theorem dX1_shortenBehind_83 : decode cX1_shortenBehind 83 = .ok (.aload_n 0, 1) := by decide +kernel
theorem dX1_shortenBehind_84 : decode cX1_shortenBehind 84 = .ok (.iload 4, 2) := by decide +kernel
theorem dX1_shortenBehind_86 : decode cX1_shortenBehind 86 = .ok (.aload_n 2, 1) := by decide +kernel
theorem dX1_shortenBehind_87 : decode cX1_shortenBehind 87 = .ok (.getfield 33, 3) := by decide +kernel
theorem dX1_shortenBehind_90 : decode cX1_shortenBehind 90 = .ok (.iload 6, 2) := by decide +kernel
theorem dX1_shortenBehind_92 : decode cX1_shortenBehind 92 = .ok (.iaload, 1) := by decide +kernel
theorem dX1_shortenBehind_93 : decode cX1_shortenBehind 93 = .ok (.invokevirtual 19, 3) := by decide +kernel
theorem dX1_shortenBehind_96 : decode cX1_shortenBehind 96 = .ok (.iconst 2, 1) := by decide +kernel
theorem dX1_shortenBehind_97 : decode cX1_shortenBehind 97 = .ok (.iadd, 1) := by decide +kernel
theorem dX1_shortenBehind_98 : decode cX1_shortenBehind 98 = .ok (.istore 7, 2) := by decide +kernel
theorem dX1_shortenBehind_100 : decode cX1_shortenBehind 100 = .ok (.aload_n 0, 1) := by decide +kernel
theorem dX1_shortenBehind_101 : decode cX1_shortenBehind 101 = .ok (.iload_n 3, 1) := by decide +kernel
theorem dX1_shortenBehind_102 : decode cX1_shortenBehind 102 = .ok (.iload 7, 2) := by decide +kernel
theorem dX1_shortenBehind_104 : decode cX1_shortenBehind 104 = .ok (.aload_n 2, 1) := by decide +kernel
theorem dX1_shortenBehind_105 : decode cX1_shortenBehind 105 = .ok (.getfield 36, 3) := by decide +kernel
theorem dX1_shortenBehind_108 : decode cX1_shortenBehind 108 = .ok (.iload 6, 2) := by decide +kernel
theorem dX1_shortenBehind_110 : decode cX1_shortenBehind 110 = .ok (.iaload, 1) := by decide +kernel
theorem dX1_shortenBehind_111 : decode cX1_shortenBehind 111 = .ok (.invokevirtual 43, 3) := by decide +kernel
theorem dX1_shortenBehind_114 : decode cX1_shortenBehind 114 = .ok (.ifCond .eq 6, 3) := by decide +kernel
theorem dX1_shortenBehind_117 : decode cX1_shortenBehind 117 = .ok (.iconst 1, 1) := by decide +kernel
theorem dX1_shortenBehind_118 : decode cX1_shortenBehind 118 = .ok (.istore 5, 2) := by decide +kernel
theorem dX1_shortenBehind_120 : decode cX1_shortenBehind 120 = .ok (.iinc 6 1, 3) := by decide +kernel
theorem dX1_shortenBehind_123 : decode cX1_shortenBehind 123 = .ok (.goto (-75), 3) := by decide +kernel
theorem dX1_shortenBehind_126 : decode cX1_shortenBehind 126 = .ok (.iload 5, 2) := by decide +kernel
theorem dX1_shortenBehind_128 : decode cX1_shortenBehind 128 = .ok (.ireturn, 1) := by decide +kernel
set_option maxRecDepth 20000 in
theorem ggX1_shorten_X1_reaches : GoodIn wsX1_shorten wsX1_reaches := goodIn_r _ [12, 13, 14, 15, 16, 11, 17, 7, 18, 19] (by decide +kernel) (by decide +kernel)
set_option maxRecDepth 20000 in
theorem gX1_shorten_X1_reaches : GoodIn wsX1_shorten (wsV RX1 54 RX1 yX1_reaches wsX1_reaches) := goodIn_app (goodIn_of _ (by decide +kernel)) ggX1_shorten_X1_reaches
set_option maxRecDepth 20000 in
theorem ggX1_shorten_X1_between : GoodIn wsX1_shorten wsX1_between := goodIn_r _ [17, 7, 18, 19] (by decide +kernel) (by decide +kernel)
set_option maxRecDepth 20000 in
theorem gX1_shorten_X1_between : GoodIn wsX1_shorten (wsV RX1 19 RX1 yX1_between wsX1_between) := goodIn_app (goodIn_of _ (by decide +kernel)) ggX1_shorten_X1_between
theorem dX1_shorten_0 : decode cX1_shorten 0 = .ok (.iconst 0, 1) := by decide +kernel
theorem dX1_shorten_1 : decode cX1_shorten 1 = .ok (.istore 4, 2) := by decide +kernel
theorem dX1_shorten_3 : decode cX1_shorten 3 = .ok (.iconst 0, 1) := by decide +kernel
theorem dX1_shorten_4 : decode cX1_shorten 4 = .ok (.istore 5, 2) := by decide +kernel
theorem dX1_shorten_6 : decode cX1_shorten 6 = .ok (.iload 5, 2) := by decide +kernel
theorem dX1_shorten_8 : decode cX1_shorten 8 = .ok (.aload_n 0, 1) := by decide +kernel
theorem dX1_shorten_9 : decode cX1_shorten 9 = .ok (.getfield 15, 3) := by decide +kernel
theorem dX1_shorten_12 : decode cX1_shorten 12 = .ok (.if_icmp .ge 64, 3) := by decide +kernel
theorem dX1_shorten_15 : decode cX1_shorten 15 = .ok (.aload_n 0, 1) := by decide +kernel
theorem dX1_shorten_16 : decode cX1_shorten 16 = .ok (.iload_n 3, 1) := by decide +kernel
theorem dX1_shorten_17 : decode cX1_shorten 17 = .ok (.iload 5, 2) := by decide +kernel
theorem dX1_shorten_19 : decode cX1_shorten 19 = .ok (.invokevirtual 54, 3) := by decide +kernel
theorem dX1_shorten_22 : decode cX1_shorten 22 = .ok (.ifCond .eq 48, 3) := by decide +kernel
theorem dX1_shorten_25 : decode cX1_shorten 25 = .ok (.iload_n 2, 1) := by decide +kernel
theorem dX1_shorten_26 : decode cX1_shorten 26 = .ok (.aload_n 0, 1) := by decide +kernel
theorem dX1_shorten_27 : decode cX1_shorten 27 = .ok (.iload_n 3, 1) := by decide +kernel
theorem dX1_shorten_28 : decode cX1_shorten 28 = .ok (.iload 5, 2) := by decide +kernel
theorem dX1_shorten_30 : decode cX1_shorten 30 = .ok (.invokevirtual 19, 3) := by decide +kernel
theorem dX1_shorten_33 : decode cX1_shorten 33 = .ok (.iadd, 1) := by decide +kernel
theorem dX1_shorten_34 : decode cX1_shorten 34 = .ok (.ldc 57, 2) := by decide +kernel
theorem dX1_shorten_36 : decode cX1_shorten 36 = .ok (.invokestatic 58, 3) := by decide +kernel
theorem dX1_shorten_39 : decode cX1_shorten 39 = .ok (.istore 6, 2) := by decide +kernel
theorem dX1_shorten_41 : decode cX1_shorten 41 = .ok (.iload 6, 2) := by decide +kernel
theorem dX1_shorten_43 : decode cX1_shorten 43 = .ok (.aload_n 0, 1) := by decide +kernel
theorem dX1_shorten_44 : decode cX1_shorten 44 = .ok (.iload_n 1, 1) := by decide +kernel
theorem dX1_shorten_45 : decode cX1_shorten 45 = .ok (.iload 5, 2) := by decide +kernel
theorem dX1_shorten_47 : decode cX1_shorten 47 = .ok (.invokevirtual 19, 3) := by decide +kernel
theorem dX1_shorten_50 : decode cX1_shorten 50 = .ok (.if_icmp .ge 20, 3) := by decide +kernel
theorem dX1_shorten_53 : decode cX1_shorten 53 = .ok (.aload_n 0, 1) := by decide +kernel
theorem dX1_shorten_54 : decode cX1_shorten 54 = .ok (.getfield 11, 3) := by decide +kernel
theorem dX1_shorten_57 : decode cX1_shorten 57 = .ok (.bipush 8, 2) := by decide +kernel
theorem dX1_shorten_59 : decode cX1_shorten 59 = .ok (.iload_n 1, 1) := by decide +kernel
theorem dX1_shorten_60 : decode cX1_shorten 60 = .ok (.imul, 1) := by decide +kernel
theorem dX1_shorten_61 : decode cX1_shorten 61 = .ok (.iload 5, 2) := by decide +kernel
theorem dX1_shorten_63 : decode cX1_shorten 63 = .ok (.iadd, 1) := by decide +kernel
theorem dX1_shorten_64 : decode cX1_shorten 64 = .ok (.iload 6, 2) := by decide +kernel
theorem dX1_shorten_66 : decode cX1_shorten 66 = .ok (.iastore, 1) := by decide +kernel
theorem dX1_shorten_67 : decode cX1_shorten 67 = .ok (.iconst 1, 1) := by decide +kernel
theorem dX1_shorten_68 : decode cX1_shorten 68 = .ok (.istore 4, 2) := by decide +kernel
theorem dX1_shorten_70 : decode cX1_shorten 70 = .ok (.iinc 5 1, 3) := by decide +kernel
theorem dX1_shorten_73 : decode cX1_shorten 73 = .ok (.goto (-67), 3) := by decide +kernel
theorem dX1_shorten_76 : decode cX1_shorten 76 = .ok (.iload 4, 2) := by decide +kernel
theorem dX1_shorten_78 : decode cX1_shorten 78 = .ok (.ireturn, 1) := by decide +kernel
set_option maxRecDepth 20000 in
theorem ggX1_edgeOnWitness_X1_between : GoodIn wsX1_edgeOnWitness wsX1_between := goodIn_r _ [8, 9, 41, 42] (by decide +kernel) (by decide +kernel)
set_option maxRecDepth 20000 in
theorem gX1_edgeOnWitness_X1_between : GoodIn wsX1_edgeOnWitness (wsV RX1 19 RX1 yX1_between wsX1_between) := goodIn_app (goodIn_of _ (by decide +kernel)) ggX1_edgeOnWitness_X1_between
set_option maxRecDepth 20000 in
theorem ggX1_edgeOnWitness_X1_firstOnWitness : GoodIn wsX1_edgeOnWitness wsX1_firstOnWitness := goodIn_r _ [13, 14, 3, 15, 16, 17, 7, 18, 2, 19, 20, 21, 22, 23, 24, 4, 5, 6, 8, 9, 25, 26, 27, 28, 29, 30, 31, 32, 33, 34, 35, 36, 37, 38, 39, 40, 41, 42] (by decide +kernel) (by decide +kernel)
set_option maxRecDepth 20000 in
theorem gX1_edgeOnWitness_X1_firstOnWitness : GoodIn wsX1_edgeOnWitness (wsV RX1 63 RX1 yX1_firstOnWitness wsX1_firstOnWitness) := goodIn_app (goodIn_of _ (by decide +kernel)) ggX1_edgeOnWitness_X1_firstOnWitness
set_option maxRecDepth 20000 in
theorem ggX1_edgeOnWitness_X2_isEmptyLabelled : GoodIn wsX1_edgeOnWitness wsX2_isEmptyLabelled := goodIn_r _ [23, 24, 37, 38, 39, 40] (by decide +kernel) (by decide +kernel)
set_option maxRecDepth 20000 in
theorem gX1_edgeOnWitness_X2_isEmptyLabelled : GoodIn wsX1_edgeOnWitness (wsV RX1 39 RX2 yX2_isEmptyLabelled wsX2_isEmptyLabelled) := goodIn_app (goodIn_of _ (by decide +kernel)) ggX1_edgeOnWitness_X2_isEmptyLabelled
set_option maxRecDepth 20000 in
theorem ggX1_edgeOnWitness_X1_closingOnWitness : GoodIn wsX1_edgeOnWitness wsX1_closingOnWitness := goodIn_r _ [32, 3, 14, 2, 4, 5, 6, 7, 8, 9, 33, 34, 35, 22, 36, 24, 37, 38, 39, 40, 41, 42] (by decide +kernel) (by decide +kernel)
set_option maxRecDepth 20000 in
theorem gX1_edgeOnWitness_X1_closingOnWitness : GoodIn wsX1_edgeOnWitness (wsV RX1 67 RX1 yX1_closingOnWitness wsX1_closingOnWitness) := goodIn_app (goodIn_of _ (by decide +kernel)) ggX1_edgeOnWitness_X1_closingOnWitness
theorem dX1_edgeOnWitness_0 : decode cX1_edgeOnWitness 0 = .ok (.aload_n 0, 1) := by decide +kernel
theorem dX1_edgeOnWitness_1 : decode cX1_edgeOnWitness 1 = .ok (.iload_n 2, 1) := by decide +kernel
theorem dX1_edgeOnWitness_2 : decode cX1_edgeOnWitness 2 = .ok (.iload_n 3, 1) := by decide +kernel
theorem dX1_edgeOnWitness_3 : decode cX1_edgeOnWitness 3 = .ok (.invokevirtual 19, 3) := by decide +kernel
theorem dX1_edgeOnWitness_6 : decode cX1_edgeOnWitness 6 = .ok (.ldc 57, 2) := by decide +kernel
theorem dX1_edgeOnWitness_8 : decode cX1_edgeOnWitness 8 = .ok (.if_icmp .ge 19, 3) := by decide +kernel
theorem dX1_edgeOnWitness_11 : decode cX1_edgeOnWitness 11 = .ok (.iload 4, 2) := by decide +kernel
theorem dX1_edgeOnWitness_13 : decode cX1_edgeOnWitness 13 = .ok (.ifCond .lt 14, 3) := by decide +kernel
theorem dX1_edgeOnWitness_16 : decode cX1_edgeOnWitness 16 = .ok (.iload 4, 2) := by decide +kernel
theorem dX1_edgeOnWitness_18 : decode cX1_edgeOnWitness 18 = .ok (.aload_n 0, 1) := by decide +kernel
theorem dX1_edgeOnWitness_19 : decode cX1_edgeOnWitness 19 = .ok (.iload_n 2, 1) := by decide +kernel
theorem dX1_edgeOnWitness_20 : decode cX1_edgeOnWitness 20 = .ok (.iload_n 3, 1) := by decide +kernel
theorem dX1_edgeOnWitness_21 : decode cX1_edgeOnWitness 21 = .ok (.invokevirtual 19, 3) := by decide +kernel
theorem dX1_edgeOnWitness_24 : decode cX1_edgeOnWitness 24 = .ok (.if_icmp .lt 6, 3) := by decide +kernel
theorem dX1_edgeOnWitness_27 : decode cX1_edgeOnWitness 27 = .ok (.bipush (-9), 2) := by decide +kernel
theorem dX1_edgeOnWitness_29 : decode cX1_edgeOnWitness 29 = .ok (.ireturn, 1) := by decide +kernel
theorem dX1_edgeOnWitness_30 : decode cX1_edgeOnWitness 30 = .ok (.iload_n 2, 1) := by decide +kernel
theorem dX1_edgeOnWitness_31 : decode cX1_edgeOnWitness 31 = .ok (.istore 5, 2) := by decide +kernel
theorem dX1_edgeOnWitness_33 : decode cX1_edgeOnWitness 33 = .ok (.iload_n 3, 1) := by decide +kernel
theorem dX1_edgeOnWitness_34 : decode cX1_edgeOnWitness 34 = .ok (.istore 6, 2) := by decide +kernel
theorem dX1_edgeOnWitness_36 : decode cX1_edgeOnWitness 36 = .ok (.iload 4, 2) := by decide +kernel
theorem dX1_edgeOnWitness_38 : decode cX1_edgeOnWitness 38 = .ok (.istore 7, 2) := by decide +kernel
theorem dX1_edgeOnWitness_40 : decode cX1_edgeOnWitness 40 = .ok (.iconst 0, 1) := by decide +kernel
theorem dX1_edgeOnWitness_41 : decode cX1_edgeOnWitness 41 = .ok (.istore 8, 2) := by decide +kernel
theorem dX1_edgeOnWitness_43 : decode cX1_edgeOnWitness 43 = .ok (.iload 8, 2) := by decide +kernel
theorem dX1_edgeOnWitness_45 : decode cX1_edgeOnWitness 45 = .ok (.bipush 64, 2) := by decide +kernel
theorem dX1_edgeOnWitness_47 : decode cX1_edgeOnWitness 47 = .ok (.if_icmp .gt 156, 3) := by decide +kernel
theorem dX1_edgeOnWitness_50 : decode cX1_edgeOnWitness 50 = .ok (.aload_n 0, 1) := by decide +kernel
theorem dX1_edgeOnWitness_51 : decode cX1_edgeOnWitness 51 = .ok (.aload_n 1, 1) := by decide +kernel
theorem dX1_edgeOnWitness_52 : decode cX1_edgeOnWitness 52 = .ok (.iload 5, 2) := by decide +kernel
theorem dX1_edgeOnWitness_54 : decode cX1_edgeOnWitness 54 = .ok (.iload 6, 2) := by decide +kernel
theorem dX1_edgeOnWitness_56 : decode cX1_edgeOnWitness 56 = .ok (.invokevirtual 63, 3) := by decide +kernel
theorem dX1_edgeOnWitness_59 : decode cX1_edgeOnWitness 59 = .ok (.istore 9, 2) := by decide +kernel
theorem dX1_edgeOnWitness_61 : decode cX1_edgeOnWitness 61 = .ok (.iload 9, 2) := by decide +kernel
theorem dX1_edgeOnWitness_63 : decode cX1_edgeOnWitness 63 = .ok (.bipush (-9), 2) := by decide +kernel
theorem dX1_edgeOnWitness_65 : decode cX1_edgeOnWitness 65 = .ok (.if_icmp .eq 8, 3) := by decide +kernel
theorem dX1_edgeOnWitness_68 : decode cX1_edgeOnWitness 68 = .ok (.iload 7, 2) := by decide +kernel
theorem dX1_edgeOnWitness_70 : decode cX1_edgeOnWitness 70 = .ok (.ifCond .ne 6, 3) := by decide +kernel
theorem dX1_edgeOnWitness_73 : decode cX1_edgeOnWitness 73 = .ok (.iload 9, 2) := by decide +kernel
theorem dX1_edgeOnWitness_75 : decode cX1_edgeOnWitness 75 = .ok (.ireturn, 1) := by decide +kernel
theorem dX1_edgeOnWitness_76 : decode cX1_edgeOnWitness 76 = .ok (.iinc 7 (-1), 3) := by decide +kernel
theorem dX1_edgeOnWitness_79 : decode cX1_edgeOnWitness 79 = .ok (.aload_n 1, 1) := by decide +kernel
theorem dX1_edgeOnWitness_80 : decode cX1_edgeOnWitness 80 = .ok (.iload 9, 2) := by decide +kernel
theorem dX1_edgeOnWitness_82 : decode cX1_edgeOnWitness 82 = .ok (.invokevirtual 39, 3) := by decide +kernel
theorem dX1_edgeOnWitness_85 : decode cX1_edgeOnWitness 85 = .ok (.ifCond .eq 15, 3) := by decide +kernel
theorem dX1_edgeOnWitness_88 : decode cX1_edgeOnWitness 88 = .ok (.aload_n 1, 1) := by decide +kernel
theorem dX1_edgeOnWitness_89 : decode cX1_edgeOnWitness 89 = .ok (.getfield 36, 3) := by decide +kernel
theorem dX1_edgeOnWitness_92 : decode cX1_edgeOnWitness 92 = .ok (.iload 9, 2) := by decide +kernel
theorem dX1_edgeOnWitness_94 : decode cX1_edgeOnWitness 94 = .ok (.iaload, 1) := by decide +kernel
theorem dX1_edgeOnWitness_95 : decode cX1_edgeOnWitness 95 = .ok (.istore 5, 2) := by decide +kernel
theorem dX1_edgeOnWitness_97 : decode cX1_edgeOnWitness 97 = .ok (.goto 100, 3) := by decide +kernel
theorem dX1_edgeOnWitness_100 : decode cX1_edgeOnWitness 100 = .ok (.aload_n 0, 1) := by decide +kernel
theorem dX1_edgeOnWitness_101 : decode cX1_edgeOnWitness 101 = .ok (.aload_n 1, 1) := by decide +kernel
theorem dX1_edgeOnWitness_102 : decode cX1_edgeOnWitness 102 = .ok (.iload 9, 2) := by decide +kernel
theorem dX1_edgeOnWitness_104 : decode cX1_edgeOnWitness 104 = .ok (.iload 6, 2) := by decide +kernel
theorem dX1_edgeOnWitness_106 : decode cX1_edgeOnWitness 106 = .ok (.invokevirtual 67, 3) := by decide +kernel
theorem dX1_edgeOnWitness_109 : decode cX1_edgeOnWitness 109 = .ok (.istore 10, 2) := by decide +kernel
theorem dX1_edgeOnWitness_111 : decode cX1_edgeOnWitness 111 = .ok (.iload 10, 2) := by decide +kernel
theorem dX1_edgeOnWitness_113 : decode cX1_edgeOnWitness 113 = .ok (.bipush (-9), 2) := by decide +kernel
theorem dX1_edgeOnWitness_115 : decode cX1_edgeOnWitness 115 = .ok (.if_icmp .ne 6, 3) := by decide +kernel
theorem dX1_edgeOnWitness_118 : decode cX1_edgeOnWitness 118 = .ok (.bipush (-9), 2) := by decide +kernel
theorem dX1_edgeOnWitness_120 : decode cX1_edgeOnWitness 120 = .ok (.ireturn, 1) := by decide +kernel
theorem dX1_edgeOnWitness_121 : decode cX1_edgeOnWitness 121 = .ok (.aload_n 0, 1) := by decide +kernel
theorem dX1_edgeOnWitness_122 : decode cX1_edgeOnWitness 122 = .ok (.aload_n 1, 1) := by decide +kernel
theorem dX1_edgeOnWitness_123 : decode cX1_edgeOnWitness 123 = .ok (.getfield 36, 3) := by decide +kernel
theorem dX1_edgeOnWitness_126 : decode cX1_edgeOnWitness 126 = .ok (.iload 9, 2) := by decide +kernel
theorem dX1_edgeOnWitness_128 : decode cX1_edgeOnWitness 128 = .ok (.iaload, 1) := by decide +kernel
theorem dX1_edgeOnWitness_129 : decode cX1_edgeOnWitness 129 = .ok (.aload_n 1, 1) := by decide +kernel
theorem dX1_edgeOnWitness_130 : decode cX1_edgeOnWitness 130 = .ok (.getfield 33, 3) := by decide +kernel
theorem dX1_edgeOnWitness_133 : decode cX1_edgeOnWitness 133 = .ok (.iload 10, 2) := by decide +kernel
theorem dX1_edgeOnWitness_135 : decode cX1_edgeOnWitness 135 = .ok (.iaload, 1) := by decide +kernel
theorem dX1_edgeOnWitness_136 : decode cX1_edgeOnWitness 136 = .ok (.invokevirtual 19, 3) := by decide +kernel
theorem dX1_edgeOnWitness_139 : decode cX1_edgeOnWitness 139 = .ok (.istore 11, 2) := by decide +kernel
theorem dX1_edgeOnWitness_141 : decode cX1_edgeOnWitness 141 = .ok (.iload 7, 2) := by decide +kernel
theorem dX1_edgeOnWitness_143 : decode cX1_edgeOnWitness 143 = .ok (.iload 11, 2) := by decide +kernel
theorem dX1_edgeOnWitness_145 : decode cX1_edgeOnWitness 145 = .ok (.if_icmp .ne 6, 3) := by decide +kernel
theorem dX1_edgeOnWitness_148 : decode cX1_edgeOnWitness 148 = .ok (.iload 10, 2) := by decide +kernel
theorem dX1_edgeOnWitness_150 : decode cX1_edgeOnWitness 150 = .ok (.ireturn, 1) := by decide +kernel
theorem dX1_edgeOnWitness_151 : decode cX1_edgeOnWitness 151 = .ok (.iload 7, 2) := by decide +kernel
theorem dX1_edgeOnWitness_153 : decode cX1_edgeOnWitness 153 = .ok (.iload 11, 2) := by decide +kernel
theorem dX1_edgeOnWitness_155 : decode cX1_edgeOnWitness 155 = .ok (.if_icmp .ge 24, 3) := by decide +kernel
theorem dX1_edgeOnWitness_158 : decode cX1_edgeOnWitness 158 = .ok (.aload_n 1, 1) := by decide +kernel
theorem dX1_edgeOnWitness_159 : decode cX1_edgeOnWitness 159 = .ok (.getfield 36, 3) := by decide +kernel
theorem dX1_edgeOnWitness_162 : decode cX1_edgeOnWitness 162 = .ok (.iload 9, 2) := by decide +kernel
theorem dX1_edgeOnWitness_164 : decode cX1_edgeOnWitness 164 = .ok (.iaload, 1) := by decide +kernel
theorem dX1_edgeOnWitness_165 : decode cX1_edgeOnWitness 165 = .ok (.istore 5, 2) := by decide +kernel
theorem dX1_edgeOnWitness_167 : decode cX1_edgeOnWitness 167 = .ok (.aload_n 1, 1) := by decide +kernel
theorem dX1_edgeOnWitness_168 : decode cX1_edgeOnWitness 168 = .ok (.getfield 33, 3) := by decide +kernel
theorem dX1_edgeOnWitness_171 : decode cX1_edgeOnWitness 171 = .ok (.iload 10, 2) := by decide +kernel
theorem dX1_edgeOnWitness_173 : decode cX1_edgeOnWitness 173 = .ok (.iaload, 1) := by decide +kernel
theorem dX1_edgeOnWitness_174 : decode cX1_edgeOnWitness 174 = .ok (.istore 6, 2) := by decide +kernel
theorem dX1_edgeOnWitness_176 : decode cX1_edgeOnWitness 176 = .ok (.goto 21, 3) := by decide +kernel
theorem dX1_edgeOnWitness_179 : decode cX1_edgeOnWitness 179 = .ok (.aload_n 1, 1) := by decide +kernel
theorem dX1_edgeOnWitness_180 : decode cX1_edgeOnWitness 180 = .ok (.getfield 36, 3) := by decide +kernel
theorem dX1_edgeOnWitness_183 : decode cX1_edgeOnWitness 183 = .ok (.iload 10, 2) := by decide +kernel
theorem dX1_edgeOnWitness_185 : decode cX1_edgeOnWitness 185 = .ok (.iaload, 1) := by decide +kernel
theorem dX1_edgeOnWitness_186 : decode cX1_edgeOnWitness 186 = .ok (.istore 5, 2) := by decide +kernel
theorem dX1_edgeOnWitness_188 : decode cX1_edgeOnWitness 188 = .ok (.iload 7, 2) := by decide +kernel
theorem dX1_edgeOnWitness_190 : decode cX1_edgeOnWitness 190 = .ok (.iload 11, 2) := by decide +kernel
theorem dX1_edgeOnWitness_192 : decode cX1_edgeOnWitness 192 = .ok (.iconst 1, 1) := by decide +kernel
theorem dX1_edgeOnWitness_193 : decode cX1_edgeOnWitness 193 = .ok (.iadd, 1) := by decide +kernel
theorem dX1_edgeOnWitness_194 : decode cX1_edgeOnWitness 194 = .ok (.isub, 1) := by decide +kernel
theorem dX1_edgeOnWitness_195 : decode cX1_edgeOnWitness 195 = .ok (.istore 7, 2) := by decide +kernel
theorem dX1_edgeOnWitness_197 : decode cX1_edgeOnWitness 197 = .ok (.iinc 8 1, 3) := by decide +kernel
theorem dX1_edgeOnWitness_200 : decode cX1_edgeOnWitness 200 = .ok (.goto (-157), 3) := by decide +kernel
theorem dX1_edgeOnWitness_203 : decode cX1_edgeOnWitness 203 = .ok (.bipush (-9), 2) := by decide +kernel
theorem dX1_edgeOnWitness_205 : decode cX1_edgeOnWitness 205 = .ok (.ireturn, 1) := by decide +kernel
set_option maxRecDepth 20000 in
theorem ggX1_firstOnWitness_X1_beginsShortest : GoodIn wsX1_firstOnWitness wsX1_beginsShortest := goodIn_r _ [7, 2, 8, 9, 10, 11, 12, 13, 14, 15, 16, 17, 6, 18, 19, 20, 21, 22, 23, 24, 25, 26, 27, 1, 28, 29, 30, 31, 32, 33, 34, 35, 36, 37] (by decide +kernel) (by decide +kernel)
set_option maxRecDepth 20000 in
theorem gX1_firstOnWitness_X1_beginsShortest : GoodIn wsX1_firstOnWitness (wsV RX1 70 RX1 yX1_beginsShortest wsX1_beginsShortest) := goodIn_app (goodIn_of _ (by decide +kernel)) ggX1_firstOnWitness_X1_beginsShortest
theorem dX1_firstOnWitness_0 : decode cX1_firstOnWitness 0 = .ok (.iconst 0, 1) := by decide +kernel
theorem dX1_firstOnWitness_1 : decode cX1_firstOnWitness 1 = .ok (.istore 4, 2) := by decide +kernel
theorem dX1_firstOnWitness_3 : decode cX1_firstOnWitness 3 = .ok (.iload 4, 2) := by decide +kernel
theorem dX1_firstOnWitness_5 : decode cX1_firstOnWitness 5 = .ok (.aload_n 1, 1) := by decide +kernel
theorem dX1_firstOnWitness_6 : decode cX1_firstOnWitness 6 = .ok (.getfield 24, 3) := by decide +kernel
theorem dX1_firstOnWitness_9 : decode cX1_firstOnWitness 9 = .ok (.if_icmp .ge 34, 3) := by decide +kernel
theorem dX1_firstOnWitness_12 : decode cX1_firstOnWitness 12 = .ok (.aload_n 1, 1) := by decide +kernel
theorem dX1_firstOnWitness_13 : decode cX1_firstOnWitness 13 = .ok (.getfield 33, 3) := by decide +kernel
theorem dX1_firstOnWitness_16 : decode cX1_firstOnWitness 16 = .ok (.iload 4, 2) := by decide +kernel
theorem dX1_firstOnWitness_18 : decode cX1_firstOnWitness 18 = .ok (.iaload, 1) := by decide +kernel
theorem dX1_firstOnWitness_19 : decode cX1_firstOnWitness 19 = .ok (.iload_n 2, 1) := by decide +kernel
theorem dX1_firstOnWitness_20 : decode cX1_firstOnWitness 20 = .ok (.if_icmp .ne 17, 3) := by decide +kernel
theorem dX1_firstOnWitness_23 : decode cX1_firstOnWitness 23 = .ok (.aload_n 0, 1) := by decide +kernel
theorem dX1_firstOnWitness_24 : decode cX1_firstOnWitness 24 = .ok (.aload_n 1, 1) := by decide +kernel
theorem dX1_firstOnWitness_25 : decode cX1_firstOnWitness 25 = .ok (.iload 4, 2) := by decide +kernel
theorem dX1_firstOnWitness_27 : decode cX1_firstOnWitness 27 = .ok (.iload_n 3, 1) := by decide +kernel
theorem dX1_firstOnWitness_28 : decode cX1_firstOnWitness 28 = .ok (.invokevirtual 70, 3) := by decide +kernel
theorem dX1_firstOnWitness_31 : decode cX1_firstOnWitness 31 = .ok (.ifCond .eq 6, 3) := by decide +kernel
theorem dX1_firstOnWitness_34 : decode cX1_firstOnWitness 34 = .ok (.iload 4, 2) := by decide +kernel
theorem dX1_firstOnWitness_36 : decode cX1_firstOnWitness 36 = .ok (.ireturn, 1) := by decide +kernel
theorem dX1_firstOnWitness_37 : decode cX1_firstOnWitness 37 = .ok (.iinc 4 1, 3) := by decide +kernel
theorem dX1_firstOnWitness_40 : decode cX1_firstOnWitness 40 = .ok (.goto (-37), 3) := by decide +kernel
theorem dX1_firstOnWitness_43 : decode cX1_firstOnWitness 43 = .ok (.bipush (-9), 2) := by decide +kernel
theorem dX1_firstOnWitness_45 : decode cX1_firstOnWitness 45 = .ok (.ireturn, 1) := by decide +kernel
set_option maxRecDepth 20000 in
theorem ggX1_beginsShortest_X2_isEmptyLabelled : GoodIn wsX1_beginsShortest wsX2_isEmptyLabelled := goodIn_r _ [7, 8, 28, 29, 30, 31] (by decide +kernel) (by decide +kernel)
set_option maxRecDepth 20000 in
theorem gX1_beginsShortest_X2_isEmptyLabelled : GoodIn wsX1_beginsShortest (wsV RX1 39 RX2 yX2_isEmptyLabelled wsX2_isEmptyLabelled) := goodIn_app (goodIn_of _ (by decide +kernel)) ggX1_beginsShortest_X2_isEmptyLabelled
set_option maxRecDepth 20000 in
theorem ggX1_beginsShortest_X1_between : GoodIn wsX1_beginsShortest wsX1_between := goodIn_r _ [13, 14, 32, 33] (by decide +kernel) (by decide +kernel)
set_option maxRecDepth 20000 in
theorem gX1_beginsShortest_X1_between : GoodIn wsX1_beginsShortest (wsV RX1 19 RX1 yX1_between wsX1_between) := goodIn_app (goodIn_of _ (by decide +kernel)) ggX1_beginsShortest_X1_between
set_option maxRecDepth 20000 in
theorem ggX1_beginsShortest_X2_opens : GoodIn wsX1_beginsShortest wsX2_opens := goodIn_r _ [18, 8, 28, 29, 30, 31] (by decide +kernel) (by decide +kernel)
set_option maxRecDepth 20000 in
theorem gX1_beginsShortest_X2_opens : GoodIn wsX1_beginsShortest (wsV RX1 47 RX2 yX2_opens wsX2_opens) := goodIn_app (goodIn_of _ (by decide +kernel)) ggX1_beginsShortest_X2_opens
set_option maxRecDepth 20000 in
theorem ggX1_beginsShortest_X1_closingOnWitness : GoodIn wsX1_beginsShortest wsX1_closingOnWitness := goodIn_r _ [22, 1, 23, 2, 9, 10, 11, 12, 13, 14, 24, 25, 26, 6, 27, 8, 28, 29, 30, 31, 32, 33] (by decide +kernel) (by decide +kernel)
set_option maxRecDepth 20000 in
theorem gX1_beginsShortest_X1_closingOnWitness : GoodIn wsX1_beginsShortest (wsV RX1 67 RX1 yX1_closingOnWitness wsX1_closingOnWitness) := goodIn_app (goodIn_of _ (by decide +kernel)) ggX1_beginsShortest_X1_closingOnWitness
theorem dX1_beginsShortest_0 : decode cX1_beginsShortest 0 = .ok (.aload_n 1, 1) := by decide +kernel
theorem dX1_beginsShortest_1 : decode cX1_beginsShortest 1 = .ok (.iload_n 2, 1) := by decide +kernel
theorem dX1_beginsShortest_2 : decode cX1_beginsShortest 2 = .ok (.invokevirtual 39, 3) := by decide +kernel
theorem dX1_beginsShortest_5 : decode cX1_beginsShortest 5 = .ok (.ifCond .eq 36, 3) := by decide +kernel
theorem dX1_beginsShortest_8 : decode cX1_beginsShortest 8 = .ok (.aload_n 0, 1) := by decide +kernel
theorem dX1_beginsShortest_9 : decode cX1_beginsShortest 9 = .ok (.aload_n 1, 1) := by decide +kernel
theorem dX1_beginsShortest_10 : decode cX1_beginsShortest 10 = .ok (.getfield 33, 3) := by decide +kernel
theorem dX1_beginsShortest_13 : decode cX1_beginsShortest 13 = .ok (.iload_n 2, 1) := by decide +kernel
theorem dX1_beginsShortest_14 : decode cX1_beginsShortest 14 = .ok (.iaload, 1) := by decide +kernel
theorem dX1_beginsShortest_15 : decode cX1_beginsShortest 15 = .ok (.iload_n 3, 1) := by decide +kernel
theorem dX1_beginsShortest_16 : decode cX1_beginsShortest 16 = .ok (.invokevirtual 19, 3) := by decide +kernel
theorem dX1_beginsShortest_19 : decode cX1_beginsShortest 19 = .ok (.aload_n 0, 1) := by decide +kernel
theorem dX1_beginsShortest_20 : decode cX1_beginsShortest 20 = .ok (.aload_n 1, 1) := by decide +kernel
theorem dX1_beginsShortest_21 : decode cX1_beginsShortest 21 = .ok (.getfield 36, 3) := by decide +kernel
theorem dX1_beginsShortest_24 : decode cX1_beginsShortest 24 = .ok (.iload_n 2, 1) := by decide +kernel
theorem dX1_beginsShortest_25 : decode cX1_beginsShortest 25 = .ok (.iaload, 1) := by decide +kernel
theorem dX1_beginsShortest_26 : decode cX1_beginsShortest 26 = .ok (.iload_n 3, 1) := by decide +kernel
theorem dX1_beginsShortest_27 : decode cX1_beginsShortest 27 = .ok (.invokevirtual 19, 3) := by decide +kernel
theorem dX1_beginsShortest_30 : decode cX1_beginsShortest 30 = .ok (.iconst 1, 1) := by decide +kernel
theorem dX1_beginsShortest_31 : decode cX1_beginsShortest 31 = .ok (.iadd, 1) := by decide +kernel
theorem dX1_beginsShortest_32 : decode cX1_beginsShortest 32 = .ok (.if_icmp .ne 7, 3) := by decide +kernel
theorem dX1_beginsShortest_35 : decode cX1_beginsShortest 35 = .ok (.iconst 1, 1) := by decide +kernel
theorem dX1_beginsShortest_36 : decode cX1_beginsShortest 36 = .ok (.goto 4, 3) := by decide +kernel
theorem dX1_beginsShortest_39 : decode cX1_beginsShortest 39 = .ok (.iconst 0, 1) := by decide +kernel
theorem dX1_beginsShortest_40 : decode cX1_beginsShortest 40 = .ok (.ireturn, 1) := by decide +kernel
theorem dX1_beginsShortest_41 : decode cX1_beginsShortest 41 = .ok (.aload_n 1, 1) := by decide +kernel
theorem dX1_beginsShortest_42 : decode cX1_beginsShortest 42 = .ok (.iload_n 2, 1) := by decide +kernel
theorem dX1_beginsShortest_43 : decode cX1_beginsShortest 43 = .ok (.invokevirtual 47, 3) := by decide +kernel
theorem dX1_beginsShortest_46 : decode cX1_beginsShortest 46 = .ok (.ifCond .eq 19, 3) := by decide +kernel
theorem dX1_beginsShortest_49 : decode cX1_beginsShortest 49 = .ok (.aload_n 0, 1) := by decide +kernel
theorem dX1_beginsShortest_50 : decode cX1_beginsShortest 50 = .ok (.aload_n 1, 1) := by decide +kernel
theorem dX1_beginsShortest_51 : decode cX1_beginsShortest 51 = .ok (.iload_n 2, 1) := by decide +kernel
theorem dX1_beginsShortest_52 : decode cX1_beginsShortest 52 = .ok (.iload_n 3, 1) := by decide +kernel
theorem dX1_beginsShortest_53 : decode cX1_beginsShortest 53 = .ok (.invokevirtual 67, 3) := by decide +kernel
theorem dX1_beginsShortest_56 : decode cX1_beginsShortest 56 = .ok (.bipush (-9), 2) := by decide +kernel
theorem dX1_beginsShortest_58 : decode cX1_beginsShortest 58 = .ok (.if_icmp .eq 7, 3) := by decide +kernel
theorem dX1_beginsShortest_61 : decode cX1_beginsShortest 61 = .ok (.iconst 1, 1) := by decide +kernel
theorem dX1_beginsShortest_62 : decode cX1_beginsShortest 62 = .ok (.goto 4, 3) := by decide +kernel
theorem dX1_beginsShortest_65 : decode cX1_beginsShortest 65 = .ok (.iconst 0, 1) := by decide +kernel
theorem dX1_beginsShortest_66 : decode cX1_beginsShortest 66 = .ok (.ireturn, 1) := by decide +kernel
set_option maxRecDepth 20000 in
theorem ggX1_closingOnWitness_X1_between : GoodIn wsX1_closingOnWitness wsX1_between := goodIn_r _ [8, 9, 20, 21] (by decide +kernel) (by decide +kernel)
set_option maxRecDepth 20000 in
theorem gX1_closingOnWitness_X1_between : GoodIn wsX1_closingOnWitness (wsV RX1 19 RX1 yX1_between wsX1_between) := goodIn_app (goodIn_of _ (by decide +kernel)) ggX1_closingOnWitness_X1_between
set_option maxRecDepth 20000 in
theorem ggX1_closingOnWitness_X2_closes : GoodIn wsX1_closingOnWitness wsX2_closes := goodIn_r _ [14, 15, 16, 17, 18, 19] (by decide +kernel) (by decide +kernel)
set_option maxRecDepth 20000 in
theorem gX1_closingOnWitness_X2_closes : GoodIn wsX1_closingOnWitness (wsV RX1 50 RX2 yX2_closes wsX2_closes) := goodIn_app (goodIn_of _ (by decide +kernel)) ggX1_closingOnWitness_X2_closes
theorem dX1_closingOnWitness_0 : decode cX1_closingOnWitness 0 = .ok (.aload_n 0, 1) := by decide +kernel
theorem dX1_closingOnWitness_1 : decode cX1_closingOnWitness 1 = .ok (.aload_n 1, 1) := by decide +kernel
theorem dX1_closingOnWitness_2 : decode cX1_closingOnWitness 2 = .ok (.getfield 33, 3) := by decide +kernel
theorem dX1_closingOnWitness_5 : decode cX1_closingOnWitness 5 = .ok (.iload_n 2, 1) := by decide +kernel
theorem dX1_closingOnWitness_6 : decode cX1_closingOnWitness 6 = .ok (.iaload, 1) := by decide +kernel
theorem dX1_closingOnWitness_7 : decode cX1_closingOnWitness 7 = .ok (.iload_n 3, 1) := by decide +kernel
theorem dX1_closingOnWitness_8 : decode cX1_closingOnWitness 8 = .ok (.invokevirtual 19, 3) := by decide +kernel
theorem dX1_closingOnWitness_11 : decode cX1_closingOnWitness 11 = .ok (.istore 4, 2) := by decide +kernel
theorem dX1_closingOnWitness_13 : decode cX1_closingOnWitness 13 = .ok (.iconst 0, 1) := by decide +kernel
theorem dX1_closingOnWitness_14 : decode cX1_closingOnWitness 14 = .ok (.istore 5, 2) := by decide +kernel
theorem dX1_closingOnWitness_16 : decode cX1_closingOnWitness 16 = .ok (.iload 5, 2) := by decide +kernel
theorem dX1_closingOnWitness_18 : decode cX1_closingOnWitness 18 = .ok (.aload_n 1, 1) := by decide +kernel
theorem dX1_closingOnWitness_19 : decode cX1_closingOnWitness 19 = .ok (.getfield 24, 3) := by decide +kernel
theorem dX1_closingOnWitness_22 : decode cX1_closingOnWitness 22 = .ok (.if_icmp .ge 67, 3) := by decide +kernel
theorem dX1_closingOnWitness_25 : decode cX1_closingOnWitness 25 = .ok (.aload_n 1, 1) := by decide +kernel
theorem dX1_closingOnWitness_26 : decode cX1_closingOnWitness 26 = .ok (.iload 5, 2) := by decide +kernel
theorem dX1_closingOnWitness_28 : decode cX1_closingOnWitness 28 = .ok (.iload_n 2, 1) := by decide +kernel
theorem dX1_closingOnWitness_29 : decode cX1_closingOnWitness 29 = .ok (.invokevirtual 50, 3) := by decide +kernel
theorem dX1_closingOnWitness_32 : decode cX1_closingOnWitness 32 = .ok (.ifCond .eq 51, 3) := by decide +kernel
theorem dX1_closingOnWitness_35 : decode cX1_closingOnWitness 35 = .ok (.aload_n 0, 1) := by decide +kernel
theorem dX1_closingOnWitness_36 : decode cX1_closingOnWitness 36 = .ok (.aload_n 1, 1) := by decide +kernel
theorem dX1_closingOnWitness_37 : decode cX1_closingOnWitness 37 = .ok (.getfield 36, 3) := by decide +kernel
theorem dX1_closingOnWitness_40 : decode cX1_closingOnWitness 40 = .ok (.iload_n 2, 1) := by decide +kernel
theorem dX1_closingOnWitness_41 : decode cX1_closingOnWitness 41 = .ok (.iaload, 1) := by decide +kernel
theorem dX1_closingOnWitness_42 : decode cX1_closingOnWitness 42 = .ok (.aload_n 1, 1) := by decide +kernel
theorem dX1_closingOnWitness_43 : decode cX1_closingOnWitness 43 = .ok (.getfield 33, 3) := by decide +kernel
theorem dX1_closingOnWitness_46 : decode cX1_closingOnWitness 46 = .ok (.iload 5, 2) := by decide +kernel
theorem dX1_closingOnWitness_48 : decode cX1_closingOnWitness 48 = .ok (.iaload, 1) := by decide +kernel
theorem dX1_closingOnWitness_49 : decode cX1_closingOnWitness 49 = .ok (.invokevirtual 19, 3) := by decide +kernel
theorem dX1_closingOnWitness_52 : decode cX1_closingOnWitness 52 = .ok (.istore 6, 2) := by decide +kernel
end
section
theorem dX1_closingOnWitness_54 : decode cX1_closingOnWitness 54 = .ok (.aload_n 0, 1) := by decide +kernel
theorem dX1_closingOnWitness_55 : decode cX1_closingOnWitness 55 = .ok (.aload_n 1, 1) := by decide +kernel
theorem dX1_closingOnWitness_56 : decode cX1_closingOnWitness 56 = .ok (.getfield 36, 3) := by decide +kernel
theorem dX1_closingOnWitness_59 : decode cX1_closingOnWitness 59 = .ok (.iload 5, 2) := by decide +kernel
theorem dX1_closingOnWitness_61 : decode cX1_closingOnWitness 61 = .ok (.iaload, 1) := by decide +kernel
theorem dX1_closingOnWitness_62 : decode cX1_closingOnWitness 62 = .ok (.iload_n 3, 1) := by decide +kernel
theorem dX1_closingOnWitness_63 : decode cX1_closingOnWitness 63 = .ok (.invokevirtual 19, 3) := by decide +kernel
theorem dX1_closingOnWitness_66 : decode cX1_closingOnWitness 66 = .ok (.istore 7, 2) := by decide +kernel
theorem dX1_closingOnWitness_68 : decode cX1_closingOnWitness 68 = .ok (.iload 6, 2) := by decide +kernel
theorem dX1_closingOnWitness_70 : decode cX1_closingOnWitness 70 = .ok (.iload 7, 2) := by decide +kernel
theorem dX1_closingOnWitness_72 : decode cX1_closingOnWitness 72 = .ok (.iadd, 1) := by decide +kernel
theorem dX1_closingOnWitness_73 : decode cX1_closingOnWitness 73 = .ok (.iconst 2, 1) := by decide +kernel
theorem dX1_closingOnWitness_74 : decode cX1_closingOnWitness 74 = .ok (.iadd, 1) := by decide +kernel
theorem dX1_closingOnWitness_75 : decode cX1_closingOnWitness 75 = .ok (.iload 4, 2) := by decide +kernel
theorem dX1_closingOnWitness_77 : decode cX1_closingOnWitness 77 = .ok (.if_icmp .ne 6, 3) := by decide +kernel
theorem dX1_closingOnWitness_80 : decode cX1_closingOnWitness 80 = .ok (.iload 5, 2) := by decide +kernel
theorem dX1_closingOnWitness_82 : decode cX1_closingOnWitness 82 = .ok (.ireturn, 1) := by decide +kernel
theorem dX1_closingOnWitness_83 : decode cX1_closingOnWitness 83 = .ok (.iinc 5 1, 3) := by decide +kernel
theorem dX1_closingOnWitness_86 : decode cX1_closingOnWitness 86 = .ok (.goto (-70), 3) := by decide +kernel
theorem dX1_closingOnWitness_89 : decode cX1_closingOnWitness 89 = .ok (.bipush (-9), 2) := by decide +kernel
theorem dX1_closingOnWitness_91 : decode cX1_closingOnWitness 91 = .ok (.ireturn, 1) := by decide +kernel
theorem dX2_init_0 : decode cX2_init 0 = .ok (.aload_n 0, 1) := by decide +kernel
theorem dX2_init_1 : decode cX2_init 1 = .ok (.invokespecial 3, 3) := by decide +kernel
theorem dX2_init_4 : decode cX2_init 4 = .ok (.aload_n 0, 1) := by decide +kernel
theorem dX2_init_5 : decode cX2_init 5 = .ok (.iload_n 1, 1) := by decide +kernel
theorem dX2_init_6 : decode cX2_init 6 = .ok (.newarray .int, 2) := by decide +kernel
theorem dX2_init_8 : decode cX2_init 8 = .ok (.putfield 9, 3) := by decide +kernel
theorem dX2_init_11 : decode cX2_init 11 = .ok (.aload_n 0, 1) := by decide +kernel
theorem dX2_init_12 : decode cX2_init 12 = .ok (.iload_n 1, 1) := by decide +kernel
theorem dX2_init_13 : decode cX2_init 13 = .ok (.newarray .int, 2) := by decide +kernel
theorem dX2_init_15 : decode cX2_init 15 = .ok (.putfield 15, 3) := by decide +kernel
theorem dX2_init_18 : decode cX2_init 18 = .ok (.aload_n 0, 1) := by decide +kernel
theorem dX2_init_19 : decode cX2_init 19 = .ok (.iload_n 1, 1) := by decide +kernel
theorem dX2_init_20 : decode cX2_init 20 = .ok (.newarray .int, 2) := by decide +kernel
theorem dX2_init_22 : decode cX2_init 22 = .ok (.putfield 18, 3) := by decide +kernel
theorem dX2_init_25 : decode cX2_init 25 = .ok (.aload_n 0, 1) := by decide +kernel
theorem dX2_init_26 : decode cX2_init 26 = .ok (.iconst 0, 1) := by decide +kernel
theorem dX2_init_27 : decode cX2_init 27 = .ok (.putfield 21, 3) := by decide +kernel
theorem dX2_init_30 : decode cX2_init 30 = .ok (.return_, 1) := by decide +kernel
theorem dX2_holds_0 : decode cX2_holds 0 = .ok (.iload_n 1, 1) := by decide +kernel
theorem dX2_holds_1 : decode cX2_holds 1 = .ok (.ifCond .lt 15, 3) := by decide +kernel
theorem dX2_holds_4 : decode cX2_holds 4 = .ok (.iload_n 1, 1) := by decide +kernel
theorem dX2_holds_5 : decode cX2_holds 5 = .ok (.aload_n 0, 1) := by decide +kernel
theorem dX2_holds_6 : decode cX2_holds 6 = .ok (.getfield 21, 3) := by decide +kernel
theorem dX2_holds_9 : decode cX2_holds 9 = .ok (.if_icmp .ge 7, 3) := by decide +kernel
theorem dX2_holds_12 : decode cX2_holds 12 = .ok (.iconst 1, 1) := by decide +kernel
theorem dX2_holds_13 : decode cX2_holds 13 = .ok (.goto 4, 3) := by decide +kernel
theorem dX2_holds_16 : decode cX2_holds 16 = .ok (.iconst 0, 1) := by decide +kernel
theorem dX2_holds_17 : decode cX2_holds 17 = .ok (.ireturn, 1) := by decide +kernel
theorem dX2_isFull_0 : decode cX2_isFull 0 = .ok (.aload_n 0, 1) := by decide +kernel
theorem dX2_isFull_1 : decode cX2_isFull 1 = .ok (.getfield 21, 3) := by decide +kernel
theorem dX2_isFull_4 : decode cX2_isFull 4 = .ok (.aload_n 0, 1) := by decide +kernel
theorem dX2_isFull_5 : decode cX2_isFull 5 = .ok (.getfield 9, 3) := by decide +kernel
theorem dX2_isFull_8 : decode cX2_isFull 8 = .ok (.arraylength, 1) := by decide +kernel
theorem dX2_isFull_9 : decode cX2_isFull 9 = .ok (.if_icmp .lt 7, 3) := by decide +kernel
theorem dX2_isFull_12 : decode cX2_isFull 12 = .ok (.iconst 1, 1) := by decide +kernel
theorem dX2_isFull_13 : decode cX2_isFull 13 = .ok (.goto 4, 3) := by decide +kernel
theorem dX2_isFull_16 : decode cX2_isFull 16 = .ok (.iconst 0, 1) := by decide +kernel
theorem dX2_isFull_17 : decode cX2_isFull 17 = .ok (.ireturn, 1) := by decide +kernel
set_option maxRecDepth 20000 in
theorem ggX2_put_X2_isFull : GoodIn wsX2_put wsX2_isFull := goodIn_r _ [9, 2, 1, 10, 11, 12, 13] (by decide +kernel) (by decide +kernel)
set_option maxRecDepth 20000 in
theorem gX2_put_X2_isFull : GoodIn wsX2_put (wsV RX2 25 RX2 yX2_isFull wsX2_isFull) := goodIn_app (goodIn_of _ (by decide +kernel)) ggX2_put_X2_isFull
theorem dX2_put_0 : decode cX2_put 0 = .ok (.aload_n 0, 1) := by decide +kernel
theorem dX2_put_1 : decode cX2_put 1 = .ok (.invokevirtual 25, 3) := by decide +kernel
theorem dX2_put_4 : decode cX2_put 4 = .ok (.ifCond .eq 4, 3) := by decide +kernel
theorem dX2_put_7 : decode cX2_put 7 = .ok (.return_, 1) := by decide +kernel
theorem dX2_put_8 : decode cX2_put 8 = .ok (.aload_n 0, 1) := by decide +kernel
theorem dX2_put_9 : decode cX2_put 9 = .ok (.getfield 9, 3) := by decide +kernel
theorem dX2_put_12 : decode cX2_put 12 = .ok (.aload_n 0, 1) := by decide +kernel
theorem dX2_put_13 : decode cX2_put 13 = .ok (.getfield 21, 3) := by decide +kernel
theorem dX2_put_16 : decode cX2_put 16 = .ok (.iload_n 1, 1) := by decide +kernel
theorem dX2_put_17 : decode cX2_put 17 = .ok (.iastore, 1) := by decide +kernel
theorem dX2_put_18 : decode cX2_put 18 = .ok (.aload_n 0, 1) := by decide +kernel
theorem dX2_put_19 : decode cX2_put 19 = .ok (.getfield 15, 3) := by decide +kernel
theorem dX2_put_22 : decode cX2_put 22 = .ok (.aload_n 0, 1) := by decide +kernel
theorem dX2_put_23 : decode cX2_put 23 = .ok (.getfield 21, 3) := by decide +kernel
theorem dX2_put_26 : decode cX2_put 26 = .ok (.iload_n 2, 1) := by decide +kernel
theorem dX2_put_27 : decode cX2_put 27 = .ok (.iastore, 1) := by decide +kernel
theorem dX2_put_28 : decode cX2_put 28 = .ok (.aload_n 0, 1) := by decide +kernel
theorem dX2_put_29 : decode cX2_put 29 = .ok (.getfield 18, 3) := by decide +kernel
theorem dX2_put_32 : decode cX2_put 32 = .ok (.aload_n 0, 1) := by decide +kernel
theorem dX2_put_33 : decode cX2_put 33 = .ok (.getfield 21, 3) := by decide +kernel
theorem dX2_put_36 : decode cX2_put 36 = .ok (.iload_n 3, 1) := by decide +kernel
theorem dX2_put_37 : decode cX2_put 37 = .ok (.iastore, 1) := by decide +kernel
theorem dX2_put_38 : decode cX2_put 38 = .ok (.aload_n 0, 1) := by decide +kernel
theorem dX2_put_39 : decode cX2_put 39 = .ok (.dup, 1) := by decide +kernel
theorem dX2_put_40 : decode cX2_put 40 = .ok (.getfield 21, 3) := by decide +kernel
theorem dX2_put_43 : decode cX2_put 43 = .ok (.iconst 1, 1) := by decide +kernel
theorem dX2_put_44 : decode cX2_put 44 = .ok (.iadd, 1) := by decide +kernel
theorem dX2_put_45 : decode cX2_put 45 = .ok (.putfield 21, 3) := by decide +kernel
theorem dX2_put_48 : decode cX2_put 48 = .ok (.return_, 1) := by decide +kernel
set_option maxRecDepth 20000 in
theorem ggX2_drop_X2_holds : GoodIn wsX2_drop wsX2_holds := goodIn_r _ [9, 1, 10, 11, 12, 13] (by decide +kernel) (by decide +kernel)
set_option maxRecDepth 20000 in
theorem gX2_drop_X2_holds : GoodIn wsX2_drop (wsV RX2 29 RX2 yX2_holds wsX2_holds) := goodIn_app (goodIn_of _ (by decide +kernel)) ggX2_drop_X2_holds
theorem dX2_drop_0 : decode cX2_drop 0 = .ok (.aload_n 0, 1) := by decide +kernel
theorem dX2_drop_1 : decode cX2_drop 1 = .ok (.iload_n 1, 1) := by decide +kernel
theorem dX2_drop_2 : decode cX2_drop 2 = .ok (.invokevirtual 29, 3) := by decide +kernel
theorem dX2_drop_5 : decode cX2_drop 5 = .ok (.ifCond .ne 4, 3) := by decide +kernel
theorem dX2_drop_8 : decode cX2_drop 8 = .ok (.return_, 1) := by decide +kernel
theorem dX2_drop_9 : decode cX2_drop 9 = .ok (.iload_n 1, 1) := by decide +kernel
theorem dX2_drop_10 : decode cX2_drop 10 = .ok (.iconst 1, 1) := by decide +kernel
theorem dX2_drop_11 : decode cX2_drop 11 = .ok (.iadd, 1) := by decide +kernel
theorem dX2_drop_12 : decode cX2_drop 12 = .ok (.istore_n 2, 1) := by decide +kernel
theorem dX2_drop_13 : decode cX2_drop 13 = .ok (.iload_n 2, 1) := by decide +kernel
theorem dX2_drop_14 : decode cX2_drop 14 = .ok (.aload_n 0, 1) := by decide +kernel
theorem dX2_drop_15 : decode cX2_drop 15 = .ok (.getfield 21, 3) := by decide +kernel
theorem dX2_drop_18 : decode cX2_drop 18 = .ok (.if_icmp .ge 51, 3) := by decide +kernel
theorem dX2_drop_21 : decode cX2_drop 21 = .ok (.aload_n 0, 1) := by decide +kernel
theorem dX2_drop_22 : decode cX2_drop 22 = .ok (.getfield 9, 3) := by decide +kernel
theorem dX2_drop_25 : decode cX2_drop 25 = .ok (.iload_n 2, 1) := by decide +kernel
theorem dX2_drop_26 : decode cX2_drop 26 = .ok (.iconst 1, 1) := by decide +kernel
theorem dX2_drop_27 : decode cX2_drop 27 = .ok (.isub, 1) := by decide +kernel
theorem dX2_drop_28 : decode cX2_drop 28 = .ok (.aload_n 0, 1) := by decide +kernel
theorem dX2_drop_29 : decode cX2_drop 29 = .ok (.getfield 9, 3) := by decide +kernel
theorem dX2_drop_32 : decode cX2_drop 32 = .ok (.iload_n 2, 1) := by decide +kernel
theorem dX2_drop_33 : decode cX2_drop 33 = .ok (.iaload, 1) := by decide +kernel
theorem dX2_drop_34 : decode cX2_drop 34 = .ok (.iastore, 1) := by decide +kernel
theorem dX2_drop_35 : decode cX2_drop 35 = .ok (.aload_n 0, 1) := by decide +kernel
theorem dX2_drop_36 : decode cX2_drop 36 = .ok (.getfield 15, 3) := by decide +kernel
theorem dX2_drop_39 : decode cX2_drop 39 = .ok (.iload_n 2, 1) := by decide +kernel
theorem dX2_drop_40 : decode cX2_drop 40 = .ok (.iconst 1, 1) := by decide +kernel
theorem dX2_drop_41 : decode cX2_drop 41 = .ok (.isub, 1) := by decide +kernel
theorem dX2_drop_42 : decode cX2_drop 42 = .ok (.aload_n 0, 1) := by decide +kernel
theorem dX2_drop_43 : decode cX2_drop 43 = .ok (.getfield 15, 3) := by decide +kernel
theorem dX2_drop_46 : decode cX2_drop 46 = .ok (.iload_n 2, 1) := by decide +kernel
theorem dX2_drop_47 : decode cX2_drop 47 = .ok (.iaload, 1) := by decide +kernel
theorem dX2_drop_48 : decode cX2_drop 48 = .ok (.iastore, 1) := by decide +kernel
theorem dX2_drop_49 : decode cX2_drop 49 = .ok (.aload_n 0, 1) := by decide +kernel
theorem dX2_drop_50 : decode cX2_drop 50 = .ok (.getfield 18, 3) := by decide +kernel
theorem dX2_drop_53 : decode cX2_drop 53 = .ok (.iload_n 2, 1) := by decide +kernel
theorem dX2_drop_54 : decode cX2_drop 54 = .ok (.iconst 1, 1) := by decide +kernel
theorem dX2_drop_55 : decode cX2_drop 55 = .ok (.isub, 1) := by decide +kernel
theorem dX2_drop_56 : decode cX2_drop 56 = .ok (.aload_n 0, 1) := by decide +kernel
theorem dX2_drop_57 : decode cX2_drop 57 = .ok (.getfield 18, 3) := by decide +kernel
theorem dX2_drop_60 : decode cX2_drop 60 = .ok (.iload_n 2, 1) := by decide +kernel
theorem dX2_drop_61 : decode cX2_drop 61 = .ok (.iaload, 1) := by decide +kernel
theorem dX2_drop_62 : decode cX2_drop 62 = .ok (.iastore, 1) := by decide +kernel
theorem dX2_drop_63 : decode cX2_drop 63 = .ok (.iinc 2 1, 3) := by decide +kernel
theorem dX2_drop_66 : decode cX2_drop 66 = .ok (.goto (-53), 3) := by decide +kernel
theorem dX2_drop_69 : decode cX2_drop 69 = .ok (.aload_n 0, 1) := by decide +kernel
theorem dX2_drop_70 : decode cX2_drop 70 = .ok (.dup, 1) := by decide +kernel
theorem dX2_drop_71 : decode cX2_drop 71 = .ok (.getfield 21, 3) := by decide +kernel
theorem dX2_drop_74 : decode cX2_drop 74 = .ok (.iconst 1, 1) := by decide +kernel
theorem dX2_drop_75 : decode cX2_drop 75 = .ok (.isub, 1) := by decide +kernel
theorem dX2_drop_76 : decode cX2_drop 76 = .ok (.putfield 21, 3) := by decide +kernel
theorem dX2_drop_79 : decode cX2_drop 79 = .ok (.return_, 1) := by decide +kernel
set_option maxRecDepth 20000 in
theorem ggX2_take_X2_put : GoodIn wsX2_take wsX2_put := goodIn_r _ [9, 2, 1, 3, 4, 10, 11, 12, 8, 13, 14, 15, 16, 17] (by decide +kernel) (by decide +kernel)
set_option maxRecDepth 20000 in
theorem gX2_take_X2_put : GoodIn wsX2_take (wsV RX2 33 RX2 yX2_put wsX2_put) := goodIn_app (goodIn_of _ (by decide +kernel)) ggX2_take_X2_put
theorem dX2_take_0 : decode cX2_take 0 = .ok (.aload_n 0, 1) := by decide +kernel
theorem dX2_take_1 : decode cX2_take 1 = .ok (.iconst 0, 1) := by decide +kernel
theorem dX2_take_2 : decode cX2_take 2 = .ok (.putfield 21, 3) := by decide +kernel
theorem dX2_take_5 : decode cX2_take 5 = .ok (.iconst 0, 1) := by decide +kernel
theorem dX2_take_6 : decode cX2_take 6 = .ok (.istore_n 2, 1) := by decide +kernel
theorem dX2_take_7 : decode cX2_take 7 = .ok (.iload_n 2, 1) := by decide +kernel
theorem dX2_take_8 : decode cX2_take 8 = .ok (.aload_n 1, 1) := by decide +kernel
theorem dX2_take_9 : decode cX2_take 9 = .ok (.getfield 21, 3) := by decide +kernel
theorem dX2_take_12 : decode cX2_take 12 = .ok (.if_icmp .ge 31, 3) := by decide +kernel
theorem dX2_take_15 : decode cX2_take 15 = .ok (.aload_n 0, 1) := by decide +kernel
theorem dX2_take_16 : decode cX2_take 16 = .ok (.aload_n 1, 1) := by decide +kernel
theorem dX2_take_17 : decode cX2_take 17 = .ok (.getfield 9, 3) := by decide +kernel
theorem dX2_take_20 : decode cX2_take 20 = .ok (.iload_n 2, 1) := by decide +kernel
theorem dX2_take_21 : decode cX2_take 21 = .ok (.iaload, 1) := by decide +kernel
theorem dX2_take_22 : decode cX2_take 22 = .ok (.aload_n 1, 1) := by decide +kernel
theorem dX2_take_23 : decode cX2_take 23 = .ok (.getfield 15, 3) := by decide +kernel
theorem dX2_take_26 : decode cX2_take 26 = .ok (.iload_n 2, 1) := by decide +kernel
theorem dX2_take_27 : decode cX2_take 27 = .ok (.iaload, 1) := by decide +kernel
theorem dX2_take_28 : decode cX2_take 28 = .ok (.aload_n 1, 1) := by decide +kernel
theorem dX2_take_29 : decode cX2_take 29 = .ok (.getfield 18, 3) := by decide +kernel
theorem dX2_take_32 : decode cX2_take 32 = .ok (.iload_n 2, 1) := by decide +kernel
theorem dX2_take_33 : decode cX2_take 33 = .ok (.iaload, 1) := by decide +kernel
theorem dX2_take_34 : decode cX2_take 34 = .ok (.invokevirtual 33, 3) := by decide +kernel
theorem dX2_take_37 : decode cX2_take 37 = .ok (.iinc 2 1, 3) := by decide +kernel
theorem dX2_take_40 : decode cX2_take 40 = .ok (.goto (-33), 3) := by decide +kernel
theorem dX2_take_43 : decode cX2_take 43 = .ok (.return_, 1) := by decide +kernel
set_option maxRecDepth 20000 in
theorem ggX2_takeSome_X2_put : GoodIn wsX2_takeSome wsX2_put := goodIn_r _ [9, 2, 1, 3, 4, 10, 11, 12, 8, 13, 14, 15, 16, 17] (by decide +kernel) (by decide +kernel)
set_option maxRecDepth 20000 in
theorem gX2_takeSome_X2_put : GoodIn wsX2_takeSome (wsV RX2 33 RX2 yX2_put wsX2_put) := goodIn_app (goodIn_of _ (by decide +kernel)) ggX2_takeSome_X2_put
theorem dX2_takeSome_0 : decode cX2_takeSome 0 = .ok (.aload_n 0, 1) := by decide +kernel
theorem dX2_takeSome_1 : decode cX2_takeSome 1 = .ok (.iconst 0, 1) := by decide +kernel
theorem dX2_takeSome_2 : decode cX2_takeSome 2 = .ok (.putfield 21, 3) := by decide +kernel
theorem dX2_takeSome_5 : decode cX2_takeSome 5 = .ok (.iconst 0, 1) := by decide +kernel
theorem dX2_takeSome_6 : decode cX2_takeSome 6 = .ok (.istore_n 3, 1) := by decide +kernel
theorem dX2_takeSome_7 : decode cX2_takeSome 7 = .ok (.iload_n 3, 1) := by decide +kernel
theorem dX2_takeSome_8 : decode cX2_takeSome 8 = .ok (.aload_n 1, 1) := by decide +kernel
theorem dX2_takeSome_9 : decode cX2_takeSome 9 = .ok (.getfield 21, 3) := by decide +kernel
theorem dX2_takeSome_12 : decode cX2_takeSome 12 = .ok (.if_icmp .ge 39, 3) := by decide +kernel
theorem dX2_takeSome_15 : decode cX2_takeSome 15 = .ok (.iload_n 2, 1) := by decide +kernel
theorem dX2_takeSome_16 : decode cX2_takeSome 16 = .ok (.iload_n 3, 1) := by decide +kernel
theorem dX2_takeSome_17 : decode cX2_takeSome 17 = .ok (.ishr, 1) := by decide +kernel
theorem dX2_takeSome_18 : decode cX2_takeSome 18 = .ok (.iconst 1, 1) := by decide +kernel
theorem dX2_takeSome_19 : decode cX2_takeSome 19 = .ok (.iand, 1) := by decide +kernel
theorem dX2_takeSome_20 : decode cX2_takeSome 20 = .ok (.ifCond .eq 25, 3) := by decide +kernel
theorem dX2_takeSome_23 : decode cX2_takeSome 23 = .ok (.aload_n 0, 1) := by decide +kernel
theorem dX2_takeSome_24 : decode cX2_takeSome 24 = .ok (.aload_n 1, 1) := by decide +kernel
theorem dX2_takeSome_25 : decode cX2_takeSome 25 = .ok (.getfield 9, 3) := by decide +kernel
theorem dX2_takeSome_28 : decode cX2_takeSome 28 = .ok (.iload_n 3, 1) := by decide +kernel
theorem dX2_takeSome_29 : decode cX2_takeSome 29 = .ok (.iaload, 1) := by decide +kernel
theorem dX2_takeSome_30 : decode cX2_takeSome 30 = .ok (.aload_n 1, 1) := by decide +kernel
theorem dX2_takeSome_31 : decode cX2_takeSome 31 = .ok (.getfield 15, 3) := by decide +kernel
theorem dX2_takeSome_34 : decode cX2_takeSome 34 = .ok (.iload_n 3, 1) := by decide +kernel
theorem dX2_takeSome_35 : decode cX2_takeSome 35 = .ok (.iaload, 1) := by decide +kernel
theorem dX2_takeSome_36 : decode cX2_takeSome 36 = .ok (.aload_n 1, 1) := by decide +kernel
theorem dX2_takeSome_37 : decode cX2_takeSome 37 = .ok (.getfield 18, 3) := by decide +kernel
theorem dX2_takeSome_40 : decode cX2_takeSome 40 = .ok (.iload_n 3, 1) := by decide +kernel
theorem dX2_takeSome_41 : decode cX2_takeSome 41 = .ok (.iaload, 1) := by decide +kernel
theorem dX2_takeSome_42 : decode cX2_takeSome 42 = .ok (.invokevirtual 33, 3) := by decide +kernel
theorem dX2_takeSome_45 : decode cX2_takeSome 45 = .ok (.iinc 3 1, 3) := by decide +kernel
theorem dX2_takeSome_48 : decode cX2_takeSome 48 = .ok (.goto (-41), 3) := by decide +kernel
theorem dX2_takeSome_51 : decode cX2_takeSome 51 = .ok (.return_, 1) := by decide +kernel
set_option maxRecDepth 20000 in
theorem ggX2_takeBothWays_X2_take : GoodIn wsX2_takeBothWays wsX2_take := goodIn_r _ [9, 1, 3, 2, 4, 10, 11, 12, 8, 13, 14, 15, 16, 17, 21, 22, 23, 24] (by decide +kernel) (by decide +kernel)
set_option maxRecDepth 20000 in
theorem gX2_takeBothWays_X2_take : GoodIn wsX2_takeBothWays (wsV RX2 37 RX2 yX2_take wsX2_take) := goodIn_app (goodIn_of _ (by decide +kernel)) ggX2_takeBothWays_X2_take
set_option maxRecDepth 20000 in
theorem ggX2_takeBothWays_X2_otherBracket : GoodIn wsX2_takeBothWays wsX2_otherBracket := goodIn_r _ [20] (by decide +kernel) (by decide +kernel)
set_option maxRecDepth 20000 in
theorem gX2_takeBothWays_X2_otherBracket : GoodIn wsX2_takeBothWays (va_wsS RX2 41 yX2_otherBracket wsX2_otherBracket) := goodIn_app (goodIn_of _ (by decide +kernel)) ggX2_takeBothWays_X2_otherBracket
set_option maxRecDepth 20000 in
theorem ggX2_takeBothWays_X2_put : GoodIn wsX2_takeBothWays wsX2_put := goodIn_r _ [13, 3, 1, 2, 4, 14, 15, 16, 8, 17, 21, 22, 23, 24] (by decide +kernel) (by decide +kernel)
set_option maxRecDepth 20000 in
theorem gX2_takeBothWays_X2_put : GoodIn wsX2_takeBothWays (wsV RX2 33 RX2 yX2_put wsX2_put) := goodIn_app (goodIn_of _ (by decide +kernel)) ggX2_takeBothWays_X2_put
theorem dX2_takeBothWays_0 : decode cX2_takeBothWays 0 = .ok (.aload_n 0, 1) := by decide +kernel
theorem dX2_takeBothWays_1 : decode cX2_takeBothWays 1 = .ok (.aload_n 1, 1) := by decide +kernel
theorem dX2_takeBothWays_2 : decode cX2_takeBothWays 2 = .ok (.invokevirtual 37, 3) := by decide +kernel
theorem dX2_takeBothWays_5 : decode cX2_takeBothWays 5 = .ok (.iconst 0, 1) := by decide +kernel
theorem dX2_takeBothWays_6 : decode cX2_takeBothWays 6 = .ok (.istore_n 2, 1) := by decide +kernel
theorem dX2_takeBothWays_7 : decode cX2_takeBothWays 7 = .ok (.iload_n 2, 1) := by decide +kernel
theorem dX2_takeBothWays_8 : decode cX2_takeBothWays 8 = .ok (.aload_n 1, 1) := by decide +kernel
theorem dX2_takeBothWays_9 : decode cX2_takeBothWays 9 = .ok (.getfield 21, 3) := by decide +kernel
theorem dX2_takeBothWays_12 : decode cX2_takeBothWays 12 = .ok (.if_icmp .ge 34, 3) := by decide +kernel
theorem dX2_takeBothWays_15 : decode cX2_takeBothWays 15 = .ok (.aload_n 0, 1) := by decide +kernel
theorem dX2_takeBothWays_16 : decode cX2_takeBothWays 16 = .ok (.aload_n 1, 1) := by decide +kernel
theorem dX2_takeBothWays_17 : decode cX2_takeBothWays 17 = .ok (.getfield 15, 3) := by decide +kernel
theorem dX2_takeBothWays_20 : decode cX2_takeBothWays 20 = .ok (.iload_n 2, 1) := by decide +kernel
theorem dX2_takeBothWays_21 : decode cX2_takeBothWays 21 = .ok (.iaload, 1) := by decide +kernel
theorem dX2_takeBothWays_22 : decode cX2_takeBothWays 22 = .ok (.aload_n 1, 1) := by decide +kernel
theorem dX2_takeBothWays_23 : decode cX2_takeBothWays 23 = .ok (.getfield 9, 3) := by decide +kernel
theorem dX2_takeBothWays_26 : decode cX2_takeBothWays 26 = .ok (.iload_n 2, 1) := by decide +kernel
theorem dX2_takeBothWays_27 : decode cX2_takeBothWays 27 = .ok (.iaload, 1) := by decide +kernel
theorem dX2_takeBothWays_28 : decode cX2_takeBothWays 28 = .ok (.aload_n 1, 1) := by decide +kernel
theorem dX2_takeBothWays_29 : decode cX2_takeBothWays 29 = .ok (.getfield 18, 3) := by decide +kernel
theorem dX2_takeBothWays_32 : decode cX2_takeBothWays 32 = .ok (.iload_n 2, 1) := by decide +kernel
theorem dX2_takeBothWays_33 : decode cX2_takeBothWays 33 = .ok (.iaload, 1) := by decide +kernel
theorem dX2_takeBothWays_34 : decode cX2_takeBothWays 34 = .ok (.invokestatic 41, 3) := by decide +kernel
theorem dX2_takeBothWays_37 : decode cX2_takeBothWays 37 = .ok (.invokevirtual 33, 3) := by decide +kernel
theorem dX2_takeBothWays_40 : decode cX2_takeBothWays 40 = .ok (.iinc 2 1, 3) := by decide +kernel
theorem dX2_takeBothWays_43 : decode cX2_takeBothWays 43 = .ok (.goto (-36), 3) := by decide +kernel
theorem dX2_takeBothWays_46 : decode cX2_takeBothWays 46 = .ok (.return_, 1) := by decide +kernel
theorem dX2_find_0 : decode cX2_find 0 = .ok (.iconst 0, 1) := by decide +kernel
theorem dX2_find_1 : decode cX2_find 1 = .ok (.istore 4, 2) := by decide +kernel
theorem dX2_find_3 : decode cX2_find 3 = .ok (.iload 4, 2) := by decide +kernel
theorem dX2_find_5 : decode cX2_find 5 = .ok (.aload_n 0, 1) := by decide +kernel
theorem dX2_find_6 : decode cX2_find 6 = .ok (.getfield 21, 3) := by decide +kernel
theorem dX2_find_9 : decode cX2_find 9 = .ok (.if_icmp .ge 45, 3) := by decide +kernel
theorem dX2_find_12 : decode cX2_find 12 = .ok (.aload_n 0, 1) := by decide +kernel
theorem dX2_find_13 : decode cX2_find 13 = .ok (.getfield 9, 3) := by decide +kernel
theorem dX2_find_16 : decode cX2_find 16 = .ok (.iload 4, 2) := by decide +kernel
theorem dX2_find_18 : decode cX2_find 18 = .ok (.iaload, 1) := by decide +kernel
theorem dX2_find_19 : decode cX2_find 19 = .ok (.iload_n 1, 1) := by decide +kernel
theorem dX2_find_20 : decode cX2_find 20 = .ok (.if_icmp .ne 28, 3) := by decide +kernel
theorem dX2_find_23 : decode cX2_find 23 = .ok (.aload_n 0, 1) := by decide +kernel
theorem dX2_find_24 : decode cX2_find 24 = .ok (.getfield 15, 3) := by decide +kernel
theorem dX2_find_27 : decode cX2_find 27 = .ok (.iload 4, 2) := by decide +kernel
theorem dX2_find_29 : decode cX2_find 29 = .ok (.iaload, 1) := by decide +kernel
theorem dX2_find_30 : decode cX2_find 30 = .ok (.iload_n 2, 1) := by decide +kernel
theorem dX2_find_31 : decode cX2_find 31 = .ok (.if_icmp .ne 17, 3) := by decide +kernel
theorem dX2_find_34 : decode cX2_find 34 = .ok (.aload_n 0, 1) := by decide +kernel
theorem dX2_find_35 : decode cX2_find 35 = .ok (.getfield 18, 3) := by decide +kernel
theorem dX2_find_38 : decode cX2_find 38 = .ok (.iload 4, 2) := by decide +kernel
theorem dX2_find_40 : decode cX2_find 40 = .ok (.iaload, 1) := by decide +kernel
theorem dX2_find_41 : decode cX2_find 41 = .ok (.iload_n 3, 1) := by decide +kernel
theorem dX2_find_42 : decode cX2_find 42 = .ok (.if_icmp .ne 6, 3) := by decide +kernel
theorem dX2_find_45 : decode cX2_find 45 = .ok (.iload 4, 2) := by decide +kernel
theorem dX2_find_47 : decode cX2_find 47 = .ok (.ireturn, 1) := by decide +kernel
theorem dX2_find_48 : decode cX2_find 48 = .ok (.iinc 4 1, 3) := by decide +kernel
theorem dX2_find_51 : decode cX2_find 51 = .ok (.goto (-48), 3) := by decide +kernel
theorem dX2_find_54 : decode cX2_find 54 = .ok (.bipush (-9), 2) := by decide +kernel
theorem dX2_find_56 : decode cX2_find 56 = .ok (.ireturn, 1) := by decide +kernel
theorem dX2_isEmptyLabelled_0 : decode cX2_isEmptyLabelled 0 = .ok (.aload_n 0, 1) := by decide +kernel
theorem dX2_isEmptyLabelled_1 : decode cX2_isEmptyLabelled 1 = .ok (.getfield 18, 3) := by decide +kernel
theorem dX2_isEmptyLabelled_4 : decode cX2_isEmptyLabelled 4 = .ok (.iload_n 1, 1) := by decide +kernel
theorem dX2_isEmptyLabelled_5 : decode cX2_isEmptyLabelled 5 = .ok (.iaload, 1) := by decide +kernel
theorem dX2_isEmptyLabelled_6 : decode cX2_isEmptyLabelled 6 = .ok (.ifCond .ne 7, 3) := by decide +kernel
theorem dX2_isEmptyLabelled_9 : decode cX2_isEmptyLabelled 9 = .ok (.iconst 1, 1) := by decide +kernel
theorem dX2_isEmptyLabelled_10 : decode cX2_isEmptyLabelled 10 = .ok (.goto 4, 3) := by decide +kernel
theorem dX2_isEmptyLabelled_13 : decode cX2_isEmptyLabelled 13 = .ok (.iconst 0, 1) := by decide +kernel
theorem dX2_isEmptyLabelled_14 : decode cX2_isEmptyLabelled 14 = .ok (.ireturn, 1) := by decide +kernel
theorem dX2_opens_0 : decode cX2_opens 0 = .ok (.aload_n 0, 1) := by decide +kernel
theorem dX2_opens_1 : decode cX2_opens 1 = .ok (.getfield 18, 3) := by decide +kernel
theorem dX2_opens_4 : decode cX2_opens 4 = .ok (.iload_n 1, 1) := by decide +kernel
theorem dX2_opens_5 : decode cX2_opens 5 = .ok (.iaload, 1) := by decide +kernel
theorem dX2_opens_6 : decode cX2_opens 6 = .ok (.iconst 1, 1) := by decide +kernel
theorem dX2_opens_7 : decode cX2_opens 7 = .ok (.if_icmp .lt 17, 3) := by decide +kernel
theorem dX2_opens_10 : decode cX2_opens 10 = .ok (.aload_n 0, 1) := by decide +kernel
theorem dX2_opens_11 : decode cX2_opens 11 = .ok (.getfield 18, 3) := by decide +kernel
theorem dX2_opens_14 : decode cX2_opens 14 = .ok (.iload_n 1, 1) := by decide +kernel
theorem dX2_opens_15 : decode cX2_opens 15 = .ok (.iaload, 1) := by decide +kernel
theorem dX2_opens_16 : decode cX2_opens 16 = .ok (.iconst 3, 1) := by decide +kernel
theorem dX2_opens_17 : decode cX2_opens 17 = .ok (.if_icmp .gt 7, 3) := by decide +kernel
theorem dX2_opens_20 : decode cX2_opens 20 = .ok (.iconst 1, 1) := by decide +kernel
theorem dX2_opens_21 : decode cX2_opens 21 = .ok (.goto 4, 3) := by decide +kernel
theorem dX2_opens_24 : decode cX2_opens 24 = .ok (.iconst 0, 1) := by decide +kernel
theorem dX2_opens_25 : decode cX2_opens 25 = .ok (.ireturn, 1) := by decide +kernel
theorem dX2_closes_0 : decode cX2_closes 0 = .ok (.aload_n 0, 1) := by decide +kernel
theorem dX2_closes_1 : decode cX2_closes 1 = .ok (.getfield 18, 3) := by decide +kernel
theorem dX2_closes_4 : decode cX2_closes 4 = .ok (.iload_n 1, 1) := by decide +kernel
theorem dX2_closes_5 : decode cX2_closes 5 = .ok (.iaload, 1) := by decide +kernel
theorem dX2_closes_6 : decode cX2_closes 6 = .ok (.aload_n 0, 1) := by decide +kernel
theorem dX2_closes_7 : decode cX2_closes 7 = .ok (.getfield 18, 3) := by decide +kernel
theorem dX2_closes_10 : decode cX2_closes 10 = .ok (.iload_n 2, 1) := by decide +kernel
theorem dX2_closes_11 : decode cX2_closes 11 = .ok (.iaload, 1) := by decide +kernel
theorem dX2_closes_12 : decode cX2_closes 12 = .ok (.iconst 3, 1) := by decide +kernel
theorem dX2_closes_13 : decode cX2_closes 13 = .ok (.iadd, 1) := by decide +kernel
theorem dX2_closes_14 : decode cX2_closes 14 = .ok (.if_icmp .ne 7, 3) := by decide +kernel
theorem dX2_closes_17 : decode cX2_closes 17 = .ok (.iconst 1, 1) := by decide +kernel
theorem dX2_closes_18 : decode cX2_closes 18 = .ok (.goto 4, 3) := by decide +kernel
theorem dX2_closes_21 : decode cX2_closes 21 = .ok (.iconst 0, 1) := by decide +kernel
theorem dX2_closes_22 : decode cX2_closes 22 = .ok (.ireturn, 1) := by decide +kernel
theorem dX2_otherBracket_0 : decode cX2_otherBracket 0 = .ok (.iload_n 0, 1) := by decide +kernel
theorem dX2_otherBracket_1 : decode cX2_otherBracket 1 = .ok (.ifCond .ne 5, 3) := by decide +kernel
theorem dX2_otherBracket_4 : decode cX2_otherBracket 4 = .ok (.iconst 0, 1) := by decide +kernel
theorem dX2_otherBracket_5 : decode cX2_otherBracket 5 = .ok (.ireturn, 1) := by decide +kernel
theorem dX2_otherBracket_6 : decode cX2_otherBracket 6 = .ok (.iload_n 0, 1) := by decide +kernel
theorem dX2_otherBracket_7 : decode cX2_otherBracket 7 = .ok (.iconst 3, 1) := by decide +kernel
theorem dX2_otherBracket_8 : decode cX2_otherBracket 8 = .ok (.if_icmp .gt 9, 3) := by decide +kernel
theorem dX2_otherBracket_11 : decode cX2_otherBracket 11 = .ok (.iload_n 0, 1) := by decide +kernel
theorem dX2_otherBracket_12 : decode cX2_otherBracket 12 = .ok (.iconst 3, 1) := by decide +kernel
theorem dX2_otherBracket_13 : decode cX2_otherBracket 13 = .ok (.iadd, 1) := by decide +kernel
theorem dX2_otherBracket_14 : decode cX2_otherBracket 14 = .ok (.goto 6, 3) := by decide +kernel
theorem dX2_otherBracket_17 : decode cX2_otherBracket 17 = .ok (.iload_n 0, 1) := by decide +kernel
theorem dX2_otherBracket_18 : decode cX2_otherBracket 18 = .ok (.iconst 3, 1) := by decide +kernel
theorem dX2_otherBracket_19 : decode cX2_otherBracket 19 = .ok (.isub, 1) := by decide +kernel
theorem dX2_otherBracket_20 : decode cX2_otherBracket 20 = .ok (.ireturn, 1) := by decide +kernel
theorem dX3_init_0 : decode cX3_init 0 = .ok (.aload_n 0, 1) := by decide +kernel
theorem dX3_init_1 : decode cX3_init 1 = .ok (.invokespecial 3, 3) := by decide +kernel
theorem dX3_init_4 : decode cX3_init 4 = .ok (.aload_n 0, 1) := by decide +kernel
theorem dX3_init_5 : decode cX3_init 5 = .ok (.bipush 60, 2) := by decide +kernel
theorem dX3_init_7 : decode cX3_init 7 = .ok (.newarray .int, 2) := by decide +kernel
theorem dX3_init_9 : decode cX3_init 9 = .ok (.putfield 11, 3) := by decide +kernel
theorem dX3_init_12 : decode cX3_init 12 = .ok (.aload_n 0, 1) := by decide +kernel
theorem dX3_init_13 : decode cX3_init 13 = .ok (.iconst 0, 1) := by decide +kernel
theorem dX3_init_14 : decode cX3_init 14 = .ok (.putfield 15, 3) := by decide +kernel
theorem dX3_init_17 : decode cX3_init 17 = .ok (.return_, 1) := by decide +kernel
theorem dX3_isFull_0 : decode cX3_isFull 0 = .ok (.aload_n 0, 1) := by decide +kernel
theorem dX3_isFull_1 : decode cX3_isFull 1 = .ok (.getfield 15, 3) := by decide +kernel
theorem dX3_isFull_4 : decode cX3_isFull 4 = .ok (.bipush 60, 2) := by decide +kernel
theorem dX3_isFull_6 : decode cX3_isFull 6 = .ok (.if_icmp .lt 7, 3) := by decide +kernel
theorem dX3_isFull_9 : decode cX3_isFull 9 = .ok (.iconst 1, 1) := by decide +kernel
theorem dX3_isFull_10 : decode cX3_isFull 10 = .ok (.goto 4, 3) := by decide +kernel
theorem dX3_isFull_13 : decode cX3_isFull 13 = .ok (.iconst 0, 1) := by decide +kernel
theorem dX3_isFull_14 : decode cX3_isFull 14 = .ok (.ireturn, 1) := by decide +kernel
set_option maxRecDepth 20000 in
theorem ggX3_put_X3_isFull : GoodIn wsX3_put wsX3_isFull := goodIn_r _ [7, 2, 8, 9] (by decide +kernel) (by decide +kernel)
set_option maxRecDepth 20000 in
theorem gX3_put_X3_isFull : GoodIn wsX3_put (wsV RX3 19 RX3 yX3_isFull wsX3_isFull) := goodIn_app (goodIn_of _ (by decide +kernel)) ggX3_put_X3_isFull
theorem dX3_put_0 : decode cX3_put 0 = .ok (.aload_n 0, 1) := by decide +kernel
theorem dX3_put_1 : decode cX3_put 1 = .ok (.invokevirtual 19, 3) := by decide +kernel
theorem dX3_put_4 : decode cX3_put 4 = .ok (.ifCond .eq 4, 3) := by decide +kernel
theorem dX3_put_7 : decode cX3_put 7 = .ok (.return_, 1) := by decide +kernel
theorem dX3_put_8 : decode cX3_put 8 = .ok (.aload_n 0, 1) := by decide +kernel
theorem dX3_put_9 : decode cX3_put 9 = .ok (.getfield 11, 3) := by decide +kernel
theorem dX3_put_12 : decode cX3_put 12 = .ok (.aload_n 0, 1) := by decide +kernel
theorem dX3_put_13 : decode cX3_put 13 = .ok (.getfield 15, 3) := by decide +kernel
theorem dX3_put_16 : decode cX3_put 16 = .ok (.iload_n 1, 1) := by decide +kernel
theorem dX3_put_17 : decode cX3_put 17 = .ok (.iastore, 1) := by decide +kernel
theorem dX3_put_18 : decode cX3_put 18 = .ok (.aload_n 0, 1) := by decide +kernel
theorem dX3_put_19 : decode cX3_put 19 = .ok (.dup, 1) := by decide +kernel
theorem dX3_put_20 : decode cX3_put 20 = .ok (.getfield 15, 3) := by decide +kernel
theorem dX3_put_23 : decode cX3_put 23 = .ok (.iconst 1, 1) := by decide +kernel
theorem dX3_put_24 : decode cX3_put 24 = .ok (.iadd, 1) := by decide +kernel
theorem dX3_put_25 : decode cX3_put 25 = .ok (.putfield 15, 3) := by decide +kernel
theorem dX3_put_28 : decode cX3_put 28 = .ok (.return_, 1) := by decide +kernel
set_option maxRecDepth 20000 in
theorem ggX3_firstFault_X3_fits : GoodIn wsX3_firstFault wsX3_fits := goodIn_r _ [6, 7, 8, 9, 5, 10, 11, 12, 13, 14, 15, 16, 17] (by decide +kernel) (by decide +kernel)
set_option maxRecDepth 20000 in
theorem gX3_firstFault_X3_fits : GoodIn wsX3_firstFault (wsV RX3 23 RX3 yX3_fits wsX3_fits) := goodIn_app (goodIn_of _ (by decide +kernel)) ggX3_firstFault_X3_fits
theorem dX3_firstFault_0 : decode cX3_firstFault 0 = .ok (.iconst 0, 1) := by decide +kernel
theorem dX3_firstFault_1 : decode cX3_firstFault 1 = .ok (.istore_n 1, 1) := by decide +kernel
theorem dX3_firstFault_2 : decode cX3_firstFault 2 = .ok (.iload_n 1, 1) := by decide +kernel
theorem dX3_firstFault_3 : decode cX3_firstFault 3 = .ok (.aload_n 0, 1) := by decide +kernel
theorem dX3_firstFault_4 : decode cX3_firstFault 4 = .ok (.getfield 15, 3) := by decide +kernel
theorem dX3_firstFault_7 : decode cX3_firstFault 7 = .ok (.if_icmp .ge 19, 3) := by decide +kernel
theorem dX3_firstFault_10 : decode cX3_firstFault 10 = .ok (.aload_n 0, 1) := by decide +kernel
theorem dX3_firstFault_11 : decode cX3_firstFault 11 = .ok (.iload_n 1, 1) := by decide +kernel
theorem dX3_firstFault_12 : decode cX3_firstFault 12 = .ok (.invokevirtual 23, 3) := by decide +kernel
theorem dX3_firstFault_15 : decode cX3_firstFault 15 = .ok (.ifCond .ne 5, 3) := by decide +kernel
theorem dX3_firstFault_18 : decode cX3_firstFault 18 = .ok (.iload_n 1, 1) := by decide +kernel
theorem dX3_firstFault_19 : decode cX3_firstFault 19 = .ok (.ireturn, 1) := by decide +kernel
theorem dX3_firstFault_20 : decode cX3_firstFault 20 = .ok (.iinc 1 1, 3) := by decide +kernel
theorem dX3_firstFault_23 : decode cX3_firstFault 23 = .ok (.goto (-21), 3) := by decide +kernel
theorem dX3_firstFault_26 : decode cX3_firstFault 26 = .ok (.aload_n 0, 1) := by decide +kernel
theorem dX3_firstFault_27 : decode cX3_firstFault 27 = .ok (.getfield 15, 3) := by decide +kernel
theorem dX3_firstFault_30 : decode cX3_firstFault 30 = .ok (.iconst 2, 1) := by decide +kernel
theorem dX3_firstFault_31 : decode cX3_firstFault 31 = .ok (.if_icmp .lt 18, 3) := by decide +kernel
theorem dX3_firstFault_34 : decode cX3_firstFault 34 = .ok (.aload_n 0, 1) := by decide +kernel
theorem dX3_firstFault_35 : decode cX3_firstFault 35 = .ok (.getfield 15, 3) := by decide +kernel
theorem dX3_firstFault_38 : decode cX3_firstFault 38 = .ok (.iconst 2, 1) := by decide +kernel
theorem dX3_firstFault_39 : decode cX3_firstFault 39 = .ok (.isub, 1) := by decide +kernel
theorem dX3_firstFault_40 : decode cX3_firstFault 40 = .ok (.iconst 3, 1) := by decide +kernel
theorem dX3_firstFault_41 : decode cX3_firstFault 41 = .ok (.irem, 1) := by decide +kernel
theorem dX3_firstFault_42 : decode cX3_firstFault 42 = .ok (.ifCond .ne 7, 3) := by decide +kernel
theorem dX3_firstFault_45 : decode cX3_firstFault 45 = .ok (.iconst 1, 1) := by decide +kernel
theorem dX3_firstFault_46 : decode cX3_firstFault 46 = .ok (.goto 4, 3) := by decide +kernel
theorem dX3_firstFault_49 : decode cX3_firstFault 49 = .ok (.iconst 0, 1) := by decide +kernel
theorem dX3_firstFault_50 : decode cX3_firstFault 50 = .ok (.istore_n 1, 1) := by decide +kernel
theorem dX3_firstFault_51 : decode cX3_firstFault 51 = .ok (.iload_n 1, 1) := by decide +kernel
theorem dX3_firstFault_52 : decode cX3_firstFault 52 = .ok (.ifCond .eq 8, 3) := by decide +kernel
theorem dX3_firstFault_55 : decode cX3_firstFault 55 = .ok (.bipush (-9), 2) := by decide +kernel
theorem dX3_firstFault_57 : decode cX3_firstFault 57 = .ok (.goto 7, 3) := by decide +kernel
theorem dX3_firstFault_60 : decode cX3_firstFault 60 = .ok (.aload_n 0, 1) := by decide +kernel
theorem dX3_firstFault_61 : decode cX3_firstFault 61 = .ok (.getfield 15, 3) := by decide +kernel
theorem dX3_firstFault_64 : decode cX3_firstFault 64 = .ok (.ireturn, 1) := by decide +kernel
set_option maxRecDepth 20000 in
theorem ggX3_fits_X3_labelOf : GoodIn wsX3_fits wsX3_labelOf := goodIn_r _ [5, 6] (by decide +kernel) (by decide +kernel)
set_option maxRecDepth 20000 in
theorem gX3_fits_X3_labelOf : GoodIn wsX3_fits (va_wsS RX3 27 yX3_labelOf wsX3_labelOf) := goodIn_app (goodIn_of _ (by decide +kernel)) ggX3_fits_X3_labelOf
set_option maxRecDepth 20000 in
theorem ggX3_fits_X3_writtenVertices : GoodIn wsX3_fits wsX3_writtenVertices := goodIn_r _ [10, 1, 11, 12] (by decide +kernel) (by decide +kernel)
set_option maxRecDepth 20000 in
theorem gX3_fits_X3_writtenVertices : GoodIn wsX3_fits (wsV RX3 31 RX3 yX3_writtenVertices wsX3_writtenVertices) := goodIn_app (goodIn_of _ (by decide +kernel)) ggX3_fits_X3_writtenVertices
theorem dX3_fits_0 : decode cX3_fits 0 = .ok (.aload_n 0, 1) := by decide +kernel
theorem dX3_fits_1 : decode cX3_fits 1 = .ok (.getfield 11, 3) := by decide +kernel
theorem dX3_fits_4 : decode cX3_fits 4 = .ok (.iload_n 1, 1) := by decide +kernel
theorem dX3_fits_5 : decode cX3_fits 5 = .ok (.iaload, 1) := by decide +kernel
theorem dX3_fits_6 : decode cX3_fits 6 = .ok (.istore_n 2, 1) := by decide +kernel
theorem dX3_fits_7 : decode cX3_fits 7 = .ok (.iload_n 1, 1) := by decide +kernel
theorem dX3_fits_8 : decode cX3_fits 8 = .ok (.ifCond .ne 15, 3) := by decide +kernel
theorem dX3_fits_11 : decode cX3_fits 11 = .ok (.iload_n 2, 1) := by decide +kernel
theorem dX3_fits_12 : decode cX3_fits 12 = .ok (.bipush 68, 2) := by decide +kernel
theorem dX3_fits_14 : decode cX3_fits 14 = .ok (.if_icmp .ne 7, 3) := by decide +kernel
theorem dX3_fits_17 : decode cX3_fits 17 = .ok (.iconst 1, 1) := by decide +kernel
theorem dX3_fits_18 : decode cX3_fits 18 = .ok (.goto 4, 3) := by decide +kernel
theorem dX3_fits_21 : decode cX3_fits 21 = .ok (.iconst 0, 1) := by decide +kernel
theorem dX3_fits_22 : decode cX3_fits 22 = .ok (.ireturn, 1) := by decide +kernel
theorem dX3_fits_23 : decode cX3_fits 23 = .ok (.iload_n 1, 1) := by decide +kernel
theorem dX3_fits_24 : decode cX3_fits 24 = .ok (.iconst 1, 1) := by decide +kernel
theorem dX3_fits_25 : decode cX3_fits 25 = .ok (.if_icmp .ne 21, 3) := by decide +kernel
theorem dX3_fits_28 : decode cX3_fits 28 = .ok (.iload_n 2, 1) := by decide +kernel
theorem dX3_fits_29 : decode cX3_fits 29 = .ok (.bipush 49, 2) := by decide +kernel
theorem dX3_fits_31 : decode cX3_fits 31 = .ok (.if_icmp .lt 13, 3) := by decide +kernel
theorem dX3_fits_34 : decode cX3_fits 34 = .ok (.iload_n 2, 1) := by decide +kernel
theorem dX3_fits_35 : decode cX3_fits 35 = .ok (.bipush 56, 2) := by decide +kernel
theorem dX3_fits_37 : decode cX3_fits 37 = .ok (.if_icmp .gt 7, 3) := by decide +kernel
theorem dX3_fits_40 : decode cX3_fits 40 = .ok (.iconst 1, 1) := by decide +kernel
theorem dX3_fits_41 : decode cX3_fits 41 = .ok (.goto 4, 3) := by decide +kernel
theorem dX3_fits_44 : decode cX3_fits 44 = .ok (.iconst 0, 1) := by decide +kernel
theorem dX3_fits_45 : decode cX3_fits 45 = .ok (.ireturn, 1) := by decide +kernel
theorem dX3_fits_46 : decode cX3_fits 46 = .ok (.iload_n 1, 1) := by decide +kernel
theorem dX3_fits_47 : decode cX3_fits 47 = .ok (.bipush 50, 2) := by decide +kernel
theorem dX3_fits_49 : decode cX3_fits 49 = .ok (.if_icmp .lt 5, 3) := by decide +kernel
theorem dX3_fits_52 : decode cX3_fits 52 = .ok (.iconst 0, 1) := by decide +kernel
theorem dX3_fits_53 : decode cX3_fits 53 = .ok (.ireturn, 1) := by decide +kernel
theorem dX3_fits_54 : decode cX3_fits 54 = .ok (.iload_n 1, 1) := by decide +kernel
theorem dX3_fits_55 : decode cX3_fits 55 = .ok (.iconst 2, 1) := by decide +kernel
theorem dX3_fits_56 : decode cX3_fits 56 = .ok (.isub, 1) := by decide +kernel
theorem dX3_fits_57 : decode cX3_fits 57 = .ok (.iconst 3, 1) := by decide +kernel
theorem dX3_fits_58 : decode cX3_fits 58 = .ok (.irem, 1) := by decide +kernel
theorem dX3_fits_59 : decode cX3_fits 59 = .ok (.iconst 2, 1) := by decide +kernel
theorem dX3_fits_60 : decode cX3_fits 60 = .ok (.if_icmp .ne 18, 3) := by decide +kernel
theorem dX3_fits_63 : decode cX3_fits 63 = .ok (.iload_n 2, 1) := by decide +kernel
theorem dX3_fits_64 : decode cX3_fits 64 = .ok (.invokestatic 27, 3) := by decide +kernel
theorem dX3_fits_67 : decode cX3_fits 67 = .ok (.bipush (-9), 2) := by decide +kernel
theorem dX3_fits_69 : decode cX3_fits 69 = .ok (.if_icmp .eq 7, 3) := by decide +kernel
theorem dX3_fits_72 : decode cX3_fits 72 = .ok (.iconst 1, 1) := by decide +kernel
theorem dX3_fits_73 : decode cX3_fits 73 = .ok (.goto 4, 3) := by decide +kernel
theorem dX3_fits_76 : decode cX3_fits 76 = .ok (.iconst 0, 1) := by decide +kernel
theorem dX3_fits_77 : decode cX3_fits 77 = .ok (.ireturn, 1) := by decide +kernel
theorem dX3_fits_78 : decode cX3_fits 78 = .ok (.iload_n 2, 1) := by decide +kernel
theorem dX3_fits_79 : decode cX3_fits 79 = .ok (.bipush 48, 2) := by decide +kernel
theorem dX3_fits_81 : decode cX3_fits 81 = .ok (.if_icmp .lt 18, 3) := by decide +kernel
theorem dX3_fits_84 : decode cX3_fits 84 = .ok (.iload_n 2, 1) := by decide +kernel
theorem dX3_fits_85 : decode cX3_fits 85 = .ok (.bipush 48, 2) := by decide +kernel
theorem dX3_fits_87 : decode cX3_fits 87 = .ok (.isub, 1) := by decide +kernel
theorem dX3_fits_88 : decode cX3_fits 88 = .ok (.aload_n 0, 1) := by decide +kernel
theorem dX3_fits_89 : decode cX3_fits 89 = .ok (.invokevirtual 31, 3) := by decide +kernel
theorem dX3_fits_92 : decode cX3_fits 92 = .ok (.if_icmp .ge 7, 3) := by decide +kernel
theorem dX3_fits_95 : decode cX3_fits 95 = .ok (.iconst 1, 1) := by decide +kernel
theorem dX3_fits_96 : decode cX3_fits 96 = .ok (.goto 4, 3) := by decide +kernel
theorem dX3_fits_99 : decode cX3_fits 99 = .ok (.iconst 0, 1) := by decide +kernel
theorem dX3_fits_100 : decode cX3_fits 100 = .ok (.ireturn, 1) := by decide +kernel
theorem dX3_labelOf_0 : decode cX3_labelOf 0 = .ok (.iconst 0, 1) := by decide +kernel
theorem dX3_labelOf_1 : decode cX3_labelOf 1 = .ok (.istore_n 1, 1) := by decide +kernel
theorem dX3_labelOf_2 : decode cX3_labelOf 2 = .ok (.iload_n 1, 1) := by decide +kernel
theorem dX3_labelOf_3 : decode cX3_labelOf 3 = .ok (.bipush 7, 2) := by decide +kernel
theorem dX3_labelOf_5 : decode cX3_labelOf 5 = .ok (.if_icmp .ge 20, 3) := by decide +kernel
theorem dX3_labelOf_8 : decode cX3_labelOf 8 = .ok (.getstatic 35, 3) := by decide +kernel
theorem dX3_labelOf_11 : decode cX3_labelOf 11 = .ok (.iload_n 1, 1) := by decide +kernel
theorem dX3_labelOf_12 : decode cX3_labelOf 12 = .ok (.caload, 1) := by decide +kernel
theorem dX3_labelOf_13 : decode cX3_labelOf 13 = .ok (.iload_n 0, 1) := by decide +kernel
theorem dX3_labelOf_14 : decode cX3_labelOf 14 = .ok (.if_icmp .ne 5, 3) := by decide +kernel
theorem dX3_labelOf_17 : decode cX3_labelOf 17 = .ok (.iload_n 1, 1) := by decide +kernel
theorem dX3_labelOf_18 : decode cX3_labelOf 18 = .ok (.ireturn, 1) := by decide +kernel
theorem dX3_labelOf_19 : decode cX3_labelOf 19 = .ok (.iinc 1 1, 3) := by decide +kernel
theorem dX3_labelOf_22 : decode cX3_labelOf 22 = .ok (.goto (-20), 3) := by decide +kernel
theorem dX3_labelOf_25 : decode cX3_labelOf 25 = .ok (.bipush (-9), 2) := by decide +kernel
theorem dX3_labelOf_27 : decode cX3_labelOf 27 = .ok (.ireturn, 1) := by decide +kernel
theorem dX3_writtenVertices_0 : decode cX3_writtenVertices 0 = .ok (.aload_n 0, 1) := by decide +kernel
theorem dX3_writtenVertices_1 : decode cX3_writtenVertices 1 = .ok (.getfield 11, 3) := by decide +kernel
theorem dX3_writtenVertices_4 : decode cX3_writtenVertices 4 = .ok (.iconst 1, 1) := by decide +kernel
theorem dX3_writtenVertices_5 : decode cX3_writtenVertices 5 = .ok (.iaload, 1) := by decide +kernel
theorem dX3_writtenVertices_6 : decode cX3_writtenVertices 6 = .ok (.bipush 48, 2) := by decide +kernel
theorem dX3_writtenVertices_8 : decode cX3_writtenVertices 8 = .ok (.isub, 1) := by decide +kernel
theorem dX3_writtenVertices_9 : decode cX3_writtenVertices 9 = .ok (.ireturn, 1) := by decide +kernel
set_option maxRecDepth 20000 in
theorem ggX3_writeEdgesTo_X3_labelOf : GoodIn wsX3_writeEdgesTo wsX3_labelOf := goodIn_r _ [7, 8] (by decide +kernel) (by decide +kernel)
set_option maxRecDepth 20000 in
theorem gX3_writeEdgesTo_X3_labelOf : GoodIn wsX3_writeEdgesTo (va_wsS RX3 27 yX3_labelOf wsX3_labelOf) := goodIn_app (goodIn_of _ (by decide +kernel)) ggX3_writeEdgesTo_X3_labelOf
set_option maxRecDepth 20000 in
theorem ggX3_writeEdgesTo_X2_put : GoodIn wsX3_writeEdgesTo wsX2_put := goodIn_r _ [13, 14, 15, 16, 17, 18, 19, 20, 12, 21, 22, 23, 24, 25] (by decide +kernel) (by decide +kernel)
set_option maxRecDepth 20000 in
theorem gX3_writeEdgesTo_X2_put : GoodIn wsX3_writeEdgesTo (wsV RX3 44 RX2 yX2_put wsX2_put) := goodIn_app (goodIn_of _ (by decide +kernel)) ggX3_writeEdgesTo_X2_put
theorem dX3_writeEdgesTo_0 : decode cX3_writeEdgesTo 0 = .ok (.aload_n 1, 1) := by decide +kernel
theorem dX3_writeEdgesTo_1 : decode cX3_writeEdgesTo 1 = .ok (.iconst 0, 1) := by decide +kernel
theorem dX3_writeEdgesTo_2 : decode cX3_writeEdgesTo 2 = .ok (.putfield 39, 3) := by decide +kernel
theorem dX3_writeEdgesTo_5 : decode cX3_writeEdgesTo 5 = .ok (.iconst 2, 1) := by decide +kernel
theorem dX3_writeEdgesTo_6 : decode cX3_writeEdgesTo 6 = .ok (.istore_n 2, 1) := by decide +kernel
theorem dX3_writeEdgesTo_7 : decode cX3_writeEdgesTo 7 = .ok (.iload_n 2, 1) := by decide +kernel
theorem dX3_writeEdgesTo_8 : decode cX3_writeEdgesTo 8 = .ok (.iconst 2, 1) := by decide +kernel
theorem dX3_writeEdgesTo_9 : decode cX3_writeEdgesTo 9 = .ok (.iadd, 1) := by decide +kernel
theorem dX3_writeEdgesTo_10 : decode cX3_writeEdgesTo 10 = .ok (.aload_n 0, 1) := by decide +kernel
theorem dX3_writeEdgesTo_11 : decode cX3_writeEdgesTo 11 = .ok (.getfield 15, 3) := by decide +kernel
theorem dX3_writeEdgesTo_14 : decode cX3_writeEdgesTo 14 = .ok (.if_icmp .ge 44, 3) := by decide +kernel
theorem dX3_writeEdgesTo_17 : decode cX3_writeEdgesTo 17 = .ok (.aload_n 1, 1) := by decide +kernel
theorem dX3_writeEdgesTo_18 : decode cX3_writeEdgesTo 18 = .ok (.aload_n 0, 1) := by decide +kernel
theorem dX3_writeEdgesTo_19 : decode cX3_writeEdgesTo 19 = .ok (.getfield 11, 3) := by decide +kernel
theorem dX3_writeEdgesTo_22 : decode cX3_writeEdgesTo 22 = .ok (.iload_n 2, 1) := by decide +kernel
theorem dX3_writeEdgesTo_23 : decode cX3_writeEdgesTo 23 = .ok (.iaload, 1) := by decide +kernel
theorem dX3_writeEdgesTo_24 : decode cX3_writeEdgesTo 24 = .ok (.bipush 48, 2) := by decide +kernel
theorem dX3_writeEdgesTo_26 : decode cX3_writeEdgesTo 26 = .ok (.isub, 1) := by decide +kernel
theorem dX3_writeEdgesTo_27 : decode cX3_writeEdgesTo 27 = .ok (.aload_n 0, 1) := by decide +kernel
theorem dX3_writeEdgesTo_28 : decode cX3_writeEdgesTo 28 = .ok (.getfield 11, 3) := by decide +kernel
theorem dX3_writeEdgesTo_31 : decode cX3_writeEdgesTo 31 = .ok (.iload_n 2, 1) := by decide +kernel
theorem dX3_writeEdgesTo_32 : decode cX3_writeEdgesTo 32 = .ok (.iconst 1, 1) := by decide +kernel
theorem dX3_writeEdgesTo_33 : decode cX3_writeEdgesTo 33 = .ok (.iadd, 1) := by decide +kernel
theorem dX3_writeEdgesTo_34 : decode cX3_writeEdgesTo 34 = .ok (.iaload, 1) := by decide +kernel
theorem dX3_writeEdgesTo_35 : decode cX3_writeEdgesTo 35 = .ok (.bipush 48, 2) := by decide +kernel
theorem dX3_writeEdgesTo_37 : decode cX3_writeEdgesTo 37 = .ok (.isub, 1) := by decide +kernel
theorem dX3_writeEdgesTo_38 : decode cX3_writeEdgesTo 38 = .ok (.aload_n 0, 1) := by decide +kernel
theorem dX3_writeEdgesTo_39 : decode cX3_writeEdgesTo 39 = .ok (.getfield 11, 3) := by decide +kernel
theorem dX3_writeEdgesTo_42 : decode cX3_writeEdgesTo 42 = .ok (.iload_n 2, 1) := by decide +kernel
theorem dX3_writeEdgesTo_43 : decode cX3_writeEdgesTo 43 = .ok (.iconst 2, 1) := by decide +kernel
theorem dX3_writeEdgesTo_44 : decode cX3_writeEdgesTo 44 = .ok (.iadd, 1) := by decide +kernel
theorem dX3_writeEdgesTo_45 : decode cX3_writeEdgesTo 45 = .ok (.iaload, 1) := by decide +kernel
theorem dX3_writeEdgesTo_46 : decode cX3_writeEdgesTo 46 = .ok (.invokestatic 27, 3) := by decide +kernel
theorem dX3_writeEdgesTo_49 : decode cX3_writeEdgesTo 49 = .ok (.invokevirtual 44, 3) := by decide +kernel
theorem dX3_writeEdgesTo_52 : decode cX3_writeEdgesTo 52 = .ok (.iinc 2 3, 3) := by decide +kernel
theorem dX3_writeEdgesTo_55 : decode cX3_writeEdgesTo 55 = .ok (.goto (-48), 3) := by decide +kernel
theorem dX3_writeEdgesTo_58 : decode cX3_writeEdgesTo 58 = .ok (.return_, 1) := by decide +kernel
set_option maxRecDepth 20000 in
theorem ggX4_init_X2_init : GoodIn wsX4_init wsX2_init := goodIn_r _ [12, 13, 2, 3, 14, 15, 16, 17, 18, 22, 23, 24, 25] (by decide +kernel) (by decide +kernel)
set_option maxRecDepth 20000 in
theorem gX4_init_X2_init : GoodIn wsX4_init (wsX2_init) := ggX4_init_X2_init
theorem dX4_init_0 : decode cX4_init 0 = .ok (.aload_n 0, 1) := by decide +kernel
theorem dX4_init_1 : decode cX4_init 1 = .ok (.invokespecial 3, 3) := by decide +kernel
theorem dX4_init_4 : decode cX4_init 4 = .ok (.aload_n 0, 1) := by decide +kernel
theorem dX4_init_5 : decode cX4_init 5 = .ok (.bipush 14, 2) := by decide +kernel
theorem dX4_init_7 : decode cX4_init 7 = .ok (.anewarray 11, 3) := by decide +kernel
theorem dX4_init_10 : decode cX4_init 10 = .ok (.putfield 13, 3) := by decide +kernel
theorem dX4_init_13 : decode cX4_init 13 = .ok (.iconst 0, 1) := by decide +kernel
theorem dX4_init_14 : decode cX4_init 14 = .ok (.istore_n 1, 1) := by decide +kernel
theorem dX4_init_15 : decode cX4_init 15 = .ok (.iload_n 1, 1) := by decide +kernel
theorem dX4_init_16 : decode cX4_init 16 = .ok (.bipush 14, 2) := by decide +kernel
theorem dX4_init_18 : decode cX4_init 18 = .ok (.if_icmp .ge 24, 3) := by decide +kernel
theorem dX4_init_21 : decode cX4_init 21 = .ok (.aload_n 0, 1) := by decide +kernel
theorem dX4_init_22 : decode cX4_init 22 = .ok (.getfield 13, 3) := by decide +kernel
theorem dX4_init_25 : decode cX4_init 25 = .ok (.iload_n 1, 1) := by decide +kernel
theorem dX4_init_26 : decode cX4_init 26 = .ok (.new 11, 3) := by decide +kernel
theorem dX4_init_29 : decode cX4_init 29 = .ok (.dup, 1) := by decide +kernel
theorem dX4_init_30 : decode cX4_init 30 = .ok (.bipush 16, 2) := by decide +kernel
theorem dX4_init_32 : decode cX4_init 32 = .ok (.invokespecial 17, 3) := by decide +kernel
theorem dX4_init_35 : decode cX4_init 35 = .ok (.aastore, 1) := by decide +kernel
theorem dX4_init_36 : decode cX4_init 36 = .ok (.iinc 1 1, 3) := by decide +kernel
theorem dX4_init_39 : decode cX4_init 39 = .ok (.goto (-24), 3) := by decide +kernel
theorem dX4_init_42 : decode cX4_init 42 = .ok (.aload_n 0, 1) := by decide +kernel
theorem dX4_init_43 : decode cX4_init 43 = .ok (.iconst 0, 1) := by decide +kernel
theorem dX4_init_44 : decode cX4_init 44 = .ok (.putfield 20, 3) := by decide +kernel
theorem dX4_init_47 : decode cX4_init 47 = .ok (.aload_n 0, 1) := by decide +kernel
theorem dX4_init_48 : decode cX4_init 48 = .ok (.iconst 0, 1) := by decide +kernel
theorem dX4_init_49 : decode cX4_init 49 = .ok (.putfield 24, 3) := by decide +kernel
theorem dX4_init_52 : decode cX4_init 52 = .ok (.return_, 1) := by decide +kernel
set_option maxRecDepth 20000 in
theorem ggX4_remember_X2_take : GoodIn wsX4_remember wsX2_take := goodIn_r _ [12, 13, 14, 15, 16, 17, 18, 19, 11, 20, 21, 22, 23, 24, 28, 29, 30, 31] (by decide +kernel) (by decide +kernel)
set_option maxRecDepth 20000 in
theorem gX4_remember_X2_take : GoodIn wsX4_remember (wsV RX4 27 RX2 yX2_take wsX2_take) := goodIn_app (goodIn_of _ (by decide +kernel)) ggX4_remember_X2_take
theorem dX4_remember_0 : decode cX4_remember 0 = .ok (.aload_n 0, 1) := by decide +kernel
theorem dX4_remember_1 : decode cX4_remember 1 = .ok (.getfield 13, 3) := by decide +kernel
theorem dX4_remember_4 : decode cX4_remember 4 = .ok (.aload_n 0, 1) := by decide +kernel
theorem dX4_remember_5 : decode cX4_remember 5 = .ok (.getfield 20, 3) := by decide +kernel
theorem dX4_remember_8 : decode cX4_remember 8 = .ok (.aaload, 1) := by decide +kernel
theorem dX4_remember_9 : decode cX4_remember 9 = .ok (.aload_n 1, 1) := by decide +kernel
theorem dX4_remember_10 : decode cX4_remember 10 = .ok (.invokevirtual 27, 3) := by decide +kernel
theorem dX4_remember_13 : decode cX4_remember 13 = .ok (.aload_n 0, 1) := by decide +kernel
theorem dX4_remember_14 : decode cX4_remember 14 = .ok (.aload_n 0, 1) := by decide +kernel
theorem dX4_remember_15 : decode cX4_remember 15 = .ok (.getfield 20, 3) := by decide +kernel
theorem dX4_remember_18 : decode cX4_remember 18 = .ok (.iconst 1, 1) := by decide +kernel
theorem dX4_remember_19 : decode cX4_remember 19 = .ok (.iadd, 1) := by decide +kernel
theorem dX4_remember_20 : decode cX4_remember 20 = .ok (.bipush 14, 2) := by decide +kernel
theorem dX4_remember_22 : decode cX4_remember 22 = .ok (.if_icmp .ge 12, 3) := by decide +kernel
theorem dX4_remember_25 : decode cX4_remember 25 = .ok (.aload_n 0, 1) := by decide +kernel
theorem dX4_remember_26 : decode cX4_remember 26 = .ok (.getfield 20, 3) := by decide +kernel
theorem dX4_remember_29 : decode cX4_remember 29 = .ok (.iconst 1, 1) := by decide +kernel
theorem dX4_remember_30 : decode cX4_remember 30 = .ok (.iadd, 1) := by decide +kernel
theorem dX4_remember_31 : decode cX4_remember 31 = .ok (.goto 4, 3) := by decide +kernel
theorem dX4_remember_34 : decode cX4_remember 34 = .ok (.iconst 0, 1) := by decide +kernel
theorem dX4_remember_35 : decode cX4_remember 35 = .ok (.putfield 20, 3) := by decide +kernel
theorem dX4_remember_38 : decode cX4_remember 38 = .ok (.aload_n 0, 1) := by decide +kernel
theorem dX4_remember_39 : decode cX4_remember 39 = .ok (.aload_n 0, 1) := by decide +kernel
theorem dX4_remember_40 : decode cX4_remember 40 = .ok (.getfield 24, 3) := by decide +kernel
theorem dX4_remember_43 : decode cX4_remember 43 = .ok (.iconst 1, 1) := by decide +kernel
theorem dX4_remember_44 : decode cX4_remember 44 = .ok (.iadd, 1) := by decide +kernel
theorem dX4_remember_45 : decode cX4_remember 45 = .ok (.bipush 14, 2) := by decide +kernel
theorem dX4_remember_47 : decode cX4_remember 47 = .ok (.invokestatic 31, 3) := by decide +kernel
theorem dX4_remember_50 : decode cX4_remember 50 = .ok (.putfield 24, 3) := by decide +kernel
theorem dX4_remember_53 : decode cX4_remember 53 = .ok (.return_, 1) := by decide +kernel
set_option maxRecDepth 20000 in
theorem ggX4_giveBack_X2_take : GoodIn wsX4_giveBack wsX2_take := goodIn_r _ [8, 9, 10, 11, 12, 13, 14, 15, 7, 16, 17, 18, 19, 20, 24, 25, 26, 27] (by decide +kernel) (by decide +kernel)
set_option maxRecDepth 20000 in
theorem gX4_giveBack_X2_take : GoodIn wsX4_giveBack (wsV RX4 27 RX2 yX2_take wsX2_take) := goodIn_app (goodIn_of _ (by decide +kernel)) ggX4_giveBack_X2_take
theorem dX4_giveBack_0 : decode cX4_giveBack 0 = .ok (.aload_n 0, 1) := by decide +kernel
theorem dX4_giveBack_1 : decode cX4_giveBack 1 = .ok (.getfield 24, 3) := by decide +kernel
theorem dX4_giveBack_4 : decode cX4_giveBack 4 = .ok (.ifCond .ne 4, 3) := by decide +kernel
theorem dX4_giveBack_7 : decode cX4_giveBack 7 = .ok (.return_, 1) := by decide +kernel
theorem dX4_giveBack_8 : decode cX4_giveBack 8 = .ok (.aload_n 0, 1) := by decide +kernel
theorem dX4_giveBack_9 : decode cX4_giveBack 9 = .ok (.aload_n 0, 1) := by decide +kernel
theorem dX4_giveBack_10 : decode cX4_giveBack 10 = .ok (.getfield 20, 3) := by decide +kernel
theorem dX4_giveBack_13 : decode cX4_giveBack 13 = .ok (.ifCond .le 12, 3) := by decide +kernel
theorem dX4_giveBack_16 : decode cX4_giveBack 16 = .ok (.aload_n 0, 1) := by decide +kernel
theorem dX4_giveBack_17 : decode cX4_giveBack 17 = .ok (.getfield 20, 3) := by decide +kernel
theorem dX4_giveBack_20 : decode cX4_giveBack 20 = .ok (.iconst 1, 1) := by decide +kernel
theorem dX4_giveBack_21 : decode cX4_giveBack 21 = .ok (.isub, 1) := by decide +kernel
theorem dX4_giveBack_22 : decode cX4_giveBack 22 = .ok (.goto 5, 3) := by decide +kernel
theorem dX4_giveBack_25 : decode cX4_giveBack 25 = .ok (.bipush 13, 2) := by decide +kernel
theorem dX4_giveBack_27 : decode cX4_giveBack 27 = .ok (.putfield 20, 3) := by decide +kernel
theorem dX4_giveBack_30 : decode cX4_giveBack 30 = .ok (.aload_n 0, 1) := by decide +kernel
theorem dX4_giveBack_31 : decode cX4_giveBack 31 = .ok (.dup, 1) := by decide +kernel
theorem dX4_giveBack_32 : decode cX4_giveBack 32 = .ok (.getfield 24, 3) := by decide +kernel
theorem dX4_giveBack_35 : decode cX4_giveBack 35 = .ok (.iconst 1, 1) := by decide +kernel
theorem dX4_giveBack_36 : decode cX4_giveBack 36 = .ok (.isub, 1) := by decide +kernel
theorem dX4_giveBack_37 : decode cX4_giveBack 37 = .ok (.putfield 24, 3) := by decide +kernel
theorem dX4_giveBack_40 : decode cX4_giveBack 40 = .ok (.aload_n 1, 1) := by decide +kernel
theorem dX4_giveBack_41 : decode cX4_giveBack 41 = .ok (.aload_n 0, 1) := by decide +kernel
theorem dX4_giveBack_42 : decode cX4_giveBack 42 = .ok (.getfield 13, 3) := by decide +kernel
theorem dX4_giveBack_45 : decode cX4_giveBack 45 = .ok (.aload_n 0, 1) := by decide +kernel
theorem dX4_giveBack_46 : decode cX4_giveBack 46 = .ok (.getfield 20, 3) := by decide +kernel
theorem dX4_giveBack_49 : decode cX4_giveBack 49 = .ok (.aaload, 1) := by decide +kernel
theorem dX4_giveBack_50 : decode cX4_giveBack 50 = .ok (.invokevirtual 27, 3) := by decide +kernel
theorem dX4_giveBack_53 : decode cX4_giveBack 53 = .ok (.return_, 1) := by decide +kernel
theorem dX4_forgetAll_0 : decode cX4_forgetAll 0 = .ok (.aload_n 0, 1) := by decide +kernel
theorem dX4_forgetAll_1 : decode cX4_forgetAll 1 = .ok (.iconst 0, 1) := by decide +kernel
theorem dX4_forgetAll_2 : decode cX4_forgetAll 2 = .ok (.putfield 24, 3) := by decide +kernel
theorem dX4_forgetAll_5 : decode cX4_forgetAll 5 = .ok (.return_, 1) := by decide +kernel
theorem dX5_init_0 : decode cX5_init 0 = .ok (.aload_n 0, 1) := by decide +kernel
theorem dX5_init_1 : decode cX5_init 1 = .ok (.invokespecial 1, 3) := by decide +kernel
theorem dX5_init_4 : decode cX5_init 4 = .ok (.aload_n 0, 1) := by decide +kernel
theorem dX5_init_5 : decode cX5_init 5 = .ok (.bipush 6, 2) := by decide +kernel
theorem dX5_init_7 : decode cX5_init 7 = .ok (.newarray .int, 2) := by decide +kernel
theorem dX5_init_9 : decode cX5_init 9 = .ok (.putfield 9, 3) := by decide +kernel
theorem dX5_init_12 : decode cX5_init 12 = .ok (.aload_n 0, 1) := by decide +kernel
theorem dX5_init_13 : decode cX5_init 13 = .ok (.bipush 6, 2) := by decide +kernel
theorem dX5_init_15 : decode cX5_init 15 = .ok (.newarray .int, 2) := by decide +kernel
theorem dX5_init_17 : decode cX5_init 17 = .ok (.putfield 13, 3) := by decide +kernel
theorem dX5_init_20 : decode cX5_init 20 = .ok (.aload_n 0, 1) := by decide +kernel
theorem dX5_init_21 : decode cX5_init 21 = .ok (.bipush 6, 2) := by decide +kernel
theorem dX5_init_23 : decode cX5_init 23 = .ok (.newarray .int, 2) := by decide +kernel
theorem dX5_init_25 : decode cX5_init 25 = .ok (.putfield 16, 3) := by decide +kernel
theorem dX5_init_28 : decode cX5_init 28 = .ok (.aload_n 0, 1) := by decide +kernel
theorem dX5_init_29 : decode cX5_init 29 = .ok (.iconst 0, 1) := by decide +kernel
theorem dX5_init_30 : decode cX5_init 30 = .ok (.putfield 19, 3) := by decide +kernel
theorem dX5_init_33 : decode cX5_init 33 = .ok (.return_, 1) := by decide +kernel
theorem dX5_isFull_0 : decode cX5_isFull 0 = .ok (.aload_n 0, 1) := by decide +kernel
theorem dX5_isFull_1 : decode cX5_isFull 1 = .ok (.getfield 19, 3) := by decide +kernel
theorem dX5_isFull_4 : decode cX5_isFull 4 = .ok (.bipush 6, 2) := by decide +kernel
theorem dX5_isFull_6 : decode cX5_isFull 6 = .ok (.if_icmp .lt 7, 3) := by decide +kernel
theorem dX5_isFull_9 : decode cX5_isFull 9 = .ok (.iconst 1, 1) := by decide +kernel
theorem dX5_isFull_10 : decode cX5_isFull 10 = .ok (.goto 4, 3) := by decide +kernel
theorem dX5_isFull_13 : decode cX5_isFull 13 = .ok (.iconst 0, 1) := by decide +kernel
theorem dX5_isFull_14 : decode cX5_isFull 14 = .ok (.ireturn, 1) := by decide +kernel
set_option maxRecDepth 20000 in
theorem ggX5_put_X5_isFull : GoodIn wsX5_put wsX5_isFull := goodIn_r _ [9, 2, 10, 11, 12, 13] (by decide +kernel) (by decide +kernel)
set_option maxRecDepth 20000 in
theorem gX5_put_X5_isFull : GoodIn wsX5_put (wsV RX5 23 RX5 yX5_isFull wsX5_isFull) := goodIn_app (goodIn_of _ (by decide +kernel)) ggX5_put_X5_isFull
theorem dX5_put_0 : decode cX5_put 0 = .ok (.aload_n 0, 1) := by decide +kernel
theorem dX5_put_1 : decode cX5_put 1 = .ok (.invokevirtual 23, 3) := by decide +kernel
theorem dX5_put_4 : decode cX5_put 4 = .ok (.ifCond .eq 4, 3) := by decide +kernel
theorem dX5_put_7 : decode cX5_put 7 = .ok (.return_, 1) := by decide +kernel
theorem dX5_put_8 : decode cX5_put 8 = .ok (.aload_n 0, 1) := by decide +kernel
theorem dX5_put_9 : decode cX5_put 9 = .ok (.getfield 9, 3) := by decide +kernel
theorem dX5_put_12 : decode cX5_put 12 = .ok (.aload_n 0, 1) := by decide +kernel
theorem dX5_put_13 : decode cX5_put 13 = .ok (.getfield 19, 3) := by decide +kernel
theorem dX5_put_16 : decode cX5_put 16 = .ok (.iload_n 1, 1) := by decide +kernel
theorem dX5_put_17 : decode cX5_put 17 = .ok (.iastore, 1) := by decide +kernel
theorem dX5_put_18 : decode cX5_put 18 = .ok (.aload_n 0, 1) := by decide +kernel
theorem dX5_put_19 : decode cX5_put 19 = .ok (.getfield 13, 3) := by decide +kernel
theorem dX5_put_22 : decode cX5_put 22 = .ok (.aload_n 0, 1) := by decide +kernel
theorem dX5_put_23 : decode cX5_put 23 = .ok (.getfield 19, 3) := by decide +kernel
theorem dX5_put_26 : decode cX5_put 26 = .ok (.iload_n 2, 1) := by decide +kernel
theorem dX5_put_27 : decode cX5_put 27 = .ok (.iastore, 1) := by decide +kernel
theorem dX5_put_28 : decode cX5_put 28 = .ok (.aload_n 0, 1) := by decide +kernel
theorem dX5_put_29 : decode cX5_put 29 = .ok (.getfield 16, 3) := by decide +kernel
theorem dX5_put_32 : decode cX5_put 32 = .ok (.aload_n 0, 1) := by decide +kernel
theorem dX5_put_33 : decode cX5_put 33 = .ok (.getfield 19, 3) := by decide +kernel
theorem dX5_put_36 : decode cX5_put 36 = .ok (.iload_n 3, 1) := by decide +kernel
theorem dX5_put_37 : decode cX5_put 37 = .ok (.iastore, 1) := by decide +kernel
theorem dX5_put_38 : decode cX5_put 38 = .ok (.aload_n 0, 1) := by decide +kernel
theorem dX5_put_39 : decode cX5_put 39 = .ok (.dup, 1) := by decide +kernel
theorem dX5_put_40 : decode cX5_put 40 = .ok (.getfield 19, 3) := by decide +kernel
theorem dX5_put_43 : decode cX5_put 43 = .ok (.iconst 1, 1) := by decide +kernel
theorem dX5_put_44 : decode cX5_put 44 = .ok (.iadd, 1) := by decide +kernel
theorem dX5_put_45 : decode cX5_put 45 = .ok (.putfield 19, 3) := by decide +kernel
theorem dX5_put_48 : decode cX5_put 48 = .ok (.return_, 1) := by decide +kernel
set_option maxRecDepth 20000 in
theorem ggX5_allHold_X6_has : GoodIn wsX5_allHold wsX6_has := goodIn_r _ [8, 9, 10, 7, 11] (by decide +kernel) (by decide +kernel)
set_option maxRecDepth 20000 in
theorem gX5_allHold_X6_has : GoodIn wsX5_allHold (va_wsS RX5 27 yX6_has wsX6_has) := goodIn_app (goodIn_of _ (by decide +kernel)) ggX5_allHold_X6_has
theorem dX5_allHold_0 : decode cX5_allHold 0 = .ok (.iconst 0, 1) := by decide +kernel
theorem dX5_allHold_1 : decode cX5_allHold 1 = .ok (.istore 4, 2) := by decide +kernel
theorem dX5_allHold_3 : decode cX5_allHold 3 = .ok (.iload 4, 2) := by decide +kernel
theorem dX5_allHold_5 : decode cX5_allHold 5 = .ok (.aload_n 0, 1) := by decide +kernel
theorem dX5_allHold_6 : decode cX5_allHold 6 = .ok (.getfield 19, 3) := by decide +kernel
theorem dX5_allHold_9 : decode cX5_allHold 9 = .ok (.if_icmp .ge 86, 3) := by decide +kernel
theorem dX5_allHold_12 : decode cX5_allHold 12 = .ok (.aload_n 0, 1) := by decide +kernel
theorem dX5_allHold_13 : decode cX5_allHold 13 = .ok (.getfield 9, 3) := by decide +kernel
theorem dX5_allHold_16 : decode cX5_allHold 16 = .ok (.iload 4, 2) := by decide +kernel
theorem dX5_allHold_18 : decode cX5_allHold 18 = .ok (.iaload, 1) := by decide +kernel
theorem dX5_allHold_19 : decode cX5_allHold 19 = .ok (.iload_n 3, 1) := by decide +kernel
theorem dX5_allHold_20 : decode cX5_allHold 20 = .ok (.if_icmp .ge 18, 3) := by decide +kernel
theorem dX5_allHold_23 : decode cX5_allHold 23 = .ok (.aload_n 0, 1) := by decide +kernel
theorem dX5_allHold_24 : decode cX5_allHold 24 = .ok (.getfield 13, 3) := by decide +kernel
theorem dX5_allHold_27 : decode cX5_allHold 27 = .ok (.iload 4, 2) := by decide +kernel
theorem dX5_allHold_29 : decode cX5_allHold 29 = .ok (.iaload, 1) := by decide +kernel
theorem dX5_allHold_30 : decode cX5_allHold 30 = .ok (.iload_n 3, 1) := by decide +kernel
theorem dX5_allHold_31 : decode cX5_allHold 31 = .ok (.if_icmp .ge 7, 3) := by decide +kernel
theorem dX5_allHold_34 : decode cX5_allHold 34 = .ok (.iconst 1, 1) := by decide +kernel
theorem dX5_allHold_35 : decode cX5_allHold 35 = .ok (.goto 4, 3) := by decide +kernel
theorem dX5_allHold_38 : decode cX5_allHold 38 = .ok (.iconst 0, 1) := by decide +kernel
theorem dX5_allHold_39 : decode cX5_allHold 39 = .ok (.istore 5, 2) := by decide +kernel
theorem dX5_allHold_41 : decode cX5_allHold 41 = .ok (.lload_n 1, 1) := by decide +kernel
theorem dX5_allHold_42 : decode cX5_allHold 42 = .ok (.aload_n 0, 1) := by decide +kernel
theorem dX5_allHold_43 : decode cX5_allHold 43 = .ok (.getfield 9, 3) := by decide +kernel
theorem dX5_allHold_46 : decode cX5_allHold 46 = .ok (.iload 4, 2) := by decide +kernel
theorem dX5_allHold_48 : decode cX5_allHold 48 = .ok (.iaload, 1) := by decide +kernel
theorem dX5_allHold_49 : decode cX5_allHold 49 = .ok (.aload_n 0, 1) := by decide +kernel
theorem dX5_allHold_50 : decode cX5_allHold 50 = .ok (.getfield 13, 3) := by decide +kernel
theorem dX5_allHold_53 : decode cX5_allHold 53 = .ok (.iload 4, 2) := by decide +kernel
theorem dX5_allHold_55 : decode cX5_allHold 55 = .ok (.iaload, 1) := by decide +kernel
theorem dX5_allHold_56 : decode cX5_allHold 56 = .ok (.invokestatic 27, 3) := by decide +kernel
theorem dX5_allHold_59 : decode cX5_allHold 59 = .ok (.istore 6, 2) := by decide +kernel
theorem dX5_allHold_61 : decode cX5_allHold 61 = .ok (.iload 5, 2) := by decide +kernel
theorem dX5_allHold_63 : decode cX5_allHold 63 = .ok (.ifCond .eq 26, 3) := by decide +kernel
theorem dX5_allHold_66 : decode cX5_allHold 66 = .ok (.iload 6, 2) := by decide +kernel
theorem dX5_allHold_68 : decode cX5_allHold 68 = .ok (.aload_n 0, 1) := by decide +kernel
theorem dX5_allHold_69 : decode cX5_allHold 69 = .ok (.getfield 16, 3) := by decide +kernel
theorem dX5_allHold_72 : decode cX5_allHold 72 = .ok (.iload 4, 2) := by decide +kernel
theorem dX5_allHold_74 : decode cX5_allHold 74 = .ok (.iaload, 1) := by decide +kernel
theorem dX5_allHold_75 : decode cX5_allHold 75 = .ok (.iconst 1, 1) := by decide +kernel
theorem dX5_allHold_76 : decode cX5_allHold 76 = .ok (.if_icmp .ne 7, 3) := by decide +kernel
theorem dX5_allHold_79 : decode cX5_allHold 79 = .ok (.iconst 1, 1) := by decide +kernel
theorem dX5_allHold_80 : decode cX5_allHold 80 = .ok (.goto 4, 3) := by decide +kernel
theorem dX5_allHold_83 : decode cX5_allHold 83 = .ok (.iconst 0, 1) := by decide +kernel
theorem dX5_allHold_84 : decode cX5_allHold 84 = .ok (.if_icmp .eq 5, 3) := by decide +kernel
theorem dX5_allHold_87 : decode cX5_allHold 87 = .ok (.iconst 0, 1) := by decide +kernel
theorem dX5_allHold_88 : decode cX5_allHold 88 = .ok (.ireturn, 1) := by decide +kernel
theorem dX5_allHold_89 : decode cX5_allHold 89 = .ok (.iinc 4 1, 3) := by decide +kernel
theorem dX5_allHold_92 : decode cX5_allHold 92 = .ok (.goto (-89), 3) := by decide +kernel
theorem dX5_allHold_95 : decode cX5_allHold 95 = .ok (.iconst 1, 1) := by decide +kernel
theorem dX5_allHold_96 : decode cX5_allHold 96 = .ok (.ireturn, 1) := by decide +kernel
theorem dX6_row_0 : decode cX6_row 0 = .ok (.lload_n 0, 1) := by decide +kernel
theorem dX6_row_1 : decode cX6_row 1 = .ok (.bipush 8, 2) := by decide +kernel
theorem dX6_row_3 : decode cX6_row 3 = .ok (.iload_n 2, 1) := by decide +kernel
theorem dX6_row_4 : decode cX6_row 4 = .ok (.imul, 1) := by decide +kernel
theorem dX6_row_5 : decode cX6_row 5 = .ok (.lushr, 1) := by decide +kernel
theorem dX6_row_6 : decode cX6_row 6 = .ok (.l2i, 1) := by decide +kernel
theorem dX6_row_7 : decode cX6_row 7 = .ok (.sipush 255, 3) := by decide +kernel
theorem dX6_row_10 : decode cX6_row 10 = .ok (.iand, 1) := by decide +kernel
theorem dX6_row_11 : decode cX6_row 11 = .ok (.ireturn, 1) := by decide +kernel
set_option maxRecDepth 20000 in
theorem ggX6_has_X6_row : GoodIn wsX6_has wsX6_row := goodIn_r _ [4] (by decide +kernel) (by decide +kernel)
set_option maxRecDepth 20000 in
theorem gX6_has_X6_row : GoodIn wsX6_has (va_wsS RX6 11 yX6_row wsX6_row) := goodIn_app (goodIn_of _ (by decide +kernel)) ggX6_has_X6_row
theorem dX6_has_0 : decode cX6_has 0 = .ok (.lload_n 0, 1) := by decide +kernel
theorem dX6_has_1 : decode cX6_has 1 = .ok (.iload_n 2, 1) := by decide +kernel
theorem dX6_has_2 : decode cX6_has 2 = .ok (.invokestatic 11, 3) := by decide +kernel
theorem dX6_has_5 : decode cX6_has 5 = .ok (.iload_n 3, 1) := by decide +kernel
theorem dX6_has_6 : decode cX6_has 6 = .ok (.ishr, 1) := by decide +kernel
theorem dX6_has_7 : decode cX6_has 7 = .ok (.iconst 1, 1) := by decide +kernel
theorem dX6_has_8 : decode cX6_has 8 = .ok (.iand, 1) := by decide +kernel
theorem dX6_has_9 : decode cX6_has 9 = .ok (.ifCond .eq 7, 3) := by decide +kernel
theorem dX6_has_12 : decode cX6_has 12 = .ok (.iconst 1, 1) := by decide +kernel
theorem dX6_has_13 : decode cX6_has 13 = .ok (.goto 4, 3) := by decide +kernel
theorem dX6_has_16 : decode cX6_has 16 = .ok (.iconst 0, 1) := by decide +kernel
theorem dX6_has_17 : decode cX6_has 17 = .ok (.ireturn, 1) := by decide +kernel
theorem dX6_withRow_0 : decode cX6_withRow 0 = .ok (.lload_n 0, 1) := by decide +kernel
theorem dX6_withRow_1 : decode cX6_withRow 1 = .ok (.iload_n 3, 1) := by decide +kernel
theorem dX6_withRow_2 : decode cX6_withRow 2 = .ok (.i2l, 1) := by decide +kernel
theorem dX6_withRow_3 : decode cX6_withRow 3 = .ok (.bipush 8, 2) := by decide +kernel
theorem dX6_withRow_5 : decode cX6_withRow 5 = .ok (.iload_n 2, 1) := by decide +kernel
theorem dX6_withRow_6 : decode cX6_withRow 6 = .ok (.imul, 1) := by decide +kernel
theorem dX6_withRow_7 : decode cX6_withRow 7 = .ok (.lshl, 1) := by decide +kernel
theorem dX6_withRow_8 : decode cX6_withRow 8 = .ok (.lor, 1) := by decide +kernel
theorem dX6_withRow_9 : decode cX6_withRow 9 = .ok (.lreturn, 1) := by decide +kernel
set_option maxRecDepth 20000 in
theorem ggX6_identity_X6_withRow : GoodIn wsX6_identity wsX6_withRow := goodIn_r _ [4] (by decide +kernel) (by decide +kernel)
set_option maxRecDepth 20000 in
theorem gX6_identity_X6_withRow : GoodIn wsX6_identity (va_wsS RX6 15 yX6_withRow wsX6_withRow) := goodIn_app (goodIn_of _ (by decide +kernel)) ggX6_identity_X6_withRow
theorem dX6_identity_0 : decode cX6_identity 0 = .ok (.lconst 0, 1) := by decide +kernel
theorem dX6_identity_1 : decode cX6_identity 1 = .ok (.lstore_n 1, 1) := by decide +kernel
theorem dX6_identity_2 : decode cX6_identity 2 = .ok (.iconst 0, 1) := by decide +kernel
theorem dX6_identity_3 : decode cX6_identity 3 = .ok (.istore_n 3, 1) := by decide +kernel
theorem dX6_identity_4 : decode cX6_identity 4 = .ok (.iload_n 3, 1) := by decide +kernel
theorem dX6_identity_5 : decode cX6_identity 5 = .ok (.iload_n 0, 1) := by decide +kernel
theorem dX6_identity_6 : decode cX6_identity 6 = .ok (.if_icmp .ge 18, 3) := by decide +kernel
theorem dX6_identity_9 : decode cX6_identity 9 = .ok (.lload_n 1, 1) := by decide +kernel
theorem dX6_identity_10 : decode cX6_identity 10 = .ok (.iload_n 3, 1) := by decide +kernel
theorem dX6_identity_11 : decode cX6_identity 11 = .ok (.iconst 1, 1) := by decide +kernel
theorem dX6_identity_12 : decode cX6_identity 12 = .ok (.iload_n 3, 1) := by decide +kernel
theorem dX6_identity_13 : decode cX6_identity 13 = .ok (.ishl, 1) := by decide +kernel
theorem dX6_identity_14 : decode cX6_identity 14 = .ok (.invokestatic 15, 3) := by decide +kernel
theorem dX6_identity_17 : decode cX6_identity 17 = .ok (.lstore_n 1, 1) := by decide +kernel
theorem dX6_identity_18 : decode cX6_identity 18 = .ok (.iinc 3 1, 3) := by decide +kernel
theorem dX6_identity_21 : decode cX6_identity 21 = .ok (.goto (-17), 3) := by decide +kernel
theorem dX6_identity_24 : decode cX6_identity 24 = .ok (.lload_n 1, 1) := by decide +kernel
theorem dX6_identity_25 : decode cX6_identity 25 = .ok (.lreturn, 1) := by decide +kernel
set_option maxRecDepth 20000 in
theorem ggX6_ofBalancedPaths_X6_identity : GoodIn wsX6_ofBalancedPaths wsX6_identity := goodIn_r _ [5, 6, 7, 4, 8] (by decide +kernel) (by decide +kernel)
set_option maxRecDepth 20000 in
theorem gX6_ofBalancedPaths_X6_identity : GoodIn wsX6_ofBalancedPaths (va_wsS RX6 19 yX6_identity wsX6_identity) := goodIn_app (goodIn_of _ (by decide +kernel)) ggX6_ofBalancedPaths_X6_identity
set_option maxRecDepth 20000 in
theorem ggX6_ofBalancedPaths_X6_withPathsBehind : GoodIn wsX6_ofBalancedPaths wsX6_withPathsBehind := goodIn_r _ [11, 12, 13, 1, 14, 15, 16, 17, 18, 19, 20, 21, 4, 22, 6, 7, 8, 23, 24, 25, 26, 27, 28, 29, 30, 31, 32, 33, 34, 35, 36, 37] (by decide +kernel) (by decide +kernel)
set_option maxRecDepth 20000 in
theorem gX6_ofBalancedPaths_X6_withPathsBehind : GoodIn wsX6_ofBalancedPaths (va_wsS RX6 29 yX6_withPathsBehind wsX6_withPathsBehind) := goodIn_app (goodIn_of _ (by decide +kernel)) ggX6_ofBalancedPaths_X6_withPathsBehind
theorem dX6_ofBalancedPaths_0 : decode cX6_ofBalancedPaths 0 = .ok (.iload_n 1, 1) := by decide +kernel
theorem dX6_ofBalancedPaths_1 : decode cX6_ofBalancedPaths 1 = .ok (.invokestatic 19, 3) := by decide +kernel
theorem dX6_ofBalancedPaths_4 : decode cX6_ofBalancedPaths 4 = .ok (.lstore_n 2, 1) := by decide +kernel
theorem dX6_ofBalancedPaths_5 : decode cX6_ofBalancedPaths 5 = .ok (.iconst 0, 1) := by decide +kernel
theorem dX6_ofBalancedPaths_6 : decode cX6_ofBalancedPaths 6 = .ok (.istore 4, 2) := by decide +kernel
theorem dX6_ofBalancedPaths_8 : decode cX6_ofBalancedPaths 8 = .ok (.iload 4, 2) := by decide +kernel
theorem dX6_ofBalancedPaths_10 : decode cX6_ofBalancedPaths 10 = .ok (.bipush 64, 2) := by decide +kernel
theorem dX6_ofBalancedPaths_12 : decode cX6_ofBalancedPaths 12 = .ok (.if_icmp .gt 48, 3) := by decide +kernel
theorem dX6_ofBalancedPaths_15 : decode cX6_ofBalancedPaths 15 = .ok (.lload_n 2, 1) := by decide +kernel
theorem dX6_ofBalancedPaths_16 : decode cX6_ofBalancedPaths 16 = .ok (.lstore 5, 2) := by decide +kernel
theorem dX6_ofBalancedPaths_18 : decode cX6_ofBalancedPaths 18 = .ok (.iconst 0, 1) := by decide +kernel
theorem dX6_ofBalancedPaths_19 : decode cX6_ofBalancedPaths 19 = .ok (.istore 7, 2) := by decide +kernel
theorem dX6_ofBalancedPaths_21 : decode cX6_ofBalancedPaths 21 = .ok (.iload 7, 2) := by decide +kernel
theorem dX6_ofBalancedPaths_23 : decode cX6_ofBalancedPaths 23 = .ok (.aload_n 0, 1) := by decide +kernel
theorem dX6_ofBalancedPaths_24 : decode cX6_ofBalancedPaths 24 = .ok (.getfield 23, 3) := by decide +kernel
theorem dX6_ofBalancedPaths_27 : decode cX6_ofBalancedPaths 27 = .ok (.if_icmp .ge 17, 3) := by decide +kernel
theorem dX6_ofBalancedPaths_30 : decode cX6_ofBalancedPaths 30 = .ok (.iload 7, 2) := by decide +kernel
theorem dX6_ofBalancedPaths_32 : decode cX6_ofBalancedPaths 32 = .ok (.lload_n 2, 1) := by decide +kernel
theorem dX6_ofBalancedPaths_33 : decode cX6_ofBalancedPaths 33 = .ok (.aload_n 0, 1) := by decide +kernel
theorem dX6_ofBalancedPaths_34 : decode cX6_ofBalancedPaths 34 = .ok (.invokestatic 29, 3) := by decide +kernel
theorem dX6_ofBalancedPaths_37 : decode cX6_ofBalancedPaths 37 = .ok (.lstore_n 2, 1) := by decide +kernel
theorem dX6_ofBalancedPaths_38 : decode cX6_ofBalancedPaths 38 = .ok (.iinc 7 1, 3) := by decide +kernel
theorem dX6_ofBalancedPaths_41 : decode cX6_ofBalancedPaths 41 = .ok (.goto (-20), 3) := by decide +kernel
theorem dX6_ofBalancedPaths_44 : decode cX6_ofBalancedPaths 44 = .ok (.lload_n 2, 1) := by decide +kernel
theorem dX6_ofBalancedPaths_45 : decode cX6_ofBalancedPaths 45 = .ok (.lload 5, 2) := by decide +kernel
theorem dX6_ofBalancedPaths_47 : decode cX6_ofBalancedPaths 47 = .ok (.lcmp, 1) := by decide +kernel
theorem dX6_ofBalancedPaths_48 : decode cX6_ofBalancedPaths 48 = .ok (.ifCond .ne 6, 3) := by decide +kernel
theorem dX6_ofBalancedPaths_51 : decode cX6_ofBalancedPaths 51 = .ok (.goto 9, 3) := by decide +kernel
theorem dX6_ofBalancedPaths_54 : decode cX6_ofBalancedPaths 54 = .ok (.iinc 4 1, 3) := by decide +kernel
theorem dX6_ofBalancedPaths_57 : decode cX6_ofBalancedPaths 57 = .ok (.goto (-49), 3) := by decide +kernel
theorem dX6_ofBalancedPaths_60 : decode cX6_ofBalancedPaths 60 = .ok (.lload_n 2, 1) := by decide +kernel
theorem dX6_ofBalancedPaths_61 : decode cX6_ofBalancedPaths 61 = .ok (.lreturn, 1) := by decide +kernel
set_option maxRecDepth 20000 in
theorem ggX6_withPathsBehind_X2_isEmptyLabelled : GoodIn wsX6_withPathsBehind wsX2_isEmptyLabelled := goodIn_r _ [8, 9, 28, 29, 30, 31] (by decide +kernel) (by decide +kernel)
set_option maxRecDepth 20000 in
theorem gX6_withPathsBehind_X2_isEmptyLabelled : GoodIn wsX6_withPathsBehind (wsV RX6 40 RX2 yX2_isEmptyLabelled wsX2_isEmptyLabelled) := goodIn_app (goodIn_of _ (by decide +kernel)) ggX6_withPathsBehind_X2_isEmptyLabelled
set_option maxRecDepth 20000 in
theorem ggX6_withPathsBehind_X6_row : GoodIn wsX6_withPathsBehind wsX6_row := goodIn_r _ [13] (by decide +kernel) (by decide +kernel)
set_option maxRecDepth 20000 in
theorem gX6_withPathsBehind_X6_row : GoodIn wsX6_withPathsBehind (va_wsS RX6 11 yX6_row wsX6_row) := goodIn_app (goodIn_of _ (by decide +kernel)) ggX6_withPathsBehind_X6_row
set_option maxRecDepth 20000 in
theorem ggX6_withPathsBehind_X6_withRow : GoodIn wsX6_withPathsBehind wsX6_withRow := goodIn_r _ [16] (by decide +kernel) (by decide +kernel)
set_option maxRecDepth 20000 in
theorem gX6_withPathsBehind_X6_withRow : GoodIn wsX6_withPathsBehind (va_wsS RX6 15 yX6_withRow wsX6_withRow) := goodIn_app (goodIn_of _ (by decide +kernel)) ggX6_withPathsBehind_X6_withRow
set_option maxRecDepth 20000 in
theorem ggX6_withPathsBehind_X2_opens : GoodIn wsX6_withPathsBehind wsX2_opens := goodIn_r _ [20, 9, 28, 29, 30, 31] (by decide +kernel) (by decide +kernel)
set_option maxRecDepth 20000 in
theorem gX6_withPathsBehind_X2_opens : GoodIn wsX6_withPathsBehind (wsV RX6 44 RX2 yX2_opens wsX2_opens) := goodIn_app (goodIn_of _ (by decide +kernel)) ggX6_withPathsBehind_X2_opens
set_option maxRecDepth 20000 in
theorem ggX6_withPathsBehind_X2_closes : GoodIn wsX6_withPathsBehind wsX2_closes := goodIn_r _ [24, 9, 28, 29, 30, 31] (by decide +kernel) (by decide +kernel)
set_option maxRecDepth 20000 in
theorem gX6_withPathsBehind_X2_closes : GoodIn wsX6_withPathsBehind (wsV RX6 47 RX2 yX2_closes wsX2_closes) := goodIn_app (goodIn_of _ (by decide +kernel)) ggX6_withPathsBehind_X2_closes
set_option maxRecDepth 20000 in
theorem ggX6_withPathsBehind_X6_has : GoodIn wsX6_withPathsBehind wsX6_has := goodIn_r _ [27, 10, 11, 12, 13] (by decide +kernel) (by decide +kernel)
set_option maxRecDepth 20000 in
theorem gX6_withPathsBehind_X6_has : GoodIn wsX6_withPathsBehind (va_wsS RX6 51 yX6_has wsX6_has) := goodIn_app (goodIn_of _ (by decide +kernel)) ggX6_withPathsBehind_X6_has
theorem dX6_withPathsBehind_0 : decode cX6_withPathsBehind 0 = .ok (.aload_n 3, 1) := by decide +kernel
theorem dX6_withPathsBehind_1 : decode cX6_withPathsBehind 1 = .ok (.getfield 33, 3) := by decide +kernel
theorem dX6_withPathsBehind_4 : decode cX6_withPathsBehind 4 = .ok (.iload_n 0, 1) := by decide +kernel
theorem dX6_withPathsBehind_5 : decode cX6_withPathsBehind 5 = .ok (.iaload, 1) := by decide +kernel
theorem dX6_withPathsBehind_6 : decode cX6_withPathsBehind 6 = .ok (.istore 4, 2) := by decide +kernel
theorem dX6_withPathsBehind_8 : decode cX6_withPathsBehind 8 = .ok (.aload_n 3, 1) := by decide +kernel
theorem dX6_withPathsBehind_9 : decode cX6_withPathsBehind 9 = .ok (.getfield 37, 3) := by decide +kernel
theorem dX6_withPathsBehind_12 : decode cX6_withPathsBehind 12 = .ok (.iload_n 0, 1) := by decide +kernel
theorem dX6_withPathsBehind_13 : decode cX6_withPathsBehind 13 = .ok (.iaload, 1) := by decide +kernel
theorem dX6_withPathsBehind_14 : decode cX6_withPathsBehind 14 = .ok (.istore 5, 2) := by decide +kernel
theorem dX6_withPathsBehind_16 : decode cX6_withPathsBehind 16 = .ok (.aload_n 3, 1) := by decide +kernel
theorem dX6_withPathsBehind_17 : decode cX6_withPathsBehind 17 = .ok (.iload_n 0, 1) := by decide +kernel
theorem dX6_withPathsBehind_18 : decode cX6_withPathsBehind 18 = .ok (.invokevirtual 40, 3) := by decide +kernel
theorem dX6_withPathsBehind_21 : decode cX6_withPathsBehind 21 = .ok (.ifCond .eq 16, 3) := by decide +kernel
theorem dX6_withPathsBehind_24 : decode cX6_withPathsBehind 24 = .ok (.lload_n 1, 1) := by decide +kernel
theorem dX6_withPathsBehind_25 : decode cX6_withPathsBehind 25 = .ok (.iload 4, 2) := by decide +kernel
theorem dX6_withPathsBehind_27 : decode cX6_withPathsBehind 27 = .ok (.lload_n 1, 1) := by decide +kernel
theorem dX6_withPathsBehind_28 : decode cX6_withPathsBehind 28 = .ok (.iload 5, 2) := by decide +kernel
theorem dX6_withPathsBehind_30 : decode cX6_withPathsBehind 30 = .ok (.invokestatic 11, 3) := by decide +kernel
theorem dX6_withPathsBehind_33 : decode cX6_withPathsBehind 33 = .ok (.invokestatic 15, 3) := by decide +kernel
theorem dX6_withPathsBehind_36 : decode cX6_withPathsBehind 36 = .ok (.lreturn, 1) := by decide +kernel
theorem dX6_withPathsBehind_37 : decode cX6_withPathsBehind 37 = .ok (.aload_n 3, 1) := by decide +kernel
theorem dX6_withPathsBehind_38 : decode cX6_withPathsBehind 38 = .ok (.iload_n 0, 1) := by decide +kernel
theorem dX6_withPathsBehind_39 : decode cX6_withPathsBehind 39 = .ok (.invokevirtual 44, 3) := by decide +kernel
theorem dX6_withPathsBehind_42 : decode cX6_withPathsBehind 42 = .ok (.ifCond .ne 5, 3) := by decide +kernel
theorem dX6_withPathsBehind_45 : decode cX6_withPathsBehind 45 = .ok (.lload_n 1, 1) := by decide +kernel
theorem dX6_withPathsBehind_46 : decode cX6_withPathsBehind 46 = .ok (.lreturn, 1) := by decide +kernel
theorem dX6_withPathsBehind_47 : decode cX6_withPathsBehind 47 = .ok (.lload_n 1, 1) := by decide +kernel
theorem dX6_withPathsBehind_48 : decode cX6_withPathsBehind 48 = .ok (.lstore 6, 2) := by decide +kernel
theorem dX6_withPathsBehind_50 : decode cX6_withPathsBehind 50 = .ok (.iconst 0, 1) := by decide +kernel
theorem dX6_withPathsBehind_51 : decode cX6_withPathsBehind 51 = .ok (.istore 8, 2) := by decide +kernel
theorem dX6_withPathsBehind_53 : decode cX6_withPathsBehind 53 = .ok (.iload 8, 2) := by decide +kernel
theorem dX6_withPathsBehind_55 : decode cX6_withPathsBehind 55 = .ok (.aload_n 3, 1) := by decide +kernel
theorem dX6_withPathsBehind_56 : decode cX6_withPathsBehind 56 = .ok (.getfield 23, 3) := by decide +kernel
theorem dX6_withPathsBehind_59 : decode cX6_withPathsBehind 59 = .ok (.if_icmp .ge 57, 3) := by decide +kernel
theorem dX6_withPathsBehind_62 : decode cX6_withPathsBehind 62 = .ok (.aload_n 3, 1) := by decide +kernel
theorem dX6_withPathsBehind_63 : decode cX6_withPathsBehind 63 = .ok (.iload 8, 2) := by decide +kernel
theorem dX6_withPathsBehind_65 : decode cX6_withPathsBehind 65 = .ok (.iload_n 0, 1) := by decide +kernel
theorem dX6_withPathsBehind_66 : decode cX6_withPathsBehind 66 = .ok (.invokevirtual 47, 3) := by decide +kernel
theorem dX6_withPathsBehind_69 : decode cX6_withPathsBehind 69 = .ok (.ifCond .eq 41, 3) := by decide +kernel
theorem dX6_withPathsBehind_72 : decode cX6_withPathsBehind 72 = .ok (.lload 6, 2) := by decide +kernel
theorem dX6_withPathsBehind_74 : decode cX6_withPathsBehind 74 = .ok (.iload 5, 2) := by decide +kernel
theorem dX6_withPathsBehind_76 : decode cX6_withPathsBehind 76 = .ok (.aload_n 3, 1) := by decide +kernel
theorem dX6_withPathsBehind_77 : decode cX6_withPathsBehind 77 = .ok (.getfield 33, 3) := by decide +kernel
theorem dX6_withPathsBehind_80 : decode cX6_withPathsBehind 80 = .ok (.iload 8, 2) := by decide +kernel
theorem dX6_withPathsBehind_82 : decode cX6_withPathsBehind 82 = .ok (.iaload, 1) := by decide +kernel
theorem dX6_withPathsBehind_83 : decode cX6_withPathsBehind 83 = .ok (.invokestatic 51, 3) := by decide +kernel
theorem dX6_withPathsBehind_86 : decode cX6_withPathsBehind 86 = .ok (.ifCond .eq 24, 3) := by decide +kernel
theorem dX6_withPathsBehind_89 : decode cX6_withPathsBehind 89 = .ok (.lload 6, 2) := by decide +kernel
theorem dX6_withPathsBehind_91 : decode cX6_withPathsBehind 91 = .ok (.iload 4, 2) := by decide +kernel
theorem dX6_withPathsBehind_93 : decode cX6_withPathsBehind 93 = .ok (.lload 6, 2) := by decide +kernel
theorem dX6_withPathsBehind_95 : decode cX6_withPathsBehind 95 = .ok (.aload_n 3, 1) := by decide +kernel
theorem dX6_withPathsBehind_96 : decode cX6_withPathsBehind 96 = .ok (.getfield 37, 3) := by decide +kernel
theorem dX6_withPathsBehind_99 : decode cX6_withPathsBehind 99 = .ok (.iload 8, 2) := by decide +kernel
theorem dX6_withPathsBehind_101 : decode cX6_withPathsBehind 101 = .ok (.iaload, 1) := by decide +kernel
theorem dX6_withPathsBehind_102 : decode cX6_withPathsBehind 102 = .ok (.invokestatic 11, 3) := by decide +kernel
theorem dX6_withPathsBehind_105 : decode cX6_withPathsBehind 105 = .ok (.invokestatic 15, 3) := by decide +kernel
theorem dX6_withPathsBehind_108 : decode cX6_withPathsBehind 108 = .ok (.lstore 6, 2) := by decide +kernel
theorem dX6_withPathsBehind_110 : decode cX6_withPathsBehind 110 = .ok (.iinc 8 1, 3) := by decide +kernel
theorem dX6_withPathsBehind_113 : decode cX6_withPathsBehind 113 = .ok (.goto (-60), 3) := by decide +kernel
theorem dX6_withPathsBehind_116 : decode cX6_withPathsBehind 116 = .ok (.lload 6, 2) := by decide +kernel
theorem dX6_withPathsBehind_118 : decode cX6_withPathsBehind 118 = .ok (.lreturn, 1) := by decide +kernel
set_option maxRecDepth 20000 in
theorem ggX6_nestedAround_X6_identity : GoodIn wsX6_nestedAround wsX6_identity := goodIn_r _ [6, 7, 8, 5, 9] (by decide +kernel) (by decide +kernel)
set_option maxRecDepth 20000 in
theorem gX6_nestedAround_X6_identity : GoodIn wsX6_nestedAround (va_wsS RX6 19 yX6_identity wsX6_identity) := goodIn_app (goodIn_of _ (by decide +kernel)) ggX6_nestedAround_X6_identity
set_option maxRecDepth 20000 in
theorem ggX6_nestedAround_X6_stepsBy : GoodIn wsX6_nestedAround wsX6_stepsBy := goodIn_r _ [12, 13, 1, 2, 14, 15, 16, 17, 18, 19, 20, 21, 22, 23, 24, 25, 26, 27, 28, 29, 5, 30, 31, 32, 33, 37, 38, 39, 40] (by decide +kernel) (by decide +kernel)
set_option maxRecDepth 20000 in
theorem gX6_nestedAround_X6_stepsBy : GoodIn wsX6_nestedAround (va_wsS RX6 55 yX6_stepsBy wsX6_stepsBy) := goodIn_app (goodIn_of _ (by decide +kernel)) ggX6_nestedAround_X6_stepsBy
set_option maxRecDepth 20000 in
theorem ggX6_nestedAround_X6_withRow : GoodIn wsX6_nestedAround wsX6_withRow := goodIn_r _ [9] (by decide +kernel) (by decide +kernel)
set_option maxRecDepth 20000 in
theorem gX6_nestedAround_X6_withRow : GoodIn wsX6_nestedAround (va_wsS RX6 15 yX6_withRow wsX6_withRow) := goodIn_app (goodIn_of _ (by decide +kernel)) ggX6_nestedAround_X6_withRow
set_option maxRecDepth 20000 in
theorem ggX6_nestedAround_X6_transitive : GoodIn wsX6_nestedAround wsX6_transitive := goodIn_r _ [36, 28, 29, 5, 30, 31, 32, 33, 7, 8, 9] (by decide +kernel) (by decide +kernel)
set_option maxRecDepth 20000 in
theorem gX6_nestedAround_X6_transitive : GoodIn wsX6_nestedAround (va_wsS RX6 59 yX6_transitive wsX6_transitive) := goodIn_app (goodIn_of _ (by decide +kernel)) ggX6_nestedAround_X6_transitive
theorem dX6_nestedAround_0 : decode cX6_nestedAround 0 = .ok (.iload_n 3, 1) := by decide +kernel
theorem dX6_nestedAround_1 : decode cX6_nestedAround 1 = .ok (.invokestatic 19, 3) := by decide +kernel
theorem dX6_nestedAround_4 : decode cX6_nestedAround 4 = .ok (.lstore 4, 2) := by decide +kernel
theorem dX6_nestedAround_6 : decode cX6_nestedAround 6 = .ok (.iconst 0, 1) := by decide +kernel
theorem dX6_nestedAround_7 : decode cX6_nestedAround 7 = .ok (.istore 6, 2) := by decide +kernel
theorem dX6_nestedAround_9 : decode cX6_nestedAround 9 = .ok (.iload 6, 2) := by decide +kernel
theorem dX6_nestedAround_11 : decode cX6_nestedAround 11 = .ok (.aload_n 2, 1) := by decide +kernel
theorem dX6_nestedAround_12 : decode cX6_nestedAround 12 = .ok (.getfield 23, 3) := by decide +kernel
theorem dX6_nestedAround_15 : decode cX6_nestedAround 15 = .ok (.if_icmp .ge 30, 3) := by decide +kernel
theorem dX6_nestedAround_18 : decode cX6_nestedAround 18 = .ok (.lload 4, 2) := by decide +kernel
theorem dX6_nestedAround_20 : decode cX6_nestedAround 20 = .ok (.aload_n 2, 1) := by decide +kernel
theorem dX6_nestedAround_21 : decode cX6_nestedAround 21 = .ok (.getfield 33, 3) := by decide +kernel
theorem dX6_nestedAround_24 : decode cX6_nestedAround 24 = .ok (.iload 6, 2) := by decide +kernel
theorem dX6_nestedAround_26 : decode cX6_nestedAround 26 = .ok (.iaload, 1) := by decide +kernel
theorem dX6_nestedAround_27 : decode cX6_nestedAround 27 = .ok (.iload 6, 2) := by decide +kernel
theorem dX6_nestedAround_29 : decode cX6_nestedAround 29 = .ok (.lload_n 0, 1) := by decide +kernel
theorem dX6_nestedAround_30 : decode cX6_nestedAround 30 = .ok (.aload_n 2, 1) := by decide +kernel
theorem dX6_nestedAround_31 : decode cX6_nestedAround 31 = .ok (.invokestatic 55, 3) := by decide +kernel
theorem dX6_nestedAround_34 : decode cX6_nestedAround 34 = .ok (.invokestatic 15, 3) := by decide +kernel
theorem dX6_nestedAround_37 : decode cX6_nestedAround 37 = .ok (.lstore 4, 2) := by decide +kernel
theorem dX6_nestedAround_39 : decode cX6_nestedAround 39 = .ok (.iinc 6 1, 3) := by decide +kernel
theorem dX6_nestedAround_42 : decode cX6_nestedAround 42 = .ok (.goto (-33), 3) := by decide +kernel
theorem dX6_nestedAround_45 : decode cX6_nestedAround 45 = .ok (.lload 4, 2) := by decide +kernel
theorem dX6_nestedAround_47 : decode cX6_nestedAround 47 = .ok (.invokestatic 59, 3) := by decide +kernel
theorem dX6_nestedAround_50 : decode cX6_nestedAround 50 = .ok (.lreturn, 1) := by decide +kernel
set_option maxRecDepth 20000 in
theorem ggX6_stepsBy_X2_isEmptyLabelled : GoodIn wsX6_stepsBy wsX2_isEmptyLabelled := goodIn_r _ [8, 9, 25, 26, 27, 28] (by decide +kernel) (by decide +kernel)
set_option maxRecDepth 20000 in
theorem gX6_stepsBy_X2_isEmptyLabelled : GoodIn wsX6_stepsBy (wsV RX6 40 RX2 yX2_isEmptyLabelled wsX2_isEmptyLabelled) := goodIn_app (goodIn_of _ (by decide +kernel)) ggX6_stepsBy_X2_isEmptyLabelled
set_option maxRecDepth 20000 in
theorem ggX6_stepsBy_X2_opens : GoodIn wsX6_stepsBy wsX2_opens := goodIn_r _ [13, 9, 25, 26, 27, 28] (by decide +kernel) (by decide +kernel)
set_option maxRecDepth 20000 in
theorem gX6_stepsBy_X2_opens : GoodIn wsX6_stepsBy (wsV RX6 44 RX2 yX2_opens wsX2_opens) := goodIn_app (goodIn_of _ (by decide +kernel)) ggX6_stepsBy_X2_opens
set_option maxRecDepth 20000 in
theorem ggX6_stepsBy_X2_closes : GoodIn wsX6_stepsBy wsX2_closes := goodIn_r _ [17, 9, 25, 26, 27, 28] (by decide +kernel) (by decide +kernel)
set_option maxRecDepth 20000 in
theorem gX6_stepsBy_X2_closes : GoodIn wsX6_stepsBy (wsV RX6 47 RX2 yX2_closes wsX2_closes) := goodIn_app (goodIn_of _ (by decide +kernel)) ggX6_stepsBy_X2_closes
set_option maxRecDepth 20000 in
theorem ggX6_stepsBy_X6_has : GoodIn wsX6_stepsBy wsX6_has := goodIn_r _ [21, 22, 23, 20, 24] (by decide +kernel) (by decide +kernel)
set_option maxRecDepth 20000 in
theorem gX6_stepsBy_X6_has : GoodIn wsX6_stepsBy (va_wsS RX6 51 yX6_has wsX6_has) := goodIn_app (goodIn_of _ (by decide +kernel)) ggX6_stepsBy_X6_has
theorem dX6_stepsBy_0 : decode cX6_stepsBy 0 = .ok (.aload_n 3, 1) := by decide +kernel
theorem dX6_stepsBy_1 : decode cX6_stepsBy 1 = .ok (.getfield 37, 3) := by decide +kernel
theorem dX6_stepsBy_4 : decode cX6_stepsBy 4 = .ok (.iload_n 0, 1) := by decide +kernel
theorem dX6_stepsBy_5 : decode cX6_stepsBy 5 = .ok (.iaload, 1) := by decide +kernel
theorem dX6_stepsBy_6 : decode cX6_stepsBy 6 = .ok (.istore 4, 2) := by decide +kernel
theorem dX6_stepsBy_8 : decode cX6_stepsBy 8 = .ok (.aload_n 3, 1) := by decide +kernel
theorem dX6_stepsBy_9 : decode cX6_stepsBy 9 = .ok (.iload_n 0, 1) := by decide +kernel
theorem dX6_stepsBy_10 : decode cX6_stepsBy 10 = .ok (.invokevirtual 40, 3) := by decide +kernel
theorem dX6_stepsBy_13 : decode cX6_stepsBy 13 = .ok (.ifCond .eq 8, 3) := by decide +kernel
theorem dX6_stepsBy_16 : decode cX6_stepsBy 16 = .ok (.iconst 1, 1) := by decide +kernel
theorem dX6_stepsBy_17 : decode cX6_stepsBy 17 = .ok (.iload 4, 2) := by decide +kernel
theorem dX6_stepsBy_19 : decode cX6_stepsBy 19 = .ok (.ishl, 1) := by decide +kernel
theorem dX6_stepsBy_20 : decode cX6_stepsBy 20 = .ok (.ireturn, 1) := by decide +kernel
theorem dX6_stepsBy_21 : decode cX6_stepsBy 21 = .ok (.aload_n 3, 1) := by decide +kernel
theorem dX6_stepsBy_22 : decode cX6_stepsBy 22 = .ok (.iload_n 0, 1) := by decide +kernel
theorem dX6_stepsBy_23 : decode cX6_stepsBy 23 = .ok (.invokevirtual 44, 3) := by decide +kernel
theorem dX6_stepsBy_26 : decode cX6_stepsBy 26 = .ok (.ifCond .ne 5, 3) := by decide +kernel
theorem dX6_stepsBy_29 : decode cX6_stepsBy 29 = .ok (.iconst 0, 1) := by decide +kernel
theorem dX6_stepsBy_30 : decode cX6_stepsBy 30 = .ok (.ireturn, 1) := by decide +kernel
theorem dX6_stepsBy_31 : decode cX6_stepsBy 31 = .ok (.iconst 0, 1) := by decide +kernel
theorem dX6_stepsBy_32 : decode cX6_stepsBy 32 = .ok (.istore 5, 2) := by decide +kernel
theorem dX6_stepsBy_34 : decode cX6_stepsBy 34 = .ok (.iconst 0, 1) := by decide +kernel
theorem dX6_stepsBy_35 : decode cX6_stepsBy 35 = .ok (.istore 6, 2) := by decide +kernel
theorem dX6_stepsBy_37 : decode cX6_stepsBy 37 = .ok (.iload 6, 2) := by decide +kernel
theorem dX6_stepsBy_39 : decode cX6_stepsBy 39 = .ok (.aload_n 3, 1) := by decide +kernel
theorem dX6_stepsBy_40 : decode cX6_stepsBy 40 = .ok (.getfield 23, 3) := by decide +kernel
theorem dX6_stepsBy_43 : decode cX6_stepsBy 43 = .ok (.if_icmp .ge 49, 3) := by decide +kernel
theorem dX6_stepsBy_46 : decode cX6_stepsBy 46 = .ok (.aload_n 3, 1) := by decide +kernel
theorem dX6_stepsBy_47 : decode cX6_stepsBy 47 = .ok (.iload 6, 2) := by decide +kernel
theorem dX6_stepsBy_49 : decode cX6_stepsBy 49 = .ok (.iload_n 0, 1) := by decide +kernel
theorem dX6_stepsBy_50 : decode cX6_stepsBy 50 = .ok (.invokevirtual 47, 3) := by decide +kernel
theorem dX6_stepsBy_53 : decode cX6_stepsBy 53 = .ok (.ifCond .eq 33, 3) := by decide +kernel
theorem dX6_stepsBy_56 : decode cX6_stepsBy 56 = .ok (.lload_n 1, 1) := by decide +kernel
theorem dX6_stepsBy_57 : decode cX6_stepsBy 57 = .ok (.iload 4, 2) := by decide +kernel
theorem dX6_stepsBy_59 : decode cX6_stepsBy 59 = .ok (.aload_n 3, 1) := by decide +kernel
theorem dX6_stepsBy_60 : decode cX6_stepsBy 60 = .ok (.getfield 33, 3) := by decide +kernel
theorem dX6_stepsBy_63 : decode cX6_stepsBy 63 = .ok (.iload 6, 2) := by decide +kernel
theorem dX6_stepsBy_65 : decode cX6_stepsBy 65 = .ok (.iaload, 1) := by decide +kernel
theorem dX6_stepsBy_66 : decode cX6_stepsBy 66 = .ok (.invokestatic 51, 3) := by decide +kernel
theorem dX6_stepsBy_69 : decode cX6_stepsBy 69 = .ok (.ifCond .eq 17, 3) := by decide +kernel
theorem dX6_stepsBy_72 : decode cX6_stepsBy 72 = .ok (.iload 5, 2) := by decide +kernel
theorem dX6_stepsBy_74 : decode cX6_stepsBy 74 = .ok (.iconst 1, 1) := by decide +kernel
theorem dX6_stepsBy_75 : decode cX6_stepsBy 75 = .ok (.aload_n 3, 1) := by decide +kernel
theorem dX6_stepsBy_76 : decode cX6_stepsBy 76 = .ok (.getfield 37, 3) := by decide +kernel
theorem dX6_stepsBy_79 : decode cX6_stepsBy 79 = .ok (.iload 6, 2) := by decide +kernel
theorem dX6_stepsBy_81 : decode cX6_stepsBy 81 = .ok (.iaload, 1) := by decide +kernel
theorem dX6_stepsBy_82 : decode cX6_stepsBy 82 = .ok (.ishl, 1) := by decide +kernel
theorem dX6_stepsBy_83 : decode cX6_stepsBy 83 = .ok (.ior, 1) := by decide +kernel
theorem dX6_stepsBy_84 : decode cX6_stepsBy 84 = .ok (.istore 5, 2) := by decide +kernel
theorem dX6_stepsBy_86 : decode cX6_stepsBy 86 = .ok (.iinc 6 1, 3) := by decide +kernel
theorem dX6_stepsBy_89 : decode cX6_stepsBy 89 = .ok (.goto (-52), 3) := by decide +kernel
theorem dX6_stepsBy_92 : decode cX6_stepsBy 92 = .ok (.iload 5, 2) := by decide +kernel
theorem dX6_stepsBy_94 : decode cX6_stepsBy 94 = .ok (.ireturn, 1) := by decide +kernel
set_option maxRecDepth 20000 in
theorem ggX6_transitive_X6_has : GoodIn wsX6_transitive wsX6_has := goodIn_r _ [4, 5, 6, 3, 7] (by decide +kernel) (by decide +kernel)
set_option maxRecDepth 20000 in
theorem gX6_transitive_X6_has : GoodIn wsX6_transitive (va_wsS RX6 51 yX6_has wsX6_has) := goodIn_app (goodIn_of _ (by decide +kernel)) ggX6_transitive_X6_has
set_option maxRecDepth 20000 in
theorem ggX6_transitive_X6_row : GoodIn wsX6_transitive wsX6_row := goodIn_r _ [7] (by decide +kernel) (by decide +kernel)
set_option maxRecDepth 20000 in
theorem gX6_transitive_X6_row : GoodIn wsX6_transitive (va_wsS RX6 11 yX6_row wsX6_row) := goodIn_app (goodIn_of _ (by decide +kernel)) ggX6_transitive_X6_row
set_option maxRecDepth 20000 in
theorem ggX6_transitive_X6_withRow : GoodIn wsX6_transitive wsX6_withRow := goodIn_r _ [10] (by decide +kernel) (by decide +kernel)
set_option maxRecDepth 20000 in
theorem gX6_transitive_X6_withRow : GoodIn wsX6_transitive (va_wsS RX6 15 yX6_withRow wsX6_withRow) := goodIn_app (goodIn_of _ (by decide +kernel)) ggX6_transitive_X6_withRow
theorem dX6_transitive_0 : decode cX6_transitive 0 = .ok (.lload_n 0, 1) := by decide +kernel
theorem dX6_transitive_1 : decode cX6_transitive 1 = .ok (.lstore_n 2, 1) := by decide +kernel
theorem dX6_transitive_2 : decode cX6_transitive 2 = .ok (.iconst 0, 1) := by decide +kernel
theorem dX6_transitive_3 : decode cX6_transitive 3 = .ok (.istore 4, 2) := by decide +kernel
theorem dX6_transitive_5 : decode cX6_transitive 5 = .ok (.iload 4, 2) := by decide +kernel
theorem dX6_transitive_7 : decode cX6_transitive 7 = .ok (.bipush 8, 2) := by decide +kernel
theorem dX6_transitive_9 : decode cX6_transitive 9 = .ok (.if_icmp .ge 49, 3) := by decide +kernel
theorem dX6_transitive_12 : decode cX6_transitive 12 = .ok (.iconst 0, 1) := by decide +kernel
theorem dX6_transitive_13 : decode cX6_transitive 13 = .ok (.istore 5, 2) := by decide +kernel
theorem dX6_transitive_15 : decode cX6_transitive 15 = .ok (.iload 5, 2) := by decide +kernel
theorem dX6_transitive_17 : decode cX6_transitive 17 = .ok (.bipush 8, 2) := by decide +kernel
theorem dX6_transitive_19 : decode cX6_transitive 19 = .ok (.if_icmp .ge 33, 3) := by decide +kernel
theorem dX6_transitive_22 : decode cX6_transitive 22 = .ok (.lload_n 2, 1) := by decide +kernel
theorem dX6_transitive_23 : decode cX6_transitive 23 = .ok (.iload 5, 2) := by decide +kernel
theorem dX6_transitive_25 : decode cX6_transitive 25 = .ok (.iload 4, 2) := by decide +kernel
theorem dX6_transitive_27 : decode cX6_transitive 27 = .ok (.invokestatic 51, 3) := by decide +kernel
theorem dX6_transitive_30 : decode cX6_transitive 30 = .ok (.ifCond .eq 16, 3) := by decide +kernel
theorem dX6_transitive_33 : decode cX6_transitive 33 = .ok (.lload_n 2, 1) := by decide +kernel
theorem dX6_transitive_34 : decode cX6_transitive 34 = .ok (.iload 5, 2) := by decide +kernel
theorem dX6_transitive_36 : decode cX6_transitive 36 = .ok (.lload_n 2, 1) := by decide +kernel
theorem dX6_transitive_37 : decode cX6_transitive 37 = .ok (.iload 4, 2) := by decide +kernel
theorem dX6_transitive_39 : decode cX6_transitive 39 = .ok (.invokestatic 11, 3) := by decide +kernel
theorem dX6_transitive_42 : decode cX6_transitive 42 = .ok (.invokestatic 15, 3) := by decide +kernel
theorem dX6_transitive_45 : decode cX6_transitive 45 = .ok (.lstore_n 2, 1) := by decide +kernel
theorem dX6_transitive_46 : decode cX6_transitive 46 = .ok (.iinc 5 1, 3) := by decide +kernel
theorem dX6_transitive_49 : decode cX6_transitive 49 = .ok (.goto (-34), 3) := by decide +kernel
theorem dX6_transitive_52 : decode cX6_transitive 52 = .ok (.iinc 4 1, 3) := by decide +kernel
theorem dX6_transitive_55 : decode cX6_transitive 55 = .ok (.goto (-50), 3) := by decide +kernel
theorem dX6_transitive_58 : decode cX6_transitive 58 = .ok (.lload_n 2, 1) := by decide +kernel
theorem dX6_transitive_59 : decode cX6_transitive 59 = .ok (.lreturn, 1) := by decide +kernel
theorem dX7_withoutLowest_0 : decode cX7_withoutLowest 0 = .ok (.lload_n 1, 1) := by decide +kernel
theorem dX7_withoutLowest_1 : decode cX7_withoutLowest 1 = .ok (.lstore_n 3, 1) := by decide +kernel
theorem dX7_withoutLowest_2 : decode cX7_withoutLowest 2 = .ok (.iconst 0, 1) := by decide +kernel
theorem dX7_withoutLowest_3 : decode cX7_withoutLowest 3 = .ok (.istore 5, 2) := by decide +kernel
theorem dX7_withoutLowest_5 : decode cX7_withoutLowest 5 = .ok (.iload 5, 2) := by decide +kernel
theorem dX7_withoutLowest_7 : decode cX7_withoutLowest 7 = .ok (.iload_n 0, 1) := by decide +kernel
theorem dX7_withoutLowest_8 : decode cX7_withoutLowest 8 = .ok (.if_icmp .ge 15, 3) := by decide +kernel
theorem dX7_withoutLowest_11 : decode cX7_withoutLowest 11 = .ok (.lload_n 3, 1) := by decide +kernel
theorem dX7_withoutLowest_12 : decode cX7_withoutLowest 12 = .ok (.ldc2_w 9, 3) := by decide +kernel
theorem dX7_withoutLowest_15 : decode cX7_withoutLowest 15 = .ok (.ldiv, 1) := by decide +kernel
theorem dX7_withoutLowest_16 : decode cX7_withoutLowest 16 = .ok (.lstore_n 3, 1) := by decide +kernel
theorem dX7_withoutLowest_17 : decode cX7_withoutLowest 17 = .ok (.iinc 5 1, 3) := by decide +kernel
theorem dX7_withoutLowest_20 : decode cX7_withoutLowest 20 = .ok (.goto (-15), 3) := by decide +kernel
theorem dX7_withoutLowest_23 : decode cX7_withoutLowest 23 = .ok (.lload_n 3, 1) := by decide +kernel
theorem dX7_withoutLowest_24 : decode cX7_withoutLowest 24 = .ok (.lreturn, 1) := by decide +kernel
theorem dX7_lowestGroup_0 : decode cX7_lowestGroup 0 = .ok (.lload_n 0, 1) := by decide +kernel
theorem dX7_lowestGroup_1 : decode cX7_lowestGroup 1 = .ok (.ldc2_w 9, 3) := by decide +kernel
theorem dX7_lowestGroup_4 : decode cX7_lowestGroup 4 = .ok (.lrem, 1) := by decide +kernel
theorem dX7_lowestGroup_5 : decode cX7_lowestGroup 5 = .ok (.l2i, 1) := by decide +kernel
theorem dX7_lowestGroup_6 : decode cX7_lowestGroup 6 = .ok (.ireturn, 1) := by decide +kernel
set_option maxRecDepth 20000 in
theorem ggX7_succeeds_X7_adds : GoodIn wsX7_succeeds wsX7_adds := goodIn_r _ [4, 5, 6, 7, 8, 9, 10, 11, 12, 13, 14, 15, 16, 17, 18, 19, 20, 21, 112, 113, 114, 115] (by decide +kernel) (by decide +kernel)
set_option maxRecDepth 20000 in
theorem gX7_succeeds_X7_adds : GoodIn wsX7_succeeds (va_wsS RX7 11 yX7_adds wsX7_adds) := goodIn_app (goodIn_of _ (by decide +kernel)) ggX7_succeeds_X7_adds
set_option maxRecDepth 20000 in
theorem ggX7_succeeds_X7_removes : GoodIn wsX7_succeeds wsX7_removes := goodIn_r _ [24, 25, 26, 27, 11, 28, 13, 29, 30, 31, 32, 14, 19, 20, 33, 112, 113, 114, 115] (by decide +kernel) (by decide +kernel)
set_option maxRecDepth 20000 in
theorem gX7_succeeds_X7_removes : GoodIn wsX7_succeeds (va_wsS RX7 15 yX7_removes wsX7_removes) := goodIn_app (goodIn_of _ (by decide +kernel)) ggX7_succeeds_X7_removes
set_option maxRecDepth 20000 in
theorem ggX7_succeeds_X6_ofBalancedPaths : GoodIn wsX7_succeeds wsX6_ofBalancedPaths := goodIn_r _ [37, 38, 39, 40, 36, 41, 42, 43, 44, 45, 46, 47, 48, 49, 50, 51, 52, 11, 53, 20, 54, 55, 56, 57, 58, 59, 60, 61, 62, 63, 64, 65, 66, 67, 112, 113, 114, 115] (by decide +kernel) (by decide +kernel)
set_option maxRecDepth 20000 in
theorem gX7_succeeds_X6_ofBalancedPaths : GoodIn wsX7_succeeds (va_wsS RX7 19 yX6_ofBalancedPaths wsX6_ofBalancedPaths) := goodIn_app (goodIn_of _ (by decide +kernel)) ggX7_succeeds_X6_ofBalancedPaths
set_option maxRecDepth 20000 in
theorem ggX7_succeeds_X6_has : GoodIn wsX7_succeeds wsX6_has := goodIn_r _ [67, 54, 55, 36, 56] (by decide +kernel) (by decide +kernel)
set_option maxRecDepth 20000 in
theorem gX7_succeeds_X6_has : GoodIn wsX7_succeeds (va_wsS RX7 25 yX6_has wsX6_has) := goodIn_app (goodIn_of _ (by decide +kernel)) ggX7_succeeds_X6_has
set_option maxRecDepth 20000 in
theorem ggX7_succeeds_J13_bitCount_95d88 : GoodIn wsX7_succeeds wsJ13_bitCount_95d88 := goodIn_r _ [72, 73, 74, 75] (by decide +kernel) (by decide +kernel)
set_option maxRecDepth 20000 in
theorem gX7_succeeds_J13_bitCount_95d88 : GoodIn wsX7_succeeds (va_wsS RX7 29 yJ13_bitCount_95d88 wsJ13_bitCount_95d88) := goodIn_app (goodIn_of _ (by decide +kernel)) ggX7_succeeds_J13_bitCount_95d88
set_option maxRecDepth 20000 in
theorem ggX7_succeeds_X1_measure : GoodIn wsX7_succeeds wsX1_measure := goodIn_r _ [80, 81, 82, 83, 84, 85, 86, 87, 79, 88, 89, 90, 91, 51, 52, 11, 53, 20, 92, 93, 94, 95, 96, 97, 98, 99, 100, 101, 102, 103, 104, 105, 106, 107, 108, 109, 58, 59, 60, 110, 62, 63, 64, 116, 117, 112, 113, 114, 115] (by decide +kernel) (by decide +kernel)
set_option maxRecDepth 20000 in
theorem gX7_succeeds_X1_measure : GoodIn wsX7_succeeds (wsV RX7 35 RX1 yX1_measure wsX1_measure) := goodIn_app (goodIn_of _ (by decide +kernel)) ggX7_succeeds_X1_measure
set_option maxRecDepth 20000 in
theorem ggX7_succeeds_X1_between : GoodIn wsX7_succeeds wsX1_between := goodIn_r _ [108, 82, 116, 117] (by decide +kernel) (by decide +kernel)
set_option maxRecDepth 20000 in
theorem gX7_succeeds_X1_between : GoodIn wsX7_succeeds (wsV RX7 41 RX1 yX1_between wsX1_between) := goodIn_app (goodIn_of _ (by decide +kernel)) ggX7_succeeds_X1_between
theorem dX7_succeeds_0 : decode cX7_succeeds 0 = .ok (.iload_n 0, 1) := by decide +kernel
theorem dX7_succeeds_1 : decode cX7_succeeds 1 = .ok (.bipush 100, 2) := by decide +kernel
theorem dX7_succeeds_3 : decode cX7_succeeds 3 = .ok (.idiv, 1) := by decide +kernel
theorem dX7_succeeds_4 : decode cX7_succeeds 4 = .ok (.bipush 10, 2) := by decide +kernel
theorem dX7_succeeds_6 : decode cX7_succeeds 6 = .ok (.irem, 1) := by decide +kernel
theorem dX7_succeeds_7 : decode cX7_succeeds 7 = .ok (.istore 4, 2) := by decide +kernel
theorem dX7_succeeds_9 : decode cX7_succeeds 9 = .ok (.iload_n 0, 1) := by decide +kernel
theorem dX7_succeeds_10 : decode cX7_succeeds 10 = .ok (.bipush 10, 2) := by decide +kernel
theorem dX7_succeeds_12 : decode cX7_succeeds 12 = .ok (.idiv, 1) := by decide +kernel
theorem dX7_succeeds_13 : decode cX7_succeeds 13 = .ok (.bipush 10, 2) := by decide +kernel
theorem dX7_succeeds_15 : decode cX7_succeeds 15 = .ok (.irem, 1) := by decide +kernel
theorem dX7_succeeds_16 : decode cX7_succeeds 16 = .ok (.istore 5, 2) := by decide +kernel
theorem dX7_succeeds_18 : decode cX7_succeeds 18 = .ok (.iload_n 0, 1) := by decide +kernel
theorem dX7_succeeds_19 : decode cX7_succeeds 19 = .ok (.bipush 10, 2) := by decide +kernel
theorem dX7_succeeds_21 : decode cX7_succeeds 21 = .ok (.irem, 1) := by decide +kernel
theorem dX7_succeeds_22 : decode cX7_succeeds 22 = .ok (.istore 6, 2) := by decide +kernel
theorem dX7_succeeds_24 : decode cX7_succeeds 24 = .ok (.iload_n 0, 1) := by decide +kernel
theorem dX7_succeeds_25 : decode cX7_succeeds 25 = .ok (.sipush 1000, 3) := by decide +kernel
theorem dX7_succeeds_28 : decode cX7_succeeds 28 = .ok (.idiv, 1) := by decide +kernel
theorem dX7_succeeds_29 : decode cX7_succeeds 29 = .ok (.tableswitch 192 1 5 #[35, 47, 73, 123, 153], 35) := by decide +kernel
theorem dX7_succeeds_64 : decode cX7_succeeds 64 = .ok (.aload_n 1, 1) := by decide +kernel
theorem dX7_succeeds_65 : decode cX7_succeeds 65 = .ok (.iload_n 2, 1) := by decide +kernel
theorem dX7_succeeds_66 : decode cX7_succeeds 66 = .ok (.iload 4, 2) := by decide +kernel
theorem dX7_succeeds_68 : decode cX7_succeeds 68 = .ok (.iload 5, 2) := by decide +kernel
theorem dX7_succeeds_70 : decode cX7_succeeds 70 = .ok (.iload 6, 2) := by decide +kernel
theorem dX7_succeeds_72 : decode cX7_succeeds 72 = .ok (.invokestatic 11, 3) := by decide +kernel
theorem dX7_succeeds_75 : decode cX7_succeeds 75 = .ok (.ireturn, 1) := by decide +kernel
theorem dX7_succeeds_76 : decode cX7_succeeds 76 = .ok (.iload 4, 2) := by decide +kernel
theorem dX7_succeeds_78 : decode cX7_succeeds 78 = .ok (.ifCond .ne 22, 3) := by decide +kernel
theorem dX7_succeeds_81 : decode cX7_succeeds 81 = .ok (.aload_n 1, 1) := by decide +kernel
theorem dX7_succeeds_82 : decode cX7_succeeds 82 = .ok (.bipush 10, 2) := by decide +kernel
theorem dX7_succeeds_84 : decode cX7_succeeds 84 = .ok (.iload 5, 2) := by decide +kernel
theorem dX7_succeeds_86 : decode cX7_succeeds 86 = .ok (.imul, 1) := by decide +kernel
theorem dX7_succeeds_87 : decode cX7_succeeds 87 = .ok (.iload 6, 2) := by decide +kernel
theorem dX7_succeeds_89 : decode cX7_succeeds 89 = .ok (.iadd, 1) := by decide +kernel
theorem dX7_succeeds_90 : decode cX7_succeeds 90 = .ok (.invokestatic 15, 3) := by decide +kernel
theorem dX7_succeeds_93 : decode cX7_succeeds 93 = .ok (.ifCond .eq 7, 3) := by decide +kernel
theorem dX7_succeeds_96 : decode cX7_succeeds 96 = .ok (.iconst 1, 1) := by decide +kernel
theorem dX7_succeeds_97 : decode cX7_succeeds 97 = .ok (.goto 4, 3) := by decide +kernel
theorem dX7_succeeds_100 : decode cX7_succeeds 100 = .ok (.iconst 0, 1) := by decide +kernel
theorem dX7_succeeds_101 : decode cX7_succeeds 101 = .ok (.ireturn, 1) := by decide +kernel
theorem dX7_succeeds_102 : decode cX7_succeeds 102 = .ok (.iload 4, 2) := by decide +kernel
theorem dX7_succeeds_104 : decode cX7_succeeds 104 = .ok (.iload_n 2, 1) := by decide +kernel
theorem dX7_succeeds_105 : decode cX7_succeeds 105 = .ok (.if_icmp .ge 45, 3) := by decide +kernel
theorem dX7_succeeds_108 : decode cX7_succeeds 108 = .ok (.iload 5, 2) := by decide +kernel
theorem dX7_succeeds_110 : decode cX7_succeeds 110 = .ok (.iload_n 2, 1) := by decide +kernel
theorem dX7_succeeds_111 : decode cX7_succeeds 111 = .ok (.if_icmp .ge 39, 3) := by decide +kernel
theorem dX7_succeeds_114 : decode cX7_succeeds 114 = .ok (.iload 6, 2) := by decide +kernel
theorem dX7_succeeds_116 : decode cX7_succeeds 116 = .ok (.iconst 1, 1) := by decide +kernel
theorem dX7_succeeds_117 : decode cX7_succeeds 117 = .ok (.if_icmp .gt 33, 3) := by decide +kernel
theorem dX7_succeeds_120 : decode cX7_succeeds 120 = .ok (.aload_n 1, 1) := by decide +kernel
theorem dX7_succeeds_121 : decode cX7_succeeds 121 = .ok (.iload_n 2, 1) := by decide +kernel
theorem dX7_succeeds_122 : decode cX7_succeeds 122 = .ok (.invokestatic 19, 3) := by decide +kernel
theorem dX7_succeeds_125 : decode cX7_succeeds 125 = .ok (.iload 4, 2) := by decide +kernel
theorem dX7_succeeds_127 : decode cX7_succeeds 127 = .ok (.iload 5, 2) := by decide +kernel
theorem dX7_succeeds_129 : decode cX7_succeeds 129 = .ok (.invokestatic 25, 3) := by decide +kernel
theorem dX7_succeeds_132 : decode cX7_succeeds 132 = .ok (.iload 6, 2) := by decide +kernel
theorem dX7_succeeds_134 : decode cX7_succeeds 134 = .ok (.iconst 1, 1) := by decide +kernel
theorem dX7_succeeds_135 : decode cX7_succeeds 135 = .ok (.if_icmp .ne 7, 3) := by decide +kernel
theorem dX7_succeeds_138 : decode cX7_succeeds 138 = .ok (.iconst 1, 1) := by decide +kernel
theorem dX7_succeeds_139 : decode cX7_succeeds 139 = .ok (.goto 4, 3) := by decide +kernel
theorem dX7_succeeds_142 : decode cX7_succeeds 142 = .ok (.iconst 0, 1) := by decide +kernel
theorem dX7_succeeds_143 : decode cX7_succeeds 143 = .ok (.if_icmp .ne 7, 3) := by decide +kernel
theorem dX7_succeeds_146 : decode cX7_succeeds 146 = .ok (.iconst 1, 1) := by decide +kernel
theorem dX7_succeeds_147 : decode cX7_succeeds 147 = .ok (.goto 4, 3) := by decide +kernel
theorem dX7_succeeds_150 : decode cX7_succeeds 150 = .ok (.iconst 0, 1) := by decide +kernel
theorem dX7_succeeds_151 : decode cX7_succeeds 151 = .ok (.ireturn, 1) := by decide +kernel
theorem dX7_succeeds_152 : decode cX7_succeeds 152 = .ok (.iload 4, 2) := by decide +kernel
theorem dX7_succeeds_154 : decode cX7_succeeds 154 = .ok (.ifCond .ne 26, 3) := by decide +kernel
theorem dX7_succeeds_157 : decode cX7_succeeds 157 = .ok (.aload_n 1, 1) := by decide +kernel
theorem dX7_succeeds_158 : decode cX7_succeeds 158 = .ok (.iload_n 2, 1) := by decide +kernel
theorem dX7_succeeds_159 : decode cX7_succeeds 159 = .ok (.invokestatic 19, 3) := by decide +kernel
theorem dX7_succeeds_162 : decode cX7_succeeds 162 = .ok (.invokestatic 29, 3) := by decide +kernel
theorem dX7_succeeds_165 : decode cX7_succeeds 165 = .ok (.bipush 10, 2) := by decide +kernel
theorem dX7_succeeds_167 : decode cX7_succeeds 167 = .ok (.iload 5, 2) := by decide +kernel
theorem dX7_succeeds_169 : decode cX7_succeeds 169 = .ok (.imul, 1) := by decide +kernel
theorem dX7_succeeds_170 : decode cX7_succeeds 170 = .ok (.iload 6, 2) := by decide +kernel
theorem dX7_succeeds_172 : decode cX7_succeeds 172 = .ok (.iadd, 1) := by decide +kernel
theorem dX7_succeeds_173 : decode cX7_succeeds 173 = .ok (.if_icmp .ne 7, 3) := by decide +kernel
theorem dX7_succeeds_176 : decode cX7_succeeds 176 = .ok (.iconst 1, 1) := by decide +kernel
theorem dX7_succeeds_177 : decode cX7_succeeds 177 = .ok (.goto 4, 3) := by decide +kernel
theorem dX7_succeeds_180 : decode cX7_succeeds 180 = .ok (.iconst 0, 1) := by decide +kernel
theorem dX7_succeeds_181 : decode cX7_succeeds 181 = .ok (.ireturn, 1) := by decide +kernel
theorem dX7_succeeds_182 : decode cX7_succeeds 182 = .ok (.iload 4, 2) := by decide +kernel
theorem dX7_succeeds_184 : decode cX7_succeeds 184 = .ok (.iload_n 2, 1) := by decide +kernel
theorem dX7_succeeds_185 : decode cX7_succeeds 185 = .ok (.if_icmp .ge 9, 3) := by decide +kernel
theorem dX7_succeeds_188 : decode cX7_succeeds 188 = .ok (.iload 5, 2) := by decide +kernel
theorem dX7_succeeds_190 : decode cX7_succeeds 190 = .ok (.iload_n 2, 1) := by decide +kernel
theorem dX7_succeeds_191 : decode cX7_succeeds 191 = .ok (.if_icmp .lt 5, 3) := by decide +kernel
theorem dX7_succeeds_194 : decode cX7_succeeds 194 = .ok (.iconst 0, 1) := by decide +kernel
theorem dX7_succeeds_195 : decode cX7_succeeds 195 = .ok (.ireturn, 1) := by decide +kernel
theorem dX7_succeeds_196 : decode cX7_succeeds 196 = .ok (.aload_n 3, 1) := by decide +kernel
theorem dX7_succeeds_197 : decode cX7_succeeds 197 = .ok (.aload_n 1, 1) := by decide +kernel
theorem dX7_succeeds_198 : decode cX7_succeeds 198 = .ok (.iload_n 2, 1) := by decide +kernel
theorem dX7_succeeds_199 : decode cX7_succeeds 199 = .ok (.invokevirtual 35, 3) := by decide +kernel
theorem dX7_succeeds_202 : decode cX7_succeeds 202 = .ok (.aload_n 3, 1) := by decide +kernel
theorem dX7_succeeds_203 : decode cX7_succeeds 203 = .ok (.iload 4, 2) := by decide +kernel
theorem dX7_succeeds_205 : decode cX7_succeeds 205 = .ok (.iload 5, 2) := by decide +kernel
theorem dX7_succeeds_207 : decode cX7_succeeds 207 = .ok (.invokevirtual 41, 3) := by decide +kernel
theorem dX7_succeeds_210 : decode cX7_succeeds 210 = .ok (.iload 6, 2) := by decide +kernel
theorem dX7_succeeds_212 : decode cX7_succeeds 212 = .ok (.if_icmp .ne 7, 3) := by decide +kernel
theorem dX7_succeeds_215 : decode cX7_succeeds 215 = .ok (.iconst 1, 1) := by decide +kernel
theorem dX7_succeeds_216 : decode cX7_succeeds 216 = .ok (.goto 4, 3) := by decide +kernel
theorem dX7_succeeds_219 : decode cX7_succeeds 219 = .ok (.iconst 0, 1) := by decide +kernel
theorem dX7_succeeds_220 : decode cX7_succeeds 220 = .ok (.ireturn, 1) := by decide +kernel
theorem dX7_succeeds_221 : decode cX7_succeeds 221 = .ok (.iconst 0, 1) := by decide +kernel
theorem dX7_succeeds_222 : decode cX7_succeeds 222 = .ok (.ireturn, 1) := by decide +kernel
set_option maxRecDepth 20000 in
theorem ggX7_adds_X8_isLabel : GoodIn wsX7_adds wsX8_isLabel := goodIn_r _ [3] (by decide +kernel) (by decide +kernel)
set_option maxRecDepth 20000 in
theorem gX7_adds_X8_isLabel_n45 : GoodIn wsX7_adds (wsX8_isLabel) := ggX7_adds_X8_isLabel
set_option maxRecDepth 20000 in
theorem ggX7_adds_X2_isFull : GoodIn wsX7_adds wsX2_isFull := goodIn_r _ [8, 9, 10, 18, 19, 20, 21] (by decide +kernel) (by decide +kernel)
set_option maxRecDepth 20000 in
theorem gX7_adds_X2_isFull : GoodIn wsX7_adds (wsV RX7 51 RX2 yX2_isFull wsX2_isFull) := goodIn_app (goodIn_of _ (by decide +kernel)) ggX7_adds_X2_isFull
set_option maxRecDepth 20000 in
theorem ggX7_adds_X2_put : GoodIn wsX7_adds wsX2_put := goodIn_r _ [14, 10, 9, 15, 16, 17, 5, 6, 7, 8, 18, 19, 20, 21] (by decide +kernel) (by decide +kernel)
set_option maxRecDepth 20000 in
theorem gX7_adds_X2_put : GoodIn wsX7_adds (wsV RX7 57 RX2 yX2_put wsX2_put) := goodIn_app (goodIn_of _ (by decide +kernel)) ggX7_adds_X2_put
theorem dX7_adds_0 : decode cX7_adds 0 = .ok (.iload_n 2, 1) := by decide +kernel
theorem dX7_adds_1 : decode cX7_adds 1 = .ok (.iload_n 1, 1) := by decide +kernel
theorem dX7_adds_2 : decode cX7_adds 2 = .ok (.if_icmp .ge 23, 3) := by decide +kernel
theorem dX7_adds_5 : decode cX7_adds 5 = .ok (.iload_n 3, 1) := by decide +kernel
theorem dX7_adds_6 : decode cX7_adds 6 = .ok (.iload_n 1, 1) := by decide +kernel
theorem dX7_adds_7 : decode cX7_adds 7 = .ok (.if_icmp .ge 18, 3) := by decide +kernel
theorem dX7_adds_10 : decode cX7_adds 10 = .ok (.iload 4, 2) := by decide +kernel
theorem dX7_adds_12 : decode cX7_adds 12 = .ok (.invokestatic 45, 3) := by decide +kernel
theorem dX7_adds_15 : decode cX7_adds 15 = .ok (.ifCond .eq 10, 3) := by decide +kernel
theorem dX7_adds_18 : decode cX7_adds 18 = .ok (.aload_n 0, 1) := by decide +kernel
theorem dX7_adds_19 : decode cX7_adds 19 = .ok (.invokevirtual 51, 3) := by decide +kernel
theorem dX7_adds_22 : decode cX7_adds 22 = .ok (.ifCond .eq 5, 3) := by decide +kernel
theorem dX7_adds_25 : decode cX7_adds 25 = .ok (.iconst 0, 1) := by decide +kernel
theorem dX7_adds_26 : decode cX7_adds 26 = .ok (.ireturn, 1) := by decide +kernel
theorem dX7_adds_27 : decode cX7_adds 27 = .ok (.aload_n 0, 1) := by decide +kernel
theorem dX7_adds_28 : decode cX7_adds 28 = .ok (.iload_n 2, 1) := by decide +kernel
theorem dX7_adds_29 : decode cX7_adds 29 = .ok (.iload_n 3, 1) := by decide +kernel
theorem dX7_adds_30 : decode cX7_adds 30 = .ok (.iload 4, 2) := by decide +kernel
theorem dX7_adds_32 : decode cX7_adds 32 = .ok (.invokevirtual 57, 3) := by decide +kernel
theorem dX7_adds_35 : decode cX7_adds 35 = .ok (.iconst 1, 1) := by decide +kernel
theorem dX7_adds_36 : decode cX7_adds 36 = .ok (.ireturn, 1) := by decide +kernel
set_option maxRecDepth 20000 in
theorem ggX7_removes_X2_holds : GoodIn wsX7_removes wsX2_holds := goodIn_r _ [5, 6, 15, 16, 17, 18] (by decide +kernel) (by decide +kernel)
set_option maxRecDepth 20000 in
theorem gX7_removes_X2_holds : GoodIn wsX7_removes (wsV RX7 61 RX2 yX2_holds wsX2_holds) := goodIn_app (goodIn_of _ (by decide +kernel)) ggX7_removes_X2_holds
set_option maxRecDepth 20000 in
theorem ggX7_removes_X2_drop : GoodIn wsX7_removes wsX2_drop := goodIn_r _ [10, 6, 11, 12, 13, 14, 2, 3, 4, 5, 15, 16, 17, 18] (by decide +kernel) (by decide +kernel)
set_option maxRecDepth 20000 in
theorem gX7_removes_X2_drop : GoodIn wsX7_removes (wsV RX7 64 RX2 yX2_drop wsX2_drop) := goodIn_app (goodIn_of _ (by decide +kernel)) ggX7_removes_X2_drop
theorem dX7_removes_0 : decode cX7_removes 0 = .ok (.aload_n 0, 1) := by decide +kernel
theorem dX7_removes_1 : decode cX7_removes 1 = .ok (.iload_n 1, 1) := by decide +kernel
theorem dX7_removes_2 : decode cX7_removes 2 = .ok (.invokevirtual 61, 3) := by decide +kernel
theorem dX7_removes_5 : decode cX7_removes 5 = .ok (.ifCond .ne 5, 3) := by decide +kernel
theorem dX7_removes_8 : decode cX7_removes 8 = .ok (.iconst 0, 1) := by decide +kernel
theorem dX7_removes_9 : decode cX7_removes 9 = .ok (.ireturn, 1) := by decide +kernel
theorem dX7_removes_10 : decode cX7_removes 10 = .ok (.aload_n 0, 1) := by decide +kernel
theorem dX7_removes_11 : decode cX7_removes 11 = .ok (.iload_n 1, 1) := by decide +kernel
theorem dX7_removes_12 : decode cX7_removes 12 = .ok (.invokevirtual 64, 3) := by decide +kernel
theorem dX7_removes_15 : decode cX7_removes 15 = .ok (.iconst 1, 1) := by decide +kernel
theorem dX7_removes_16 : decode cX7_removes 16 = .ok (.ireturn, 1) := by decide +kernel
set_option maxRecDepth 20000 in
theorem ggX8_init_X2_init : GoodIn wsX8_init wsX2_init := goodIn_r _ [33, 34, 2, 3, 35, 36, 37, 38, 39, 80, 81, 82, 83] (by decide +kernel) (by decide +kernel)
set_option maxRecDepth 20000 in
theorem gX8_init_X2_init : GoodIn wsX8_init (wsX2_init) := ggX8_init_X2_init
set_option maxRecDepth 20000 in
theorem ggX8_init_X1_init : GoodIn wsX8_init wsX1_init := goodIn_r _ [42, 43, 2, 3, 35, 44, 45, 84, 85] (by decide +kernel) (by decide +kernel)
set_option maxRecDepth 20000 in
theorem gX8_init_X1_init : GoodIn wsX8_init (wsX1_init) := ggX8_init_X1_init
set_option maxRecDepth 20000 in
theorem ggX8_init_X4_init : GoodIn wsX8_init wsX4_init := goodIn_r _ [48, 49, 2, 3, 50, 51, 7, 8, 52, 53, 54, 32, 33, 34, 35, 36, 37, 38, 39, 86, 87, 88, 80, 81, 82, 83] (by decide +kernel) (by decide +kernel)
set_option maxRecDepth 20000 in
theorem gX8_init_X4_init : GoodIn wsX8_init (wsX4_init) := ggX8_init_X4_init
set_option maxRecDepth 20000 in
theorem ggX8_init_X3_init : GoodIn wsX8_init wsX3_init := goodIn_r _ [57, 58, 2, 3, 35, 59, 60, 89, 90] (by decide +kernel) (by decide +kernel)
set_option maxRecDepth 20000 in
theorem gX8_init_X3_init : GoodIn wsX8_init (wsX3_init) := ggX8_init_X3_init
set_option maxRecDepth 20000 in
theorem ggX8_init_X5_init : GoodIn wsX8_init wsX5_init := goodIn_r _ [63, 64, 2, 3, 35, 65, 66, 67, 68, 91, 92, 93, 94] (by decide +kernel) (by decide +kernel)
set_option maxRecDepth 20000 in
theorem gX8_init_X5_init : GoodIn wsX8_init (wsX5_init) := ggX8_init_X5_init
theorem dX8_init_0 : decode cX8_init 0 = .ok (.aload_n 0, 1) := by decide +kernel
theorem dX8_init_1 : decode cX8_init 1 = .ok (.invokespecial 3, 3) := by decide +kernel
theorem dX8_init_4 : decode cX8_init 4 = .ok (.aload_n 0, 1) := by decide +kernel
theorem dX8_init_5 : decode cX8_init 5 = .ok (.iconst 1, 1) := by decide +kernel
theorem dX8_init_6 : decode cX8_init 6 = .ok (.putfield 9, 3) := by decide +kernel
theorem dX8_init_9 : decode cX8_init 9 = .ok (.aload_n 0, 1) := by decide +kernel
theorem dX8_init_10 : decode cX8_init 10 = .ok (.lconst 0, 1) := by decide +kernel
theorem dX8_init_11 : decode cX8_init 11 = .ok (.putfield 13, 3) := by decide +kernel
theorem dX8_init_14 : decode cX8_init 14 = .ok (.aload_n 0, 1) := by decide +kernel
theorem dX8_init_15 : decode cX8_init 15 = .ok (.new 17, 3) := by decide +kernel
theorem dX8_init_18 : decode cX8_init 18 = .ok (.dup, 1) := by decide +kernel
theorem dX8_init_19 : decode cX8_init 19 = .ok (.bipush 16, 2) := by decide +kernel
theorem dX8_init_21 : decode cX8_init 21 = .ok (.invokespecial 19, 3) := by decide +kernel
theorem dX8_init_24 : decode cX8_init 24 = .ok (.putfield 22, 3) := by decide +kernel
theorem dX8_init_27 : decode cX8_init 27 = .ok (.aload_n 0, 1) := by decide +kernel
theorem dX8_init_28 : decode cX8_init 28 = .ok (.new 17, 3) := by decide +kernel
theorem dX8_init_31 : decode cX8_init 31 = .ok (.dup, 1) := by decide +kernel
theorem dX8_init_32 : decode cX8_init 32 = .ok (.bipush 16, 2) := by decide +kernel
theorem dX8_init_34 : decode cX8_init 34 = .ok (.invokespecial 19, 3) := by decide +kernel
theorem dX8_init_37 : decode cX8_init 37 = .ok (.putfield 26, 3) := by decide +kernel
theorem dX8_init_40 : decode cX8_init 40 = .ok (.aload_n 0, 1) := by decide +kernel
theorem dX8_init_41 : decode cX8_init 41 = .ok (.new 17, 3) := by decide +kernel
theorem dX8_init_44 : decode cX8_init 44 = .ok (.dup, 1) := by decide +kernel
theorem dX8_init_45 : decode cX8_init 45 = .ok (.bipush 32, 2) := by decide +kernel
theorem dX8_init_47 : decode cX8_init 47 = .ok (.invokespecial 19, 3) := by decide +kernel
theorem dX8_init_50 : decode cX8_init 50 = .ok (.putfield 29, 3) := by decide +kernel
theorem dX8_init_53 : decode cX8_init 53 = .ok (.aload_n 0, 1) := by decide +kernel
theorem dX8_init_54 : decode cX8_init 54 = .ok (.new 32, 3) := by decide +kernel
theorem dX8_init_57 : decode cX8_init 57 = .ok (.dup, 1) := by decide +kernel
theorem dX8_init_58 : decode cX8_init 58 = .ok (.invokespecial 34, 3) := by decide +kernel
theorem dX8_init_61 : decode cX8_init 61 = .ok (.putfield 35, 3) := by decide +kernel
theorem dX8_init_64 : decode cX8_init 64 = .ok (.aload_n 0, 1) := by decide +kernel
theorem dX8_init_65 : decode cX8_init 65 = .ok (.new 39, 3) := by decide +kernel
theorem dX8_init_68 : decode cX8_init 68 = .ok (.dup, 1) := by decide +kernel
theorem dX8_init_69 : decode cX8_init 69 = .ok (.invokespecial 41, 3) := by decide +kernel
theorem dX8_init_72 : decode cX8_init 72 = .ok (.putfield 42, 3) := by decide +kernel
theorem dX8_init_75 : decode cX8_init 75 = .ok (.aload_n 0, 1) := by decide +kernel
theorem dX8_init_76 : decode cX8_init 76 = .ok (.iconst 2, 1) := by decide +kernel
theorem dX8_init_77 : decode cX8_init 77 = .ok (.anewarray 17, 3) := by decide +kernel
theorem dX8_init_80 : decode cX8_init 80 = .ok (.putfield 46, 3) := by decide +kernel
theorem dX8_init_83 : decode cX8_init 83 = .ok (.iconst 0, 1) := by decide +kernel
theorem dX8_init_84 : decode cX8_init 84 = .ok (.istore_n 1, 1) := by decide +kernel
theorem dX8_init_85 : decode cX8_init 85 = .ok (.iload_n 1, 1) := by decide +kernel
theorem dX8_init_86 : decode cX8_init 86 = .ok (.iconst 2, 1) := by decide +kernel
theorem dX8_init_87 : decode cX8_init 87 = .ok (.if_icmp .ge 24, 3) := by decide +kernel
theorem dX8_init_90 : decode cX8_init 90 = .ok (.aload_n 0, 1) := by decide +kernel
theorem dX8_init_91 : decode cX8_init 91 = .ok (.getfield 46, 3) := by decide +kernel
theorem dX8_init_94 : decode cX8_init 94 = .ok (.iload_n 1, 1) := by decide +kernel
theorem dX8_init_95 : decode cX8_init 95 = .ok (.new 17, 3) := by decide +kernel
theorem dX8_init_98 : decode cX8_init 98 = .ok (.dup, 1) := by decide +kernel
theorem dX8_init_99 : decode cX8_init 99 = .ok (.bipush 16, 2) := by decide +kernel
theorem dX8_init_101 : decode cX8_init 101 = .ok (.invokespecial 19, 3) := by decide +kernel
theorem dX8_init_104 : decode cX8_init 104 = .ok (.aastore, 1) := by decide +kernel
theorem dX8_init_105 : decode cX8_init 105 = .ok (.iinc 1 1, 3) := by decide +kernel
theorem dX8_init_108 : decode cX8_init 108 = .ok (.goto (-23), 3) := by decide +kernel
theorem dX8_init_111 : decode cX8_init 111 = .ok (.aload_n 0, 1) := by decide +kernel
theorem dX8_init_112 : decode cX8_init 112 = .ok (.iconst 2, 1) := by decide +kernel
theorem dX8_init_113 : decode cX8_init 113 = .ok (.newarray .boolean, 2) := by decide +kernel
theorem dX8_init_115 : decode cX8_init 115 = .ok (.putfield 50, 3) := by decide +kernel
theorem dX8_init_118 : decode cX8_init 118 = .ok (.aload_n 0, 1) := by decide +kernel
theorem dX8_init_119 : decode cX8_init 119 = .ok (.new 54, 3) := by decide +kernel
theorem dX8_init_122 : decode cX8_init 122 = .ok (.dup, 1) := by decide +kernel
theorem dX8_init_123 : decode cX8_init 123 = .ok (.invokespecial 56, 3) := by decide +kernel
theorem dX8_init_126 : decode cX8_init 126 = .ok (.putfield 57, 3) := by decide +kernel
theorem dX8_init_129 : decode cX8_init 129 = .ok (.aload_n 0, 1) := by decide +kernel
theorem dX8_init_130 : decode cX8_init 130 = .ok (.new 61, 3) := by decide +kernel
theorem dX8_init_133 : decode cX8_init 133 = .ok (.dup, 1) := by decide +kernel
theorem dX8_init_134 : decode cX8_init 134 = .ok (.invokespecial 63, 3) := by decide +kernel
theorem dX8_init_137 : decode cX8_init 137 = .ok (.putfield 64, 3) := by decide +kernel
theorem dX8_init_140 : decode cX8_init 140 = .ok (.return_, 1) := by decide +kernel
set_option maxRecDepth 20000 in
theorem ggX8_append_X3_isFull : GoodIn wsX8_append wsX3_isFull := goodIn_r _ [7, 8, 26, 27] (by decide +kernel) (by decide +kernel)
set_option maxRecDepth 20000 in
theorem gX8_append_X3_isFull : GoodIn wsX8_append (wsV RX8 68 RX3 yX3_isFull wsX3_isFull) := goodIn_app (goodIn_of _ (by decide +kernel)) ggX8_append_X3_isFull
set_option maxRecDepth 20000 in
theorem ggX8_append_X3_put : GoodIn wsX8_append wsX3_put := goodIn_r _ [12, 13, 8, 14, 4, 5, 6, 7, 26, 27] (by decide +kernel) (by decide +kernel)
set_option maxRecDepth 20000 in
theorem gX8_append_X3_put : GoodIn wsX8_append (wsV RX8 72 RX3 yX3_put wsX3_put) := goodIn_app (goodIn_of _ (by decide +kernel)) ggX8_append_X3_put
theorem dX8_append_0 : decode cX8_append 0 = .ok (.iload_n 1, 1) := by decide +kernel
theorem dX8_append_1 : decode cX8_append 1 = .ok (.ifCond .lt 10, 3) := by decide +kernel
theorem dX8_append_4 : decode cX8_append 4 = .ok (.iload_n 1, 1) := by decide +kernel
theorem dX8_append_5 : decode cX8_append 5 = .ok (.sipush 255, 3) := by decide +kernel
theorem dX8_append_8 : decode cX8_append 8 = .ok (.if_icmp .le 6, 3) := by decide +kernel
theorem dX8_append_11 : decode cX8_append 11 = .ok (.bipush (-2), 2) := by decide +kernel
theorem dX8_append_13 : decode cX8_append 13 = .ok (.ireturn, 1) := by decide +kernel
theorem dX8_append_14 : decode cX8_append 14 = .ok (.aload_n 0, 1) := by decide +kernel
theorem dX8_append_15 : decode cX8_append 15 = .ok (.getfield 57, 3) := by decide +kernel
theorem dX8_append_18 : decode cX8_append 18 = .ok (.invokevirtual 68, 3) := by decide +kernel
theorem dX8_append_21 : decode cX8_append 21 = .ok (.ifCond .eq 6, 3) := by decide +kernel
theorem dX8_append_24 : decode cX8_append 24 = .ok (.bipush (-4), 2) := by decide +kernel
theorem dX8_append_26 : decode cX8_append 26 = .ok (.ireturn, 1) := by decide +kernel
theorem dX8_append_27 : decode cX8_append 27 = .ok (.aload_n 0, 1) := by decide +kernel
theorem dX8_append_28 : decode cX8_append 28 = .ok (.getfield 57, 3) := by decide +kernel
theorem dX8_append_31 : decode cX8_append 31 = .ok (.iload_n 1, 1) := by decide +kernel
theorem dX8_append_32 : decode cX8_append 32 = .ok (.invokevirtual 72, 3) := by decide +kernel
theorem dX8_append_35 : decode cX8_append 35 = .ok (.aload_n 0, 1) := by decide +kernel
theorem dX8_append_36 : decode cX8_append 36 = .ok (.getfield 57, 3) := by decide +kernel
theorem dX8_append_39 : decode cX8_append 39 = .ok (.getfield 75, 3) := by decide +kernel
theorem dX8_append_42 : decode cX8_append 42 = .ok (.ireturn, 1) := by decide +kernel
theorem dX8_clearText_0 : decode cX8_clearText 0 = .ok (.aload_n 0, 1) := by decide +kernel
theorem dX8_clearText_1 : decode cX8_clearText 1 = .ok (.getfield 57, 3) := by decide +kernel
theorem dX8_clearText_4 : decode cX8_clearText 4 = .ok (.getfield 75, 3) := by decide +kernel
theorem dX8_clearText_7 : decode cX8_clearText 7 = .ok (.istore_n 1, 1) := by decide +kernel
theorem dX8_clearText_8 : decode cX8_clearText 8 = .ok (.aload_n 0, 1) := by decide +kernel
theorem dX8_clearText_9 : decode cX8_clearText 9 = .ok (.getfield 57, 3) := by decide +kernel
theorem dX8_clearText_12 : decode cX8_clearText 12 = .ok (.iconst 0, 1) := by decide +kernel
theorem dX8_clearText_13 : decode cX8_clearText 13 = .ok (.putfield 75, 3) := by decide +kernel
theorem dX8_clearText_16 : decode cX8_clearText 16 = .ok (.iload_n 1, 1) := by decide +kernel
theorem dX8_clearText_17 : decode cX8_clearText 17 = .ok (.ireturn, 1) := by decide +kernel
set_option maxRecDepth 20000 in
theorem ggX8_errorPosition_X3_firstFault : GoodIn wsX8_errorPosition wsX3_firstFault := goodIn_r _ [6, 7, 8, 9, 10, 5, 11, 12, 13, 14, 15, 16, 17, 18, 19, 20, 32, 33] (by decide +kernel) (by decide +kernel)
set_option maxRecDepth 20000 in
theorem gX8_errorPosition_X3_firstFault : GoodIn wsX8_errorPosition (wsV RX8 78 RX3 yX3_firstFault wsX3_firstFault) := goodIn_app (goodIn_of _ (by decide +kernel)) ggX8_errorPosition_X3_firstFault
theorem dX8_errorPosition_0 : decode cX8_errorPosition 0 = .ok (.aload_n 0, 1) := by decide +kernel
theorem dX8_errorPosition_1 : decode cX8_errorPosition 1 = .ok (.getfield 57, 3) := by decide +kernel
theorem dX8_errorPosition_4 : decode cX8_errorPosition 4 = .ok (.invokevirtual 78, 3) := by decide +kernel
theorem dX8_errorPosition_7 : decode cX8_errorPosition 7 = .ok (.ireturn, 1) := by decide +kernel
set_option maxRecDepth 20000 in
theorem ggX8_load_X3_firstFault : GoodIn wsX8_load wsX3_firstFault := goodIn_r _ [11, 12, 13, 14, 15, 10, 16, 17, 18, 19, 20, 21, 22, 23, 24, 25, 66, 67] (by decide +kernel) (by decide +kernel)
end
section
set_option maxRecDepth 20000 in
theorem gX8_load_X3_firstFault : GoodIn wsX8_load (wsV RX8 78 RX3 yX3_firstFault wsX3_firstFault) := goodIn_app (goodIn_of _ (by decide +kernel)) ggX8_load_X3_firstFault
set_option maxRecDepth 20000 in
theorem ggX8_load_X3_writtenVertices : GoodIn wsX8_load wsX3_writtenVertices := goodIn_r _ [25, 17, 66, 67] (by decide +kernel) (by decide +kernel)
set_option maxRecDepth 20000 in
theorem gX8_load_X3_writtenVertices : GoodIn wsX8_load (wsV RX8 82 RX3 yX3_writtenVertices wsX3_writtenVertices) := goodIn_app (goodIn_of _ (by decide +kernel)) ggX8_load_X3_writtenVertices
set_option maxRecDepth 20000 in
theorem ggX8_load_X3_writeEdgesTo : GoodIn wsX8_load wsX3_writeEdgesTo := goodIn_r _ [30, 31, 12, 17, 18, 19, 10, 20, 21, 32, 33, 34, 35, 36, 37, 38, 39, 40, 41, 42, 43, 44, 62, 63, 64, 65, 66, 67] (by decide +kernel) (by decide +kernel)
set_option maxRecDepth 20000 in
theorem gX8_load_X3_writeEdgesTo : GoodIn wsX8_load (wsV RX8 85 RX3 yX3_writeEdgesTo wsX3_writeEdgesTo) := goodIn_app (goodIn_of _ (by decide +kernel)) ggX8_load_X3_writeEdgesTo
set_option maxRecDepth 20000 in
theorem ggX8_load_X4_forgetAll : GoodIn wsX8_load wsX4_forgetAll := goodIn_r _ [49, 50, 68, 69, 70] (by decide +kernel) (by decide +kernel)
set_option maxRecDepth 20000 in
theorem gX8_load_X4_forgetAll : GoodIn wsX8_load (wsV RX8 89 RX4 yX4_forgetAll wsX4_forgetAll) := goodIn_app (goodIn_of _ (by decide +kernel)) ggX8_load_X4_forgetAll
theorem dX8_load_0 : decode cX8_load 0 = .ok (.aload_n 0, 1) := by decide +kernel
theorem dX8_load_1 : decode cX8_load 1 = .ok (.getfield 57, 3) := by decide +kernel
theorem dX8_load_4 : decode cX8_load 4 = .ok (.invokevirtual 78, 3) := by decide +kernel
theorem dX8_load_7 : decode cX8_load 7 = .ok (.bipush (-9), 2) := by decide +kernel
theorem dX8_load_9 : decode cX8_load 9 = .ok (.if_icmp .eq 6, 3) := by decide +kernel
theorem dX8_load_12 : decode cX8_load 12 = .ok (.bipush (-3), 2) := by decide +kernel
theorem dX8_load_14 : decode cX8_load 14 = .ok (.ireturn, 1) := by decide +kernel
theorem dX8_load_15 : decode cX8_load 15 = .ok (.aload_n 0, 1) := by decide +kernel
theorem dX8_load_16 : decode cX8_load 16 = .ok (.aload_n 0, 1) := by decide +kernel
theorem dX8_load_17 : decode cX8_load 17 = .ok (.getfield 57, 3) := by decide +kernel
theorem dX8_load_20 : decode cX8_load 20 = .ok (.invokevirtual 82, 3) := by decide +kernel
theorem dX8_load_23 : decode cX8_load 23 = .ok (.putfield 9, 3) := by decide +kernel
theorem dX8_load_26 : decode cX8_load 26 = .ok (.aload_n 0, 1) := by decide +kernel
theorem dX8_load_27 : decode cX8_load 27 = .ok (.getfield 57, 3) := by decide +kernel
theorem dX8_load_30 : decode cX8_load 30 = .ok (.aload_n 0, 1) := by decide +kernel
theorem dX8_load_31 : decode cX8_load 31 = .ok (.getfield 22, 3) := by decide +kernel
theorem dX8_load_34 : decode cX8_load 34 = .ok (.invokevirtual 85, 3) := by decide +kernel
theorem dX8_load_37 : decode cX8_load 37 = .ok (.aload_n 0, 1) := by decide +kernel
theorem dX8_load_38 : decode cX8_load 38 = .ok (.getfield 42, 3) := by decide +kernel
theorem dX8_load_41 : decode cX8_load 41 = .ok (.invokevirtual 89, 3) := by decide +kernel
theorem dX8_load_44 : decode cX8_load 44 = .ok (.iconst 0, 1) := by decide +kernel
theorem dX8_load_45 : decode cX8_load 45 = .ok (.istore_n 1, 1) := by decide +kernel
theorem dX8_load_46 : decode cX8_load 46 = .ok (.iload_n 1, 1) := by decide +kernel
theorem dX8_load_47 : decode cX8_load 47 = .ok (.iconst 2, 1) := by decide +kernel
theorem dX8_load_48 : decode cX8_load 48 = .ok (.if_icmp .ge 16, 3) := by decide +kernel
theorem dX8_load_51 : decode cX8_load 51 = .ok (.aload_n 0, 1) := by decide +kernel
theorem dX8_load_52 : decode cX8_load 52 = .ok (.getfield 50, 3) := by decide +kernel
theorem dX8_load_55 : decode cX8_load 55 = .ok (.iload_n 1, 1) := by decide +kernel
theorem dX8_load_56 : decode cX8_load 56 = .ok (.iconst 0, 1) := by decide +kernel
theorem dX8_load_57 : decode cX8_load 57 = .ok (.bastore, 1) := by decide +kernel
theorem dX8_load_58 : decode cX8_load 58 = .ok (.iinc 1 1, 3) := by decide +kernel
theorem dX8_load_61 : decode cX8_load 61 = .ok (.goto (-15), 3) := by decide +kernel
theorem dX8_load_64 : decode cX8_load 64 = .ok (.aload_n 0, 1) := by decide +kernel
theorem dX8_load_65 : decode cX8_load 65 = .ok (.getfield 22, 3) := by decide +kernel
theorem dX8_load_68 : decode cX8_load 68 = .ok (.getfield 92, 3) := by decide +kernel
theorem dX8_load_71 : decode cX8_load 71 = .ok (.ireturn, 1) := by decide +kernel
theorem dX8_vertexCount_0 : decode cX8_vertexCount 0 = .ok (.aload_n 0, 1) := by decide +kernel
theorem dX8_vertexCount_1 : decode cX8_vertexCount 1 = .ok (.getfield 9, 3) := by decide +kernel
theorem dX8_vertexCount_4 : decode cX8_vertexCount 4 = .ok (.ireturn, 1) := by decide +kernel
theorem dX8_edgeCount_0 : decode cX8_edgeCount 0 = .ok (.aload_n 0, 1) := by decide +kernel
theorem dX8_edgeCount_1 : decode cX8_edgeCount 1 = .ok (.getfield 22, 3) := by decide +kernel
theorem dX8_edgeCount_4 : decode cX8_edgeCount 4 = .ok (.getfield 92, 3) := by decide +kernel
theorem dX8_edgeCount_7 : decode cX8_edgeCount 7 = .ok (.ireturn, 1) := by decide +kernel
set_option maxRecDepth 20000 in
theorem ggX8_source_X2_holds : GoodIn wsX8_source wsX2_holds := goodIn_r _ [7, 8, 20, 21, 22, 23] (by decide +kernel) (by decide +kernel)
set_option maxRecDepth 20000 in
theorem gX8_source_X2_holds : GoodIn wsX8_source (wsV RX8 95 RX2 yX2_holds wsX2_holds) := goodIn_app (goodIn_of _ (by decide +kernel)) ggX8_source_X2_holds
theorem dX8_source_0 : decode cX8_source 0 = .ok (.aload_n 0, 1) := by decide +kernel
theorem dX8_source_1 : decode cX8_source 1 = .ok (.getfield 22, 3) := by decide +kernel
theorem dX8_source_4 : decode cX8_source 4 = .ok (.iload_n 1, 1) := by decide +kernel
theorem dX8_source_5 : decode cX8_source 5 = .ok (.invokevirtual 95, 3) := by decide +kernel
theorem dX8_source_8 : decode cX8_source 8 = .ok (.ifCond .eq 15, 3) := by decide +kernel
theorem dX8_source_11 : decode cX8_source 11 = .ok (.aload_n 0, 1) := by decide +kernel
theorem dX8_source_12 : decode cX8_source 12 = .ok (.getfield 22, 3) := by decide +kernel
theorem dX8_source_15 : decode cX8_source 15 = .ok (.getfield 99, 3) := by decide +kernel
theorem dX8_source_18 : decode cX8_source 18 = .ok (.iload_n 1, 1) := by decide +kernel
theorem dX8_source_19 : decode cX8_source 19 = .ok (.iaload, 1) := by decide +kernel
theorem dX8_source_20 : decode cX8_source 20 = .ok (.goto 4, 3) := by decide +kernel
theorem dX8_source_23 : decode cX8_source 23 = .ok (.iconst (-1), 1) := by decide +kernel
theorem dX8_source_24 : decode cX8_source 24 = .ok (.ireturn, 1) := by decide +kernel
set_option maxRecDepth 20000 in
theorem ggX8_target_X2_holds : GoodIn wsX8_target wsX2_holds := goodIn_r _ [7, 8, 20, 21, 22, 23] (by decide +kernel) (by decide +kernel)
set_option maxRecDepth 20000 in
theorem gX8_target_X2_holds : GoodIn wsX8_target (wsV RX8 95 RX2 yX2_holds wsX2_holds) := goodIn_app (goodIn_of _ (by decide +kernel)) ggX8_target_X2_holds
theorem dX8_target_0 : decode cX8_target 0 = .ok (.aload_n 0, 1) := by decide +kernel
theorem dX8_target_1 : decode cX8_target 1 = .ok (.getfield 22, 3) := by decide +kernel
theorem dX8_target_4 : decode cX8_target 4 = .ok (.iload_n 1, 1) := by decide +kernel
theorem dX8_target_5 : decode cX8_target 5 = .ok (.invokevirtual 95, 3) := by decide +kernel
theorem dX8_target_8 : decode cX8_target 8 = .ok (.ifCond .eq 15, 3) := by decide +kernel
theorem dX8_target_11 : decode cX8_target 11 = .ok (.aload_n 0, 1) := by decide +kernel
theorem dX8_target_12 : decode cX8_target 12 = .ok (.getfield 22, 3) := by decide +kernel
theorem dX8_target_15 : decode cX8_target 15 = .ok (.getfield 103, 3) := by decide +kernel
theorem dX8_target_18 : decode cX8_target 18 = .ok (.iload_n 1, 1) := by decide +kernel
theorem dX8_target_19 : decode cX8_target 19 = .ok (.iaload, 1) := by decide +kernel
theorem dX8_target_20 : decode cX8_target 20 = .ok (.goto 4, 3) := by decide +kernel
theorem dX8_target_23 : decode cX8_target 23 = .ok (.iconst (-1), 1) := by decide +kernel
theorem dX8_target_24 : decode cX8_target 24 = .ok (.ireturn, 1) := by decide +kernel
set_option maxRecDepth 20000 in
theorem ggX8_label_X2_holds : GoodIn wsX8_label wsX2_holds := goodIn_r _ [7, 8, 20, 21, 22, 23] (by decide +kernel) (by decide +kernel)
set_option maxRecDepth 20000 in
theorem gX8_label_X2_holds : GoodIn wsX8_label (wsV RX8 95 RX2 yX2_holds wsX2_holds) := goodIn_app (goodIn_of _ (by decide +kernel)) ggX8_label_X2_holds
theorem dX8_label_0 : decode cX8_label 0 = .ok (.aload_n 0, 1) := by decide +kernel
theorem dX8_label_1 : decode cX8_label 1 = .ok (.getfield 22, 3) := by decide +kernel
theorem dX8_label_4 : decode cX8_label 4 = .ok (.iload_n 1, 1) := by decide +kernel
theorem dX8_label_5 : decode cX8_label 5 = .ok (.invokevirtual 95, 3) := by decide +kernel
theorem dX8_label_8 : decode cX8_label 8 = .ok (.ifCond .eq 15, 3) := by decide +kernel
theorem dX8_label_11 : decode cX8_label 11 = .ok (.aload_n 0, 1) := by decide +kernel
theorem dX8_label_12 : decode cX8_label 12 = .ok (.getfield 22, 3) := by decide +kernel
theorem dX8_label_15 : decode cX8_label 15 = .ok (.getfield 106, 3) := by decide +kernel
theorem dX8_label_18 : decode cX8_label 18 = .ok (.iload_n 1, 1) := by decide +kernel
theorem dX8_label_19 : decode cX8_label 19 = .ok (.iaload, 1) := by decide +kernel
theorem dX8_label_20 : decode cX8_label 20 = .ok (.goto 4, 3) := by decide +kernel
theorem dX8_label_23 : decode cX8_label 23 = .ok (.iconst (-1), 1) := by decide +kernel
theorem dX8_label_24 : decode cX8_label 24 = .ok (.ireturn, 1) := by decide +kernel
set_option maxRecDepth 20000 in
theorem ggX8_addEdge_X8_isVertex : GoodIn wsX8_addEdge wsX8_isVertex := goodIn_r _ [8, 9, 44, 45, 46, 47, 48, 49, 50, 51, 52, 53, 54] (by decide +kernel) (by decide +kernel)
set_option maxRecDepth 20000 in
theorem gX8_addEdge_X8_isVertex : GoodIn wsX8_addEdge (wsV RX8 109 RX8 yX8_isVertex wsX8_isVertex) := goodIn_app (goodIn_of _ (by decide +kernel)) ggX8_addEdge_X8_isVertex
set_option maxRecDepth 20000 in
theorem ggX8_addEdge_X8_isLabel : GoodIn wsX8_addEdge wsX8_isLabel := goodIn_r _ [12] (by decide +kernel) (by decide +kernel)
set_option maxRecDepth 20000 in
theorem gX8_addEdge_X8_isLabel : GoodIn wsX8_addEdge (va_wsS RX8 112 yX8_isLabel wsX8_isLabel) := goodIn_app (goodIn_of _ (by decide +kernel)) ggX8_addEdge_X8_isLabel
set_option maxRecDepth 20000 in
theorem ggX8_addEdge_X2_isFull : GoodIn wsX8_addEdge wsX2_isFull := goodIn_r _ [17, 18, 19, 55, 56, 57, 58] (by decide +kernel) (by decide +kernel)
set_option maxRecDepth 20000 in
theorem gX8_addEdge_X2_isFull : GoodIn wsX8_addEdge (wsV RX8 115 RX2 yX2_isFull wsX2_isFull) := goodIn_app (goodIn_of _ (by decide +kernel)) ggX8_addEdge_X2_isFull
set_option maxRecDepth 20000 in
theorem ggX8_addEdge_X4_remember : GoodIn wsX8_addEdge wsX4_remember := goodIn_r _ [24, 25, 26, 27, 28, 29, 30, 31, 32, 33, 34, 16, 35, 18, 19, 36, 37, 38, 39, 40, 41, 42, 14, 15, 17, 59, 60, 61, 55, 56, 57, 58] (by decide +kernel) (by decide +kernel)
set_option maxRecDepth 20000 in
theorem gX8_addEdge_X4_remember : GoodIn wsX8_addEdge (wsV RX8 116 RX4 yX4_remember wsX4_remember) := goodIn_app (goodIn_of _ (by decide +kernel)) ggX8_addEdge_X4_remember
set_option maxRecDepth 20000 in
theorem ggX8_addEdge_X2_put : GoodIn wsX8_addEdge wsX2_put := goodIn_r _ [41, 19, 18, 36, 37, 42, 14, 15, 16, 17, 55, 56, 57, 58] (by decide +kernel) (by decide +kernel)
set_option maxRecDepth 20000 in
theorem gX8_addEdge_X2_put : GoodIn wsX8_addEdge (wsV RX8 119 RX2 yX2_put wsX2_put) := goodIn_app (goodIn_of _ (by decide +kernel)) ggX8_addEdge_X2_put
theorem dX8_addEdge_0 : decode cX8_addEdge 0 = .ok (.aload_n 0, 1) := by decide +kernel
theorem dX8_addEdge_1 : decode cX8_addEdge 1 = .ok (.iload_n 1, 1) := by decide +kernel
theorem dX8_addEdge_2 : decode cX8_addEdge 2 = .ok (.invokevirtual 109, 3) := by decide +kernel
theorem dX8_addEdge_5 : decode cX8_addEdge 5 = .ok (.ifCond .eq 11, 3) := by decide +kernel
theorem dX8_addEdge_8 : decode cX8_addEdge 8 = .ok (.aload_n 0, 1) := by decide +kernel
theorem dX8_addEdge_9 : decode cX8_addEdge 9 = .ok (.iload_n 2, 1) := by decide +kernel
theorem dX8_addEdge_10 : decode cX8_addEdge 10 = .ok (.invokevirtual 109, 3) := by decide +kernel
theorem dX8_addEdge_13 : decode cX8_addEdge 13 = .ok (.ifCond .ne 5, 3) := by decide +kernel
theorem dX8_addEdge_16 : decode cX8_addEdge 16 = .ok (.iconst (-1), 1) := by decide +kernel
theorem dX8_addEdge_17 : decode cX8_addEdge 17 = .ok (.ireturn, 1) := by decide +kernel
theorem dX8_addEdge_18 : decode cX8_addEdge 18 = .ok (.iload_n 3, 1) := by decide +kernel
theorem dX8_addEdge_19 : decode cX8_addEdge 19 = .ok (.invokestatic 112, 3) := by decide +kernel
theorem dX8_addEdge_22 : decode cX8_addEdge 22 = .ok (.ifCond .ne 6, 3) := by decide +kernel
theorem dX8_addEdge_25 : decode cX8_addEdge 25 = .ok (.bipush (-2), 2) := by decide +kernel
theorem dX8_addEdge_27 : decode cX8_addEdge 27 = .ok (.ireturn, 1) := by decide +kernel
theorem dX8_addEdge_28 : decode cX8_addEdge 28 = .ok (.aload_n 0, 1) := by decide +kernel
theorem dX8_addEdge_29 : decode cX8_addEdge 29 = .ok (.getfield 22, 3) := by decide +kernel
theorem dX8_addEdge_32 : decode cX8_addEdge 32 = .ok (.invokevirtual 115, 3) := by decide +kernel
theorem dX8_addEdge_35 : decode cX8_addEdge 35 = .ok (.ifCond .eq 6, 3) := by decide +kernel
theorem dX8_addEdge_38 : decode cX8_addEdge 38 = .ok (.bipush (-4), 2) := by decide +kernel
theorem dX8_addEdge_40 : decode cX8_addEdge 40 = .ok (.ireturn, 1) := by decide +kernel
theorem dX8_addEdge_41 : decode cX8_addEdge 41 = .ok (.aload_n 0, 1) := by decide +kernel
theorem dX8_addEdge_42 : decode cX8_addEdge 42 = .ok (.getfield 42, 3) := by decide +kernel
theorem dX8_addEdge_45 : decode cX8_addEdge 45 = .ok (.aload_n 0, 1) := by decide +kernel
theorem dX8_addEdge_46 : decode cX8_addEdge 46 = .ok (.getfield 22, 3) := by decide +kernel
theorem dX8_addEdge_49 : decode cX8_addEdge 49 = .ok (.invokevirtual 116, 3) := by decide +kernel
theorem dX8_addEdge_52 : decode cX8_addEdge 52 = .ok (.aload_n 0, 1) := by decide +kernel
theorem dX8_addEdge_53 : decode cX8_addEdge 53 = .ok (.getfield 22, 3) := by decide +kernel
theorem dX8_addEdge_56 : decode cX8_addEdge 56 = .ok (.iload_n 1, 1) := by decide +kernel
theorem dX8_addEdge_57 : decode cX8_addEdge 57 = .ok (.iload_n 2, 1) := by decide +kernel
theorem dX8_addEdge_58 : decode cX8_addEdge 58 = .ok (.iload_n 3, 1) := by decide +kernel
theorem dX8_addEdge_59 : decode cX8_addEdge 59 = .ok (.invokevirtual 119, 3) := by decide +kernel
theorem dX8_addEdge_62 : decode cX8_addEdge 62 = .ok (.aload_n 0, 1) := by decide +kernel
theorem dX8_addEdge_63 : decode cX8_addEdge 63 = .ok (.getfield 22, 3) := by decide +kernel
theorem dX8_addEdge_66 : decode cX8_addEdge 66 = .ok (.getfield 92, 3) := by decide +kernel
theorem dX8_addEdge_69 : decode cX8_addEdge 69 = .ok (.iconst 1, 1) := by decide +kernel
theorem dX8_addEdge_70 : decode cX8_addEdge 70 = .ok (.isub, 1) := by decide +kernel
theorem dX8_addEdge_71 : decode cX8_addEdge 71 = .ok (.ireturn, 1) := by decide +kernel
set_option maxRecDepth 20000 in
theorem ggX8_removeEdge_X2_holds : GoodIn wsX8_removeEdge wsX2_holds := goodIn_r _ [8, 9, 53, 54, 55, 56] (by decide +kernel) (by decide +kernel)
set_option maxRecDepth 20000 in
theorem gX8_removeEdge_X2_holds : GoodIn wsX8_removeEdge (wsV RX8 95 RX2 yX2_holds wsX2_holds) := goodIn_app (goodIn_of _ (by decide +kernel)) ggX8_removeEdge_X2_holds
set_option maxRecDepth 20000 in
theorem ggX8_removeEdge_X4_remember : GoodIn wsX8_removeEdge wsX4_remember := goodIn_r _ [14, 15, 16, 17, 18, 19, 20, 21, 22, 23, 24, 7, 25, 9, 26, 27, 28, 29, 30, 31, 32, 33, 34, 35, 36, 57, 58, 59, 53, 54, 55, 56] (by decide +kernel) (by decide +kernel)
set_option maxRecDepth 20000 in
theorem gX8_removeEdge_X4_remember : GoodIn wsX8_removeEdge (wsV RX8 116 RX4 yX4_remember wsX4_remember) := goodIn_app (goodIn_of _ (by decide +kernel)) ggX8_removeEdge_X4_remember
set_option maxRecDepth 20000 in
theorem ggX8_removeEdge_X2_drop : GoodIn wsX8_removeEdge wsX2_drop := goodIn_r _ [40, 9, 26, 27, 28, 41, 5, 6, 7, 8, 53, 54, 55, 56] (by decide +kernel) (by decide +kernel)
set_option maxRecDepth 20000 in
theorem gX8_removeEdge_X2_drop : GoodIn wsX8_removeEdge (wsV RX8 122 RX2 yX2_drop wsX2_drop) := goodIn_app (goodIn_of _ (by decide +kernel)) ggX8_removeEdge_X2_drop
theorem dX8_removeEdge_0 : decode cX8_removeEdge 0 = .ok (.aload_n 0, 1) := by decide +kernel
theorem dX8_removeEdge_1 : decode cX8_removeEdge 1 = .ok (.getfield 22, 3) := by decide +kernel
theorem dX8_removeEdge_4 : decode cX8_removeEdge 4 = .ok (.iload_n 1, 1) := by decide +kernel
theorem dX8_removeEdge_5 : decode cX8_removeEdge 5 = .ok (.invokevirtual 95, 3) := by decide +kernel
theorem dX8_removeEdge_8 : decode cX8_removeEdge 8 = .ok (.ifCond .ne 5, 3) := by decide +kernel
theorem dX8_removeEdge_11 : decode cX8_removeEdge 11 = .ok (.iconst (-1), 1) := by decide +kernel
theorem dX8_removeEdge_12 : decode cX8_removeEdge 12 = .ok (.ireturn, 1) := by decide +kernel
theorem dX8_removeEdge_13 : decode cX8_removeEdge 13 = .ok (.aload_n 0, 1) := by decide +kernel
theorem dX8_removeEdge_14 : decode cX8_removeEdge 14 = .ok (.getfield 42, 3) := by decide +kernel
theorem dX8_removeEdge_17 : decode cX8_removeEdge 17 = .ok (.aload_n 0, 1) := by decide +kernel
theorem dX8_removeEdge_18 : decode cX8_removeEdge 18 = .ok (.getfield 22, 3) := by decide +kernel
theorem dX8_removeEdge_21 : decode cX8_removeEdge 21 = .ok (.invokevirtual 116, 3) := by decide +kernel
theorem dX8_removeEdge_24 : decode cX8_removeEdge 24 = .ok (.aload_n 0, 1) := by decide +kernel
theorem dX8_removeEdge_25 : decode cX8_removeEdge 25 = .ok (.getfield 22, 3) := by decide +kernel
theorem dX8_removeEdge_28 : decode cX8_removeEdge 28 = .ok (.iload_n 1, 1) := by decide +kernel
theorem dX8_removeEdge_29 : decode cX8_removeEdge 29 = .ok (.invokevirtual 122, 3) := by decide +kernel
theorem dX8_removeEdge_32 : decode cX8_removeEdge 32 = .ok (.aload_n 0, 1) := by decide +kernel
theorem dX8_removeEdge_33 : decode cX8_removeEdge 33 = .ok (.getfield 22, 3) := by decide +kernel
theorem dX8_removeEdge_36 : decode cX8_removeEdge 36 = .ok (.getfield 92, 3) := by decide +kernel
theorem dX8_removeEdge_39 : decode cX8_removeEdge 39 = .ok (.ireturn, 1) := by decide +kernel
set_option maxRecDepth 20000 in
theorem ggX8_setLabel_X2_holds : GoodIn wsX8_setLabel wsX2_holds := goodIn_r _ [8, 9, 52, 53, 54, 55] (by decide +kernel) (by decide +kernel)
set_option maxRecDepth 20000 in
theorem gX8_setLabel_X2_holds : GoodIn wsX8_setLabel (wsV RX8 95 RX2 yX2_holds wsX2_holds) := goodIn_app (goodIn_of _ (by decide +kernel)) ggX8_setLabel_X2_holds
set_option maxRecDepth 20000 in
theorem ggX8_setLabel_X8_isLabel : GoodIn wsX8_setLabel wsX8_isLabel := goodIn_r _ [13] (by decide +kernel) (by decide +kernel)
set_option maxRecDepth 20000 in
theorem gX8_setLabel_X8_isLabel : GoodIn wsX8_setLabel (va_wsS RX8 112 yX8_isLabel wsX8_isLabel) := goodIn_app (goodIn_of _ (by decide +kernel)) ggX8_setLabel_X8_isLabel
set_option maxRecDepth 20000 in
theorem ggX8_setLabel_X4_remember : GoodIn wsX8_setLabel wsX4_remember := goodIn_r _ [18, 19, 20, 21, 22, 23, 24, 25, 26, 27, 28, 7, 29, 9, 30, 31, 32, 33, 34, 35, 36, 37, 38, 39, 40, 56, 57, 58, 52, 53, 54, 55] (by decide +kernel) (by decide +kernel)
set_option maxRecDepth 20000 in
theorem gX8_setLabel_X4_remember : GoodIn wsX8_setLabel (wsV RX8 116 RX4 yX4_remember wsX4_remember) := goodIn_app (goodIn_of _ (by decide +kernel)) ggX8_setLabel_X4_remember
theorem dX8_setLabel_0 : decode cX8_setLabel 0 = .ok (.aload_n 0, 1) := by decide +kernel
theorem dX8_setLabel_1 : decode cX8_setLabel 1 = .ok (.getfield 22, 3) := by decide +kernel
theorem dX8_setLabel_4 : decode cX8_setLabel 4 = .ok (.iload_n 1, 1) := by decide +kernel
theorem dX8_setLabel_5 : decode cX8_setLabel 5 = .ok (.invokevirtual 95, 3) := by decide +kernel
theorem dX8_setLabel_8 : decode cX8_setLabel 8 = .ok (.ifCond .ne 5, 3) := by decide +kernel
theorem dX8_setLabel_11 : decode cX8_setLabel 11 = .ok (.iconst (-1), 1) := by decide +kernel
theorem dX8_setLabel_12 : decode cX8_setLabel 12 = .ok (.ireturn, 1) := by decide +kernel
theorem dX8_setLabel_13 : decode cX8_setLabel 13 = .ok (.iload_n 2, 1) := by decide +kernel
theorem dX8_setLabel_14 : decode cX8_setLabel 14 = .ok (.invokestatic 112, 3) := by decide +kernel
theorem dX8_setLabel_17 : decode cX8_setLabel 17 = .ok (.ifCond .ne 6, 3) := by decide +kernel
theorem dX8_setLabel_20 : decode cX8_setLabel 20 = .ok (.bipush (-2), 2) := by decide +kernel
theorem dX8_setLabel_22 : decode cX8_setLabel 22 = .ok (.ireturn, 1) := by decide +kernel
theorem dX8_setLabel_23 : decode cX8_setLabel 23 = .ok (.aload_n 0, 1) := by decide +kernel
theorem dX8_setLabel_24 : decode cX8_setLabel 24 = .ok (.getfield 42, 3) := by decide +kernel
theorem dX8_setLabel_27 : decode cX8_setLabel 27 = .ok (.aload_n 0, 1) := by decide +kernel
theorem dX8_setLabel_28 : decode cX8_setLabel 28 = .ok (.getfield 22, 3) := by decide +kernel
theorem dX8_setLabel_31 : decode cX8_setLabel 31 = .ok (.invokevirtual 116, 3) := by decide +kernel
theorem dX8_setLabel_34 : decode cX8_setLabel 34 = .ok (.aload_n 0, 1) := by decide +kernel
theorem dX8_setLabel_35 : decode cX8_setLabel 35 = .ok (.getfield 22, 3) := by decide +kernel
theorem dX8_setLabel_38 : decode cX8_setLabel 38 = .ok (.getfield 106, 3) := by decide +kernel
theorem dX8_setLabel_41 : decode cX8_setLabel 41 = .ok (.iload_n 1, 1) := by decide +kernel
theorem dX8_setLabel_42 : decode cX8_setLabel 42 = .ok (.iaload, 1) := by decide +kernel
theorem dX8_setLabel_43 : decode cX8_setLabel 43 = .ok (.istore_n 3, 1) := by decide +kernel
theorem dX8_setLabel_44 : decode cX8_setLabel 44 = .ok (.aload_n 0, 1) := by decide +kernel
theorem dX8_setLabel_45 : decode cX8_setLabel 45 = .ok (.getfield 22, 3) := by decide +kernel
theorem dX8_setLabel_48 : decode cX8_setLabel 48 = .ok (.getfield 106, 3) := by decide +kernel
theorem dX8_setLabel_51 : decode cX8_setLabel 51 = .ok (.iload_n 1, 1) := by decide +kernel
theorem dX8_setLabel_52 : decode cX8_setLabel 52 = .ok (.iload_n 2, 1) := by decide +kernel
theorem dX8_setLabel_53 : decode cX8_setLabel 53 = .ok (.iastore, 1) := by decide +kernel
theorem dX8_setLabel_54 : decode cX8_setLabel 54 = .ok (.iload_n 3, 1) := by decide +kernel
theorem dX8_setLabel_55 : decode cX8_setLabel 55 = .ok (.ireturn, 1) := by decide +kernel
set_option maxRecDepth 20000 in
theorem ggX8_undo_X4_giveBack : GoodIn wsX8_undo wsX4_giveBack := goodIn_r _ [8, 9, 10, 11, 12, 13, 14, 15, 16, 17, 18, 19, 20, 21, 22, 23, 24, 25, 26, 27, 28, 40, 41, 42, 43, 44, 45, 46] (by decide +kernel) (by decide +kernel)
set_option maxRecDepth 20000 in
theorem gX8_undo_X4_giveBack : GoodIn wsX8_undo (wsV RX8 126 RX4 yX4_giveBack wsX4_giveBack) := goodIn_app (goodIn_of _ (by decide +kernel)) ggX8_undo_X4_giveBack
theorem dX8_undo_0 : decode cX8_undo 0 = .ok (.aload_n 0, 1) := by decide +kernel
theorem dX8_undo_1 : decode cX8_undo 1 = .ok (.getfield 42, 3) := by decide +kernel
theorem dX8_undo_4 : decode cX8_undo 4 = .ok (.getfield 125, 3) := by decide +kernel
theorem dX8_undo_7 : decode cX8_undo 7 = .ok (.ifCond .ne 6, 3) := by decide +kernel
theorem dX8_undo_10 : decode cX8_undo 10 = .ok (.bipush (-3), 2) := by decide +kernel
theorem dX8_undo_12 : decode cX8_undo 12 = .ok (.ireturn, 1) := by decide +kernel
theorem dX8_undo_13 : decode cX8_undo 13 = .ok (.aload_n 0, 1) := by decide +kernel
theorem dX8_undo_14 : decode cX8_undo 14 = .ok (.getfield 42, 3) := by decide +kernel
theorem dX8_undo_17 : decode cX8_undo 17 = .ok (.aload_n 0, 1) := by decide +kernel
theorem dX8_undo_18 : decode cX8_undo 18 = .ok (.getfield 22, 3) := by decide +kernel
theorem dX8_undo_21 : decode cX8_undo 21 = .ok (.invokevirtual 126, 3) := by decide +kernel
theorem dX8_undo_24 : decode cX8_undo 24 = .ok (.aload_n 0, 1) := by decide +kernel
theorem dX8_undo_25 : decode cX8_undo 25 = .ok (.getfield 42, 3) := by decide +kernel
theorem dX8_undo_28 : decode cX8_undo 28 = .ok (.getfield 125, 3) := by decide +kernel
theorem dX8_undo_31 : decode cX8_undo 31 = .ok (.ireturn, 1) := by decide +kernel
set_option maxRecDepth 20000 in
theorem ggX8_reachableFrom_X8_isVertex : GoodIn wsX8_reachableFrom wsX8_isVertex := goodIn_r _ [7, 2, 45, 46, 47, 48, 49, 50, 51, 52, 53, 54, 55] (by decide +kernel) (by decide +kernel)
set_option maxRecDepth 20000 in
theorem gX8_reachableFrom_X8_isVertex : GoodIn wsX8_reachableFrom (wsV RX8 109 RX8 yX8_isVertex wsX8_isVertex) := goodIn_app (goodIn_of _ (by decide +kernel)) ggX8_reachableFrom_X8_isVertex
set_option maxRecDepth 20000 in
theorem ggX8_reachableFrom_X6_ofBalancedPaths : GoodIn wsX8_reachableFrom wsX6_ofBalancedPaths := goodIn_r _ [11, 12, 13, 14, 10, 15, 16, 17, 18, 19, 20, 21, 22, 23, 24, 25, 26, 27, 28, 29, 30, 31, 32, 33, 34, 35, 36, 37, 38, 39, 40, 41, 42, 43, 56, 57, 58, 59] (by decide +kernel) (by decide +kernel)
set_option maxRecDepth 20000 in
theorem gX8_reachableFrom_X6_ofBalancedPaths : GoodIn wsX8_reachableFrom (va_wsS RX8 129 yX6_ofBalancedPaths wsX6_ofBalancedPaths) := goodIn_app (goodIn_of _ (by decide +kernel)) ggX8_reachableFrom_X6_ofBalancedPaths
set_option maxRecDepth 20000 in
theorem ggX8_reachableFrom_X6_row : GoodIn wsX8_reachableFrom wsX6_row := goodIn_r _ [32] (by decide +kernel) (by decide +kernel)
set_option maxRecDepth 20000 in
theorem gX8_reachableFrom_X6_row : GoodIn wsX8_reachableFrom (va_wsS RX8 135 yX6_row wsX6_row) := goodIn_app (goodIn_of _ (by decide +kernel)) ggX8_reachableFrom_X6_row
theorem dX8_reachableFrom_0 : decode cX8_reachableFrom 0 = .ok (.aload_n 0, 1) := by decide +kernel
theorem dX8_reachableFrom_1 : decode cX8_reachableFrom 1 = .ok (.iload_n 1, 1) := by decide +kernel
theorem dX8_reachableFrom_2 : decode cX8_reachableFrom 2 = .ok (.invokevirtual 109, 3) := by decide +kernel
theorem dX8_reachableFrom_5 : decode cX8_reachableFrom 5 = .ok (.ifCond .ne 5, 3) := by decide +kernel
theorem dX8_reachableFrom_8 : decode cX8_reachableFrom 8 = .ok (.iconst (-1), 1) := by decide +kernel
theorem dX8_reachableFrom_9 : decode cX8_reachableFrom 9 = .ok (.ireturn, 1) := by decide +kernel
theorem dX8_reachableFrom_10 : decode cX8_reachableFrom 10 = .ok (.aload_n 0, 1) := by decide +kernel
theorem dX8_reachableFrom_11 : decode cX8_reachableFrom 11 = .ok (.getfield 22, 3) := by decide +kernel
theorem dX8_reachableFrom_14 : decode cX8_reachableFrom 14 = .ok (.aload_n 0, 1) := by decide +kernel
theorem dX8_reachableFrom_15 : decode cX8_reachableFrom 15 = .ok (.getfield 9, 3) := by decide +kernel
theorem dX8_reachableFrom_18 : decode cX8_reachableFrom 18 = .ok (.invokestatic 129, 3) := by decide +kernel
theorem dX8_reachableFrom_21 : decode cX8_reachableFrom 21 = .ok (.iload_n 1, 1) := by decide +kernel
theorem dX8_reachableFrom_22 : decode cX8_reachableFrom 22 = .ok (.invokestatic 135, 3) := by decide +kernel
theorem dX8_reachableFrom_25 : decode cX8_reachableFrom 25 = .ok (.ireturn, 1) := by decide +kernel
set_option maxRecDepth 20000 in
theorem ggX8_pairCount_X8_countPairs : GoodIn wsX8_pairCount wsX8_countPairs := goodIn_r _ [6, 7, 8, 9, 10, 11, 12, 13, 14, 15, 16, 17, 18, 19, 20, 21, 22, 23, 24, 25, 26, 27, 28, 29, 30, 31, 32, 33, 34, 35, 36, 37, 38, 39, 40, 41, 42, 43, 44, 45, 46, 47, 48, 49, 50, 51, 52, 53, 54, 55, 56, 57, 58, 59, 60, 61, 62, 63, 64, 65] (by decide +kernel) (by decide +kernel)
set_option maxRecDepth 20000 in
theorem gX8_pairCount_X8_countPairs : GoodIn wsX8_pairCount (wsV RX8 139 RX8 yX8_countPairs wsX8_countPairs) := goodIn_app (goodIn_of _ (by decide +kernel)) ggX8_pairCount_X8_countPairs
theorem dX8_pairCount_0 : decode cX8_pairCount 0 = .ok (.aload_n 0, 1) := by decide +kernel
theorem dX8_pairCount_1 : decode cX8_pairCount 1 = .ok (.aload_n 0, 1) := by decide +kernel
theorem dX8_pairCount_2 : decode cX8_pairCount 2 = .ok (.getfield 22, 3) := by decide +kernel
theorem dX8_pairCount_5 : decode cX8_pairCount 5 = .ok (.invokevirtual 139, 3) := by decide +kernel
theorem dX8_pairCount_8 : decode cX8_pairCount 8 = .ok (.ireturn, 1) := by decide +kernel
set_option maxRecDepth 20000 in
theorem ggX8_distance_X8_isVertex : GoodIn wsX8_distance wsX8_isVertex := goodIn_r _ [8, 3, 57, 58, 59, 60, 61, 62, 63, 64, 65, 66, 67] (by decide +kernel) (by decide +kernel)
set_option maxRecDepth 20000 in
theorem gX8_distance_X8_isVertex : GoodIn wsX8_distance (wsV RX8 109 RX8 yX8_isVertex wsX8_isVertex) := goodIn_app (goodIn_of _ (by decide +kernel)) ggX8_distance_X8_isVertex
set_option maxRecDepth 20000 in
theorem ggX8_distance_X1_measure : GoodIn wsX8_distance wsX1_measure := goodIn_r _ [13, 14, 15, 16, 17, 18, 19, 20, 12, 21, 22, 23, 24, 25, 26, 27, 28, 29, 30, 31, 32, 33, 34, 35, 36, 37, 38, 39, 40, 41, 42, 43, 44, 45, 46, 47, 48, 49, 50, 51, 52, 53, 54, 68, 69, 70, 71, 72, 73] (by decide +kernel) (by decide +kernel)
set_option maxRecDepth 20000 in
theorem gX8_distance_X1_measure : GoodIn wsX8_distance (wsV RX8 143 RX1 yX1_measure wsX1_measure) := goodIn_app (goodIn_of _ (by decide +kernel)) ggX8_distance_X1_measure
set_option maxRecDepth 20000 in
theorem ggX8_distance_X1_reaches : GoodIn wsX8_distance wsX1_reaches := goodIn_r _ [42, 16, 43, 44, 45, 12, 46, 15, 68, 69] (by decide +kernel) (by decide +kernel)
set_option maxRecDepth 20000 in
theorem gX8_distance_X1_reaches : GoodIn wsX8_distance (wsV RX8 147 RX1 yX1_reaches wsX1_reaches) := goodIn_app (goodIn_of _ (by decide +kernel)) ggX8_distance_X1_reaches
set_option maxRecDepth 20000 in
theorem ggX8_distance_X1_between : GoodIn wsX8_distance wsX1_between := goodIn_r _ [46, 15, 68, 69] (by decide +kernel) (by decide +kernel)
set_option maxRecDepth 20000 in
theorem gX8_distance_X1_between : GoodIn wsX8_distance (wsV RX8 151 RX1 yX1_between wsX1_between) := goodIn_app (goodIn_of _ (by decide +kernel)) ggX8_distance_X1_between
theorem dX8_distance_0 : decode cX8_distance 0 = .ok (.aload_n 0, 1) := by decide +kernel
theorem dX8_distance_1 : decode cX8_distance 1 = .ok (.iload_n 1, 1) := by decide +kernel
theorem dX8_distance_2 : decode cX8_distance 2 = .ok (.invokevirtual 109, 3) := by decide +kernel
theorem dX8_distance_5 : decode cX8_distance 5 = .ok (.ifCond .eq 11, 3) := by decide +kernel
theorem dX8_distance_8 : decode cX8_distance 8 = .ok (.aload_n 0, 1) := by decide +kernel
theorem dX8_distance_9 : decode cX8_distance 9 = .ok (.iload_n 2, 1) := by decide +kernel
theorem dX8_distance_10 : decode cX8_distance 10 = .ok (.invokevirtual 109, 3) := by decide +kernel
theorem dX8_distance_13 : decode cX8_distance 13 = .ok (.ifCond .ne 5, 3) := by decide +kernel
theorem dX8_distance_16 : decode cX8_distance 16 = .ok (.iconst (-1), 1) := by decide +kernel
theorem dX8_distance_17 : decode cX8_distance 17 = .ok (.ireturn, 1) := by decide +kernel
theorem dX8_distance_18 : decode cX8_distance 18 = .ok (.aload_n 0, 1) := by decide +kernel
theorem dX8_distance_19 : decode cX8_distance 19 = .ok (.getfield 35, 3) := by decide +kernel
theorem dX8_distance_22 : decode cX8_distance 22 = .ok (.aload_n 0, 1) := by decide +kernel
theorem dX8_distance_23 : decode cX8_distance 23 = .ok (.getfield 22, 3) := by decide +kernel
theorem dX8_distance_26 : decode cX8_distance 26 = .ok (.aload_n 0, 1) := by decide +kernel
theorem dX8_distance_27 : decode cX8_distance 27 = .ok (.getfield 9, 3) := by decide +kernel
theorem dX8_distance_30 : decode cX8_distance 30 = .ok (.invokevirtual 143, 3) := by decide +kernel
theorem dX8_distance_33 : decode cX8_distance 33 = .ok (.aload_n 0, 1) := by decide +kernel
theorem dX8_distance_34 : decode cX8_distance 34 = .ok (.getfield 35, 3) := by decide +kernel
theorem dX8_distance_37 : decode cX8_distance 37 = .ok (.iload_n 1, 1) := by decide +kernel
theorem dX8_distance_38 : decode cX8_distance 38 = .ok (.iload_n 2, 1) := by decide +kernel
theorem dX8_distance_39 : decode cX8_distance 39 = .ok (.invokevirtual 147, 3) := by decide +kernel
theorem dX8_distance_42 : decode cX8_distance 42 = .ok (.ifCond .eq 15, 3) := by decide +kernel
theorem dX8_distance_45 : decode cX8_distance 45 = .ok (.aload_n 0, 1) := by decide +kernel
theorem dX8_distance_46 : decode cX8_distance 46 = .ok (.getfield 35, 3) := by decide +kernel
theorem dX8_distance_49 : decode cX8_distance 49 = .ok (.iload_n 1, 1) := by decide +kernel
theorem dX8_distance_50 : decode cX8_distance 50 = .ok (.iload_n 2, 1) := by decide +kernel
theorem dX8_distance_51 : decode cX8_distance 51 = .ok (.invokevirtual 151, 3) := by decide +kernel
theorem dX8_distance_54 : decode cX8_distance 54 = .ok (.goto 5, 3) := by decide +kernel
theorem dX8_distance_57 : decode cX8_distance 57 = .ok (.bipush (-9), 2) := by decide +kernel
theorem dX8_distance_59 : decode cX8_distance 59 = .ok (.ireturn, 1) := by decide +kernel
set_option maxRecDepth 20000 in
theorem ggX8_witnessEdge_X8_isVertex : GoodIn wsX8_witnessEdge wsX8_isVertex := goodIn_r _ [8, 3, 71, 72, 73, 74, 75, 76, 77, 78, 79, 80, 81] (by decide +kernel) (by decide +kernel)
set_option maxRecDepth 20000 in
theorem gX8_witnessEdge_X8_isVertex : GoodIn wsX8_witnessEdge (wsV RX8 109 RX8 yX8_isVertex wsX8_isVertex) := goodIn_app (goodIn_of _ (by decide +kernel)) ggX8_witnessEdge_X8_isVertex
set_option maxRecDepth 20000 in
theorem ggX8_witnessEdge_X1_measure : GoodIn wsX8_witnessEdge wsX1_measure := goodIn_r _ [13, 14, 15, 16, 17, 18, 19, 20, 12, 21, 22, 23, 24, 25, 26, 27, 28, 29, 30, 31, 32, 33, 34, 35, 36, 37, 38, 39, 40, 41, 42, 43, 44, 45, 46, 47, 48, 49, 50, 51, 52, 53, 54, 82, 83, 84, 85, 86, 87] (by decide +kernel) (by decide +kernel)
set_option maxRecDepth 20000 in
theorem gX8_witnessEdge_X1_measure : GoodIn wsX8_witnessEdge (wsV RX8 143 RX1 yX1_measure wsX1_measure) := goodIn_app (goodIn_of _ (by decide +kernel)) ggX8_witnessEdge_X1_measure
set_option maxRecDepth 20000 in
theorem ggX8_witnessEdge_X1_edgeOnWitness : GoodIn wsX8_witnessEdge wsX1_edgeOnWitness := goodIn_r _ [58, 34, 23, 22, 43, 44, 45, 12, 46, 15, 59, 60, 61, 62, 17, 63, 64, 65, 66, 24, 25, 26, 27, 28, 29, 47, 48, 49, 50, 67, 68, 69, 70, 51, 52, 53, 54, 84, 85, 86, 87, 82, 83] (by decide +kernel) (by decide +kernel)
set_option maxRecDepth 20000 in
theorem gX8_witnessEdge_X1_edgeOnWitness : GoodIn wsX8_witnessEdge (wsV RX8 155 RX1 yX1_edgeOnWitness wsX1_edgeOnWitness) := goodIn_app (goodIn_of _ (by decide +kernel)) ggX8_witnessEdge_X1_edgeOnWitness
theorem dX8_witnessEdge_0 : decode cX8_witnessEdge 0 = .ok (.aload_n 0, 1) := by decide +kernel
theorem dX8_witnessEdge_1 : decode cX8_witnessEdge 1 = .ok (.iload_n 1, 1) := by decide +kernel
theorem dX8_witnessEdge_2 : decode cX8_witnessEdge 2 = .ok (.invokevirtual 109, 3) := by decide +kernel
theorem dX8_witnessEdge_5 : decode cX8_witnessEdge 5 = .ok (.ifCond .eq 11, 3) := by decide +kernel
theorem dX8_witnessEdge_8 : decode cX8_witnessEdge 8 = .ok (.aload_n 0, 1) := by decide +kernel
theorem dX8_witnessEdge_9 : decode cX8_witnessEdge 9 = .ok (.iload_n 2, 1) := by decide +kernel
theorem dX8_witnessEdge_10 : decode cX8_witnessEdge 10 = .ok (.invokevirtual 109, 3) := by decide +kernel
theorem dX8_witnessEdge_13 : decode cX8_witnessEdge 13 = .ok (.ifCond .ne 5, 3) := by decide +kernel
theorem dX8_witnessEdge_16 : decode cX8_witnessEdge 16 = .ok (.iconst (-1), 1) := by decide +kernel
theorem dX8_witnessEdge_17 : decode cX8_witnessEdge 17 = .ok (.ireturn, 1) := by decide +kernel
theorem dX8_witnessEdge_18 : decode cX8_witnessEdge 18 = .ok (.aload_n 0, 1) := by decide +kernel
theorem dX8_witnessEdge_19 : decode cX8_witnessEdge 19 = .ok (.getfield 35, 3) := by decide +kernel
theorem dX8_witnessEdge_22 : decode cX8_witnessEdge 22 = .ok (.aload_n 0, 1) := by decide +kernel
theorem dX8_witnessEdge_23 : decode cX8_witnessEdge 23 = .ok (.getfield 22, 3) := by decide +kernel
theorem dX8_witnessEdge_26 : decode cX8_witnessEdge 26 = .ok (.aload_n 0, 1) := by decide +kernel
theorem dX8_witnessEdge_27 : decode cX8_witnessEdge 27 = .ok (.getfield 9, 3) := by decide +kernel
theorem dX8_witnessEdge_30 : decode cX8_witnessEdge 30 = .ok (.invokevirtual 143, 3) := by decide +kernel
theorem dX8_witnessEdge_33 : decode cX8_witnessEdge 33 = .ok (.aload_n 0, 1) := by decide +kernel
theorem dX8_witnessEdge_34 : decode cX8_witnessEdge 34 = .ok (.getfield 35, 3) := by decide +kernel
theorem dX8_witnessEdge_37 : decode cX8_witnessEdge 37 = .ok (.aload_n 0, 1) := by decide +kernel
theorem dX8_witnessEdge_38 : decode cX8_witnessEdge 38 = .ok (.getfield 22, 3) := by decide +kernel
theorem dX8_witnessEdge_41 : decode cX8_witnessEdge 41 = .ok (.iload_n 1, 1) := by decide +kernel
theorem dX8_witnessEdge_42 : decode cX8_witnessEdge 42 = .ok (.iload_n 2, 1) := by decide +kernel
theorem dX8_witnessEdge_43 : decode cX8_witnessEdge 43 = .ok (.iload_n 3, 1) := by decide +kernel
theorem dX8_witnessEdge_44 : decode cX8_witnessEdge 44 = .ok (.invokevirtual 155, 3) := by decide +kernel
theorem dX8_witnessEdge_47 : decode cX8_witnessEdge 47 = .ok (.ireturn, 1) := by decide +kernel
set_option maxRecDepth 20000 in
theorem ggX8_depth_X8_isVertex : GoodIn wsX8_depth wsX8_isVertex := goodIn_r _ [7, 2, 48, 49, 50, 51, 52, 53, 54, 55, 56, 57, 58] (by decide +kernel) (by decide +kernel)
set_option maxRecDepth 20000 in
theorem gX8_depth_X8_isVertex : GoodIn wsX8_depth (wsV RX8 109 RX8 yX8_isVertex wsX8_isVertex) := goodIn_app (goodIn_of _ (by decide +kernel)) ggX8_depth_X8_isVertex
set_option maxRecDepth 20000 in
theorem ggX8_depth_X6_nestedAround : GoodIn wsX8_depth wsX6_nestedAround := goodIn_r _ [11, 12, 13, 14, 15, 10, 16, 17, 18, 19, 20, 21, 22, 23, 24, 25, 26, 27, 28, 29, 30, 31, 32, 33, 34, 35, 36, 37, 38, 39, 40, 41, 42, 43, 44, 45, 46, 59, 60, 61, 62] (by decide +kernel) (by decide +kernel)
set_option maxRecDepth 20000 in
theorem gX8_depth_X6_nestedAround : GoodIn wsX8_depth (va_wsS RX8 159 yX6_nestedAround wsX6_nestedAround) := goodIn_app (goodIn_of _ (by decide +kernel)) ggX8_depth_X6_nestedAround
set_option maxRecDepth 20000 in
theorem ggX8_depth_X6_has : GoodIn wsX8_depth wsX6_has := goodIn_r _ [40, 41, 42, 10, 43] (by decide +kernel) (by decide +kernel)
set_option maxRecDepth 20000 in
theorem gX8_depth_X6_has : GoodIn wsX8_depth (va_wsS RX8 163 yX6_has wsX6_has) := goodIn_app (goodIn_of _ (by decide +kernel)) ggX8_depth_X6_has
theorem dX8_depth_0 : decode cX8_depth 0 = .ok (.aload_n 0, 1) := by decide +kernel
theorem dX8_depth_1 : decode cX8_depth 1 = .ok (.iload_n 1, 1) := by decide +kernel
theorem dX8_depth_2 : decode cX8_depth 2 = .ok (.invokevirtual 109, 3) := by decide +kernel
theorem dX8_depth_5 : decode cX8_depth 5 = .ok (.ifCond .eq 11, 3) := by decide +kernel
theorem dX8_depth_8 : decode cX8_depth 8 = .ok (.aload_n 0, 1) := by decide +kernel
theorem dX8_depth_9 : decode cX8_depth 9 = .ok (.iload_n 2, 1) := by decide +kernel
theorem dX8_depth_10 : decode cX8_depth 10 = .ok (.invokevirtual 109, 3) := by decide +kernel
theorem dX8_depth_13 : decode cX8_depth 13 = .ok (.ifCond .ne 5, 3) := by decide +kernel
theorem dX8_depth_16 : decode cX8_depth 16 = .ok (.iconst (-1), 1) := by decide +kernel
theorem dX8_depth_17 : decode cX8_depth 17 = .ok (.ireturn, 1) := by decide +kernel
theorem dX8_depth_18 : decode cX8_depth 18 = .ok (.lconst 0, 1) := by decide +kernel
theorem dX8_depth_19 : decode cX8_depth 19 = .ok (.lstore_n 3, 1) := by decide +kernel
theorem dX8_depth_20 : decode cX8_depth 20 = .ok (.iconst 0, 1) := by decide +kernel
theorem dX8_depth_21 : decode cX8_depth 21 = .ok (.istore 5, 2) := by decide +kernel
theorem dX8_depth_23 : decode cX8_depth 23 = .ok (.iload 5, 2) := by decide +kernel
theorem dX8_depth_25 : decode cX8_depth 25 = .ok (.bipush 64, 2) := by decide +kernel
theorem dX8_depth_27 : decode cX8_depth 27 = .ok (.if_icmp .gt 49, 3) := by decide +kernel
theorem dX8_depth_30 : decode cX8_depth 30 = .ok (.lload_n 3, 1) := by decide +kernel
theorem dX8_depth_31 : decode cX8_depth 31 = .ok (.aload_n 0, 1) := by decide +kernel
theorem dX8_depth_32 : decode cX8_depth 32 = .ok (.getfield 22, 3) := by decide +kernel
theorem dX8_depth_35 : decode cX8_depth 35 = .ok (.aload_n 0, 1) := by decide +kernel
theorem dX8_depth_36 : decode cX8_depth 36 = .ok (.getfield 9, 3) := by decide +kernel
theorem dX8_depth_39 : decode cX8_depth 39 = .ok (.invokestatic 159, 3) := by decide +kernel
theorem dX8_depth_42 : decode cX8_depth 42 = .ok (.lstore 6, 2) := by decide +kernel
theorem dX8_depth_44 : decode cX8_depth 44 = .ok (.lload 6, 2) := by decide +kernel
theorem dX8_depth_46 : decode cX8_depth 46 = .ok (.iload_n 1, 1) := by decide +kernel
theorem dX8_depth_47 : decode cX8_depth 47 = .ok (.iload_n 2, 1) := by decide +kernel
theorem dX8_depth_48 : decode cX8_depth 48 = .ok (.invokestatic 163, 3) := by decide +kernel
theorem dX8_depth_51 : decode cX8_depth 51 = .ok (.ifCond .eq 6, 3) := by decide +kernel
theorem dX8_depth_54 : decode cX8_depth 54 = .ok (.iload 5, 2) := by decide +kernel
theorem dX8_depth_56 : decode cX8_depth 56 = .ok (.ireturn, 1) := by decide +kernel
theorem dX8_depth_57 : decode cX8_depth 57 = .ok (.lload 6, 2) := by decide +kernel
theorem dX8_depth_59 : decode cX8_depth 59 = .ok (.lload_n 3, 1) := by decide +kernel
theorem dX8_depth_60 : decode cX8_depth 60 = .ok (.lcmp, 1) := by decide +kernel
theorem dX8_depth_61 : decode cX8_depth 61 = .ok (.ifCond .ne 6, 3) := by decide +kernel
theorem dX8_depth_64 : decode cX8_depth 64 = .ok (.bipush (-9), 2) := by decide +kernel
theorem dX8_depth_66 : decode cX8_depth 66 = .ok (.ireturn, 1) := by decide +kernel
theorem dX8_depth_67 : decode cX8_depth 67 = .ok (.lload 6, 2) := by decide +kernel
theorem dX8_depth_69 : decode cX8_depth 69 = .ok (.lstore_n 3, 1) := by decide +kernel
theorem dX8_depth_70 : decode cX8_depth 70 = .ok (.iinc 5 1, 3) := by decide +kernel
theorem dX8_depth_73 : decode cX8_depth 73 = .ok (.goto (-50), 3) := by decide +kernel
theorem dX8_depth_76 : decode cX8_depth 76 = .ok (.bipush (-9), 2) := by decide +kernel
theorem dX8_depth_78 : decode cX8_depth 78 = .ok (.ireturn, 1) := by decide +kernel
set_option maxRecDepth 20000 in
theorem ggX8_loss_X2_holds : GoodIn wsX8_loss wsX2_holds := goodIn_r _ [6, 7, 91, 92, 93, 94] (by decide +kernel) (by decide +kernel)
set_option maxRecDepth 20000 in
theorem gX8_loss_X2_holds : GoodIn wsX8_loss (wsV RX8 95 RX2 yX2_holds wsX2_holds) := goodIn_app (goodIn_of _ (by decide +kernel)) ggX8_loss_X2_holds
set_option maxRecDepth 20000 in
theorem ggX8_loss_X8_countPairs : GoodIn wsX8_loss wsX8_countPairs := goodIn_r _ [12, 13, 14, 15, 16, 17, 18, 19, 20, 21, 22, 23, 24, 25, 26, 27, 28, 29, 30, 31, 32, 5, 33, 34, 35, 36, 37, 38, 39, 40, 41, 42, 43, 44, 45, 46, 47, 48, 49, 50, 51, 52, 53, 54, 55, 80, 81, 82, 83, 84, 85, 86, 87, 88, 89, 90, 91, 92, 93, 94] (by decide +kernel) (by decide +kernel)
set_option maxRecDepth 20000 in
theorem gX8_loss_X8_countPairs : GoodIn wsX8_loss (wsV RX8 139 RX8 yX8_countPairs wsX8_countPairs) := goodIn_app (goodIn_of _ (by decide +kernel)) ggX8_loss_X8_countPairs
set_option maxRecDepth 20000 in
theorem ggX8_loss_X8_countPairsWithout : GoodIn wsX8_loss wsX8_countPairsWithout := goodIn_r _ [59, 60, 1, 61, 62, 63, 5, 64, 7, 65, 66, 34, 67, 68, 69, 70, 71, 72, 73, 74, 75, 76, 77, 78, 79, 3, 4, 6, 8, 9, 10, 11, 12, 13, 14, 15, 16, 17, 18, 19, 20, 21, 22, 23, 24, 25, 26, 27, 28, 29, 30, 31, 32, 33, 35, 36, 37, 38, 39, 40, 41, 42, 43, 44, 45, 46, 47, 48, 49, 50, 51, 52, 53, 54, 55, 80, 81, 82, 83, 84, 85, 86, 87, 88, 89, 90, 91, 92, 93, 94] (by decide +kernel) (by decide +kernel)
set_option maxRecDepth 20000 in
theorem gX8_loss_X8_countPairsWithout : GoodIn wsX8_loss (wsV RX8 167 RX8 yX8_countPairsWithout wsX8_countPairsWithout) := goodIn_app (goodIn_of _ (by decide +kernel)) ggX8_loss_X8_countPairsWithout
theorem dX8_loss_0 : decode cX8_loss 0 = .ok (.aload_n 0, 1) := by decide +kernel
theorem dX8_loss_1 : decode cX8_loss 1 = .ok (.getfield 22, 3) := by decide +kernel
theorem dX8_loss_4 : decode cX8_loss 4 = .ok (.iload_n 1, 1) := by decide +kernel
theorem dX8_loss_5 : decode cX8_loss 5 = .ok (.invokevirtual 95, 3) := by decide +kernel
theorem dX8_loss_8 : decode cX8_loss 8 = .ok (.ifCond .ne 5, 3) := by decide +kernel
theorem dX8_loss_11 : decode cX8_loss 11 = .ok (.iconst (-1), 1) := by decide +kernel
theorem dX8_loss_12 : decode cX8_loss 12 = .ok (.ireturn, 1) := by decide +kernel
theorem dX8_loss_13 : decode cX8_loss 13 = .ok (.aload_n 0, 1) := by decide +kernel
theorem dX8_loss_14 : decode cX8_loss 14 = .ok (.aload_n 0, 1) := by decide +kernel
theorem dX8_loss_15 : decode cX8_loss 15 = .ok (.getfield 22, 3) := by decide +kernel
theorem dX8_loss_18 : decode cX8_loss 18 = .ok (.invokevirtual 139, 3) := by decide +kernel
theorem dX8_loss_21 : decode cX8_loss 21 = .ok (.aload_n 0, 1) := by decide +kernel
theorem dX8_loss_22 : decode cX8_loss 22 = .ok (.iload_n 1, 1) := by decide +kernel
theorem dX8_loss_23 : decode cX8_loss 23 = .ok (.invokevirtual 167, 3) := by decide +kernel
theorem dX8_loss_26 : decode cX8_loss 26 = .ok (.isub, 1) := by decide +kernel
theorem dX8_loss_27 : decode cX8_loss 27 = .ok (.ireturn, 1) := by decide +kernel
set_option maxRecDepth 20000 in
theorem ggX8_criticalEdge_X8_countPairsWithout : GoodIn wsX8_criticalEdge wsX8_countPairsWithout := goodIn_r _ [7, 8, 1, 9, 10, 11, 12, 13, 14, 15, 16, 17, 18, 19, 20, 21, 22, 23, 24, 25, 26, 27, 28, 29, 30, 31, 32, 33, 34, 35, 36, 6, 37, 38, 39, 40, 41, 42, 43, 44, 45, 46, 47, 48, 49, 50, 51, 52, 53, 54, 55, 56, 57, 58, 59, 60, 61, 62, 63, 64, 65, 66, 67, 68, 69, 70, 71, 72, 73, 74, 75, 76, 77, 78, 79, 80, 81, 82, 83, 84, 85, 86, 87, 88, 89, 90, 91, 92, 93, 94] (by decide +kernel) (by decide +kernel)
set_option maxRecDepth 20000 in
theorem gX8_criticalEdge_X8_countPairsWithout : GoodIn wsX8_criticalEdge (wsV RX8 167 RX8 yX8_countPairsWithout wsX8_countPairsWithout) := goodIn_app (goodIn_of _ (by decide +kernel)) ggX8_criticalEdge_X8_countPairsWithout
theorem dX8_criticalEdge_0 : decode cX8_criticalEdge 0 = .ok (.bipush (-9), 2) := by decide +kernel
theorem dX8_criticalEdge_2 : decode cX8_criticalEdge 2 = .ok (.istore_n 1, 1) := by decide +kernel
theorem dX8_criticalEdge_3 : decode cX8_criticalEdge 3 = .ok (.bipush 65, 2) := by decide +kernel
theorem dX8_criticalEdge_5 : decode cX8_criticalEdge 5 = .ok (.istore_n 2, 1) := by decide +kernel
theorem dX8_criticalEdge_6 : decode cX8_criticalEdge 6 = .ok (.iconst 0, 1) := by decide +kernel
theorem dX8_criticalEdge_7 : decode cX8_criticalEdge 7 = .ok (.istore_n 3, 1) := by decide +kernel
theorem dX8_criticalEdge_8 : decode cX8_criticalEdge 8 = .ok (.iload_n 3, 1) := by decide +kernel
theorem dX8_criticalEdge_9 : decode cX8_criticalEdge 9 = .ok (.aload_n 0, 1) := by decide +kernel
theorem dX8_criticalEdge_10 : decode cX8_criticalEdge 10 = .ok (.getfield 22, 3) := by decide +kernel
theorem dX8_criticalEdge_13 : decode cX8_criticalEdge 13 = .ok (.getfield 92, 3) := by decide +kernel
theorem dX8_criticalEdge_16 : decode cX8_criticalEdge 16 = .ok (.if_icmp .ge 27, 3) := by decide +kernel
theorem dX8_criticalEdge_19 : decode cX8_criticalEdge 19 = .ok (.aload_n 0, 1) := by decide +kernel
theorem dX8_criticalEdge_20 : decode cX8_criticalEdge 20 = .ok (.iload_n 3, 1) := by decide +kernel
theorem dX8_criticalEdge_21 : decode cX8_criticalEdge 21 = .ok (.invokevirtual 167, 3) := by decide +kernel
theorem dX8_criticalEdge_24 : decode cX8_criticalEdge 24 = .ok (.istore 4, 2) := by decide +kernel
theorem dX8_criticalEdge_26 : decode cX8_criticalEdge 26 = .ok (.iload 4, 2) := by decide +kernel
theorem dX8_criticalEdge_28 : decode cX8_criticalEdge 28 = .ok (.iload_n 2, 1) := by decide +kernel
theorem dX8_criticalEdge_29 : decode cX8_criticalEdge 29 = .ok (.if_icmp .ge 8, 3) := by decide +kernel
theorem dX8_criticalEdge_32 : decode cX8_criticalEdge 32 = .ok (.iload 4, 2) := by decide +kernel
theorem dX8_criticalEdge_34 : decode cX8_criticalEdge 34 = .ok (.istore_n 2, 1) := by decide +kernel
theorem dX8_criticalEdge_35 : decode cX8_criticalEdge 35 = .ok (.iload_n 3, 1) := by decide +kernel
theorem dX8_criticalEdge_36 : decode cX8_criticalEdge 36 = .ok (.istore_n 1, 1) := by decide +kernel
theorem dX8_criticalEdge_37 : decode cX8_criticalEdge 37 = .ok (.iinc 3 1, 3) := by decide +kernel
theorem dX8_criticalEdge_40 : decode cX8_criticalEdge 40 = .ok (.goto (-32), 3) := by decide +kernel
theorem dX8_criticalEdge_43 : decode cX8_criticalEdge 43 = .ok (.iload_n 1, 1) := by decide +kernel
theorem dX8_criticalEdge_44 : decode cX8_criticalEdge 44 = .ok (.ireturn, 1) := by decide +kernel
set_option maxRecDepth 20000 in
theorem ggX8_representative_X8_isVertex : GoodIn wsX8_representative wsX8_isVertex := goodIn_r _ [8, 3, 73, 74, 75, 76, 77, 78, 79, 80, 81, 82, 83] (by decide +kernel) (by decide +kernel)
set_option maxRecDepth 20000 in
theorem gX8_representative_X8_isVertex : GoodIn wsX8_representative (wsV RX8 109 RX8 yX8_isVertex wsX8_isVertex) := goodIn_app (goodIn_of _ (by decide +kernel)) ggX8_representative_X8_isVertex
set_option maxRecDepth 20000 in
theorem ggX8_representative_X2_takeBothWays : GoodIn wsX8_representative wsX2_takeBothWays := goodIn_r _ [13, 14, 15, 16, 17, 18, 19, 20, 12, 21, 22, 23, 24, 25, 26, 27, 28, 29, 30, 31, 32, 84, 85, 86, 87] (by decide +kernel) (by decide +kernel)
set_option maxRecDepth 20000 in
theorem gX8_representative_X2_takeBothWays : GoodIn wsX8_representative (wsV RX8 171 RX2 yX2_takeBothWays wsX2_takeBothWays) := goodIn_app (goodIn_of _ (by decide +kernel)) ggX8_representative_X2_takeBothWays
set_option maxRecDepth 20000 in
theorem ggX8_representative_X6_ofBalancedPaths : GoodIn wsX8_representative wsX6_ofBalancedPaths := goodIn_r _ [36, 37, 38, 39, 35, 40, 41, 42, 43, 44, 45, 46, 47, 48, 49, 50, 51, 12, 52, 17, 53, 54, 55, 56, 57, 58, 59, 60, 61, 62, 63, 64, 65, 66, 84, 85, 86, 87] (by decide +kernel) (by decide +kernel)
set_option maxRecDepth 20000 in
theorem gX8_representative_X6_ofBalancedPaths : GoodIn wsX8_representative (va_wsS RX8 129 yX6_ofBalancedPaths wsX6_ofBalancedPaths) := goodIn_app (goodIn_of _ (by decide +kernel)) ggX8_representative_X6_ofBalancedPaths
set_option maxRecDepth 20000 in
theorem ggX8_representative_X6_row : GoodIn wsX8_representative wsX6_row := goodIn_r _ [55] (by decide +kernel) (by decide +kernel)
set_option maxRecDepth 20000 in
theorem gX8_representative_X6_row : GoodIn wsX8_representative (va_wsS RX8 135 yX6_row wsX6_row) := goodIn_app (goodIn_of _ (by decide +kernel)) ggX8_representative_X6_row
set_option maxRecDepth 20000 in
theorem ggX8_representative_J6_numberOfTrailingZeros_0f7a4 : GoodIn wsX8_representative wsJ6_numberOfTrailingZeros_0f7a4 := goodIn_r _ [71, 72] (by decide +kernel) (by decide +kernel)
set_option maxRecDepth 20000 in
theorem gX8_representative_J6_numberOfTrailingZeros_0f7a4 : GoodIn wsX8_representative (va_wsS RX8 174 yJ6_numberOfTrailingZeros_0f7a4 wsJ6_numberOfTrailingZeros_0f7a4) := goodIn_app (goodIn_of _ (by decide +kernel)) ggX8_representative_J6_numberOfTrailingZeros_0f7a4
theorem dX8_representative_0 : decode cX8_representative 0 = .ok (.aload_n 0, 1) := by decide +kernel
theorem dX8_representative_1 : decode cX8_representative 1 = .ok (.iload_n 1, 1) := by decide +kernel
theorem dX8_representative_2 : decode cX8_representative 2 = .ok (.invokevirtual 109, 3) := by decide +kernel
theorem dX8_representative_5 : decode cX8_representative 5 = .ok (.ifCond .ne 5, 3) := by decide +kernel
theorem dX8_representative_8 : decode cX8_representative 8 = .ok (.iconst (-1), 1) := by decide +kernel
theorem dX8_representative_9 : decode cX8_representative 9 = .ok (.ireturn, 1) := by decide +kernel
theorem dX8_representative_10 : decode cX8_representative 10 = .ok (.aload_n 0, 1) := by decide +kernel
theorem dX8_representative_11 : decode cX8_representative 11 = .ok (.getfield 29, 3) := by decide +kernel
theorem dX8_representative_14 : decode cX8_representative 14 = .ok (.aload_n 0, 1) := by decide +kernel
theorem dX8_representative_15 : decode cX8_representative 15 = .ok (.getfield 22, 3) := by decide +kernel
theorem dX8_representative_18 : decode cX8_representative 18 = .ok (.invokevirtual 171, 3) := by decide +kernel
theorem dX8_representative_21 : decode cX8_representative 21 = .ok (.aload_n 0, 1) := by decide +kernel
theorem dX8_representative_22 : decode cX8_representative 22 = .ok (.getfield 29, 3) := by decide +kernel
theorem dX8_representative_25 : decode cX8_representative 25 = .ok (.aload_n 0, 1) := by decide +kernel
theorem dX8_representative_26 : decode cX8_representative 26 = .ok (.getfield 9, 3) := by decide +kernel
theorem dX8_representative_29 : decode cX8_representative 29 = .ok (.invokestatic 129, 3) := by decide +kernel
theorem dX8_representative_32 : decode cX8_representative 32 = .ok (.lstore_n 2, 1) := by decide +kernel
theorem dX8_representative_33 : decode cX8_representative 33 = .ok (.lload_n 2, 1) := by decide +kernel
theorem dX8_representative_34 : decode cX8_representative 34 = .ok (.iload_n 1, 1) := by decide +kernel
theorem dX8_representative_35 : decode cX8_representative 35 = .ok (.invokestatic 135, 3) := by decide +kernel
theorem dX8_representative_38 : decode cX8_representative 38 = .ok (.invokestatic 174, 3) := by decide +kernel
theorem dX8_representative_41 : decode cX8_representative 41 = .ok (.ireturn, 1) := by decide +kernel
set_option maxRecDepth 20000 in
theorem ggX8_runScript_X7_withoutLowest : GoodIn wsX8_runScript wsX7_withoutLowest := goodIn_r _ [8, 9] (by decide +kernel) (by decide +kernel)
set_option maxRecDepth 20000 in
theorem gX8_runScript_X7_withoutLowest : GoodIn wsX8_runScript (va_wsS RX8 179 yX7_withoutLowest wsX7_withoutLowest) := goodIn_app (goodIn_of _ (by decide +kernel)) ggX8_runScript_X7_withoutLowest
set_option maxRecDepth 20000 in
theorem ggX8_runScript_X2_take : GoodIn wsX8_runScript wsX2_take := goodIn_r _ [14, 15, 16, 17, 18, 19, 20, 21, 13, 22, 23, 24, 25, 26, 142, 143, 144, 145] (by decide +kernel) (by decide +kernel)
set_option maxRecDepth 20000 in
theorem gX8_runScript_X2_take : GoodIn wsX8_runScript (wsV RX8 185 RX2 yX2_take wsX2_take) := goodIn_app (goodIn_of _ (by decide +kernel)) ggX8_runScript_X2_take
set_option maxRecDepth 20000 in
theorem ggX8_runScript_X7_lowestGroup : GoodIn wsX8_runScript wsX7_lowestGroup := goodIn_r _ [29, 9] (by decide +kernel) (by decide +kernel)
set_option maxRecDepth 20000 in
theorem gX8_runScript_X7_lowestGroup : GoodIn wsX8_runScript (va_wsS RX8 188 yX7_lowestGroup wsX7_lowestGroup) := goodIn_app (goodIn_of _ (by decide +kernel)) ggX8_runScript_X7_lowestGroup
set_option maxRecDepth 20000 in
theorem ggX8_runScript_X7_succeeds : GoodIn wsX8_runScript wsX7_succeeds := goodIn_r _ [32, 33, 34, 7, 35, 36, 37, 38, 39, 24, 25, 13, 26, 15, 16, 40, 20, 21, 22, 17, 18, 23, 41, 42, 43, 44, 45, 46, 47, 48, 49, 50, 51, 52, 53, 54, 55, 56, 57, 58, 59, 60, 61, 62, 63, 64, 65, 66, 67, 68, 69, 70, 71, 72, 73, 74, 75, 76, 77, 78, 79, 80, 81, 82, 83, 84, 85, 86, 87, 88, 89, 90, 91, 92, 93, 94, 95, 96, 97, 98, 99, 100, 101, 102, 103, 104, 105, 106, 107, 108, 109, 110, 111, 112, 113, 114, 115, 116, 117, 118, 119, 120, 121, 122, 123, 124, 125, 126, 127, 128, 129, 130, 142, 143, 144, 145, 146, 147] (by decide +kernel) (by decide +kernel)
set_option maxRecDepth 20000 in
theorem gX8_runScript_X7_succeeds : GoodIn wsX8_runScript (va_wsS RX8 192 yX7_succeeds wsX7_succeeds) := goodIn_app (goodIn_of _ (by decide +kernel)) ggX8_runScript_X7_succeeds
theorem dX8_runScript_0 : decode cX8_runScript 0 = .ok (.iload_n 1, 1) := by decide +kernel
theorem dX8_runScript_1 : decode cX8_runScript 1 = .ok (.iconst 1, 1) := by decide +kernel
theorem dX8_runScript_2 : decode cX8_runScript 2 = .ok (.if_icmp .lt 14, 3) := by decide +kernel
theorem dX8_runScript_5 : decode cX8_runScript 5 = .ok (.iload_n 1, 1) := by decide +kernel
theorem dX8_runScript_6 : decode cX8_runScript 6 = .ok (.iconst 4, 1) := by decide +kernel
theorem dX8_runScript_7 : decode cX8_runScript 7 = .ok (.if_icmp .gt 9, 3) := by decide +kernel
theorem dX8_runScript_10 : decode cX8_runScript 10 = .ok (.lload_n 2, 1) := by decide +kernel
theorem dX8_runScript_11 : decode cX8_runScript 11 = .ok (.lconst 0, 1) := by decide +kernel
theorem dX8_runScript_12 : decode cX8_runScript 12 = .ok (.lcmp, 1) := by decide +kernel
theorem dX8_runScript_13 : decode cX8_runScript 13 = .ok (.ifCond .ge 6, 3) := by decide +kernel
theorem dX8_runScript_16 : decode cX8_runScript 16 = .ok (.bipush (-2), 2) := by decide +kernel
theorem dX8_runScript_18 : decode cX8_runScript 18 = .ok (.ireturn, 1) := by decide +kernel
theorem dX8_runScript_19 : decode cX8_runScript 19 = .ok (.iload_n 1, 1) := by decide +kernel
theorem dX8_runScript_20 : decode cX8_runScript 20 = .ok (.lload_n 2, 1) := by decide +kernel
theorem dX8_runScript_21 : decode cX8_runScript 21 = .ok (.invokestatic 179, 3) := by decide +kernel
theorem dX8_runScript_24 : decode cX8_runScript 24 = .ok (.lconst 0, 1) := by decide +kernel
theorem dX8_runScript_25 : decode cX8_runScript 25 = .ok (.lcmp, 1) := by decide +kernel
theorem dX8_runScript_26 : decode cX8_runScript 26 = .ok (.ifCond .eq 6, 3) := by decide +kernel
theorem dX8_runScript_29 : decode cX8_runScript 29 = .ok (.bipush (-2), 2) := by decide +kernel
theorem dX8_runScript_31 : decode cX8_runScript 31 = .ok (.ireturn, 1) := by decide +kernel
theorem dX8_runScript_32 : decode cX8_runScript 32 = .ok (.aload_n 0, 1) := by decide +kernel
theorem dX8_runScript_33 : decode cX8_runScript 33 = .ok (.getfield 26, 3) := by decide +kernel
theorem dX8_runScript_36 : decode cX8_runScript 36 = .ok (.aload_n 0, 1) := by decide +kernel
theorem dX8_runScript_37 : decode cX8_runScript 37 = .ok (.getfield 22, 3) := by decide +kernel
theorem dX8_runScript_40 : decode cX8_runScript 40 = .ok (.invokevirtual 185, 3) := by decide +kernel
theorem dX8_runScript_43 : decode cX8_runScript 43 = .ok (.iconst 0, 1) := by decide +kernel
theorem dX8_runScript_44 : decode cX8_runScript 44 = .ok (.istore 4, 2) := by decide +kernel
theorem dX8_runScript_46 : decode cX8_runScript 46 = .ok (.iload 4, 2) := by decide +kernel
theorem dX8_runScript_48 : decode cX8_runScript 48 = .ok (.iload_n 1, 1) := by decide +kernel
theorem dX8_runScript_49 : decode cX8_runScript 49 = .ok (.if_icmp .ge 47, 3) := by decide +kernel
theorem dX8_runScript_52 : decode cX8_runScript 52 = .ok (.iload_n 1, 1) := by decide +kernel
theorem dX8_runScript_53 : decode cX8_runScript 53 = .ok (.iconst 1, 1) := by decide +kernel
theorem dX8_runScript_54 : decode cX8_runScript 54 = .ok (.isub, 1) := by decide +kernel
theorem dX8_runScript_55 : decode cX8_runScript 55 = .ok (.iload 4, 2) := by decide +kernel
theorem dX8_runScript_57 : decode cX8_runScript 57 = .ok (.isub, 1) := by decide +kernel
theorem dX8_runScript_58 : decode cX8_runScript 58 = .ok (.lload_n 2, 1) := by decide +kernel
theorem dX8_runScript_59 : decode cX8_runScript 59 = .ok (.invokestatic 179, 3) := by decide +kernel
theorem dX8_runScript_62 : decode cX8_runScript 62 = .ok (.invokestatic 188, 3) := by decide +kernel
theorem dX8_runScript_65 : decode cX8_runScript 65 = .ok (.istore 5, 2) := by decide +kernel
theorem dX8_runScript_67 : decode cX8_runScript 67 = .ok (.iload 5, 2) := by decide +kernel
theorem dX8_runScript_69 : decode cX8_runScript 69 = .ok (.aload_n 0, 1) := by decide +kernel
theorem dX8_runScript_70 : decode cX8_runScript 70 = .ok (.getfield 26, 3) := by decide +kernel
theorem dX8_runScript_73 : decode cX8_runScript 73 = .ok (.aload_n 0, 1) := by decide +kernel
theorem dX8_runScript_74 : decode cX8_runScript 74 = .ok (.getfield 9, 3) := by decide +kernel
theorem dX8_runScript_77 : decode cX8_runScript 77 = .ok (.aload_n 0, 1) := by decide +kernel
theorem dX8_runScript_78 : decode cX8_runScript 78 = .ok (.getfield 35, 3) := by decide +kernel
theorem dX8_runScript_81 : decode cX8_runScript 81 = .ok (.invokestatic 192, 3) := by decide +kernel
theorem dX8_runScript_84 : decode cX8_runScript 84 = .ok (.ifCond .ne 6, 3) := by decide +kernel
theorem dX8_runScript_87 : decode cX8_runScript 87 = .ok (.iload 4, 2) := by decide +kernel
theorem dX8_runScript_89 : decode cX8_runScript 89 = .ok (.ireturn, 1) := by decide +kernel
theorem dX8_runScript_90 : decode cX8_runScript 90 = .ok (.iinc 4 1, 3) := by decide +kernel
theorem dX8_runScript_93 : decode cX8_runScript 93 = .ok (.goto (-47), 3) := by decide +kernel
theorem dX8_runScript_96 : decode cX8_runScript 96 = .ok (.bipush (-9), 2) := by decide +kernel
theorem dX8_runScript_98 : decode cX8_runScript 98 = .ok (.ireturn, 1) := by decide +kernel
set_option maxRecDepth 20000 in
theorem ggX8_observe_X8_isVertexNumber : GoodIn wsX8_observe wsX8_isVertexNumber := goodIn_r _ [6] (by decide +kernel) (by decide +kernel)
set_option maxRecDepth 20000 in
theorem gX8_observe_X8_isVertexNumber : GoodIn wsX8_observe (va_wsS RX8 196 yX8_isVertexNumber wsX8_isVertexNumber) := goodIn_app (goodIn_of _ (by decide +kernel)) ggX8_observe_X8_isVertexNumber
set_option maxRecDepth 20000 in
theorem ggX8_observe_X5_isFull : GoodIn wsX8_observe wsX5_isFull := goodIn_r _ [11, 12, 32, 33, 34, 35] (by decide +kernel) (by decide +kernel)
set_option maxRecDepth 20000 in
theorem gX8_observe_X5_isFull : GoodIn wsX8_observe (wsV RX8 199 RX5 yX5_isFull wsX5_isFull) := goodIn_app (goodIn_of _ (by decide +kernel)) ggX8_observe_X5_isFull
set_option maxRecDepth 20000 in
theorem ggX8_observe_X5_put : GoodIn wsX8_observe wsX5_put := goodIn_r _ [16, 17, 12, 18, 19, 20, 8, 9, 10, 11, 32, 33, 34, 35] (by decide +kernel) (by decide +kernel)
set_option maxRecDepth 20000 in
theorem gX8_observe_X5_put : GoodIn wsX8_observe (wsV RX8 200 RX5 yX5_put wsX5_put) := goodIn_app (goodIn_of _ (by decide +kernel)) ggX8_observe_X5_put
theorem dX8_observe_0 : decode cX8_observe 0 = .ok (.iload_n 1, 1) := by decide +kernel
theorem dX8_observe_1 : decode cX8_observe 1 = .ok (.invokestatic 196, 3) := by decide +kernel
theorem dX8_observe_4 : decode cX8_observe 4 = .ok (.ifCond .eq 19, 3) := by decide +kernel
theorem dX8_observe_7 : decode cX8_observe 7 = .ok (.iload_n 2, 1) := by decide +kernel
theorem dX8_observe_8 : decode cX8_observe 8 = .ok (.invokestatic 196, 3) := by decide +kernel
theorem dX8_observe_11 : decode cX8_observe 11 = .ok (.ifCond .eq 12, 3) := by decide +kernel
theorem dX8_observe_14 : decode cX8_observe 14 = .ok (.iload_n 3, 1) := by decide +kernel
theorem dX8_observe_15 : decode cX8_observe 15 = .ok (.ifCond .lt 8, 3) := by decide +kernel
theorem dX8_observe_18 : decode cX8_observe 18 = .ok (.iload_n 3, 1) := by decide +kernel
theorem dX8_observe_19 : decode cX8_observe 19 = .ok (.iconst 1, 1) := by decide +kernel
theorem dX8_observe_20 : decode cX8_observe 20 = .ok (.if_icmp .le 6, 3) := by decide +kernel
theorem dX8_observe_23 : decode cX8_observe 23 = .ok (.bipush (-2), 2) := by decide +kernel
theorem dX8_observe_25 : decode cX8_observe 25 = .ok (.ireturn, 1) := by decide +kernel
theorem dX8_observe_26 : decode cX8_observe 26 = .ok (.aload_n 0, 1) := by decide +kernel
theorem dX8_observe_27 : decode cX8_observe 27 = .ok (.getfield 64, 3) := by decide +kernel
theorem dX8_observe_30 : decode cX8_observe 30 = .ok (.invokevirtual 199, 3) := by decide +kernel
theorem dX8_observe_33 : decode cX8_observe 33 = .ok (.ifCond .eq 6, 3) := by decide +kernel
theorem dX8_observe_36 : decode cX8_observe 36 = .ok (.bipush (-4), 2) := by decide +kernel
theorem dX8_observe_38 : decode cX8_observe 38 = .ok (.ireturn, 1) := by decide +kernel
theorem dX8_observe_39 : decode cX8_observe 39 = .ok (.aload_n 0, 1) := by decide +kernel
theorem dX8_observe_40 : decode cX8_observe 40 = .ok (.getfield 64, 3) := by decide +kernel
theorem dX8_observe_43 : decode cX8_observe 43 = .ok (.iload_n 1, 1) := by decide +kernel
theorem dX8_observe_44 : decode cX8_observe 44 = .ok (.iload_n 2, 1) := by decide +kernel
theorem dX8_observe_45 : decode cX8_observe 45 = .ok (.iload_n 3, 1) := by decide +kernel
theorem dX8_observe_46 : decode cX8_observe 46 = .ok (.invokevirtual 200, 3) := by decide +kernel
theorem dX8_observe_49 : decode cX8_observe 49 = .ok (.aload_n 0, 1) := by decide +kernel
theorem dX8_observe_50 : decode cX8_observe 50 = .ok (.getfield 64, 3) := by decide +kernel
theorem dX8_observe_53 : decode cX8_observe 53 = .ok (.getfield 201, 3) := by decide +kernel
theorem dX8_observe_56 : decode cX8_observe 56 = .ok (.ireturn, 1) := by decide +kernel
theorem dX8_clearObservations_0 : decode cX8_clearObservations 0 = .ok (.aload_n 0, 1) := by decide +kernel
theorem dX8_clearObservations_1 : decode cX8_clearObservations 1 = .ok (.getfield 64, 3) := by decide +kernel
theorem dX8_clearObservations_4 : decode cX8_clearObservations 4 = .ok (.getfield 201, 3) := by decide +kernel
theorem dX8_clearObservations_7 : decode cX8_clearObservations 7 = .ok (.istore_n 1, 1) := by decide +kernel
theorem dX8_clearObservations_8 : decode cX8_clearObservations 8 = .ok (.aload_n 0, 1) := by decide +kernel
theorem dX8_clearObservations_9 : decode cX8_clearObservations 9 = .ok (.getfield 64, 3) := by decide +kernel
theorem dX8_clearObservations_12 : decode cX8_clearObservations 12 = .ok (.iconst 0, 1) := by decide +kernel
theorem dX8_clearObservations_13 : decode cX8_clearObservations 13 = .ok (.putfield 201, 3) := by decide +kernel
theorem dX8_clearObservations_16 : decode cX8_clearObservations 16 = .ok (.iload_n 1, 1) := by decide +kernel
theorem dX8_clearObservations_17 : decode cX8_clearObservations 17 = .ok (.ireturn, 1) := by decide +kernel
set_option maxRecDepth 20000 in
theorem ggX8_possibleLabels_X2_holds : GoodIn wsX8_possibleLabels wsX2_holds := goodIn_r _ [10, 11, 82, 83, 84, 85] (by decide +kernel) (by decide +kernel)
set_option maxRecDepth 20000 in
theorem gX8_possibleLabels_X2_holds : GoodIn wsX8_possibleLabels (wsV RX8 95 RX2 yX2_holds wsX2_holds) := goodIn_app (goodIn_of _ (by decide +kernel)) ggX8_possibleLabels_X2_holds
set_option maxRecDepth 20000 in
theorem ggX8_possibleLabels_X2_take : GoodIn wsX8_possibleLabels wsX2_take := goodIn_r _ [15, 11, 16, 17, 18, 19, 20, 21, 9, 22, 23, 24, 25, 26, 82, 83, 84, 85] (by decide +kernel) (by decide +kernel)
set_option maxRecDepth 20000 in
theorem gX8_possibleLabels_X2_take : GoodIn wsX8_possibleLabels (wsV RX8 185 RX2 yX2_take wsX2_take) := goodIn_app (goodIn_of _ (by decide +kernel)) ggX8_possibleLabels_X2_take
set_option maxRecDepth 20000 in
theorem ggX8_possibleLabels_X6_ofBalancedPaths : GoodIn wsX8_possibleLabels wsX6_ofBalancedPaths := goodIn_r _ [30, 31, 32, 33, 29, 34, 35, 36, 37, 38, 39, 40, 41, 42, 43, 44, 45, 9, 46, 18, 47, 48, 49, 50, 51, 52, 53, 54, 55, 56, 57, 58, 59, 60, 82, 83, 84, 85] (by decide +kernel) (by decide +kernel)
set_option maxRecDepth 20000 in
theorem gX8_possibleLabels_X6_ofBalancedPaths : GoodIn wsX8_possibleLabels (va_wsS RX8 129 yX6_ofBalancedPaths wsX6_ofBalancedPaths) := goodIn_app (goodIn_of _ (by decide +kernel)) ggX8_possibleLabels_X6_ofBalancedPaths
set_option maxRecDepth 20000 in
theorem ggX8_possibleLabels_X5_allHold : GoodIn wsX8_possibleLabels wsX5_allHold := goodIn_r _ [65, 66, 67, 68, 69, 70, 59, 29, 60, 47, 48, 49, 86, 87, 88, 89] (by decide +kernel) (by decide +kernel)
set_option maxRecDepth 20000 in
theorem gX8_possibleLabels_X5_allHold : GoodIn wsX8_possibleLabels (wsV RX8 202 RX5 yX5_allHold wsX5_allHold) := goodIn_app (goodIn_of _ (by decide +kernel)) ggX8_possibleLabels_X5_allHold
theorem dX8_possibleLabels_0 : decode cX8_possibleLabels 0 = .ok (.aload_n 0, 1) := by decide +kernel
theorem dX8_possibleLabels_1 : decode cX8_possibleLabels 1 = .ok (.getfield 22, 3) := by decide +kernel
theorem dX8_possibleLabels_4 : decode cX8_possibleLabels 4 = .ok (.iload_n 1, 1) := by decide +kernel
theorem dX8_possibleLabels_5 : decode cX8_possibleLabels 5 = .ok (.invokevirtual 95, 3) := by decide +kernel
theorem dX8_possibleLabels_8 : decode cX8_possibleLabels 8 = .ok (.ifCond .ne 5, 3) := by decide +kernel
theorem dX8_possibleLabels_11 : decode cX8_possibleLabels 11 = .ok (.iconst (-1), 1) := by decide +kernel
theorem dX8_possibleLabels_12 : decode cX8_possibleLabels 12 = .ok (.ireturn, 1) := by decide +kernel
theorem dX8_possibleLabels_13 : decode cX8_possibleLabels 13 = .ok (.aload_n 0, 1) := by decide +kernel
theorem dX8_possibleLabels_14 : decode cX8_possibleLabels 14 = .ok (.getfield 26, 3) := by decide +kernel
theorem dX8_possibleLabels_17 : decode cX8_possibleLabels 17 = .ok (.aload_n 0, 1) := by decide +kernel
theorem dX8_possibleLabels_18 : decode cX8_possibleLabels 18 = .ok (.getfield 22, 3) := by decide +kernel
theorem dX8_possibleLabels_21 : decode cX8_possibleLabels 21 = .ok (.invokevirtual 185, 3) := by decide +kernel
theorem dX8_possibleLabels_24 : decode cX8_possibleLabels 24 = .ok (.iconst 0, 1) := by decide +kernel
theorem dX8_possibleLabels_25 : decode cX8_possibleLabels 25 = .ok (.istore_n 2, 1) := by decide +kernel
theorem dX8_possibleLabels_26 : decode cX8_possibleLabels 26 = .ok (.iconst 0, 1) := by decide +kernel
theorem dX8_possibleLabels_27 : decode cX8_possibleLabels 27 = .ok (.istore_n 3, 1) := by decide +kernel
theorem dX8_possibleLabels_28 : decode cX8_possibleLabels 28 = .ok (.iload_n 3, 1) := by decide +kernel
theorem dX8_possibleLabels_29 : decode cX8_possibleLabels 29 = .ok (.bipush 7, 2) := by decide +kernel
theorem dX8_possibleLabels_31 : decode cX8_possibleLabels 31 = .ok (.if_icmp .ge 50, 3) := by decide +kernel
theorem dX8_possibleLabels_34 : decode cX8_possibleLabels 34 = .ok (.aload_n 0, 1) := by decide +kernel
theorem dX8_possibleLabels_35 : decode cX8_possibleLabels 35 = .ok (.getfield 26, 3) := by decide +kernel
theorem dX8_possibleLabels_38 : decode cX8_possibleLabels 38 = .ok (.getfield 106, 3) := by decide +kernel
theorem dX8_possibleLabels_41 : decode cX8_possibleLabels 41 = .ok (.iload_n 1, 1) := by decide +kernel
theorem dX8_possibleLabels_42 : decode cX8_possibleLabels 42 = .ok (.iload_n 3, 1) := by decide +kernel
theorem dX8_possibleLabels_43 : decode cX8_possibleLabels 43 = .ok (.iastore, 1) := by decide +kernel
theorem dX8_possibleLabels_44 : decode cX8_possibleLabels 44 = .ok (.aload_n 0, 1) := by decide +kernel
theorem dX8_possibleLabels_45 : decode cX8_possibleLabels 45 = .ok (.getfield 64, 3) := by decide +kernel
theorem dX8_possibleLabels_48 : decode cX8_possibleLabels 48 = .ok (.aload_n 0, 1) := by decide +kernel
theorem dX8_possibleLabels_49 : decode cX8_possibleLabels 49 = .ok (.getfield 26, 3) := by decide +kernel
theorem dX8_possibleLabels_52 : decode cX8_possibleLabels 52 = .ok (.aload_n 0, 1) := by decide +kernel
theorem dX8_possibleLabels_53 : decode cX8_possibleLabels 53 = .ok (.getfield 9, 3) := by decide +kernel
theorem dX8_possibleLabels_56 : decode cX8_possibleLabels 56 = .ok (.invokestatic 129, 3) := by decide +kernel
theorem dX8_possibleLabels_59 : decode cX8_possibleLabels 59 = .ok (.aload_n 0, 1) := by decide +kernel
theorem dX8_possibleLabels_60 : decode cX8_possibleLabels 60 = .ok (.getfield 9, 3) := by decide +kernel
theorem dX8_possibleLabels_63 : decode cX8_possibleLabels 63 = .ok (.invokevirtual 202, 3) := by decide +kernel
theorem dX8_possibleLabels_66 : decode cX8_possibleLabels 66 = .ok (.ifCond .eq 9, 3) := by decide +kernel
theorem dX8_possibleLabels_69 : decode cX8_possibleLabels 69 = .ok (.iload_n 2, 1) := by decide +kernel
theorem dX8_possibleLabels_70 : decode cX8_possibleLabels 70 = .ok (.iconst 1, 1) := by decide +kernel
theorem dX8_possibleLabels_71 : decode cX8_possibleLabels 71 = .ok (.iload_n 3, 1) := by decide +kernel
theorem dX8_possibleLabels_72 : decode cX8_possibleLabels 72 = .ok (.ishl, 1) := by decide +kernel
theorem dX8_possibleLabels_73 : decode cX8_possibleLabels 73 = .ok (.ior, 1) := by decide +kernel
theorem dX8_possibleLabels_74 : decode cX8_possibleLabels 74 = .ok (.istore_n 2, 1) := by decide +kernel
theorem dX8_possibleLabels_75 : decode cX8_possibleLabels 75 = .ok (.iinc 3 1, 3) := by decide +kernel
theorem dX8_possibleLabels_78 : decode cX8_possibleLabels 78 = .ok (.goto (-50), 3) := by decide +kernel
theorem dX8_possibleLabels_81 : decode cX8_possibleLabels 81 = .ok (.iload_n 2, 1) := by decide +kernel
theorem dX8_possibleLabels_82 : decode cX8_possibleLabels 82 = .ok (.ireturn, 1) := by decide +kernel
set_option maxRecDepth 20000 in
theorem ggX8_share_X2_holds : GoodIn wsX8_share wsX2_holds := goodIn_r _ [7, 8, 100, 101, 102, 103] (by decide +kernel) (by decide +kernel)
set_option maxRecDepth 20000 in
theorem gX8_share_X2_holds : GoodIn wsX8_share (wsV RX8 95 RX2 yX2_holds wsX2_holds) := goodIn_app (goodIn_of _ (by decide +kernel)) ggX8_share_X2_holds
set_option maxRecDepth 20000 in
theorem ggX8_share_X8_worth : GoodIn wsX8_share wsX8_worth := goodIn_r _ [13, 14, 1, 15, 16, 17, 6, 18, 8, 19, 20, 21, 22, 23, 24, 25, 26, 27, 28, 29, 30, 31, 32, 12, 33, 34, 35, 36, 37, 38, 39, 40, 41, 42, 43, 44, 45, 46, 47, 48, 49, 50, 51, 52, 53, 54, 55, 56, 57, 58, 59, 60, 61, 62, 63, 64, 65, 66, 67, 68, 69, 70, 71, 72, 73, 74, 75, 89, 90, 91, 92, 93, 94, 95, 96, 97, 98, 99, 100, 101, 102, 103] (by decide +kernel) (by decide +kernel)
set_option maxRecDepth 20000 in
theorem gX8_share_X8_worth : GoodIn wsX8_share (wsV RX8 208 RX8 yX8_worth wsX8_worth) := goodIn_app (goodIn_of _ (by decide +kernel)) ggX8_share_X8_worth
set_option maxRecDepth 20000 in
theorem ggX8_share_J6_bitCount_0f7a4 : GoodIn wsX8_share wsJ6_bitCount_0f7a4 := goodIn_r _ [79, 80, 81, 82] (by decide +kernel) (by decide +kernel)
set_option maxRecDepth 20000 in
theorem gX8_share_J6_bitCount_0f7a4 : GoodIn wsX8_share (va_wsS RX8 211 yJ6_bitCount_0f7a4 wsJ6_bitCount_0f7a4) := goodIn_app (goodIn_of _ (by decide +kernel)) ggX8_share_J6_bitCount_0f7a4
set_option maxRecDepth 20000 in
theorem ggX8_share_X0_ordersOf : GoodIn wsX8_share wsX0_ordersOf := goodIn_r _ [86, 87, 88] (by decide +kernel) (by decide +kernel)
set_option maxRecDepth 20000 in
theorem gX8_share_X0_ordersOf : GoodIn wsX8_share (va_wsS RX8 214 yX0_ordersOf wsX0_ordersOf) := goodIn_app (goodIn_of _ (by decide +kernel)) ggX8_share_X0_ordersOf
theorem dX8_share_0 : decode cX8_share 0 = .ok (.aload_n 0, 1) := by decide +kernel
theorem dX8_share_1 : decode cX8_share 1 = .ok (.getfield 22, 3) := by decide +kernel
theorem dX8_share_4 : decode cX8_share 4 = .ok (.iload_n 1, 1) := by decide +kernel
theorem dX8_share_5 : decode cX8_share 5 = .ok (.invokevirtual 95, 3) := by decide +kernel
theorem dX8_share_8 : decode cX8_share 8 = .ok (.ifCond .ne 5, 3) := by decide +kernel
theorem dX8_share_11 : decode cX8_share 11 = .ok (.iconst (-1), 1) := by decide +kernel
theorem dX8_share_12 : decode cX8_share 12 = .ok (.ireturn, 1) := by decide +kernel
theorem dX8_share_13 : decode cX8_share 13 = .ok (.aload_n 0, 1) := by decide +kernel
theorem dX8_share_14 : decode cX8_share 14 = .ok (.getfield 22, 3) := by decide +kernel
theorem dX8_share_17 : decode cX8_share 17 = .ok (.getfield 92, 3) := by decide +kernel
theorem dX8_share_20 : decode cX8_share 20 = .ok (.bipush 8, 2) := by decide +kernel
theorem dX8_share_22 : decode cX8_share 22 = .ok (.if_icmp .le 6, 3) := by decide +kernel
theorem dX8_share_25 : decode cX8_share 25 = .ok (.bipush (-3), 2) := by decide +kernel
theorem dX8_share_27 : decode cX8_share 27 = .ok (.ireturn, 1) := by decide +kernel
theorem dX8_share_28 : decode cX8_share 28 = .ok (.iconst 1, 1) := by decide +kernel
theorem dX8_share_29 : decode cX8_share 29 = .ok (.iload_n 1, 1) := by decide +kernel
theorem dX8_share_30 : decode cX8_share 30 = .ok (.ishl, 1) := by decide +kernel
theorem dX8_share_31 : decode cX8_share 31 = .ok (.istore_n 2, 1) := by decide +kernel
theorem dX8_share_32 : decode cX8_share 32 = .ok (.iconst 1, 1) := by decide +kernel
theorem dX8_share_33 : decode cX8_share 33 = .ok (.aload_n 0, 1) := by decide +kernel
theorem dX8_share_34 : decode cX8_share 34 = .ok (.getfield 22, 3) := by decide +kernel
theorem dX8_share_37 : decode cX8_share 37 = .ok (.getfield 92, 3) := by decide +kernel
theorem dX8_share_40 : decode cX8_share 40 = .ok (.ishl, 1) := by decide +kernel
theorem dX8_share_41 : decode cX8_share 41 = .ok (.istore_n 3, 1) := by decide +kernel
theorem dX8_share_42 : decode cX8_share 42 = .ok (.iconst 0, 1) := by decide +kernel
theorem dX8_share_43 : decode cX8_share 43 = .ok (.istore 4, 2) := by decide +kernel
theorem dX8_share_45 : decode cX8_share 45 = .ok (.iconst 0, 1) := by decide +kernel
theorem dX8_share_46 : decode cX8_share 46 = .ok (.istore 5, 2) := by decide +kernel
theorem dX8_share_48 : decode cX8_share 48 = .ok (.iload 5, 2) := by decide +kernel
theorem dX8_share_50 : decode cX8_share 50 = .ok (.iload_n 3, 1) := by decide +kernel
theorem dX8_share_51 : decode cX8_share 51 = .ok (.if_icmp .ge 56, 3) := by decide +kernel
theorem dX8_share_54 : decode cX8_share 54 = .ok (.iload 5, 2) := by decide +kernel
theorem dX8_share_56 : decode cX8_share 56 = .ok (.iload_n 2, 1) := by decide +kernel
theorem dX8_share_57 : decode cX8_share 57 = .ok (.iand, 1) := by decide +kernel
theorem dX8_share_58 : decode cX8_share 58 = .ok (.ifCond .ne 43, 3) := by decide +kernel
theorem dX8_share_61 : decode cX8_share 61 = .ok (.aload_n 0, 1) := by decide +kernel
theorem dX8_share_62 : decode cX8_share 62 = .ok (.iload 5, 2) := by decide +kernel
theorem dX8_share_64 : decode cX8_share 64 = .ok (.iload_n 2, 1) := by decide +kernel
theorem dX8_share_65 : decode cX8_share 65 = .ok (.ior, 1) := by decide +kernel
theorem dX8_share_66 : decode cX8_share 66 = .ok (.invokevirtual 208, 3) := by decide +kernel
theorem dX8_share_69 : decode cX8_share 69 = .ok (.aload_n 0, 1) := by decide +kernel
theorem dX8_share_70 : decode cX8_share 70 = .ok (.iload 5, 2) := by decide +kernel
theorem dX8_share_72 : decode cX8_share 72 = .ok (.invokevirtual 208, 3) := by decide +kernel
theorem dX8_share_75 : decode cX8_share 75 = .ok (.isub, 1) := by decide +kernel
theorem dX8_share_76 : decode cX8_share 76 = .ok (.istore 6, 2) := by decide +kernel
theorem dX8_share_78 : decode cX8_share 78 = .ok (.iload 4, 2) := by decide +kernel
theorem dX8_share_80 : decode cX8_share 80 = .ok (.iload 6, 2) := by decide +kernel
theorem dX8_share_82 : decode cX8_share 82 = .ok (.iload 5, 2) := by decide +kernel
theorem dX8_share_84 : decode cX8_share 84 = .ok (.invokestatic 211, 3) := by decide +kernel
theorem dX8_share_87 : decode cX8_share 87 = .ok (.aload_n 0, 1) := by decide +kernel
theorem dX8_share_88 : decode cX8_share 88 = .ok (.getfield 22, 3) := by decide +kernel
theorem dX8_share_91 : decode cX8_share 91 = .ok (.getfield 92, 3) := by decide +kernel
theorem dX8_share_94 : decode cX8_share 94 = .ok (.invokestatic 214, 3) := by decide +kernel
theorem dX8_share_97 : decode cX8_share 97 = .ok (.imul, 1) := by decide +kernel
theorem dX8_share_98 : decode cX8_share 98 = .ok (.iadd, 1) := by decide +kernel
theorem dX8_share_99 : decode cX8_share 99 = .ok (.istore 4, 2) := by decide +kernel
theorem dX8_share_101 : decode cX8_share 101 = .ok (.iinc 5 1, 3) := by decide +kernel
theorem dX8_share_104 : decode cX8_share 104 = .ok (.goto (-56), 3) := by decide +kernel
theorem dX8_share_107 : decode cX8_share 107 = .ok (.iload 4, 2) := by decide +kernel
theorem dX8_share_109 : decode cX8_share 109 = .ok (.ireturn, 1) := by decide +kernel
set_option maxRecDepth 20000 in
theorem ggX8_reliability_X8_isVertex : GoodIn wsX8_reliability wsX8_isVertex := goodIn_r _ [9, 4, 66, 67, 68, 69, 70, 71, 72, 73, 74, 75, 76] (by decide +kernel) (by decide +kernel)
set_option maxRecDepth 20000 in
theorem gX8_reliability_X8_isVertex : GoodIn wsX8_reliability (wsV RX8 109 RX8 yX8_isVertex wsX8_isVertex) := goodIn_app (goodIn_of _ (by decide +kernel)) ggX8_reliability_X8_isVertex
set_option maxRecDepth 20000 in
theorem ggX8_reliability_X2_takeSome : GoodIn wsX8_reliability wsX2_takeSome := goodIn_r _ [14, 15, 16, 17, 18, 19, 20, 21, 13, 22, 23, 24, 25, 26, 77, 78, 79, 80] (by decide +kernel) (by decide +kernel)
set_option maxRecDepth 20000 in
theorem gX8_reliability_X2_takeSome : GoodIn wsX8_reliability (wsV RX8 217 RX2 yX2_takeSome wsX2_takeSome) := goodIn_app (goodIn_of _ (by decide +kernel)) ggX8_reliability_X2_takeSome
set_option maxRecDepth 20000 in
theorem ggX8_reliability_X6_ofBalancedPaths : GoodIn wsX8_reliability wsX6_ofBalancedPaths := goodIn_r _ [30, 31, 32, 33, 29, 34, 35, 36, 37, 38, 39, 40, 41, 42, 43, 44, 45, 13, 46, 18, 47, 48, 49, 50, 51, 52, 53, 54, 55, 56, 57, 58, 59, 60, 77, 78, 79, 80] (by decide +kernel) (by decide +kernel)
set_option maxRecDepth 20000 in
theorem gX8_reliability_X6_ofBalancedPaths : GoodIn wsX8_reliability (va_wsS RX8 129 yX6_ofBalancedPaths wsX6_ofBalancedPaths) := goodIn_app (goodIn_of _ (by decide +kernel)) ggX8_reliability_X6_ofBalancedPaths
set_option maxRecDepth 20000 in
theorem ggX8_reliability_X6_has : GoodIn wsX8_reliability wsX6_has := goodIn_r _ [60, 47, 48, 29, 49] (by decide +kernel) (by decide +kernel)
set_option maxRecDepth 20000 in
theorem gX8_reliability_X6_has : GoodIn wsX8_reliability (va_wsS RX8 163 yX6_has wsX6_has) := goodIn_app (goodIn_of _ (by decide +kernel)) ggX8_reliability_X6_has
set_option maxRecDepth 20000 in
theorem ggX8_reliability_X0_power : GoodIn wsX8_reliability wsX0_power := goodIn_r _ [65] (by decide +kernel) (by decide +kernel)
set_option maxRecDepth 20000 in
theorem gX8_reliability_X0_power : GoodIn wsX8_reliability (va_wsS RX8 220 yX0_power wsX0_power) := goodIn_app (goodIn_of _ (by decide +kernel)) ggX8_reliability_X0_power
theorem dX8_reliability_0 : decode cX8_reliability 0 = .ok (.aload_n 0, 1) := by decide +kernel
theorem dX8_reliability_1 : decode cX8_reliability 1 = .ok (.iload_n 1, 1) := by decide +kernel
theorem dX8_reliability_2 : decode cX8_reliability 2 = .ok (.invokevirtual 109, 3) := by decide +kernel
theorem dX8_reliability_5 : decode cX8_reliability 5 = .ok (.ifCond .eq 11, 3) := by decide +kernel
theorem dX8_reliability_8 : decode cX8_reliability 8 = .ok (.aload_n 0, 1) := by decide +kernel
theorem dX8_reliability_9 : decode cX8_reliability 9 = .ok (.iload_n 2, 1) := by decide +kernel
theorem dX8_reliability_10 : decode cX8_reliability 10 = .ok (.invokevirtual 109, 3) := by decide +kernel
theorem dX8_reliability_13 : decode cX8_reliability 13 = .ok (.ifCond .ne 5, 3) := by decide +kernel
theorem dX8_reliability_16 : decode cX8_reliability 16 = .ok (.iconst (-1), 1) := by decide +kernel
theorem dX8_reliability_17 : decode cX8_reliability 17 = .ok (.ireturn, 1) := by decide +kernel
theorem dX8_reliability_18 : decode cX8_reliability 18 = .ok (.iload_n 3, 1) := by decide +kernel
theorem dX8_reliability_19 : decode cX8_reliability 19 = .ok (.ifCond .lt 9, 3) := by decide +kernel
theorem dX8_reliability_22 : decode cX8_reliability 22 = .ok (.iload_n 3, 1) := by decide +kernel
theorem dX8_reliability_23 : decode cX8_reliability 23 = .ok (.bipush 10, 2) := by decide +kernel
theorem dX8_reliability_25 : decode cX8_reliability 25 = .ok (.if_icmp .le 6, 3) := by decide +kernel
theorem dX8_reliability_28 : decode cX8_reliability 28 = .ok (.bipush (-2), 2) := by decide +kernel
theorem dX8_reliability_30 : decode cX8_reliability 30 = .ok (.ireturn, 1) := by decide +kernel
theorem dX8_reliability_31 : decode cX8_reliability 31 = .ok (.aload_n 0, 1) := by decide +kernel
theorem dX8_reliability_32 : decode cX8_reliability 32 = .ok (.getfield 22, 3) := by decide +kernel
theorem dX8_reliability_35 : decode cX8_reliability 35 = .ok (.getfield 92, 3) := by decide +kernel
theorem dX8_reliability_38 : decode cX8_reliability 38 = .ok (.bipush 8, 2) := by decide +kernel
theorem dX8_reliability_40 : decode cX8_reliability 40 = .ok (.if_icmp .le 6, 3) := by decide +kernel
theorem dX8_reliability_43 : decode cX8_reliability 43 = .ok (.bipush (-3), 2) := by decide +kernel
theorem dX8_reliability_45 : decode cX8_reliability 45 = .ok (.ireturn, 1) := by decide +kernel
theorem dX8_reliability_46 : decode cX8_reliability 46 = .ok (.iconst 1, 1) := by decide +kernel
theorem dX8_reliability_47 : decode cX8_reliability 47 = .ok (.aload_n 0, 1) := by decide +kernel
theorem dX8_reliability_48 : decode cX8_reliability 48 = .ok (.getfield 22, 3) := by decide +kernel
theorem dX8_reliability_51 : decode cX8_reliability 51 = .ok (.getfield 92, 3) := by decide +kernel
theorem dX8_reliability_54 : decode cX8_reliability 54 = .ok (.ishl, 1) := by decide +kernel
theorem dX8_reliability_55 : decode cX8_reliability 55 = .ok (.istore 4, 2) := by decide +kernel
theorem dX8_reliability_57 : decode cX8_reliability 57 = .ok (.iconst 0, 1) := by decide +kernel
theorem dX8_reliability_58 : decode cX8_reliability 58 = .ok (.istore 5, 2) := by decide +kernel
theorem dX8_reliability_60 : decode cX8_reliability 60 = .ok (.iconst 0, 1) := by decide +kernel
theorem dX8_reliability_61 : decode cX8_reliability 61 = .ok (.istore 6, 2) := by decide +kernel
theorem dX8_reliability_63 : decode cX8_reliability 63 = .ok (.iload 6, 2) := by decide +kernel
theorem dX8_reliability_65 : decode cX8_reliability 65 = .ok (.iload 4, 2) := by decide +kernel
theorem dX8_reliability_67 : decode cX8_reliability 67 = .ok (.if_icmp .ge 84, 3) := by decide +kernel
theorem dX8_reliability_70 : decode cX8_reliability 70 = .ok (.aload_n 0, 1) := by decide +kernel
theorem dX8_reliability_71 : decode cX8_reliability 71 = .ok (.getfield 26, 3) := by decide +kernel
theorem dX8_reliability_74 : decode cX8_reliability 74 = .ok (.aload_n 0, 1) := by decide +kernel
theorem dX8_reliability_75 : decode cX8_reliability 75 = .ok (.getfield 22, 3) := by decide +kernel
theorem dX8_reliability_78 : decode cX8_reliability 78 = .ok (.iload 6, 2) := by decide +kernel
theorem dX8_reliability_80 : decode cX8_reliability 80 = .ok (.invokevirtual 217, 3) := by decide +kernel
theorem dX8_reliability_83 : decode cX8_reliability 83 = .ok (.aload_n 0, 1) := by decide +kernel
theorem dX8_reliability_84 : decode cX8_reliability 84 = .ok (.getfield 26, 3) := by decide +kernel
theorem dX8_reliability_87 : decode cX8_reliability 87 = .ok (.aload_n 0, 1) := by decide +kernel
theorem dX8_reliability_88 : decode cX8_reliability 88 = .ok (.getfield 9, 3) := by decide +kernel
theorem dX8_reliability_91 : decode cX8_reliability 91 = .ok (.invokestatic 129, 3) := by decide +kernel
theorem dX8_reliability_94 : decode cX8_reliability 94 = .ok (.iload_n 1, 1) := by decide +kernel
theorem dX8_reliability_95 : decode cX8_reliability 95 = .ok (.iload_n 2, 1) := by decide +kernel
theorem dX8_reliability_96 : decode cX8_reliability 96 = .ok (.invokestatic 163, 3) := by decide +kernel
theorem dX8_reliability_99 : decode cX8_reliability 99 = .ok (.ifCond .eq 46, 3) := by decide +kernel
theorem dX8_reliability_102 : decode cX8_reliability 102 = .ok (.aload_n 0, 1) := by decide +kernel
theorem dX8_reliability_103 : decode cX8_reliability 103 = .ok (.getfield 22, 3) := by decide +kernel
theorem dX8_reliability_106 : decode cX8_reliability 106 = .ok (.getfield 92, 3) := by decide +kernel
theorem dX8_reliability_109 : decode cX8_reliability 109 = .ok (.aload_n 0, 1) := by decide +kernel
theorem dX8_reliability_110 : decode cX8_reliability 110 = .ok (.getfield 26, 3) := by decide +kernel
theorem dX8_reliability_113 : decode cX8_reliability 113 = .ok (.getfield 92, 3) := by decide +kernel
theorem dX8_reliability_116 : decode cX8_reliability 116 = .ok (.isub, 1) := by decide +kernel
theorem dX8_reliability_117 : decode cX8_reliability 117 = .ok (.istore 7, 2) := by decide +kernel
theorem dX8_reliability_119 : decode cX8_reliability 119 = .ok (.iload 5, 2) := by decide +kernel
theorem dX8_reliability_121 : decode cX8_reliability 121 = .ok (.bipush 10, 2) := by decide +kernel
theorem dX8_reliability_123 : decode cX8_reliability 123 = .ok (.iload_n 3, 1) := by decide +kernel
theorem dX8_reliability_124 : decode cX8_reliability 124 = .ok (.isub, 1) := by decide +kernel
theorem dX8_reliability_125 : decode cX8_reliability 125 = .ok (.aload_n 0, 1) := by decide +kernel
theorem dX8_reliability_126 : decode cX8_reliability 126 = .ok (.getfield 26, 3) := by decide +kernel
theorem dX8_reliability_129 : decode cX8_reliability 129 = .ok (.getfield 92, 3) := by decide +kernel
theorem dX8_reliability_132 : decode cX8_reliability 132 = .ok (.invokestatic 220, 3) := by decide +kernel
theorem dX8_reliability_135 : decode cX8_reliability 135 = .ok (.iload_n 3, 1) := by decide +kernel
theorem dX8_reliability_136 : decode cX8_reliability 136 = .ok (.iload 7, 2) := by decide +kernel
theorem dX8_reliability_138 : decode cX8_reliability 138 = .ok (.invokestatic 220, 3) := by decide +kernel
theorem dX8_reliability_141 : decode cX8_reliability 141 = .ok (.imul, 1) := by decide +kernel
theorem dX8_reliability_142 : decode cX8_reliability 142 = .ok (.iadd, 1) := by decide +kernel
theorem dX8_reliability_143 : decode cX8_reliability 143 = .ok (.istore 5, 2) := by decide +kernel
theorem dX8_reliability_145 : decode cX8_reliability 145 = .ok (.iinc 6 1, 3) := by decide +kernel
theorem dX8_reliability_148 : decode cX8_reliability 148 = .ok (.goto (-85), 3) := by decide +kernel
theorem dX8_reliability_151 : decode cX8_reliability 151 = .ok (.iload 5, 2) := by decide +kernel
theorem dX8_reliability_153 : decode cX8_reliability 153 = .ok (.ireturn, 1) := by decide +kernel
theorem dX8_setSeed_0 : decode cX8_setSeed 0 = .ok (.aload_n 0, 1) := by decide +kernel
theorem dX8_setSeed_1 : decode cX8_setSeed 1 = .ok (.getfield 13, 3) := by decide +kernel
theorem dX8_setSeed_4 : decode cX8_setSeed 4 = .ok (.lstore_n 3, 1) := by decide +kernel
theorem dX8_setSeed_5 : decode cX8_setSeed 5 = .ok (.aload_n 0, 1) := by decide +kernel
theorem dX8_setSeed_6 : decode cX8_setSeed 6 = .ok (.lload_n 1, 1) := by decide +kernel
theorem dX8_setSeed_7 : decode cX8_setSeed 7 = .ok (.putfield 13, 3) := by decide +kernel
theorem dX8_setSeed_10 : decode cX8_setSeed 10 = .ok (.lload_n 3, 1) := by decide +kernel
theorem dX8_setSeed_11 : decode cX8_setSeed 11 = .ok (.lreturn, 1) := by decide +kernel
set_option maxRecDepth 20000 in
theorem ggX8_simulate_X2_take : GoodIn wsX8_simulate wsX2_take := goodIn_r _ [9, 10, 11, 12, 13, 14, 15, 16, 8, 17, 18, 19, 20, 21, 101, 102, 103, 104] (by decide +kernel) (by decide +kernel)
set_option maxRecDepth 20000 in
theorem gX8_simulate_X2_take : GoodIn wsX8_simulate (wsV RX8 185 RX2 yX2_take wsX2_take) := goodIn_app (goodIn_of _ (by decide +kernel)) ggX8_simulate_X2_take
set_option maxRecDepth 20000 in
theorem ggX8_simulate_X0_nextSeed : GoodIn wsX8_simulate wsX0_nextSeed := goodIn_r _ [25, 26, 27] (by decide +kernel) (by decide +kernel)
set_option maxRecDepth 20000 in
theorem gX8_simulate_X0_nextSeed : GoodIn wsX8_simulate (va_wsS RX8 223 yX0_nextSeed wsX0_nextSeed) := goodIn_app (goodIn_of _ (by decide +kernel)) ggX8_simulate_X0_nextSeed
set_option maxRecDepth 20000 in
theorem ggX8_simulate_X0_change : GoodIn wsX8_simulate wsX0_change := goodIn_r _ [30, 31, 32, 33, 8, 34, 10, 11, 12, 13, 35, 15, 16, 17, 18, 19, 20, 21, 36, 37, 38, 39, 40, 41, 42, 43, 101, 102, 103, 104] (by decide +kernel) (by decide +kernel)
set_option maxRecDepth 20000 in
theorem gX8_simulate_X0_change : GoodIn wsX8_simulate (va_wsS RX8 227 yX0_change wsX0_change) := goodIn_app (goodIn_of _ (by decide +kernel)) ggX8_simulate_X0_change
set_option maxRecDepth 20000 in
theorem ggX8_simulate_X8_countPairs : GoodIn wsX8_simulate wsX8_countPairs := goodIn_r _ [48, 4, 49, 50, 51, 52, 53, 54, 55, 56, 57, 58, 59, 60, 61, 62, 63, 64, 65, 66, 67, 8, 68, 13, 69, 70, 71, 72, 73, 74, 75, 76, 77, 78, 79, 80, 81, 82, 83, 84, 85, 86, 87, 88, 89, 90, 91, 92, 93, 94, 95, 96, 97, 98, 99, 100, 101, 102, 103, 104] (by decide +kernel) (by decide +kernel)
set_option maxRecDepth 20000 in
theorem gX8_simulate_X8_countPairs : GoodIn wsX8_simulate (wsV RX8 139 RX8 yX8_countPairs wsX8_countPairs) := goodIn_app (goodIn_of _ (by decide +kernel)) ggX8_simulate_X8_countPairs
theorem dX8_simulate_0 : decode cX8_simulate 0 = .ok (.iload_n 1, 1) := by decide +kernel
theorem dX8_simulate_1 : decode cX8_simulate 1 = .ok (.iconst 1, 1) := by decide +kernel
theorem dX8_simulate_2 : decode cX8_simulate 2 = .ok (.if_icmp .lt 9, 3) := by decide +kernel
theorem dX8_simulate_5 : decode cX8_simulate 5 = .ok (.iload_n 1, 1) := by decide +kernel
theorem dX8_simulate_6 : decode cX8_simulate 6 = .ok (.bipush 40, 2) := by decide +kernel
theorem dX8_simulate_8 : decode cX8_simulate 8 = .ok (.if_icmp .le 6, 3) := by decide +kernel
theorem dX8_simulate_11 : decode cX8_simulate 11 = .ok (.bipush (-2), 2) := by decide +kernel
theorem dX8_simulate_13 : decode cX8_simulate 13 = .ok (.ireturn, 1) := by decide +kernel
theorem dX8_simulate_14 : decode cX8_simulate 14 = .ok (.aload_n 0, 1) := by decide +kernel
theorem dX8_simulate_15 : decode cX8_simulate 15 = .ok (.getfield 26, 3) := by decide +kernel
theorem dX8_simulate_18 : decode cX8_simulate 18 = .ok (.aload_n 0, 1) := by decide +kernel
theorem dX8_simulate_19 : decode cX8_simulate 19 = .ok (.getfield 22, 3) := by decide +kernel
theorem dX8_simulate_22 : decode cX8_simulate 22 = .ok (.invokevirtual 185, 3) := by decide +kernel
theorem dX8_simulate_25 : decode cX8_simulate 25 = .ok (.iconst 0, 1) := by decide +kernel
theorem dX8_simulate_26 : decode cX8_simulate 26 = .ok (.istore_n 2, 1) := by decide +kernel
theorem dX8_simulate_27 : decode cX8_simulate 27 = .ok (.iconst 0, 1) := by decide +kernel
theorem dX8_simulate_28 : decode cX8_simulate 28 = .ok (.istore_n 3, 1) := by decide +kernel
theorem dX8_simulate_29 : decode cX8_simulate 29 = .ok (.iload_n 3, 1) := by decide +kernel
theorem dX8_simulate_30 : decode cX8_simulate 30 = .ok (.iload_n 1, 1) := by decide +kernel
theorem dX8_simulate_31 : decode cX8_simulate 31 = .ok (.if_icmp .ge 50, 3) := by decide +kernel
theorem dX8_simulate_34 : decode cX8_simulate 34 = .ok (.aload_n 0, 1) := by decide +kernel
theorem dX8_simulate_35 : decode cX8_simulate 35 = .ok (.aload_n 0, 1) := by decide +kernel
theorem dX8_simulate_36 : decode cX8_simulate 36 = .ok (.getfield 13, 3) := by decide +kernel
theorem dX8_simulate_39 : decode cX8_simulate 39 = .ok (.invokestatic 223, 3) := by decide +kernel
theorem dX8_simulate_42 : decode cX8_simulate 42 = .ok (.putfield 13, 3) := by decide +kernel
theorem dX8_simulate_45 : decode cX8_simulate 45 = .ok (.aload_n 0, 1) := by decide +kernel
theorem dX8_simulate_46 : decode cX8_simulate 46 = .ok (.getfield 26, 3) := by decide +kernel
theorem dX8_simulate_49 : decode cX8_simulate 49 = .ok (.aload_n 0, 1) := by decide +kernel
theorem dX8_simulate_50 : decode cX8_simulate 50 = .ok (.getfield 9, 3) := by decide +kernel
theorem dX8_simulate_53 : decode cX8_simulate 53 = .ok (.aload_n 0, 1) := by decide +kernel
theorem dX8_simulate_54 : decode cX8_simulate 54 = .ok (.getfield 13, 3) := by decide +kernel
theorem dX8_simulate_57 : decode cX8_simulate 57 = .ok (.bipush 33, 2) := by decide +kernel
theorem dX8_simulate_59 : decode cX8_simulate 59 = .ok (.lushr, 1) := by decide +kernel
theorem dX8_simulate_60 : decode cX8_simulate 60 = .ok (.l2i, 1) := by decide +kernel
theorem dX8_simulate_61 : decode cX8_simulate 61 = .ok (.invokestatic 227, 3) := by decide +kernel
theorem dX8_simulate_64 : decode cX8_simulate 64 = .ok (.iload_n 2, 1) := by decide +kernel
theorem dX8_simulate_65 : decode cX8_simulate 65 = .ok (.aload_n 0, 1) := by decide +kernel
theorem dX8_simulate_66 : decode cX8_simulate 66 = .ok (.aload_n 0, 1) := by decide +kernel
theorem dX8_simulate_67 : decode cX8_simulate 67 = .ok (.getfield 26, 3) := by decide +kernel
theorem dX8_simulate_70 : decode cX8_simulate 70 = .ok (.invokevirtual 139, 3) := by decide +kernel
theorem dX8_simulate_73 : decode cX8_simulate 73 = .ok (.iadd, 1) := by decide +kernel
theorem dX8_simulate_74 : decode cX8_simulate 74 = .ok (.istore_n 2, 1) := by decide +kernel
theorem dX8_simulate_75 : decode cX8_simulate 75 = .ok (.iinc 3 1, 3) := by decide +kernel
theorem dX8_simulate_78 : decode cX8_simulate 78 = .ok (.goto (-49), 3) := by decide +kernel
theorem dX8_simulate_81 : decode cX8_simulate 81 = .ok (.iload_n 2, 1) := by decide +kernel
theorem dX8_simulate_82 : decode cX8_simulate 82 = .ok (.ireturn, 1) := by decide +kernel
set_option maxRecDepth 20000 in
theorem ggX8_save_X8_isSlot : GoodIn wsX8_save wsX8_isSlot := goodIn_r _ [8] (by decide +kernel) (by decide +kernel)
set_option maxRecDepth 20000 in
theorem gX8_save_X8_isSlot : GoodIn wsX8_save (va_wsS RX8 231 yX8_isSlot wsX8_isSlot) := goodIn_app (goodIn_of _ (by decide +kernel)) ggX8_save_X8_isSlot
set_option maxRecDepth 20000 in
theorem ggX8_save_X2_take : GoodIn wsX8_save wsX2_take := goodIn_r _ [13, 14, 15, 16, 17, 18, 19, 20, 12, 21, 22, 23, 24, 25, 37, 38, 39, 40] (by decide +kernel) (by decide +kernel)
set_option maxRecDepth 20000 in
theorem gX8_save_X2_take : GoodIn wsX8_save (wsV RX8 185 RX2 yX2_take wsX2_take) := goodIn_app (goodIn_of _ (by decide +kernel)) ggX8_save_X2_take
theorem dX8_save_0 : decode cX8_save 0 = .ok (.iload_n 1, 1) := by decide +kernel
theorem dX8_save_1 : decode cX8_save 1 = .ok (.invokestatic 231, 3) := by decide +kernel
theorem dX8_save_4 : decode cX8_save 4 = .ok (.ifCond .ne 5, 3) := by decide +kernel
theorem dX8_save_7 : decode cX8_save 7 = .ok (.iconst (-1), 1) := by decide +kernel
theorem dX8_save_8 : decode cX8_save 8 = .ok (.ireturn, 1) := by decide +kernel
theorem dX8_save_9 : decode cX8_save 9 = .ok (.aload_n 0, 1) := by decide +kernel
theorem dX8_save_10 : decode cX8_save 10 = .ok (.getfield 46, 3) := by decide +kernel
theorem dX8_save_13 : decode cX8_save 13 = .ok (.iload_n 1, 1) := by decide +kernel
theorem dX8_save_14 : decode cX8_save 14 = .ok (.aaload, 1) := by decide +kernel
theorem dX8_save_15 : decode cX8_save 15 = .ok (.aload_n 0, 1) := by decide +kernel
theorem dX8_save_16 : decode cX8_save 16 = .ok (.getfield 22, 3) := by decide +kernel
theorem dX8_save_19 : decode cX8_save 19 = .ok (.invokevirtual 185, 3) := by decide +kernel
theorem dX8_save_22 : decode cX8_save 22 = .ok (.aload_n 0, 1) := by decide +kernel
theorem dX8_save_23 : decode cX8_save 23 = .ok (.getfield 50, 3) := by decide +kernel
theorem dX8_save_26 : decode cX8_save 26 = .ok (.iload_n 1, 1) := by decide +kernel
theorem dX8_save_27 : decode cX8_save 27 = .ok (.iconst 1, 1) := by decide +kernel
theorem dX8_save_28 : decode cX8_save 28 = .ok (.bastore, 1) := by decide +kernel
theorem dX8_save_29 : decode cX8_save 29 = .ok (.aload_n 0, 1) := by decide +kernel
theorem dX8_save_30 : decode cX8_save 30 = .ok (.getfield 22, 3) := by decide +kernel
theorem dX8_save_33 : decode cX8_save 33 = .ok (.getfield 92, 3) := by decide +kernel
theorem dX8_save_36 : decode cX8_save 36 = .ok (.ireturn, 1) := by decide +kernel
set_option maxRecDepth 20000 in
theorem ggX8_restore_X8_isSlot : GoodIn wsX8_restore wsX8_isSlot := goodIn_r _ [9] (by decide +kernel) (by decide +kernel)
set_option maxRecDepth 20000 in
theorem gX8_restore_X8_isSlot : GoodIn wsX8_restore (va_wsS RX8 231 yX8_isSlot wsX8_isSlot) := goodIn_app (goodIn_of _ (by decide +kernel)) ggX8_restore_X8_isSlot
set_option maxRecDepth 20000 in
theorem ggX8_restore_X2_take : GoodIn wsX8_restore wsX2_take := goodIn_r _ [14, 15, 16, 17, 18, 19, 20, 21, 13, 22, 23, 24, 25, 26, 44, 45, 46, 47] (by decide +kernel) (by decide +kernel)
set_option maxRecDepth 20000 in
theorem gX8_restore_X2_take : GoodIn wsX8_restore (wsV RX8 185 RX2 yX2_take wsX2_take) := goodIn_app (goodIn_of _ (by decide +kernel)) ggX8_restore_X2_take
set_option maxRecDepth 20000 in
theorem ggX8_restore_X4_forgetAll : GoodIn wsX8_restore wsX4_forgetAll := goodIn_r _ [31, 32, 48, 49, 50] (by decide +kernel) (by decide +kernel)
set_option maxRecDepth 20000 in
theorem gX8_restore_X4_forgetAll : GoodIn wsX8_restore (wsV RX8 89 RX4 yX4_forgetAll wsX4_forgetAll) := goodIn_app (goodIn_of _ (by decide +kernel)) ggX8_restore_X4_forgetAll
theorem dX8_restore_0 : decode cX8_restore 0 = .ok (.iload_n 1, 1) := by decide +kernel
theorem dX8_restore_1 : decode cX8_restore 1 = .ok (.invokestatic 231, 3) := by decide +kernel
theorem dX8_restore_4 : decode cX8_restore 4 = .ok (.ifCond .ne 5, 3) := by decide +kernel
theorem dX8_restore_7 : decode cX8_restore 7 = .ok (.iconst (-1), 1) := by decide +kernel
theorem dX8_restore_8 : decode cX8_restore 8 = .ok (.ireturn, 1) := by decide +kernel
theorem dX8_restore_9 : decode cX8_restore 9 = .ok (.aload_n 0, 1) := by decide +kernel
theorem dX8_restore_10 : decode cX8_restore 10 = .ok (.getfield 50, 3) := by decide +kernel
theorem dX8_restore_13 : decode cX8_restore 13 = .ok (.iload_n 1, 1) := by decide +kernel
theorem dX8_restore_14 : decode cX8_restore 14 = .ok (.baload, 1) := by decide +kernel
theorem dX8_restore_15 : decode cX8_restore 15 = .ok (.ifCond .ne 6, 3) := by decide +kernel
theorem dX8_restore_18 : decode cX8_restore 18 = .ok (.bipush (-3), 2) := by decide +kernel
theorem dX8_restore_20 : decode cX8_restore 20 = .ok (.ireturn, 1) := by decide +kernel
theorem dX8_restore_21 : decode cX8_restore 21 = .ok (.aload_n 0, 1) := by decide +kernel
theorem dX8_restore_22 : decode cX8_restore 22 = .ok (.getfield 22, 3) := by decide +kernel
theorem dX8_restore_25 : decode cX8_restore 25 = .ok (.aload_n 0, 1) := by decide +kernel
theorem dX8_restore_26 : decode cX8_restore 26 = .ok (.getfield 46, 3) := by decide +kernel
theorem dX8_restore_29 : decode cX8_restore 29 = .ok (.iload_n 1, 1) := by decide +kernel
theorem dX8_restore_30 : decode cX8_restore 30 = .ok (.aaload, 1) := by decide +kernel
theorem dX8_restore_31 : decode cX8_restore 31 = .ok (.invokevirtual 185, 3) := by decide +kernel
theorem dX8_restore_34 : decode cX8_restore 34 = .ok (.aload_n 0, 1) := by decide +kernel
theorem dX8_restore_35 : decode cX8_restore 35 = .ok (.getfield 42, 3) := by decide +kernel
theorem dX8_restore_38 : decode cX8_restore 38 = .ok (.invokevirtual 89, 3) := by decide +kernel
theorem dX8_restore_41 : decode cX8_restore 41 = .ok (.aload_n 0, 1) := by decide +kernel
theorem dX8_restore_42 : decode cX8_restore 42 = .ok (.getfield 22, 3) := by decide +kernel
theorem dX8_restore_45 : decode cX8_restore 45 = .ok (.getfield 92, 3) := by decide +kernel
theorem dX8_restore_48 : decode cX8_restore 48 = .ok (.ireturn, 1) := by decide +kernel
theorem dX8_isVertex_0 : decode cX8_isVertex 0 = .ok (.iload_n 1, 1) := by decide +kernel
theorem dX8_isVertex_1 : decode cX8_isVertex 1 = .ok (.ifCond .lt 15, 3) := by decide +kernel
theorem dX8_isVertex_4 : decode cX8_isVertex 4 = .ok (.iload_n 1, 1) := by decide +kernel
theorem dX8_isVertex_5 : decode cX8_isVertex 5 = .ok (.aload_n 0, 1) := by decide +kernel
theorem dX8_isVertex_6 : decode cX8_isVertex 6 = .ok (.getfield 9, 3) := by decide +kernel
theorem dX8_isVertex_9 : decode cX8_isVertex 9 = .ok (.if_icmp .ge 7, 3) := by decide +kernel
theorem dX8_isVertex_12 : decode cX8_isVertex 12 = .ok (.iconst 1, 1) := by decide +kernel
theorem dX8_isVertex_13 : decode cX8_isVertex 13 = .ok (.goto 4, 3) := by decide +kernel
theorem dX8_isVertex_16 : decode cX8_isVertex 16 = .ok (.iconst 0, 1) := by decide +kernel
theorem dX8_isVertex_17 : decode cX8_isVertex 17 = .ok (.ireturn, 1) := by decide +kernel
theorem dX8_isVertexNumber_0 : decode cX8_isVertexNumber 0 = .ok (.iload_n 0, 1) := by decide +kernel
theorem dX8_isVertexNumber_1 : decode cX8_isVertexNumber 1 = .ok (.ifCond .lt 13, 3) := by decide +kernel
theorem dX8_isVertexNumber_4 : decode cX8_isVertexNumber 4 = .ok (.iload_n 0, 1) := by decide +kernel
theorem dX8_isVertexNumber_5 : decode cX8_isVertexNumber 5 = .ok (.bipush 8, 2) := by decide +kernel
theorem dX8_isVertexNumber_7 : decode cX8_isVertexNumber 7 = .ok (.if_icmp .ge 7, 3) := by decide +kernel
theorem dX8_isVertexNumber_10 : decode cX8_isVertexNumber 10 = .ok (.iconst 1, 1) := by decide +kernel
theorem dX8_isVertexNumber_11 : decode cX8_isVertexNumber 11 = .ok (.goto 4, 3) := by decide +kernel
theorem dX8_isVertexNumber_14 : decode cX8_isVertexNumber 14 = .ok (.iconst 0, 1) := by decide +kernel
theorem dX8_isVertexNumber_15 : decode cX8_isVertexNumber 15 = .ok (.ireturn, 1) := by decide +kernel
theorem dX8_isLabel_0 : decode cX8_isLabel 0 = .ok (.iload_n 0, 1) := by decide +kernel
theorem dX8_isLabel_1 : decode cX8_isLabel 1 = .ok (.ifCond .lt 13, 3) := by decide +kernel
theorem dX8_isLabel_4 : decode cX8_isLabel 4 = .ok (.iload_n 0, 1) := by decide +kernel
theorem dX8_isLabel_5 : decode cX8_isLabel 5 = .ok (.bipush 7, 2) := by decide +kernel
theorem dX8_isLabel_7 : decode cX8_isLabel 7 = .ok (.if_icmp .ge 7, 3) := by decide +kernel
theorem dX8_isLabel_10 : decode cX8_isLabel 10 = .ok (.iconst 1, 1) := by decide +kernel
theorem dX8_isLabel_11 : decode cX8_isLabel 11 = .ok (.goto 4, 3) := by decide +kernel
theorem dX8_isLabel_14 : decode cX8_isLabel 14 = .ok (.iconst 0, 1) := by decide +kernel
theorem dX8_isLabel_15 : decode cX8_isLabel 15 = .ok (.ireturn, 1) := by decide +kernel
theorem dX8_isSlot_0 : decode cX8_isSlot 0 = .ok (.iload_n 0, 1) := by decide +kernel
theorem dX8_isSlot_1 : decode cX8_isSlot 1 = .ok (.ifCond .lt 12, 3) := by decide +kernel
theorem dX8_isSlot_4 : decode cX8_isSlot 4 = .ok (.iload_n 0, 1) := by decide +kernel
theorem dX8_isSlot_5 : decode cX8_isSlot 5 = .ok (.iconst 2, 1) := by decide +kernel
theorem dX8_isSlot_6 : decode cX8_isSlot 6 = .ok (.if_icmp .ge 7, 3) := by decide +kernel
theorem dX8_isSlot_9 : decode cX8_isSlot 9 = .ok (.iconst 1, 1) := by decide +kernel
theorem dX8_isSlot_10 : decode cX8_isSlot 10 = .ok (.goto 4, 3) := by decide +kernel
theorem dX8_isSlot_13 : decode cX8_isSlot 13 = .ok (.iconst 0, 1) := by decide +kernel
theorem dX8_isSlot_14 : decode cX8_isSlot 14 = .ok (.ireturn, 1) := by decide +kernel
set_option maxRecDepth 20000 in
theorem ggX8_countPairs_X6_ofBalancedPaths : GoodIn wsX8_countPairs wsX6_ofBalancedPaths := goodIn_r _ [5, 6, 7, 8, 4, 9, 10, 11, 12, 13, 14, 15, 16, 17, 18, 19, 20, 21, 22, 23, 24, 25, 26, 27, 28, 29, 30, 31, 32, 33, 34, 35, 36, 37, 56, 57, 58, 59] (by decide +kernel) (by decide +kernel)
set_option maxRecDepth 20000 in
theorem gX8_countPairs_X6_ofBalancedPaths : GoodIn wsX8_countPairs (va_wsS RX8 129 yX6_ofBalancedPaths wsX6_ofBalancedPaths) := goodIn_app (goodIn_of _ (by decide +kernel)) ggX8_countPairs_X6_ofBalancedPaths
set_option maxRecDepth 20000 in
theorem ggX8_countPairs_J13_bitCount_95d88 : GoodIn wsX8_countPairs wsJ13_bitCount_95d88 := goodIn_r _ [41, 42, 43, 44] (by decide +kernel) (by decide +kernel)
set_option maxRecDepth 20000 in
theorem gX8_countPairs_J13_bitCount_95d88 : GoodIn wsX8_countPairs (va_wsS RX8 234 yJ13_bitCount_95d88 wsJ13_bitCount_95d88) := goodIn_app (goodIn_of _ (by decide +kernel)) ggX8_countPairs_J13_bitCount_95d88
theorem dX8_countPairs_0 : decode cX8_countPairs 0 = .ok (.aload_n 1, 1) := by decide +kernel
theorem dX8_countPairs_1 : decode cX8_countPairs 1 = .ok (.aload_n 0, 1) := by decide +kernel
theorem dX8_countPairs_2 : decode cX8_countPairs 2 = .ok (.getfield 9, 3) := by decide +kernel
theorem dX8_countPairs_5 : decode cX8_countPairs 5 = .ok (.invokestatic 129, 3) := by decide +kernel
theorem dX8_countPairs_8 : decode cX8_countPairs 8 = .ok (.invokestatic 234, 3) := by decide +kernel
theorem dX8_countPairs_11 : decode cX8_countPairs 11 = .ok (.ireturn, 1) := by decide +kernel
set_option maxRecDepth 20000 in
theorem ggX8_countPairsWithout_X2_take : GoodIn wsX8_countPairsWithout wsX2_take := goodIn_r _ [7, 8, 9, 10, 11, 12, 13, 14, 6, 15, 16, 17, 18, 19, 86, 87, 88, 89] (by decide +kernel) (by decide +kernel)
set_option maxRecDepth 20000 in
theorem gX8_countPairsWithout_X2_take : GoodIn wsX8_countPairsWithout (wsV RX8 185 RX2 yX2_take wsX2_take) := goodIn_app (goodIn_of _ (by decide +kernel)) ggX8_countPairsWithout_X2_take
set_option maxRecDepth 20000 in
theorem ggX8_countPairsWithout_X2_drop : GoodIn wsX8_countPairsWithout wsX2_drop := goodIn_r _ [23, 8, 9, 10, 11, 24, 25, 26, 6, 27, 86, 87, 88, 89] (by decide +kernel) (by decide +kernel)
set_option maxRecDepth 20000 in
theorem gX8_countPairsWithout_X2_drop : GoodIn wsX8_countPairsWithout (wsV RX8 122 RX2 yX2_drop wsX2_drop) := goodIn_app (goodIn_of _ (by decide +kernel)) ggX8_countPairsWithout_X2_drop
set_option maxRecDepth 20000 in
theorem ggX8_countPairsWithout_X8_countPairs : GoodIn wsX8_countPairsWithout wsX8_countPairs := goodIn_r _ [32, 33, 34, 35, 36, 37, 38, 39, 40, 41, 42, 43, 44, 45, 46, 47, 48, 49, 50, 51, 52, 6, 53, 11, 54, 55, 56, 57, 58, 59, 60, 61, 62, 63, 64, 65, 66, 67, 68, 69, 70, 71, 72, 73, 74, 75, 76, 77, 78, 79, 80, 81, 82, 83, 84, 85, 86, 87, 88, 89] (by decide +kernel) (by decide +kernel)
set_option maxRecDepth 20000 in
theorem gX8_countPairsWithout_X8_countPairs : GoodIn wsX8_countPairsWithout (wsV RX8 139 RX8 yX8_countPairs wsX8_countPairs) := goodIn_app (goodIn_of _ (by decide +kernel)) ggX8_countPairsWithout_X8_countPairs
theorem dX8_countPairsWithout_0 : decode cX8_countPairsWithout 0 = .ok (.aload_n 0, 1) := by decide +kernel
theorem dX8_countPairsWithout_1 : decode cX8_countPairsWithout 1 = .ok (.getfield 26, 3) := by decide +kernel
theorem dX8_countPairsWithout_4 : decode cX8_countPairsWithout 4 = .ok (.aload_n 0, 1) := by decide +kernel
theorem dX8_countPairsWithout_5 : decode cX8_countPairsWithout 5 = .ok (.getfield 22, 3) := by decide +kernel
theorem dX8_countPairsWithout_8 : decode cX8_countPairsWithout 8 = .ok (.invokevirtual 185, 3) := by decide +kernel
theorem dX8_countPairsWithout_11 : decode cX8_countPairsWithout 11 = .ok (.aload_n 0, 1) := by decide +kernel
theorem dX8_countPairsWithout_12 : decode cX8_countPairsWithout 12 = .ok (.getfield 26, 3) := by decide +kernel
theorem dX8_countPairsWithout_15 : decode cX8_countPairsWithout 15 = .ok (.iload_n 1, 1) := by decide +kernel
theorem dX8_countPairsWithout_16 : decode cX8_countPairsWithout 16 = .ok (.invokevirtual 122, 3) := by decide +kernel
theorem dX8_countPairsWithout_19 : decode cX8_countPairsWithout 19 = .ok (.aload_n 0, 1) := by decide +kernel
theorem dX8_countPairsWithout_20 : decode cX8_countPairsWithout 20 = .ok (.aload_n 0, 1) := by decide +kernel
theorem dX8_countPairsWithout_21 : decode cX8_countPairsWithout 21 = .ok (.getfield 26, 3) := by decide +kernel
theorem dX8_countPairsWithout_24 : decode cX8_countPairsWithout 24 = .ok (.invokevirtual 139, 3) := by decide +kernel
theorem dX8_countPairsWithout_27 : decode cX8_countPairsWithout 27 = .ok (.ireturn, 1) := by decide +kernel
set_option maxRecDepth 20000 in
theorem ggX8_worth_X2_takeSome : GoodIn wsX8_worth wsX2_takeSome := goodIn_r _ [7, 8, 9, 10, 11, 12, 13, 14, 6, 15, 16, 17, 18, 19, 78, 79, 80, 81] (by decide +kernel) (by decide +kernel)
set_option maxRecDepth 20000 in
theorem gX8_worth_X2_takeSome : GoodIn wsX8_worth (wsV RX8 217 RX2 yX2_takeSome wsX2_takeSome) := goodIn_app (goodIn_of _ (by decide +kernel)) ggX8_worth_X2_takeSome
set_option maxRecDepth 20000 in
theorem ggX8_worth_X8_countPairs : GoodIn wsX8_worth wsX8_countPairs := goodIn_r _ [24, 25, 26, 27, 28, 29, 30, 31, 32, 33, 34, 35, 36, 37, 38, 39, 40, 41, 42, 43, 44, 6, 45, 11, 46, 47, 48, 49, 50, 51, 52, 53, 54, 55, 56, 57, 58, 59, 60, 61, 62, 63, 64, 65, 66, 67, 68, 69, 70, 71, 72, 73, 74, 75, 76, 77, 78, 79, 80, 81] (by decide +kernel) (by decide +kernel)
set_option maxRecDepth 20000 in
theorem gX8_worth_X8_countPairs : GoodIn wsX8_worth (wsV RX8 139 RX8 yX8_countPairs wsX8_countPairs) := goodIn_app (goodIn_of _ (by decide +kernel)) ggX8_worth_X8_countPairs
theorem dX8_worth_0 : decode cX8_worth 0 = .ok (.aload_n 0, 1) := by decide +kernel
theorem dX8_worth_1 : decode cX8_worth 1 = .ok (.getfield 26, 3) := by decide +kernel
theorem dX8_worth_4 : decode cX8_worth 4 = .ok (.aload_n 0, 1) := by decide +kernel
theorem dX8_worth_5 : decode cX8_worth 5 = .ok (.getfield 22, 3) := by decide +kernel
theorem dX8_worth_8 : decode cX8_worth 8 = .ok (.iload_n 1, 1) := by decide +kernel
theorem dX8_worth_9 : decode cX8_worth 9 = .ok (.invokevirtual 217, 3) := by decide +kernel
theorem dX8_worth_12 : decode cX8_worth 12 = .ok (.aload_n 0, 1) := by decide +kernel
theorem dX8_worth_13 : decode cX8_worth 13 = .ok (.aload_n 0, 1) := by decide +kernel
theorem dX8_worth_14 : decode cX8_worth 14 = .ok (.getfield 26, 3) := by decide +kernel
theorem dX8_worth_17 : decode cX8_worth 17 = .ok (.invokevirtual 139, 3) := by decide +kernel
theorem dX8_worth_20 : decode cX8_worth 20 = .ok (.ireturn, 1) := by decide +kernel
theorem dX9_init_0 : decode cX9_init 0 = .ok (.aload_n 0, 1) := by decide +kernel
theorem dX9_init_1 : decode cX9_init 1 = .ok (.invokespecial 1, 3) := by decide +kernel
theorem dX9_init_4 : decode cX9_init 4 = .ok (.aload_n 0, 1) := by decide +kernel
theorem dX9_init_5 : decode cX9_init 5 = .ok (.bipush 60, 2) := by decide +kernel
theorem dX9_init_7 : decode cX9_init 7 = .ok (.newarray .int, 2) := by decide +kernel
theorem dX9_init_9 : decode cX9_init 9 = .ok (.putfield 7, 3) := by decide +kernel
theorem dX9_init_12 : decode cX9_init 12 = .ok (.aload_n 0, 1) := by decide +kernel
theorem dX9_init_13 : decode cX9_init 13 = .ok (.bipush 49, 2) := by decide +kernel
theorem dX9_init_15 : decode cX9_init 15 = .ok (.newarray .int, 2) := by decide +kernel
theorem dX9_init_17 : decode cX9_init 17 = .ok (.putfield 13, 3) := by decide +kernel
theorem dX9_init_20 : decode cX9_init 20 = .ok (.aload_n 0, 1) := by decide +kernel
theorem dX9_init_21 : decode cX9_init 21 = .ok (.iconst 1, 1) := by decide +kernel
theorem dX9_init_22 : decode cX9_init 22 = .ok (.putfield 16, 3) := by decide +kernel
theorem dX9_init_25 : decode cX9_init 25 = .ok (.aload_n 0, 1) := by decide +kernel
theorem dX9_init_26 : decode cX9_init 26 = .ok (.bipush 49, 2) := by decide +kernel
theorem dX9_init_28 : decode cX9_init 28 = .ok (.newarray .int, 2) := by decide +kernel
theorem dX9_init_30 : decode cX9_init 30 = .ok (.putfield 20, 3) := by decide +kernel
theorem dX9_init_33 : decode cX9_init 33 = .ok (.aload_n 0, 1) := by decide +kernel
theorem dX9_init_34 : decode cX9_init 34 = .ok (.bipush 49, 2) := by decide +kernel
theorem dX9_init_36 : decode cX9_init 36 = .ok (.newarray .int, 2) := by decide +kernel
theorem dX9_init_38 : decode cX9_init 38 = .ok (.putfield 23, 3) := by decide +kernel
theorem dX9_init_41 : decode cX9_init 41 = .ok (.aload_n 0, 1) := by decide +kernel
theorem dX9_init_42 : decode cX9_init 42 = .ok (.sipush 686, 3) := by decide +kernel
theorem dX9_init_45 : decode cX9_init 45 = .ok (.newarray .int, 2) := by decide +kernel
theorem dX9_init_47 : decode cX9_init 47 = .ok (.putfield 26, 3) := by decide +kernel
theorem dX9_init_50 : decode cX9_init 50 = .ok (.aload_n 0, 1) := by decide +kernel
theorem dX9_init_51 : decode cX9_init 51 = .ok (.bipush 98, 2) := by decide +kernel
theorem dX9_init_53 : decode cX9_init 53 = .ok (.newarray .int, 2) := by decide +kernel
theorem dX9_init_55 : decode cX9_init 55 = .ok (.putfield 29, 3) := by decide +kernel
theorem dX9_init_58 : decode cX9_init 58 = .ok (.aload_n 0, 1) := by decide +kernel
theorem dX9_init_59 : decode cX9_init 59 = .ok (.iconst 2, 1) := by decide +kernel
theorem dX9_init_60 : decode cX9_init 60 = .ok (.newarray .boolean, 2) := by decide +kernel
theorem dX9_init_62 : decode cX9_init 62 = .ok (.putfield 32, 3) := by decide +kernel
theorem dX9_init_65 : decode cX9_init 65 = .ok (.aload_n 0, 1) := by decide +kernel
theorem dX9_init_66 : decode cX9_init 66 = .ok (.bipush 6, 2) := by decide +kernel
theorem dX9_init_68 : decode cX9_init 68 = .ok (.newarray .int, 2) := by decide +kernel
theorem dX9_init_70 : decode cX9_init 70 = .ok (.putfield 36, 3) := by decide +kernel
theorem dX9_init_73 : decode cX9_init 73 = .ok (.aload_n 0, 1) := by decide +kernel
theorem dX9_init_74 : decode cX9_init 74 = .ok (.bipush 6, 2) := by decide +kernel
theorem dX9_init_76 : decode cX9_init 76 = .ok (.newarray .int, 2) := by decide +kernel
theorem dX9_init_78 : decode cX9_init 78 = .ok (.putfield 39, 3) := by decide +kernel
theorem dX9_init_81 : decode cX9_init 81 = .ok (.aload_n 0, 1) := by decide +kernel
theorem dX9_init_82 : decode cX9_init 82 = .ok (.bipush 6, 2) := by decide +kernel
theorem dX9_init_84 : decode cX9_init 84 = .ok (.newarray .int, 2) := by decide +kernel
theorem dX9_init_86 : decode cX9_init 86 = .ok (.putfield 42, 3) := by decide +kernel
theorem dX9_init_89 : decode cX9_init 89 = .ok (.aload_n 0, 1) := by decide +kernel
theorem dX9_init_90 : decode cX9_init 90 = .ok (.bipush 64, 2) := by decide +kernel
theorem dX9_init_92 : decode cX9_init 92 = .ok (.newarray .int, 2) := by decide +kernel
theorem dX9_init_94 : decode cX9_init 94 = .ok (.putfield 45, 3) := by decide +kernel
theorem dX9_init_97 : decode cX9_init 97 = .ok (.aload_n 0, 1) := by decide +kernel
theorem dX9_init_98 : decode cX9_init 98 = .ok (.bipush 64, 2) := by decide +kernel
theorem dX9_init_100 : decode cX9_init 100 = .ok (.newarray .int, 2) := by decide +kernel
theorem dX9_init_102 : decode cX9_init 102 = .ok (.putfield 48, 3) := by decide +kernel
theorem dX9_init_105 : decode cX9_init 105 = .ok (.aload_n 0, 1) := by decide +kernel
theorem dX9_init_106 : decode cX9_init 106 = .ok (.bipush 96, 2) := by decide +kernel
theorem dX9_init_108 : decode cX9_init 108 = .ok (.newarray .int, 2) := by decide +kernel
theorem dX9_init_110 : decode cX9_init 110 = .ok (.putfield 51, 3) := by decide +kernel
theorem dX9_init_113 : decode cX9_init 113 = .ok (.return_, 1) := by decide +kernel
theorem dX9_in_0 : decode cX9_in 0 = .ok (.lload_n 0, 1) := by decide +kernel
theorem dX9_in_1 : decode cX9_in 1 = .ok (.lload_n 2, 1) := by decide +kernel
theorem dX9_in_2 : decode cX9_in 2 = .ok (.lcmp, 1) := by decide +kernel
theorem dX9_in_3 : decode cX9_in 3 = .ok (.ifCond .lt 14, 3) := by decide +kernel
theorem dX9_in_6 : decode cX9_in 6 = .ok (.lload_n 0, 1) := by decide +kernel
theorem dX9_in_7 : decode cX9_in 7 = .ok (.lload 4, 2) := by decide +kernel
theorem dX9_in_9 : decode cX9_in 9 = .ok (.lcmp, 1) := by decide +kernel
theorem dX9_in_10 : decode cX9_in 10 = .ok (.ifCond .gt 7, 3) := by decide +kernel
theorem dX9_in_13 : decode cX9_in 13 = .ok (.iconst 1, 1) := by decide +kernel
theorem dX9_in_14 : decode cX9_in 14 = .ok (.goto 4, 3) := by decide +kernel
theorem dX9_in_17 : decode cX9_in 17 = .ok (.iconst 0, 1) := by decide +kernel
theorem dX9_in_18 : decode cX9_in 18 = .ok (.ireturn, 1) := by decide +kernel
theorem dX9_has_0 : decode cX9_has 0 = .ok (.iload_n 0, 1) := by decide +kernel
theorem dX9_has_1 : decode cX9_has 1 = .ok (.iload_n 1, 1) := by decide +kernel
theorem dX9_has_2 : decode cX9_has 2 = .ok (.ishr, 1) := by decide +kernel
theorem dX9_has_3 : decode cX9_has 3 = .ok (.iconst 1, 1) := by decide +kernel
theorem dX9_has_4 : decode cX9_has 4 = .ok (.iand, 1) := by decide +kernel
theorem dX9_has_5 : decode cX9_has 5 = .ok (.iconst 1, 1) := by decide +kernel
theorem dX9_has_6 : decode cX9_has 6 = .ok (.if_icmp .ne 7, 3) := by decide +kernel
theorem dX9_has_9 : decode cX9_has 9 = .ok (.iconst 1, 1) := by decide +kernel
theorem dX9_has_10 : decode cX9_has 10 = .ok (.goto 4, 3) := by decide +kernel
theorem dX9_has_13 : decode cX9_has 13 = .ok (.iconst 0, 1) := by decide +kernel
theorem dX9_has_14 : decode cX9_has 14 = .ok (.ireturn, 1) := by decide +kernel
theorem dX9_bits_0 : decode cX9_bits 0 = .ok (.iconst 0, 1) := by decide +kernel
theorem dX9_bits_1 : decode cX9_bits 1 = .ok (.istore_n 1, 1) := by decide +kernel
theorem dX9_bits_2 : decode cX9_bits 2 = .ok (.iconst 0, 1) := by decide +kernel
theorem dX9_bits_3 : decode cX9_bits 3 = .ok (.istore_n 2, 1) := by decide +kernel
theorem dX9_bits_4 : decode cX9_bits 4 = .ok (.iload_n 2, 1) := by decide +kernel
theorem dX9_bits_5 : decode cX9_bits 5 = .ok (.bipush 16, 2) := by decide +kernel
theorem dX9_bits_7 : decode cX9_bits 7 = .ok (.if_icmp .ge 17, 3) := by decide +kernel
theorem dX9_bits_10 : decode cX9_bits 10 = .ok (.iload_n 1, 1) := by decide +kernel
theorem dX9_bits_11 : decode cX9_bits 11 = .ok (.iload_n 0, 1) := by decide +kernel
theorem dX9_bits_12 : decode cX9_bits 12 = .ok (.iload_n 2, 1) := by decide +kernel
theorem dX9_bits_13 : decode cX9_bits 13 = .ok (.ishr, 1) := by decide +kernel
theorem dX9_bits_14 : decode cX9_bits 14 = .ok (.iconst 1, 1) := by decide +kernel
theorem dX9_bits_15 : decode cX9_bits 15 = .ok (.iand, 1) := by decide +kernel
theorem dX9_bits_16 : decode cX9_bits 16 = .ok (.iadd, 1) := by decide +kernel
theorem dX9_bits_17 : decode cX9_bits 17 = .ok (.istore_n 1, 1) := by decide +kernel
theorem dX9_bits_18 : decode cX9_bits 18 = .ok (.iinc 2 1, 3) := by decide +kernel
theorem dX9_bits_21 : decode cX9_bits 21 = .ok (.goto (-17), 3) := by decide +kernel
theorem dX9_bits_24 : decode cX9_bits 24 = .ok (.iload_n 1, 1) := by decide +kernel
theorem dX9_bits_25 : decode cX9_bits 25 = .ok (.ireturn, 1) := by decide +kernel
theorem dX9_assign_0 : decode cX9_assign 0 = .ok (.iconst 0, 1) := by decide +kernel
theorem dX9_assign_1 : decode cX9_assign 1 = .ok (.istore_n 2, 1) := by decide +kernel
theorem dX9_assign_2 : decode cX9_assign 2 = .ok (.iload_n 2, 1) := by decide +kernel
theorem dX9_assign_3 : decode cX9_assign 3 = .ok (.bipush 49, 2) := by decide +kernel
theorem dX9_assign_5 : decode cX9_assign 5 = .ok (.if_icmp .ge 15, 3) := by decide +kernel
theorem dX9_assign_8 : decode cX9_assign 8 = .ok (.aload_n 1, 1) := by decide +kernel
theorem dX9_assign_9 : decode cX9_assign 9 = .ok (.iload_n 2, 1) := by decide +kernel
theorem dX9_assign_10 : decode cX9_assign 10 = .ok (.aload_n 0, 1) := by decide +kernel
theorem dX9_assign_11 : decode cX9_assign 11 = .ok (.iload_n 2, 1) := by decide +kernel
theorem dX9_assign_12 : decode cX9_assign 12 = .ok (.iaload, 1) := by decide +kernel
theorem dX9_assign_13 : decode cX9_assign 13 = .ok (.iastore, 1) := by decide +kernel
theorem dX9_assign_14 : decode cX9_assign 14 = .ok (.iinc 2 1, 3) := by decide +kernel
theorem dX9_assign_17 : decode cX9_assign 17 = .ok (.goto (-15), 3) := by decide +kernel
theorem dX9_assign_20 : decode cX9_assign 20 = .ok (.return_, 1) := by decide +kernel
set_option maxRecDepth 20000 in
theorem ggX9_noVertex_X9_in : GoodIn wsX9_noVertex wsX9_in := goodIn_r _ [5] (by decide +kernel) (by decide +kernel)
set_option maxRecDepth 20000 in
theorem gX9_noVertex_X9_in : GoodIn wsX9_noVertex (va_wsS RX9 57 yX9_in wsX9_in) := goodIn_app (goodIn_of _ (by decide +kernel)) ggX9_noVertex_X9_in
theorem dX9_noVertex_0 : decode cX9_noVertex 0 = .ok (.iload_n 1, 1) := by decide +kernel
theorem dX9_noVertex_1 : decode cX9_noVertex 1 = .ok (.i2l, 1) := by decide +kernel
theorem dX9_noVertex_2 : decode cX9_noVertex 2 = .ok (.lconst 0, 1) := by decide +kernel
theorem dX9_noVertex_3 : decode cX9_noVertex 3 = .ok (.aload_n 0, 1) := by decide +kernel
theorem dX9_noVertex_4 : decode cX9_noVertex 4 = .ok (.getfield 16, 3) := by decide +kernel
theorem dX9_noVertex_7 : decode cX9_noVertex 7 = .ok (.iconst 1, 1) := by decide +kernel
theorem dX9_noVertex_8 : decode cX9_noVertex 8 = .ok (.isub, 1) := by decide +kernel
theorem dX9_noVertex_9 : decode cX9_noVertex 9 = .ok (.i2l, 1) := by decide +kernel
theorem dX9_noVertex_10 : decode cX9_noVertex 10 = .ok (.invokestatic 57, 3) := by decide +kernel
theorem dX9_noVertex_13 : decode cX9_noVertex 13 = .ok (.ifCond .ne 7, 3) := by decide +kernel
theorem dX9_noVertex_16 : decode cX9_noVertex 16 = .ok (.iconst 1, 1) := by decide +kernel
theorem dX9_noVertex_17 : decode cX9_noVertex 17 = .ok (.goto 4, 3) := by decide +kernel
theorem dX9_noVertex_20 : decode cX9_noVertex 20 = .ok (.iconst 0, 1) := by decide +kernel
theorem dX9_noVertex_21 : decode cX9_noVertex 21 = .ok (.ireturn, 1) := by decide +kernel
set_option maxRecDepth 20000 in
theorem ggX9_noEdge_X9_in : GoodIn wsX9_noEdge wsX9_in := goodIn_r _ [5] (by decide +kernel) (by decide +kernel)
set_option maxRecDepth 20000 in
theorem gX9_noEdge_X9_in : GoodIn wsX9_noEdge (va_wsS RX9 57 yX9_in wsX9_in) := goodIn_app (goodIn_of _ (by decide +kernel)) ggX9_noEdge_X9_in
theorem dX9_noEdge_0 : decode cX9_noEdge 0 = .ok (.iload_n 1, 1) := by decide +kernel
theorem dX9_noEdge_1 : decode cX9_noEdge 1 = .ok (.i2l, 1) := by decide +kernel
theorem dX9_noEdge_2 : decode cX9_noEdge 2 = .ok (.lconst 0, 1) := by decide +kernel
theorem dX9_noEdge_3 : decode cX9_noEdge 3 = .ok (.aload_n 0, 1) := by decide +kernel
theorem dX9_noEdge_4 : decode cX9_noEdge 4 = .ok (.getfield 20, 3) := by decide +kernel
theorem dX9_noEdge_7 : decode cX9_noEdge 7 = .ok (.iconst 0, 1) := by decide +kernel
theorem dX9_noEdge_8 : decode cX9_noEdge 8 = .ok (.iaload, 1) := by decide +kernel
theorem dX9_noEdge_9 : decode cX9_noEdge 9 = .ok (.iconst 1, 1) := by decide +kernel
theorem dX9_noEdge_10 : decode cX9_noEdge 10 = .ok (.isub, 1) := by decide +kernel
theorem dX9_noEdge_11 : decode cX9_noEdge 11 = .ok (.i2l, 1) := by decide +kernel
theorem dX9_noEdge_12 : decode cX9_noEdge 12 = .ok (.invokestatic 57, 3) := by decide +kernel
theorem dX9_noEdge_15 : decode cX9_noEdge 15 = .ok (.ifCond .ne 7, 3) := by decide +kernel
theorem dX9_noEdge_18 : decode cX9_noEdge 18 = .ok (.iconst 1, 1) := by decide +kernel
theorem dX9_noEdge_19 : decode cX9_noEdge 19 = .ok (.goto 4, 3) := by decide +kernel
theorem dX9_noEdge_22 : decode cX9_noEdge 22 = .ok (.iconst 0, 1) := by decide +kernel
theorem dX9_noEdge_23 : decode cX9_noEdge 23 = .ok (.ireturn, 1) := by decide +kernel
theorem dX9_improve_0 : decode cX9_improve 0 = .ok (.iload_n 3, 1) := by decide +kernel
theorem dX9_improve_1 : decode cX9_improve 1 = .ok (.ldc 61, 2) := by decide +kernel
theorem dX9_improve_3 : decode cX9_improve 3 = .ok (.if_icmp .le 8, 3) := by decide +kernel
theorem dX9_improve_6 : decode cX9_improve 6 = .ok (.ldc 61, 2) := by decide +kernel
theorem dX9_improve_8 : decode cX9_improve 8 = .ok (.goto 4, 3) := by decide +kernel
theorem dX9_improve_11 : decode cX9_improve 11 = .ok (.iload_n 3, 1) := by decide +kernel
theorem dX9_improve_12 : decode cX9_improve 12 = .ok (.istore 4, 2) := by decide +kernel
theorem dX9_improve_14 : decode cX9_improve 14 = .ok (.iload 4, 2) := by decide +kernel
theorem dX9_improve_16 : decode cX9_improve 16 = .ok (.aload_n 0, 1) := by decide +kernel
theorem dX9_improve_17 : decode cX9_improve 17 = .ok (.getfield 45, 3) := by decide +kernel
theorem dX9_improve_20 : decode cX9_improve 20 = .ok (.bipush 8, 2) := by decide +kernel
theorem dX9_improve_22 : decode cX9_improve 22 = .ok (.iload_n 1, 1) := by decide +kernel
theorem dX9_improve_23 : decode cX9_improve 23 = .ok (.imul, 1) := by decide +kernel
theorem dX9_improve_24 : decode cX9_improve 24 = .ok (.iload_n 2, 1) := by decide +kernel
theorem dX9_improve_25 : decode cX9_improve 25 = .ok (.iadd, 1) := by decide +kernel
theorem dX9_improve_26 : decode cX9_improve 26 = .ok (.iaload, 1) := by decide +kernel
theorem dX9_improve_27 : decode cX9_improve 27 = .ok (.if_icmp .ge 7, 3) := by decide +kernel
theorem dX9_improve_30 : decode cX9_improve 30 = .ok (.iconst 1, 1) := by decide +kernel
theorem dX9_improve_31 : decode cX9_improve 31 = .ok (.goto 4, 3) := by decide +kernel
theorem dX9_improve_34 : decode cX9_improve 34 = .ok (.iconst 0, 1) := by decide +kernel
theorem dX9_improve_35 : decode cX9_improve 35 = .ok (.istore 5, 2) := by decide +kernel
theorem dX9_improve_37 : decode cX9_improve 37 = .ok (.aload_n 0, 1) := by decide +kernel
theorem dX9_improve_38 : decode cX9_improve 38 = .ok (.getfield 45, 3) := by decide +kernel
theorem dX9_improve_41 : decode cX9_improve 41 = .ok (.bipush 8, 2) := by decide +kernel
theorem dX9_improve_43 : decode cX9_improve 43 = .ok (.iload_n 1, 1) := by decide +kernel
theorem dX9_improve_44 : decode cX9_improve 44 = .ok (.imul, 1) := by decide +kernel
theorem dX9_improve_45 : decode cX9_improve 45 = .ok (.iload_n 2, 1) := by decide +kernel
theorem dX9_improve_46 : decode cX9_improve 46 = .ok (.iadd, 1) := by decide +kernel
theorem dX9_improve_47 : decode cX9_improve 47 = .ok (.iload 5, 2) := by decide +kernel
theorem dX9_improve_49 : decode cX9_improve 49 = .ok (.ifCond .eq 8, 3) := by decide +kernel
theorem dX9_improve_52 : decode cX9_improve 52 = .ok (.iload 4, 2) := by decide +kernel
theorem dX9_improve_54 : decode cX9_improve 54 = .ok (.goto 14, 3) := by decide +kernel
theorem dX9_improve_57 : decode cX9_improve 57 = .ok (.aload_n 0, 1) := by decide +kernel
theorem dX9_improve_58 : decode cX9_improve 58 = .ok (.getfield 45, 3) := by decide +kernel
theorem dX9_improve_61 : decode cX9_improve 61 = .ok (.bipush 8, 2) := by decide +kernel
theorem dX9_improve_63 : decode cX9_improve 63 = .ok (.iload_n 1, 1) := by decide +kernel
theorem dX9_improve_64 : decode cX9_improve 64 = .ok (.imul, 1) := by decide +kernel
theorem dX9_improve_65 : decode cX9_improve 65 = .ok (.iload_n 2, 1) := by decide +kernel
theorem dX9_improve_66 : decode cX9_improve 66 = .ok (.iadd, 1) := by decide +kernel
theorem dX9_improve_67 : decode cX9_improve 67 = .ok (.iaload, 1) := by decide +kernel
theorem dX9_improve_68 : decode cX9_improve 68 = .ok (.iastore, 1) := by decide +kernel
theorem dX9_improve_69 : decode cX9_improve 69 = .ok (.iload 5, 2) := by decide +kernel
theorem dX9_improve_71 : decode cX9_improve 71 = .ok (.ireturn, 1) := by decide +kernel
set_option maxRecDepth 20000 in
theorem ggX9_close_X9_improve : GoodIn wsX9_close wsX9_improve := goodIn_r _ [9, 10, 1, 14, 15, 16, 17, 18, 19, 20, 21, 22, 23, 24, 25, 26, 27, 28, 29, 30, 31, 32, 33, 34] (by decide +kernel) (by decide +kernel)
set_option maxRecDepth 20000 in
theorem gX9_close_X9_improve : GoodIn wsX9_close (wsV RX9 63 RX9 yX9_improve wsX9_improve) := goodIn_app (goodIn_of _ (by decide +kernel)) ggX9_close_X9_improve
set_option maxRecDepth 20000 in
theorem ggX9_close_X9_in : GoodIn wsX9_close wsX9_in := goodIn_r _ [13] (by decide +kernel) (by decide +kernel)
set_option maxRecDepth 20000 in
theorem gX9_close_X9_in : GoodIn wsX9_close (va_wsS RX9 57 yX9_in wsX9_in) := goodIn_app (goodIn_of _ (by decide +kernel)) ggX9_close_X9_in
theorem dX9_close_0 : decode cX9_close 0 = .ok (.iconst 0, 1) := by decide +kernel
theorem dX9_close_1 : decode cX9_close 1 = .ok (.istore_n 2, 1) := by decide +kernel
theorem dX9_close_2 : decode cX9_close 2 = .ok (.iload_n 2, 1) := by decide +kernel
theorem dX9_close_3 : decode cX9_close 3 = .ok (.bipush 64, 2) := by decide +kernel
theorem dX9_close_5 : decode cX9_close 5 = .ok (.if_icmp .ge 32, 3) := by decide +kernel
theorem dX9_close_8 : decode cX9_close 8 = .ok (.aload_n 0, 1) := by decide +kernel
theorem dX9_close_9 : decode cX9_close 9 = .ok (.getfield 45, 3) := by decide +kernel
theorem dX9_close_12 : decode cX9_close 12 = .ok (.iload_n 2, 1) := by decide +kernel
theorem dX9_close_13 : decode cX9_close 13 = .ok (.iload_n 2, 1) := by decide +kernel
theorem dX9_close_14 : decode cX9_close 14 = .ok (.bipush 8, 2) := by decide +kernel
theorem dX9_close_16 : decode cX9_close 16 = .ok (.idiv, 1) := by decide +kernel
theorem dX9_close_17 : decode cX9_close 17 = .ok (.iload_n 2, 1) := by decide +kernel
theorem dX9_close_18 : decode cX9_close 18 = .ok (.bipush 8, 2) := by decide +kernel
theorem dX9_close_20 : decode cX9_close 20 = .ok (.irem, 1) := by decide +kernel
theorem dX9_close_21 : decode cX9_close 21 = .ok (.if_icmp .ne 7, 3) := by decide +kernel
theorem dX9_close_24 : decode cX9_close 24 = .ok (.iconst 0, 1) := by decide +kernel
theorem dX9_close_25 : decode cX9_close 25 = .ok (.goto 5, 3) := by decide +kernel
theorem dX9_close_28 : decode cX9_close 28 = .ok (.ldc 62, 2) := by decide +kernel
theorem dX9_close_30 : decode cX9_close 30 = .ok (.iastore, 1) := by decide +kernel
theorem dX9_close_31 : decode cX9_close 31 = .ok (.iinc 2 1, 3) := by decide +kernel
theorem dX9_close_34 : decode cX9_close 34 = .ok (.goto (-32), 3) := by decide +kernel
theorem dX9_close_37 : decode cX9_close 37 = .ok (.iconst 1, 1) := by decide +kernel
theorem dX9_close_38 : decode cX9_close 38 = .ok (.istore_n 2, 1) := by decide +kernel
theorem dX9_close_39 : decode cX9_close 39 = .ok (.iload_n 2, 1) := by decide +kernel
theorem dX9_close_40 : decode cX9_close 40 = .ok (.ifCond .eq 276, 3) := by decide +kernel
theorem dX9_close_43 : decode cX9_close 43 = .ok (.iconst 0, 1) := by decide +kernel
theorem dX9_close_44 : decode cX9_close 44 = .ok (.istore_n 2, 1) := by decide +kernel
theorem dX9_close_45 : decode cX9_close 45 = .ok (.iconst 0, 1) := by decide +kernel
theorem dX9_close_46 : decode cX9_close 46 = .ok (.istore_n 3, 1) := by decide +kernel
theorem dX9_close_47 : decode cX9_close 47 = .ok (.iload_n 3, 1) := by decide +kernel
theorem dX9_close_48 : decode cX9_close 48 = .ok (.iload_n 1, 1) := by decide +kernel
theorem dX9_close_49 : decode cX9_close 49 = .ok (.if_icmp .ge 169, 3) := by decide +kernel
theorem dX9_close_52 : decode cX9_close 52 = .ok (.aload_n 0, 1) := by decide +kernel
theorem dX9_close_53 : decode cX9_close 53 = .ok (.getfield 51, 3) := by decide +kernel
theorem dX9_close_56 : decode cX9_close 56 = .ok (.iconst 3, 1) := by decide +kernel
theorem dX9_close_57 : decode cX9_close 57 = .ok (.iload_n 3, 1) := by decide +kernel
theorem dX9_close_58 : decode cX9_close 58 = .ok (.imul, 1) := by decide +kernel
theorem dX9_close_59 : decode cX9_close 59 = .ok (.iconst 2, 1) := by decide +kernel
theorem dX9_close_60 : decode cX9_close 60 = .ok (.iadd, 1) := by decide +kernel
theorem dX9_close_61 : decode cX9_close 61 = .ok (.iaload, 1) := by decide +kernel
theorem dX9_close_62 : decode cX9_close 62 = .ok (.istore 4, 2) := by decide +kernel
theorem dX9_close_64 : decode cX9_close 64 = .ok (.iload 4, 2) := by decide +kernel
theorem dX9_close_66 : decode cX9_close 66 = .ok (.ifCond .ne 31, 3) := by decide +kernel
theorem dX9_close_69 : decode cX9_close 69 = .ok (.aload_n 0, 1) := by decide +kernel
theorem dX9_close_70 : decode cX9_close 70 = .ok (.aload_n 0, 1) := by decide +kernel
theorem dX9_close_71 : decode cX9_close 71 = .ok (.getfield 51, 3) := by decide +kernel
theorem dX9_close_74 : decode cX9_close 74 = .ok (.iconst 3, 1) := by decide +kernel
theorem dX9_close_75 : decode cX9_close 75 = .ok (.iload_n 3, 1) := by decide +kernel
theorem dX9_close_76 : decode cX9_close 76 = .ok (.imul, 1) := by decide +kernel
theorem dX9_close_77 : decode cX9_close 77 = .ok (.iaload, 1) := by decide +kernel
theorem dX9_close_78 : decode cX9_close 78 = .ok (.aload_n 0, 1) := by decide +kernel
theorem dX9_close_79 : decode cX9_close 79 = .ok (.getfield 51, 3) := by decide +kernel
theorem dX9_close_82 : decode cX9_close 82 = .ok (.iconst 3, 1) := by decide +kernel
theorem dX9_close_83 : decode cX9_close 83 = .ok (.iload_n 3, 1) := by decide +kernel
theorem dX9_close_84 : decode cX9_close 84 = .ok (.imul, 1) := by decide +kernel
theorem dX9_close_85 : decode cX9_close 85 = .ok (.iconst 1, 1) := by decide +kernel
theorem dX9_close_86 : decode cX9_close 86 = .ok (.iadd, 1) := by decide +kernel
theorem dX9_close_87 : decode cX9_close 87 = .ok (.iaload, 1) := by decide +kernel
theorem dX9_close_88 : decode cX9_close 88 = .ok (.iconst 1, 1) := by decide +kernel
theorem dX9_close_89 : decode cX9_close 89 = .ok (.invokevirtual 63, 3) := by decide +kernel
theorem dX9_close_92 : decode cX9_close 92 = .ok (.ifCond .eq 5, 3) := by decide +kernel
theorem dX9_close_95 : decode cX9_close 95 = .ok (.iconst 1, 1) := by decide +kernel
theorem dX9_close_96 : decode cX9_close 96 = .ok (.istore_n 2, 1) := by decide +kernel
theorem dX9_close_97 : decode cX9_close 97 = .ok (.iconst 0, 1) := by decide +kernel
theorem dX9_close_98 : decode cX9_close 98 = .ok (.istore 5, 2) := by decide +kernel
theorem dX9_close_100 : decode cX9_close 100 = .ok (.iload 5, 2) := by decide +kernel
theorem dX9_close_102 : decode cX9_close 102 = .ok (.iload_n 1, 1) := by decide +kernel
theorem dX9_close_103 : decode cX9_close 103 = .ok (.if_icmp .ge 109, 3) := by decide +kernel
theorem dX9_close_106 : decode cX9_close 106 = .ok (.iload 4, 2) := by decide +kernel
theorem dX9_close_108 : decode cX9_close 108 = .ok (.i2l, 1) := by decide +kernel
theorem dX9_close_109 : decode cX9_close 109 = .ok (.lconst 1, 1) := by decide +kernel
theorem dX9_close_110 : decode cX9_close 110 = .ok (.ldc2_w 67, 3) := by decide +kernel
theorem dX9_close_113 : decode cX9_close 113 = .ok (.invokestatic 57, 3) := by decide +kernel
theorem dX9_close_116 : decode cX9_close 116 = .ok (.ifCond .eq 96, 3) := by decide +kernel
theorem dX9_close_119 : decode cX9_close 119 = .ok (.aload_n 0, 1) := by decide +kernel
theorem dX9_close_120 : decode cX9_close 120 = .ok (.getfield 45, 3) := by decide +kernel
theorem dX9_close_123 : decode cX9_close 123 = .ok (.bipush 8, 2) := by decide +kernel
theorem dX9_close_125 : decode cX9_close 125 = .ok (.aload_n 0, 1) := by decide +kernel
theorem dX9_close_126 : decode cX9_close 126 = .ok (.getfield 51, 3) := by decide +kernel
theorem dX9_close_129 : decode cX9_close 129 = .ok (.iconst 3, 1) := by decide +kernel
theorem dX9_close_130 : decode cX9_close 130 = .ok (.iload_n 3, 1) := by decide +kernel
theorem dX9_close_131 : decode cX9_close 131 = .ok (.imul, 1) := by decide +kernel
theorem dX9_close_132 : decode cX9_close 132 = .ok (.iconst 1, 1) := by decide +kernel
theorem dX9_close_133 : decode cX9_close 133 = .ok (.iadd, 1) := by decide +kernel
theorem dX9_close_134 : decode cX9_close 134 = .ok (.iaload, 1) := by decide +kernel
theorem dX9_close_135 : decode cX9_close 135 = .ok (.imul, 1) := by decide +kernel
theorem dX9_close_136 : decode cX9_close 136 = .ok (.aload_n 0, 1) := by decide +kernel
theorem dX9_close_137 : decode cX9_close 137 = .ok (.getfield 51, 3) := by decide +kernel
theorem dX9_close_140 : decode cX9_close 140 = .ok (.iconst 3, 1) := by decide +kernel
theorem dX9_close_141 : decode cX9_close 141 = .ok (.iload 5, 2) := by decide +kernel
theorem dX9_close_143 : decode cX9_close 143 = .ok (.imul, 1) := by decide +kernel
theorem dX9_close_144 : decode cX9_close 144 = .ok (.iaload, 1) := by decide +kernel
theorem dX9_close_145 : decode cX9_close 145 = .ok (.iadd, 1) := by decide +kernel
theorem dX9_close_146 : decode cX9_close 146 = .ok (.iaload, 1) := by decide +kernel
theorem dX9_close_147 : decode cX9_close 147 = .ok (.istore 6, 2) := by decide +kernel
theorem dX9_close_149 : decode cX9_close 149 = .ok (.aload_n 0, 1) := by decide +kernel
theorem dX9_close_150 : decode cX9_close 150 = .ok (.getfield 51, 3) := by decide +kernel
theorem dX9_close_153 : decode cX9_close 153 = .ok (.iconst 3, 1) := by decide +kernel
theorem dX9_close_154 : decode cX9_close 154 = .ok (.iload 5, 2) := by decide +kernel
theorem dX9_close_156 : decode cX9_close 156 = .ok (.imul, 1) := by decide +kernel
theorem dX9_close_157 : decode cX9_close 157 = .ok (.iconst 2, 1) := by decide +kernel
theorem dX9_close_158 : decode cX9_close 158 = .ok (.iadd, 1) := by decide +kernel
theorem dX9_close_159 : decode cX9_close 159 = .ok (.iaload, 1) := by decide +kernel
theorem dX9_close_160 : decode cX9_close 160 = .ok (.iload 4, 2) := by decide +kernel
theorem dX9_close_162 : decode cX9_close 162 = .ok (.iconst 3, 1) := by decide +kernel
theorem dX9_close_163 : decode cX9_close 163 = .ok (.iadd, 1) := by decide +kernel
theorem dX9_close_164 : decode cX9_close 164 = .ok (.if_icmp .ne 42, 3) := by decide +kernel
theorem dX9_close_167 : decode cX9_close 167 = .ok (.iload 6, 2) := by decide +kernel
theorem dX9_close_169 : decode cX9_close 169 = .ok (.ldc 62, 2) := by decide +kernel
theorem dX9_close_171 : decode cX9_close 171 = .ok (.if_icmp .ge 35, 3) := by decide +kernel
theorem dX9_close_174 : decode cX9_close 174 = .ok (.aload_n 0, 1) := by decide +kernel
theorem dX9_close_175 : decode cX9_close 175 = .ok (.aload_n 0, 1) := by decide +kernel
theorem dX9_close_176 : decode cX9_close 176 = .ok (.getfield 51, 3) := by decide +kernel
theorem dX9_close_179 : decode cX9_close 179 = .ok (.iconst 3, 1) := by decide +kernel
theorem dX9_close_180 : decode cX9_close 180 = .ok (.iload_n 3, 1) := by decide +kernel
theorem dX9_close_181 : decode cX9_close 181 = .ok (.imul, 1) := by decide +kernel
theorem dX9_close_182 : decode cX9_close 182 = .ok (.iaload, 1) := by decide +kernel
theorem dX9_close_183 : decode cX9_close 183 = .ok (.aload_n 0, 1) := by decide +kernel
theorem dX9_close_184 : decode cX9_close 184 = .ok (.getfield 51, 3) := by decide +kernel
theorem dX9_close_187 : decode cX9_close 187 = .ok (.iconst 3, 1) := by decide +kernel
theorem dX9_close_188 : decode cX9_close 188 = .ok (.iload 5, 2) := by decide +kernel
theorem dX9_close_190 : decode cX9_close 190 = .ok (.imul, 1) := by decide +kernel
end
section
theorem dX9_close_191 : decode cX9_close 191 = .ok (.iconst 1, 1) := by decide +kernel
theorem dX9_close_192 : decode cX9_close 192 = .ok (.iadd, 1) := by decide +kernel
theorem dX9_close_193 : decode cX9_close 193 = .ok (.iaload, 1) := by decide +kernel
theorem dX9_close_194 : decode cX9_close 194 = .ok (.iload 6, 2) := by decide +kernel
theorem dX9_close_196 : decode cX9_close 196 = .ok (.iconst 2, 1) := by decide +kernel
theorem dX9_close_197 : decode cX9_close 197 = .ok (.iadd, 1) := by decide +kernel
theorem dX9_close_198 : decode cX9_close 198 = .ok (.invokevirtual 63, 3) := by decide +kernel
theorem dX9_close_201 : decode cX9_close 201 = .ok (.ifCond .eq 5, 3) := by decide +kernel
theorem dX9_close_204 : decode cX9_close 204 = .ok (.iconst 1, 1) := by decide +kernel
theorem dX9_close_205 : decode cX9_close 205 = .ok (.istore_n 2, 1) := by decide +kernel
theorem dX9_close_206 : decode cX9_close 206 = .ok (.iinc 5 1, 3) := by decide +kernel
theorem dX9_close_209 : decode cX9_close 209 = .ok (.goto (-109), 3) := by decide +kernel
theorem dX9_close_212 : decode cX9_close 212 = .ok (.iinc 3 1, 3) := by decide +kernel
theorem dX9_close_215 : decode cX9_close 215 = .ok (.goto (-168), 3) := by decide +kernel
theorem dX9_close_218 : decode cX9_close 218 = .ok (.iconst 0, 1) := by decide +kernel
theorem dX9_close_219 : decode cX9_close 219 = .ok (.istore_n 3, 1) := by decide +kernel
theorem dX9_close_220 : decode cX9_close 220 = .ok (.iload_n 3, 1) := by decide +kernel
theorem dX9_close_221 : decode cX9_close 221 = .ok (.sipush 512, 3) := by decide +kernel
theorem dX9_close_224 : decode cX9_close 224 = .ok (.if_icmp .ge 89, 3) := by decide +kernel
theorem dX9_close_227 : decode cX9_close 227 = .ok (.aload_n 0, 1) := by decide +kernel
theorem dX9_close_228 : decode cX9_close 228 = .ok (.getfield 45, 3) := by decide +kernel
theorem dX9_close_231 : decode cX9_close 231 = .ok (.bipush 8, 2) := by decide +kernel
theorem dX9_close_233 : decode cX9_close 233 = .ok (.iload_n 3, 1) := by decide +kernel
theorem dX9_close_234 : decode cX9_close 234 = .ok (.bipush 64, 2) := by decide +kernel
theorem dX9_close_236 : decode cX9_close 236 = .ok (.idiv, 1) := by decide +kernel
theorem dX9_close_237 : decode cX9_close 237 = .ok (.imul, 1) := by decide +kernel
theorem dX9_close_238 : decode cX9_close 238 = .ok (.iload_n 3, 1) := by decide +kernel
theorem dX9_close_239 : decode cX9_close 239 = .ok (.bipush 8, 2) := by decide +kernel
theorem dX9_close_241 : decode cX9_close 241 = .ok (.idiv, 1) := by decide +kernel
theorem dX9_close_242 : decode cX9_close 242 = .ok (.bipush 8, 2) := by decide +kernel
theorem dX9_close_244 : decode cX9_close 244 = .ok (.irem, 1) := by decide +kernel
theorem dX9_close_245 : decode cX9_close 245 = .ok (.iadd, 1) := by decide +kernel
theorem dX9_close_246 : decode cX9_close 246 = .ok (.iaload, 1) := by decide +kernel
theorem dX9_close_247 : decode cX9_close 247 = .ok (.istore 4, 2) := by decide +kernel
theorem dX9_close_249 : decode cX9_close 249 = .ok (.aload_n 0, 1) := by decide +kernel
theorem dX9_close_250 : decode cX9_close 250 = .ok (.getfield 45, 3) := by decide +kernel
theorem dX9_close_253 : decode cX9_close 253 = .ok (.bipush 8, 2) := by decide +kernel
theorem dX9_close_255 : decode cX9_close 255 = .ok (.iload_n 3, 1) := by decide +kernel
theorem dX9_close_256 : decode cX9_close 256 = .ok (.bipush 8, 2) := by decide +kernel
theorem dX9_close_258 : decode cX9_close 258 = .ok (.idiv, 1) := by decide +kernel
theorem dX9_close_259 : decode cX9_close 259 = .ok (.bipush 8, 2) := by decide +kernel
theorem dX9_close_261 : decode cX9_close 261 = .ok (.irem, 1) := by decide +kernel
theorem dX9_close_262 : decode cX9_close 262 = .ok (.imul, 1) := by decide +kernel
theorem dX9_close_263 : decode cX9_close 263 = .ok (.iload_n 3, 1) := by decide +kernel
theorem dX9_close_264 : decode cX9_close 264 = .ok (.bipush 8, 2) := by decide +kernel
theorem dX9_close_266 : decode cX9_close 266 = .ok (.irem, 1) := by decide +kernel
theorem dX9_close_267 : decode cX9_close 267 = .ok (.iadd, 1) := by decide +kernel
theorem dX9_close_268 : decode cX9_close 268 = .ok (.iaload, 1) := by decide +kernel
theorem dX9_close_269 : decode cX9_close 269 = .ok (.istore 5, 2) := by decide +kernel
theorem dX9_close_271 : decode cX9_close 271 = .ok (.iload 4, 2) := by decide +kernel
theorem dX9_close_273 : decode cX9_close 273 = .ok (.ldc 62, 2) := by decide +kernel
theorem dX9_close_275 : decode cX9_close 275 = .ok (.if_icmp .ge 32, 3) := by decide +kernel
theorem dX9_close_278 : decode cX9_close 278 = .ok (.iload 5, 2) := by decide +kernel
theorem dX9_close_280 : decode cX9_close 280 = .ok (.ldc 62, 2) := by decide +kernel
theorem dX9_close_282 : decode cX9_close 282 = .ok (.if_icmp .ge 25, 3) := by decide +kernel
theorem dX9_close_285 : decode cX9_close 285 = .ok (.aload_n 0, 1) := by decide +kernel
theorem dX9_close_286 : decode cX9_close 286 = .ok (.iload_n 3, 1) := by decide +kernel
theorem dX9_close_287 : decode cX9_close 287 = .ok (.bipush 64, 2) := by decide +kernel
theorem dX9_close_289 : decode cX9_close 289 = .ok (.idiv, 1) := by decide +kernel
theorem dX9_close_290 : decode cX9_close 290 = .ok (.iload_n 3, 1) := by decide +kernel
theorem dX9_close_291 : decode cX9_close 291 = .ok (.bipush 8, 2) := by decide +kernel
theorem dX9_close_293 : decode cX9_close 293 = .ok (.irem, 1) := by decide +kernel
theorem dX9_close_294 : decode cX9_close 294 = .ok (.iload 4, 2) := by decide +kernel
theorem dX9_close_296 : decode cX9_close 296 = .ok (.iload 5, 2) := by decide +kernel
theorem dX9_close_298 : decode cX9_close 298 = .ok (.iadd, 1) := by decide +kernel
theorem dX9_close_299 : decode cX9_close 299 = .ok (.invokevirtual 63, 3) := by decide +kernel
theorem dX9_close_302 : decode cX9_close 302 = .ok (.ifCond .eq 5, 3) := by decide +kernel
theorem dX9_close_305 : decode cX9_close 305 = .ok (.iconst 1, 1) := by decide +kernel
theorem dX9_close_306 : decode cX9_close 306 = .ok (.istore_n 2, 1) := by decide +kernel
theorem dX9_close_307 : decode cX9_close 307 = .ok (.iinc 3 1, 3) := by decide +kernel
theorem dX9_close_310 : decode cX9_close 310 = .ok (.goto (-90), 3) := by decide +kernel
theorem dX9_close_313 : decode cX9_close 313 = .ok (.goto (-274), 3) := by decide +kernel
theorem dX9_close_316 : decode cX9_close 316 = .ok (.return_, 1) := by decide +kernel
set_option maxRecDepth 20000 in
theorem ggX9_closeOf_X9_has : GoodIn wsX9_closeOf wsX9_has := goodIn_r _ [5] (by decide +kernel) (by decide +kernel)
set_option maxRecDepth 20000 in
theorem gX9_closeOf_X9_has : GoodIn wsX9_closeOf (va_wsS RX9 69 yX9_has wsX9_has) := goodIn_app (goodIn_of _ (by decide +kernel)) ggX9_closeOf_X9_has
set_option maxRecDepth 20000 in
theorem ggX9_closeOf_X9_close : GoodIn wsX9_closeOf wsX9_close := goodIn_r _ [9, 10, 11, 1, 12, 13, 14, 15, 4, 16, 17, 18, 19, 20, 21, 22, 23, 24, 25, 26, 27, 28, 29, 30, 31, 32, 33, 34, 35, 36, 37, 38, 39, 40, 41] (by decide +kernel) (by decide +kernel)
set_option maxRecDepth 20000 in
theorem gX9_closeOf_X9_close : GoodIn wsX9_closeOf (wsV RX9 73 RX9 yX9_close wsX9_close) := goodIn_app (goodIn_of _ (by decide +kernel)) ggX9_closeOf_X9_close
theorem dX9_closeOf_0 : decode cX9_closeOf 0 = .ok (.iconst 0, 1) := by decide +kernel
theorem dX9_closeOf_1 : decode cX9_closeOf 1 = .ok (.istore_n 3, 1) := by decide +kernel
theorem dX9_closeOf_2 : decode cX9_closeOf 2 = .ok (.iconst 0, 1) := by decide +kernel
theorem dX9_closeOf_3 : decode cX9_closeOf 3 = .ok (.istore 4, 2) := by decide +kernel
theorem dX9_closeOf_5 : decode cX9_closeOf 5 = .ok (.iload 4, 2) := by decide +kernel
theorem dX9_closeOf_7 : decode cX9_closeOf 7 = .ok (.aload_n 1, 1) := by decide +kernel
theorem dX9_closeOf_8 : decode cX9_closeOf 8 = .ok (.iconst 0, 1) := by decide +kernel
theorem dX9_closeOf_9 : decode cX9_closeOf 9 = .ok (.iaload, 1) := by decide +kernel
theorem dX9_closeOf_10 : decode cX9_closeOf 10 = .ok (.if_icmp .ge 58, 3) := by decide +kernel
theorem dX9_closeOf_13 : decode cX9_closeOf 13 = .ok (.iload_n 2, 1) := by decide +kernel
theorem dX9_closeOf_14 : decode cX9_closeOf 14 = .ok (.iload 4, 2) := by decide +kernel
theorem dX9_closeOf_16 : decode cX9_closeOf 16 = .ok (.invokestatic 69, 3) := by decide +kernel
theorem dX9_closeOf_19 : decode cX9_closeOf 19 = .ok (.ifCond .eq 43, 3) := by decide +kernel
theorem dX9_closeOf_22 : decode cX9_closeOf 22 = .ok (.iconst 0, 1) := by decide +kernel
theorem dX9_closeOf_23 : decode cX9_closeOf 23 = .ok (.istore 5, 2) := by decide +kernel
theorem dX9_closeOf_25 : decode cX9_closeOf 25 = .ok (.iload 5, 2) := by decide +kernel
theorem dX9_closeOf_27 : decode cX9_closeOf 27 = .ok (.iconst 3, 1) := by decide +kernel
theorem dX9_closeOf_28 : decode cX9_closeOf 28 = .ok (.if_icmp .ge 31, 3) := by decide +kernel
theorem dX9_closeOf_31 : decode cX9_closeOf 31 = .ok (.aload_n 0, 1) := by decide +kernel
theorem dX9_closeOf_32 : decode cX9_closeOf 32 = .ok (.getfield 51, 3) := by decide +kernel
theorem dX9_closeOf_35 : decode cX9_closeOf 35 = .ok (.iconst 3, 1) := by decide +kernel
theorem dX9_closeOf_36 : decode cX9_closeOf 36 = .ok (.iload_n 3, 1) := by decide +kernel
theorem dX9_closeOf_37 : decode cX9_closeOf 37 = .ok (.imul, 1) := by decide +kernel
theorem dX9_closeOf_38 : decode cX9_closeOf 38 = .ok (.iload 5, 2) := by decide +kernel
theorem dX9_closeOf_40 : decode cX9_closeOf 40 = .ok (.iadd, 1) := by decide +kernel
theorem dX9_closeOf_41 : decode cX9_closeOf 41 = .ok (.aload_n 1, 1) := by decide +kernel
theorem dX9_closeOf_42 : decode cX9_closeOf 42 = .ok (.iconst 1, 1) := by decide +kernel
theorem dX9_closeOf_43 : decode cX9_closeOf 43 = .ok (.iconst 3, 1) := by decide +kernel
theorem dX9_closeOf_44 : decode cX9_closeOf 44 = .ok (.iload 4, 2) := by decide +kernel
theorem dX9_closeOf_46 : decode cX9_closeOf 46 = .ok (.imul, 1) := by decide +kernel
theorem dX9_closeOf_47 : decode cX9_closeOf 47 = .ok (.iadd, 1) := by decide +kernel
theorem dX9_closeOf_48 : decode cX9_closeOf 48 = .ok (.iload 5, 2) := by decide +kernel
theorem dX9_closeOf_50 : decode cX9_closeOf 50 = .ok (.iadd, 1) := by decide +kernel
theorem dX9_closeOf_51 : decode cX9_closeOf 51 = .ok (.iaload, 1) := by decide +kernel
theorem dX9_closeOf_52 : decode cX9_closeOf 52 = .ok (.iastore, 1) := by decide +kernel
theorem dX9_closeOf_53 : decode cX9_closeOf 53 = .ok (.iinc 5 1, 3) := by decide +kernel
theorem dX9_closeOf_56 : decode cX9_closeOf 56 = .ok (.goto (-31), 3) := by decide +kernel
theorem dX9_closeOf_59 : decode cX9_closeOf 59 = .ok (.iinc 3 1, 3) := by decide +kernel
theorem dX9_closeOf_62 : decode cX9_closeOf 62 = .ok (.iinc 4 1, 3) := by decide +kernel
theorem dX9_closeOf_65 : decode cX9_closeOf 65 = .ok (.goto (-60), 3) := by decide +kernel
theorem dX9_closeOf_68 : decode cX9_closeOf 68 = .ok (.aload_n 0, 1) := by decide +kernel
theorem dX9_closeOf_69 : decode cX9_closeOf 69 = .ok (.iload_n 3, 1) := by decide +kernel
theorem dX9_closeOf_70 : decode cX9_closeOf 70 = .ok (.invokevirtual 73, 3) := by decide +kernel
theorem dX9_closeOf_73 : decode cX9_closeOf 73 = .ok (.return_, 1) := by decide +kernel
theorem dX9_reaches_0 : decode cX9_reaches 0 = .ok (.aload_n 0, 1) := by decide +kernel
theorem dX9_reaches_1 : decode cX9_reaches 1 = .ok (.getfield 45, 3) := by decide +kernel
theorem dX9_reaches_4 : decode cX9_reaches 4 = .ok (.bipush 8, 2) := by decide +kernel
theorem dX9_reaches_6 : decode cX9_reaches 6 = .ok (.iload_n 1, 1) := by decide +kernel
theorem dX9_reaches_7 : decode cX9_reaches 7 = .ok (.imul, 1) := by decide +kernel
theorem dX9_reaches_8 : decode cX9_reaches 8 = .ok (.iload_n 2, 1) := by decide +kernel
theorem dX9_reaches_9 : decode cX9_reaches 9 = .ok (.iadd, 1) := by decide +kernel
theorem dX9_reaches_10 : decode cX9_reaches 10 = .ok (.iaload, 1) := by decide +kernel
theorem dX9_reaches_11 : decode cX9_reaches 11 = .ok (.ldc 62, 2) := by decide +kernel
theorem dX9_reaches_13 : decode cX9_reaches 13 = .ok (.if_icmp .ge 7, 3) := by decide +kernel
theorem dX9_reaches_16 : decode cX9_reaches 16 = .ok (.iconst 1, 1) := by decide +kernel
theorem dX9_reaches_17 : decode cX9_reaches 17 = .ok (.goto 4, 3) := by decide +kernel
theorem dX9_reaches_20 : decode cX9_reaches 20 = .ok (.iconst 0, 1) := by decide +kernel
theorem dX9_reaches_21 : decode cX9_reaches 21 = .ok (.ireturn, 1) := by decide +kernel
theorem dX9_pairs_0 : decode cX9_pairs 0 = .ok (.iconst 0, 1) := by decide +kernel
theorem dX9_pairs_1 : decode cX9_pairs 1 = .ok (.istore_n 1, 1) := by decide +kernel
theorem dX9_pairs_2 : decode cX9_pairs 2 = .ok (.iconst 0, 1) := by decide +kernel
theorem dX9_pairs_3 : decode cX9_pairs 3 = .ok (.istore_n 2, 1) := by decide +kernel
theorem dX9_pairs_4 : decode cX9_pairs 4 = .ok (.iload_n 2, 1) := by decide +kernel
theorem dX9_pairs_5 : decode cX9_pairs 5 = .ok (.bipush 64, 2) := by decide +kernel
theorem dX9_pairs_7 : decode cX9_pairs 7 = .ok (.if_icmp .ge 50, 3) := by decide +kernel
theorem dX9_pairs_10 : decode cX9_pairs 10 = .ok (.iload_n 1, 1) := by decide +kernel
theorem dX9_pairs_11 : decode cX9_pairs 11 = .ok (.iload_n 2, 1) := by decide +kernel
theorem dX9_pairs_12 : decode cX9_pairs 12 = .ok (.bipush 8, 2) := by decide +kernel
theorem dX9_pairs_14 : decode cX9_pairs 14 = .ok (.idiv, 1) := by decide +kernel
theorem dX9_pairs_15 : decode cX9_pairs 15 = .ok (.aload_n 0, 1) := by decide +kernel
theorem dX9_pairs_16 : decode cX9_pairs 16 = .ok (.getfield 16, 3) := by decide +kernel
theorem dX9_pairs_19 : decode cX9_pairs 19 = .ok (.if_icmp .ge 29, 3) := by decide +kernel
theorem dX9_pairs_22 : decode cX9_pairs 22 = .ok (.iload_n 2, 1) := by decide +kernel
theorem dX9_pairs_23 : decode cX9_pairs 23 = .ok (.bipush 8, 2) := by decide +kernel
theorem dX9_pairs_25 : decode cX9_pairs 25 = .ok (.irem, 1) := by decide +kernel
theorem dX9_pairs_26 : decode cX9_pairs 26 = .ok (.aload_n 0, 1) := by decide +kernel
theorem dX9_pairs_27 : decode cX9_pairs 27 = .ok (.getfield 16, 3) := by decide +kernel
theorem dX9_pairs_30 : decode cX9_pairs 30 = .ok (.if_icmp .ge 18, 3) := by decide +kernel
theorem dX9_pairs_33 : decode cX9_pairs 33 = .ok (.aload_n 0, 1) := by decide +kernel
theorem dX9_pairs_34 : decode cX9_pairs 34 = .ok (.getfield 45, 3) := by decide +kernel
theorem dX9_pairs_37 : decode cX9_pairs 37 = .ok (.iload_n 2, 1) := by decide +kernel
theorem dX9_pairs_38 : decode cX9_pairs 38 = .ok (.iaload, 1) := by decide +kernel
theorem dX9_pairs_39 : decode cX9_pairs 39 = .ok (.ldc 62, 2) := by decide +kernel
theorem dX9_pairs_41 : decode cX9_pairs 41 = .ok (.if_icmp .ge 7, 3) := by decide +kernel
theorem dX9_pairs_44 : decode cX9_pairs 44 = .ok (.iconst 1, 1) := by decide +kernel
theorem dX9_pairs_45 : decode cX9_pairs 45 = .ok (.goto 4, 3) := by decide +kernel
theorem dX9_pairs_48 : decode cX9_pairs 48 = .ok (.iconst 0, 1) := by decide +kernel
theorem dX9_pairs_49 : decode cX9_pairs 49 = .ok (.iadd, 1) := by decide +kernel
theorem dX9_pairs_50 : decode cX9_pairs 50 = .ok (.istore_n 1, 1) := by decide +kernel
theorem dX9_pairs_51 : decode cX9_pairs 51 = .ok (.iinc 2 1, 3) := by decide +kernel
theorem dX9_pairs_54 : decode cX9_pairs 54 = .ok (.goto (-50), 3) := by decide +kernel
theorem dX9_pairs_57 : decode cX9_pairs 57 = .ok (.iload_n 1, 1) := by decide +kernel
theorem dX9_pairs_58 : decode cX9_pairs 58 = .ok (.ireturn, 1) := by decide +kernel
set_option maxRecDepth 20000 in
theorem ggX9_pairsOf_X9_closeOf : GoodIn wsX9_pairsOf wsX9_closeOf := goodIn_r _ [5, 6, 7, 8, 4, 9, 10, 11, 12, 13, 14, 15, 16, 17, 18, 19, 20, 21, 22, 23, 24, 30, 31, 32, 33, 34, 35, 36, 37, 38, 39, 40, 41, 42, 43, 44, 45, 46, 47, 48, 49, 50] (by decide +kernel) (by decide +kernel)
set_option maxRecDepth 20000 in
theorem gX9_pairsOf_X9_closeOf : GoodIn wsX9_pairsOf (wsV RX9 77 RX9 yX9_closeOf wsX9_closeOf) := goodIn_app (goodIn_of _ (by decide +kernel)) ggX9_pairsOf_X9_closeOf
set_option maxRecDepth 20000 in
theorem ggX9_pairsOf_X9_pairs : GoodIn wsX9_pairsOf wsX9_pairs := goodIn_r _ [28, 29, 14, 15, 30, 31, 32, 33, 34, 35, 36, 37, 38, 39, 40, 41, 42, 43, 44, 45, 46, 47, 48, 49, 50] (by decide +kernel) (by decide +kernel)
set_option maxRecDepth 20000 in
theorem gX9_pairsOf_X9_pairs : GoodIn wsX9_pairsOf (wsV RX9 81 RX9 yX9_pairs wsX9_pairs) := goodIn_app (goodIn_of _ (by decide +kernel)) ggX9_pairsOf_X9_pairs
theorem dX9_pairsOf_0 : decode cX9_pairsOf 0 = .ok (.aload_n 0, 1) := by decide +kernel
theorem dX9_pairsOf_1 : decode cX9_pairsOf 1 = .ok (.aload_n 1, 1) := by decide +kernel
theorem dX9_pairsOf_2 : decode cX9_pairsOf 2 = .ok (.iload_n 2, 1) := by decide +kernel
theorem dX9_pairsOf_3 : decode cX9_pairsOf 3 = .ok (.invokevirtual 77, 3) := by decide +kernel
theorem dX9_pairsOf_6 : decode cX9_pairsOf 6 = .ok (.aload_n 0, 1) := by decide +kernel
theorem dX9_pairsOf_7 : decode cX9_pairsOf 7 = .ok (.invokevirtual 81, 3) := by decide +kernel
theorem dX9_pairsOf_10 : decode cX9_pairsOf 10 = .ok (.ireturn, 1) := by decide +kernel
set_option maxRecDepth 20000 in
theorem ggX9_append_X9_in : GoodIn wsX9_append wsX9_in := goodIn_r _ [8] (by decide +kernel) (by decide +kernel)
set_option maxRecDepth 20000 in
theorem gX9_append_X9_in : GoodIn wsX9_append (va_wsS RX9 57 yX9_in wsX9_in) := goodIn_app (goodIn_of _ (by decide +kernel)) ggX9_append_X9_in
theorem dX9_append_0 : decode cX9_append 0 = .ok (.aload_n 0, 1) := by decide +kernel
theorem dX9_append_1 : decode cX9_append 1 = .ok (.iconst 0, 1) := by decide +kernel
theorem dX9_append_2 : decode cX9_append 2 = .ok (.putfield 54, 3) := by decide +kernel
theorem dX9_append_5 : decode cX9_append 5 = .ok (.iload_n 1, 1) := by decide +kernel
theorem dX9_append_6 : decode cX9_append 6 = .ok (.i2l, 1) := by decide +kernel
theorem dX9_append_7 : decode cX9_append 7 = .ok (.lconst 0, 1) := by decide +kernel
theorem dX9_append_8 : decode cX9_append 8 = .ok (.ldc2_w 85, 3) := by decide +kernel
theorem dX9_append_11 : decode cX9_append 11 = .ok (.invokestatic 57, 3) := by decide +kernel
theorem dX9_append_14 : decode cX9_append 14 = .ok (.ifCond .ne 6, 3) := by decide +kernel
theorem dX9_append_17 : decode cX9_append 17 = .ok (.bipush (-2), 2) := by decide +kernel
theorem dX9_append_19 : decode cX9_append 19 = .ok (.ireturn, 1) := by decide +kernel
theorem dX9_append_20 : decode cX9_append 20 = .ok (.aload_n 0, 1) := by decide +kernel
theorem dX9_append_21 : decode cX9_append 21 = .ok (.getfield 87, 3) := by decide +kernel
theorem dX9_append_24 : decode cX9_append 24 = .ok (.bipush 60, 2) := by decide +kernel
theorem dX9_append_26 : decode cX9_append 26 = .ok (.if_icmp .ne 6, 3) := by decide +kernel
theorem dX9_append_29 : decode cX9_append 29 = .ok (.bipush (-4), 2) := by decide +kernel
theorem dX9_append_31 : decode cX9_append 31 = .ok (.ireturn, 1) := by decide +kernel
theorem dX9_append_32 : decode cX9_append 32 = .ok (.aload_n 0, 1) := by decide +kernel
theorem dX9_append_33 : decode cX9_append 33 = .ok (.getfield 7, 3) := by decide +kernel
theorem dX9_append_36 : decode cX9_append 36 = .ok (.aload_n 0, 1) := by decide +kernel
theorem dX9_append_37 : decode cX9_append 37 = .ok (.getfield 87, 3) := by decide +kernel
theorem dX9_append_40 : decode cX9_append 40 = .ok (.iload_n 1, 1) := by decide +kernel
theorem dX9_append_41 : decode cX9_append 41 = .ok (.iastore, 1) := by decide +kernel
theorem dX9_append_42 : decode cX9_append 42 = .ok (.aload_n 0, 1) := by decide +kernel
theorem dX9_append_43 : decode cX9_append 43 = .ok (.dup, 1) := by decide +kernel
theorem dX9_append_44 : decode cX9_append 44 = .ok (.getfield 87, 3) := by decide +kernel
theorem dX9_append_47 : decode cX9_append 47 = .ok (.iconst 1, 1) := by decide +kernel
theorem dX9_append_48 : decode cX9_append 48 = .ok (.iadd, 1) := by decide +kernel
theorem dX9_append_49 : decode cX9_append 49 = .ok (.putfield 87, 3) := by decide +kernel
theorem dX9_append_52 : decode cX9_append 52 = .ok (.aload_n 0, 1) := by decide +kernel
theorem dX9_append_53 : decode cX9_append 53 = .ok (.getfield 87, 3) := by decide +kernel
theorem dX9_append_56 : decode cX9_append 56 = .ok (.ireturn, 1) := by decide +kernel
theorem dX9_clearText_0 : decode cX9_clearText 0 = .ok (.aload_n 0, 1) := by decide +kernel
theorem dX9_clearText_1 : decode cX9_clearText 1 = .ok (.iconst 0, 1) := by decide +kernel
theorem dX9_clearText_2 : decode cX9_clearText 2 = .ok (.putfield 54, 3) := by decide +kernel
theorem dX9_clearText_5 : decode cX9_clearText 5 = .ok (.aload_n 0, 1) := by decide +kernel
theorem dX9_clearText_6 : decode cX9_clearText 6 = .ok (.getfield 87, 3) := by decide +kernel
theorem dX9_clearText_9 : decode cX9_clearText 9 = .ok (.istore_n 1, 1) := by decide +kernel
theorem dX9_clearText_10 : decode cX9_clearText 10 = .ok (.aload_n 0, 1) := by decide +kernel
theorem dX9_clearText_11 : decode cX9_clearText 11 = .ok (.iconst 0, 1) := by decide +kernel
theorem dX9_clearText_12 : decode cX9_clearText 12 = .ok (.putfield 87, 3) := by decide +kernel
theorem dX9_clearText_15 : decode cX9_clearText 15 = .ok (.iload_n 1, 1) := by decide +kernel
theorem dX9_clearText_16 : decode cX9_clearText 16 = .ok (.ireturn, 1) := by decide +kernel
set_option maxRecDepth 20000 in
theorem ggX9_digit_X9_in : GoodIn wsX9_digit wsX9_in := goodIn_r _ [7] (by decide +kernel) (by decide +kernel)
set_option maxRecDepth 20000 in
theorem gX9_digit_X9_in : GoodIn wsX9_digit (va_wsS RX9 57 yX9_in wsX9_in) := goodIn_app (goodIn_of _ (by decide +kernel)) ggX9_digit_X9_in
theorem dX9_digit_0 : decode cX9_digit 0 = .ok (.aload_n 0, 1) := by decide +kernel
theorem dX9_digit_1 : decode cX9_digit 1 = .ok (.getfield 90, 3) := by decide +kernel
theorem dX9_digit_4 : decode cX9_digit 4 = .ok (.aload_n 0, 1) := by decide +kernel
theorem dX9_digit_5 : decode cX9_digit 5 = .ok (.getfield 87, 3) := by decide +kernel
theorem dX9_digit_8 : decode cX9_digit 8 = .ok (.if_icmp .ge 18, 3) := by decide +kernel
theorem dX9_digit_11 : decode cX9_digit 11 = .ok (.aload_n 0, 1) := by decide +kernel
theorem dX9_digit_12 : decode cX9_digit 12 = .ok (.getfield 7, 3) := by decide +kernel
theorem dX9_digit_15 : decode cX9_digit 15 = .ok (.aload_n 0, 1) := by decide +kernel
theorem dX9_digit_16 : decode cX9_digit 16 = .ok (.getfield 90, 3) := by decide +kernel
theorem dX9_digit_19 : decode cX9_digit 19 = .ok (.iaload, 1) := by decide +kernel
theorem dX9_digit_20 : decode cX9_digit 20 = .ok (.bipush 48, 2) := by decide +kernel
theorem dX9_digit_22 : decode cX9_digit 22 = .ok (.isub, 1) := by decide +kernel
theorem dX9_digit_23 : decode cX9_digit 23 = .ok (.goto 5, 3) := by decide +kernel
theorem dX9_digit_26 : decode cX9_digit 26 = .ok (.bipush (-9), 2) := by decide +kernel
theorem dX9_digit_28 : decode cX9_digit 28 = .ok (.istore_n 3, 1) := by decide +kernel
theorem dX9_digit_29 : decode cX9_digit 29 = .ok (.iload_n 3, 1) := by decide +kernel
theorem dX9_digit_30 : decode cX9_digit 30 = .ok (.i2l, 1) := by decide +kernel
theorem dX9_digit_31 : decode cX9_digit 31 = .ok (.iload_n 1, 1) := by decide +kernel
theorem dX9_digit_32 : decode cX9_digit 32 = .ok (.i2l, 1) := by decide +kernel
theorem dX9_digit_33 : decode cX9_digit 33 = .ok (.iload_n 2, 1) := by decide +kernel
theorem dX9_digit_34 : decode cX9_digit 34 = .ok (.i2l, 1) := by decide +kernel
theorem dX9_digit_35 : decode cX9_digit 35 = .ok (.invokestatic 57, 3) := by decide +kernel
theorem dX9_digit_38 : decode cX9_digit 38 = .ok (.ifCond .ne 6, 3) := by decide +kernel
theorem dX9_digit_41 : decode cX9_digit 41 = .ok (.bipush (-9), 2) := by decide +kernel
theorem dX9_digit_43 : decode cX9_digit 43 = .ok (.ireturn, 1) := by decide +kernel
theorem dX9_digit_44 : decode cX9_digit 44 = .ok (.aload_n 0, 1) := by decide +kernel
theorem dX9_digit_45 : decode cX9_digit 45 = .ok (.dup, 1) := by decide +kernel
theorem dX9_digit_46 : decode cX9_digit 46 = .ok (.getfield 90, 3) := by decide +kernel
theorem dX9_digit_49 : decode cX9_digit 49 = .ok (.iconst 1, 1) := by decide +kernel
theorem dX9_digit_50 : decode cX9_digit 50 = .ok (.iadd, 1) := by decide +kernel
theorem dX9_digit_51 : decode cX9_digit 51 = .ok (.putfield 90, 3) := by decide +kernel
theorem dX9_digit_54 : decode cX9_digit 54 = .ok (.iload_n 3, 1) := by decide +kernel
theorem dX9_digit_55 : decode cX9_digit 55 = .ok (.ireturn, 1) := by decide +kernel
set_option maxRecDepth 20000 in
theorem ggX9_labelChar_X9_in : GoodIn wsX9_labelChar wsX9_in := goodIn_r _ [11] (by decide +kernel) (by decide +kernel)
set_option maxRecDepth 20000 in
theorem gX9_labelChar_X9_in : GoodIn wsX9_labelChar (va_wsS RX9 57 yX9_in wsX9_in) := goodIn_app (goodIn_of _ (by decide +kernel)) ggX9_labelChar_X9_in
theorem dX9_labelChar_0 : decode cX9_labelChar 0 = .ok (.aload_n 0, 1) := by decide +kernel
theorem dX9_labelChar_1 : decode cX9_labelChar 1 = .ok (.getfield 90, 3) := by decide +kernel
theorem dX9_labelChar_4 : decode cX9_labelChar 4 = .ok (.aload_n 0, 1) := by decide +kernel
theorem dX9_labelChar_5 : decode cX9_labelChar 5 = .ok (.getfield 87, 3) := by decide +kernel
theorem dX9_labelChar_8 : decode cX9_labelChar 8 = .ok (.if_icmp .ge 15, 3) := by decide +kernel
theorem dX9_labelChar_11 : decode cX9_labelChar 11 = .ok (.aload_n 0, 1) := by decide +kernel
theorem dX9_labelChar_12 : decode cX9_labelChar 12 = .ok (.getfield 7, 3) := by decide +kernel
theorem dX9_labelChar_15 : decode cX9_labelChar 15 = .ok (.aload_n 0, 1) := by decide +kernel
theorem dX9_labelChar_16 : decode cX9_labelChar 16 = .ok (.getfield 90, 3) := by decide +kernel
theorem dX9_labelChar_19 : decode cX9_labelChar 19 = .ok (.iaload, 1) := by decide +kernel
theorem dX9_labelChar_20 : decode cX9_labelChar 20 = .ok (.goto 4, 3) := by decide +kernel
theorem dX9_labelChar_23 : decode cX9_labelChar 23 = .ok (.iconst 0, 1) := by decide +kernel
theorem dX9_labelChar_24 : decode cX9_labelChar 24 = .ok (.istore_n 1, 1) := by decide +kernel
theorem dX9_labelChar_25 : decode cX9_labelChar 25 = .ok (.iload_n 1, 1) := by decide +kernel
theorem dX9_labelChar_26 : decode cX9_labelChar 26 = .ok (.bipush 46, 2) := by decide +kernel
theorem dX9_labelChar_28 : decode cX9_labelChar 28 = .ok (.if_icmp .ne 7, 3) := by decide +kernel
theorem dX9_labelChar_31 : decode cX9_labelChar 31 = .ok (.iconst 0, 1) := by decide +kernel
theorem dX9_labelChar_32 : decode cX9_labelChar 32 = .ok (.goto 47, 3) := by decide +kernel
theorem dX9_labelChar_35 : decode cX9_labelChar 35 = .ok (.iload_n 1, 1) := by decide +kernel
theorem dX9_labelChar_36 : decode cX9_labelChar 36 = .ok (.i2l, 1) := by decide +kernel
theorem dX9_labelChar_37 : decode cX9_labelChar 37 = .ok (.ldc2_w 93, 3) := by decide +kernel
theorem dX9_labelChar_40 : decode cX9_labelChar 40 = .ok (.ldc2_w 95, 3) := by decide +kernel
theorem dX9_labelChar_43 : decode cX9_labelChar 43 = .ok (.invokestatic 57, 3) := by decide +kernel
theorem dX9_labelChar_46 : decode cX9_labelChar 46 = .ok (.ifCond .eq 10, 3) := by decide +kernel
theorem dX9_labelChar_49 : decode cX9_labelChar 49 = .ok (.iload_n 1, 1) := by decide +kernel
theorem dX9_labelChar_50 : decode cX9_labelChar 50 = .ok (.bipush 96, 2) := by decide +kernel
theorem dX9_labelChar_52 : decode cX9_labelChar 52 = .ok (.isub, 1) := by decide +kernel
theorem dX9_labelChar_53 : decode cX9_labelChar 53 = .ok (.goto 26, 3) := by decide +kernel
theorem dX9_labelChar_56 : decode cX9_labelChar 56 = .ok (.iload_n 1, 1) := by decide +kernel
theorem dX9_labelChar_57 : decode cX9_labelChar 57 = .ok (.i2l, 1) := by decide +kernel
theorem dX9_labelChar_58 : decode cX9_labelChar 58 = .ok (.ldc2_w 97, 3) := by decide +kernel
theorem dX9_labelChar_61 : decode cX9_labelChar 61 = .ok (.ldc2_w 99, 3) := by decide +kernel
theorem dX9_labelChar_64 : decode cX9_labelChar 64 = .ok (.invokestatic 57, 3) := by decide +kernel
theorem dX9_labelChar_67 : decode cX9_labelChar 67 = .ok (.ifCond .eq 10, 3) := by decide +kernel
theorem dX9_labelChar_70 : decode cX9_labelChar 70 = .ok (.iload_n 1, 1) := by decide +kernel
theorem dX9_labelChar_71 : decode cX9_labelChar 71 = .ok (.bipush 61, 2) := by decide +kernel
theorem dX9_labelChar_73 : decode cX9_labelChar 73 = .ok (.isub, 1) := by decide +kernel
theorem dX9_labelChar_74 : decode cX9_labelChar 74 = .ok (.goto 5, 3) := by decide +kernel
theorem dX9_labelChar_77 : decode cX9_labelChar 77 = .ok (.bipush (-9), 2) := by decide +kernel
theorem dX9_labelChar_79 : decode cX9_labelChar 79 = .ok (.istore_n 2, 1) := by decide +kernel
theorem dX9_labelChar_80 : decode cX9_labelChar 80 = .ok (.aload_n 0, 1) := by decide +kernel
theorem dX9_labelChar_81 : decode cX9_labelChar 81 = .ok (.dup, 1) := by decide +kernel
theorem dX9_labelChar_82 : decode cX9_labelChar 82 = .ok (.getfield 90, 3) := by decide +kernel
theorem dX9_labelChar_85 : decode cX9_labelChar 85 = .ok (.iload_n 2, 1) := by decide +kernel
theorem dX9_labelChar_86 : decode cX9_labelChar 86 = .ok (.bipush (-9), 2) := by decide +kernel
theorem dX9_labelChar_88 : decode cX9_labelChar 88 = .ok (.if_icmp .ne 7, 3) := by decide +kernel
theorem dX9_labelChar_91 : decode cX9_labelChar 91 = .ok (.iconst 0, 1) := by decide +kernel
theorem dX9_labelChar_92 : decode cX9_labelChar 92 = .ok (.goto 4, 3) := by decide +kernel
theorem dX9_labelChar_95 : decode cX9_labelChar 95 = .ok (.iconst 1, 1) := by decide +kernel
theorem dX9_labelChar_96 : decode cX9_labelChar 96 = .ok (.iadd, 1) := by decide +kernel
theorem dX9_labelChar_97 : decode cX9_labelChar 97 = .ok (.putfield 90, 3) := by decide +kernel
theorem dX9_labelChar_100 : decode cX9_labelChar 100 = .ok (.iload_n 2, 1) := by decide +kernel
theorem dX9_labelChar_101 : decode cX9_labelChar 101 = .ok (.ireturn, 1) := by decide +kernel
set_option maxRecDepth 20000 in
theorem ggX9_errorPosition_X9_digit : GoodIn wsX9_errorPosition wsX9_digit := goodIn_r _ [11, 2, 4, 5, 12, 13, 10, 14, 26, 27, 28, 29, 30, 31, 32, 33, 34, 35, 36, 37, 38, 39, 40, 41, 42, 43, 44, 45, 46] (by decide +kernel) (by decide +kernel)
set_option maxRecDepth 20000 in
theorem gX9_errorPosition_X9_digit : GoodIn wsX9_errorPosition (wsV RX9 101 RX9 yX9_digit wsX9_digit) := goodIn_app (goodIn_of _ (by decide +kernel)) ggX9_errorPosition_X9_digit
set_option maxRecDepth 20000 in
theorem ggX9_errorPosition_X9_labelChar : GoodIn wsX9_errorPosition wsX9_labelChar := goodIn_r _ [18, 2, 4, 5, 19, 20, 21, 22, 12, 13, 10, 14, 26, 27, 28, 29, 30, 31, 32, 33, 34, 35, 36, 37, 38, 39, 40, 41, 42, 43, 44, 45, 46] (by decide +kernel) (by decide +kernel)
set_option maxRecDepth 20000 in
theorem gX9_errorPosition_X9_labelChar : GoodIn wsX9_errorPosition (wsV RX9 108 RX9 yX9_labelChar wsX9_labelChar) := goodIn_app (goodIn_of _ (by decide +kernel)) ggX9_errorPosition_X9_labelChar
set_option maxRecDepth 20000 in
theorem ggX9_errorPosition_X9_put : GoodIn wsX9_errorPosition wsX9_put := goodIn_r _ [25] (by decide +kernel) (by decide +kernel)
set_option maxRecDepth 20000 in
theorem gX9_errorPosition_X9_put : GoodIn wsX9_errorPosition (va_wsS RX9 111 yX9_put wsX9_put) := goodIn_app (goodIn_of _ (by decide +kernel)) ggX9_errorPosition_X9_put
theorem dX9_errorPosition_0 : decode cX9_errorPosition 0 = .ok (.aload_n 0, 1) := by decide +kernel
theorem dX9_errorPosition_1 : decode cX9_errorPosition 1 = .ok (.iconst 0, 1) := by decide +kernel
theorem dX9_errorPosition_2 : decode cX9_errorPosition 2 = .ok (.putfield 54, 3) := by decide +kernel
theorem dX9_errorPosition_5 : decode cX9_errorPosition 5 = .ok (.aload_n 0, 1) := by decide +kernel
theorem dX9_errorPosition_6 : decode cX9_errorPosition 6 = .ok (.iconst 0, 1) := by decide +kernel
theorem dX9_errorPosition_7 : decode cX9_errorPosition 7 = .ok (.putfield 90, 3) := by decide +kernel
theorem dX9_errorPosition_10 : decode cX9_errorPosition 10 = .ok (.aload_n 0, 1) := by decide +kernel
theorem dX9_errorPosition_11 : decode cX9_errorPosition 11 = .ok (.getfield 13, 3) := by decide +kernel
theorem dX9_errorPosition_14 : decode cX9_errorPosition 14 = .ok (.iconst 0, 1) := by decide +kernel
theorem dX9_errorPosition_15 : decode cX9_errorPosition 15 = .ok (.iconst 0, 1) := by decide +kernel
theorem dX9_errorPosition_16 : decode cX9_errorPosition 16 = .ok (.iastore, 1) := by decide +kernel
theorem dX9_errorPosition_17 : decode cX9_errorPosition 17 = .ok (.aload_n 0, 1) := by decide +kernel
theorem dX9_errorPosition_18 : decode cX9_errorPosition 18 = .ok (.getfield 87, 3) := by decide +kernel
theorem dX9_errorPosition_21 : decode cX9_errorPosition 21 = .ok (.ifCond .eq 14, 3) := by decide +kernel
theorem dX9_errorPosition_24 : decode cX9_errorPosition 24 = .ok (.aload_n 0, 1) := by decide +kernel
theorem dX9_errorPosition_25 : decode cX9_errorPosition 25 = .ok (.getfield 7, 3) := by decide +kernel
theorem dX9_errorPosition_28 : decode cX9_errorPosition 28 = .ok (.iconst 0, 1) := by decide +kernel
theorem dX9_errorPosition_29 : decode cX9_errorPosition 29 = .ok (.iaload, 1) := by decide +kernel
theorem dX9_errorPosition_30 : decode cX9_errorPosition 30 = .ok (.bipush 68, 2) := by decide +kernel
theorem dX9_errorPosition_32 : decode cX9_errorPosition 32 = .ok (.if_icmp .eq 5, 3) := by decide +kernel
theorem dX9_errorPosition_35 : decode cX9_errorPosition 35 = .ok (.iconst 0, 1) := by decide +kernel
theorem dX9_errorPosition_36 : decode cX9_errorPosition 36 = .ok (.ireturn, 1) := by decide +kernel
theorem dX9_errorPosition_37 : decode cX9_errorPosition 37 = .ok (.aload_n 0, 1) := by decide +kernel
theorem dX9_errorPosition_38 : decode cX9_errorPosition 38 = .ok (.iconst 1, 1) := by decide +kernel
theorem dX9_errorPosition_39 : decode cX9_errorPosition 39 = .ok (.putfield 90, 3) := by decide +kernel
theorem dX9_errorPosition_42 : decode cX9_errorPosition 42 = .ok (.aload_n 0, 1) := by decide +kernel
theorem dX9_errorPosition_43 : decode cX9_errorPosition 43 = .ok (.aload_n 0, 1) := by decide +kernel
theorem dX9_errorPosition_44 : decode cX9_errorPosition 44 = .ok (.iconst 1, 1) := by decide +kernel
theorem dX9_errorPosition_45 : decode cX9_errorPosition 45 = .ok (.bipush 8, 2) := by decide +kernel
theorem dX9_errorPosition_47 : decode cX9_errorPosition 47 = .ok (.invokevirtual 101, 3) := by decide +kernel
theorem dX9_errorPosition_50 : decode cX9_errorPosition 50 = .ok (.putfield 105, 3) := by decide +kernel
theorem dX9_errorPosition_53 : decode cX9_errorPosition 53 = .ok (.aload_n 0, 1) := by decide +kernel
theorem dX9_errorPosition_54 : decode cX9_errorPosition 54 = .ok (.getfield 105, 3) := by decide +kernel
theorem dX9_errorPosition_57 : decode cX9_errorPosition 57 = .ok (.bipush (-9), 2) := by decide +kernel
theorem dX9_errorPosition_59 : decode cX9_errorPosition 59 = .ok (.if_icmp .ne 8, 3) := by decide +kernel
theorem dX9_errorPosition_62 : decode cX9_errorPosition 62 = .ok (.aload_n 0, 1) := by decide +kernel
theorem dX9_errorPosition_63 : decode cX9_errorPosition 63 = .ok (.getfield 90, 3) := by decide +kernel
theorem dX9_errorPosition_66 : decode cX9_errorPosition 66 = .ok (.ireturn, 1) := by decide +kernel
theorem dX9_errorPosition_67 : decode cX9_errorPosition 67 = .ok (.aload_n 0, 1) := by decide +kernel
theorem dX9_errorPosition_68 : decode cX9_errorPosition 68 = .ok (.getfield 90, 3) := by decide +kernel
theorem dX9_errorPosition_71 : decode cX9_errorPosition 71 = .ok (.aload_n 0, 1) := by decide +kernel
theorem dX9_errorPosition_72 : decode cX9_errorPosition 72 = .ok (.getfield 87, 3) := by decide +kernel
theorem dX9_errorPosition_75 : decode cX9_errorPosition 75 = .ok (.if_icmp .ge 94, 3) := by decide +kernel
theorem dX9_errorPosition_78 : decode cX9_errorPosition 78 = .ok (.aload_n 0, 1) := by decide +kernel
theorem dX9_errorPosition_79 : decode cX9_errorPosition 79 = .ok (.getfield 13, 3) := by decide +kernel
theorem dX9_errorPosition_82 : decode cX9_errorPosition 82 = .ok (.iconst 0, 1) := by decide +kernel
theorem dX9_errorPosition_83 : decode cX9_errorPosition 83 = .ok (.iaload, 1) := by decide +kernel
theorem dX9_errorPosition_84 : decode cX9_errorPosition 84 = .ok (.bipush 16, 2) := by decide +kernel
theorem dX9_errorPosition_86 : decode cX9_errorPosition 86 = .ok (.if_icmp .ne 8, 3) := by decide +kernel
theorem dX9_errorPosition_89 : decode cX9_errorPosition 89 = .ok (.bipush (-9), 2) := by decide +kernel
theorem dX9_errorPosition_91 : decode cX9_errorPosition 91 = .ok (.goto 14, 3) := by decide +kernel
theorem dX9_errorPosition_94 : decode cX9_errorPosition 94 = .ok (.aload_n 0, 1) := by decide +kernel
theorem dX9_errorPosition_95 : decode cX9_errorPosition 95 = .ok (.iconst 0, 1) := by decide +kernel
theorem dX9_errorPosition_96 : decode cX9_errorPosition 96 = .ok (.aload_n 0, 1) := by decide +kernel
theorem dX9_errorPosition_97 : decode cX9_errorPosition 97 = .ok (.getfield 105, 3) := by decide +kernel
theorem dX9_errorPosition_100 : decode cX9_errorPosition 100 = .ok (.iconst 1, 1) := by decide +kernel
theorem dX9_errorPosition_101 : decode cX9_errorPosition 101 = .ok (.isub, 1) := by decide +kernel
theorem dX9_errorPosition_102 : decode cX9_errorPosition 102 = .ok (.invokevirtual 101, 3) := by decide +kernel
theorem dX9_errorPosition_105 : decode cX9_errorPosition 105 = .ok (.istore_n 1, 1) := by decide +kernel
theorem dX9_errorPosition_106 : decode cX9_errorPosition 106 = .ok (.iload_n 1, 1) := by decide +kernel
theorem dX9_errorPosition_107 : decode cX9_errorPosition 107 = .ok (.bipush (-9), 2) := by decide +kernel
theorem dX9_errorPosition_109 : decode cX9_errorPosition 109 = .ok (.if_icmp .ne 8, 3) := by decide +kernel
theorem dX9_errorPosition_112 : decode cX9_errorPosition 112 = .ok (.bipush (-9), 2) := by decide +kernel
theorem dX9_errorPosition_114 : decode cX9_errorPosition 114 = .ok (.goto 14, 3) := by decide +kernel
theorem dX9_errorPosition_117 : decode cX9_errorPosition 117 = .ok (.aload_n 0, 1) := by decide +kernel
theorem dX9_errorPosition_118 : decode cX9_errorPosition 118 = .ok (.iconst 0, 1) := by decide +kernel
theorem dX9_errorPosition_119 : decode cX9_errorPosition 119 = .ok (.aload_n 0, 1) := by decide +kernel
theorem dX9_errorPosition_120 : decode cX9_errorPosition 120 = .ok (.getfield 105, 3) := by decide +kernel
theorem dX9_errorPosition_123 : decode cX9_errorPosition 123 = .ok (.iconst 1, 1) := by decide +kernel
theorem dX9_errorPosition_124 : decode cX9_errorPosition 124 = .ok (.isub, 1) := by decide +kernel
theorem dX9_errorPosition_125 : decode cX9_errorPosition 125 = .ok (.invokevirtual 101, 3) := by decide +kernel
theorem dX9_errorPosition_128 : decode cX9_errorPosition 128 = .ok (.istore_n 2, 1) := by decide +kernel
theorem dX9_errorPosition_129 : decode cX9_errorPosition 129 = .ok (.iload_n 2, 1) := by decide +kernel
theorem dX9_errorPosition_130 : decode cX9_errorPosition 130 = .ok (.bipush (-9), 2) := by decide +kernel
theorem dX9_errorPosition_132 : decode cX9_errorPosition 132 = .ok (.if_icmp .ne 8, 3) := by decide +kernel
theorem dX9_errorPosition_135 : decode cX9_errorPosition 135 = .ok (.bipush (-9), 2) := by decide +kernel
theorem dX9_errorPosition_137 : decode cX9_errorPosition 137 = .ok (.goto 7, 3) := by decide +kernel
theorem dX9_errorPosition_140 : decode cX9_errorPosition 140 = .ok (.aload_n 0, 1) := by decide +kernel
theorem dX9_errorPosition_141 : decode cX9_errorPosition 141 = .ok (.invokevirtual 108, 3) := by decide +kernel
theorem dX9_errorPosition_144 : decode cX9_errorPosition 144 = .ok (.istore_n 3, 1) := by decide +kernel
theorem dX9_errorPosition_145 : decode cX9_errorPosition 145 = .ok (.iload_n 3, 1) := by decide +kernel
theorem dX9_errorPosition_146 : decode cX9_errorPosition 146 = .ok (.bipush (-9), 2) := by decide +kernel
theorem dX9_errorPosition_148 : decode cX9_errorPosition 148 = .ok (.if_icmp .ne 8, 3) := by decide +kernel
theorem dX9_errorPosition_151 : decode cX9_errorPosition 151 = .ok (.aload_n 0, 1) := by decide +kernel
theorem dX9_errorPosition_152 : decode cX9_errorPosition 152 = .ok (.getfield 90, 3) := by decide +kernel
theorem dX9_errorPosition_155 : decode cX9_errorPosition 155 = .ok (.ireturn, 1) := by decide +kernel
theorem dX9_errorPosition_156 : decode cX9_errorPosition 156 = .ok (.aload_n 0, 1) := by decide +kernel
theorem dX9_errorPosition_157 : decode cX9_errorPosition 157 = .ok (.getfield 13, 3) := by decide +kernel
theorem dX9_errorPosition_160 : decode cX9_errorPosition 160 = .ok (.iload_n 1, 1) := by decide +kernel
theorem dX9_errorPosition_161 : decode cX9_errorPosition 161 = .ok (.iload_n 2, 1) := by decide +kernel
theorem dX9_errorPosition_162 : decode cX9_errorPosition 162 = .ok (.iload_n 3, 1) := by decide +kernel
theorem dX9_errorPosition_163 : decode cX9_errorPosition 163 = .ok (.invokestatic 111, 3) := by decide +kernel
theorem dX9_errorPosition_166 : decode cX9_errorPosition 166 = .ok (.goto (-99), 3) := by decide +kernel
theorem dX9_errorPosition_169 : decode cX9_errorPosition 169 = .ok (.bipush (-9), 2) := by decide +kernel
theorem dX9_errorPosition_171 : decode cX9_errorPosition 171 = .ok (.ireturn, 1) := by decide +kernel
theorem dX9_put_0 : decode cX9_put 0 = .ok (.iconst 1, 1) := by decide +kernel
theorem dX9_put_1 : decode cX9_put 1 = .ok (.iconst 3, 1) := by decide +kernel
theorem dX9_put_2 : decode cX9_put 2 = .ok (.aload_n 0, 1) := by decide +kernel
theorem dX9_put_3 : decode cX9_put 3 = .ok (.iconst 0, 1) := by decide +kernel
theorem dX9_put_4 : decode cX9_put 4 = .ok (.iaload, 1) := by decide +kernel
theorem dX9_put_5 : decode cX9_put 5 = .ok (.imul, 1) := by decide +kernel
theorem dX9_put_6 : decode cX9_put 6 = .ok (.iadd, 1) := by decide +kernel
theorem dX9_put_7 : decode cX9_put 7 = .ok (.istore 4, 2) := by decide +kernel
theorem dX9_put_9 : decode cX9_put 9 = .ok (.aload_n 0, 1) := by decide +kernel
theorem dX9_put_10 : decode cX9_put 10 = .ok (.iload 4, 2) := by decide +kernel
theorem dX9_put_12 : decode cX9_put 12 = .ok (.iload_n 1, 1) := by decide +kernel
theorem dX9_put_13 : decode cX9_put 13 = .ok (.iastore, 1) := by decide +kernel
theorem dX9_put_14 : decode cX9_put 14 = .ok (.aload_n 0, 1) := by decide +kernel
theorem dX9_put_15 : decode cX9_put 15 = .ok (.iload 4, 2) := by decide +kernel
theorem dX9_put_17 : decode cX9_put 17 = .ok (.iconst 1, 1) := by decide +kernel
theorem dX9_put_18 : decode cX9_put 18 = .ok (.iadd, 1) := by decide +kernel
theorem dX9_put_19 : decode cX9_put 19 = .ok (.iload_n 2, 1) := by decide +kernel
theorem dX9_put_20 : decode cX9_put 20 = .ok (.iastore, 1) := by decide +kernel
theorem dX9_put_21 : decode cX9_put 21 = .ok (.aload_n 0, 1) := by decide +kernel
theorem dX9_put_22 : decode cX9_put 22 = .ok (.iload 4, 2) := by decide +kernel
theorem dX9_put_24 : decode cX9_put 24 = .ok (.iconst 2, 1) := by decide +kernel
theorem dX9_put_25 : decode cX9_put 25 = .ok (.iadd, 1) := by decide +kernel
theorem dX9_put_26 : decode cX9_put 26 = .ok (.iload_n 3, 1) := by decide +kernel
theorem dX9_put_27 : decode cX9_put 27 = .ok (.iastore, 1) := by decide +kernel
theorem dX9_put_28 : decode cX9_put 28 = .ok (.aload_n 0, 1) := by decide +kernel
theorem dX9_put_29 : decode cX9_put 29 = .ok (.iconst 0, 1) := by decide +kernel
theorem dX9_put_30 : decode cX9_put 30 = .ok (.dup2, 1) := by decide +kernel
theorem dX9_put_31 : decode cX9_put 31 = .ok (.iaload, 1) := by decide +kernel
theorem dX9_put_32 : decode cX9_put 32 = .ok (.iconst 1, 1) := by decide +kernel
theorem dX9_put_33 : decode cX9_put 33 = .ok (.iadd, 1) := by decide +kernel
theorem dX9_put_34 : decode cX9_put 34 = .ok (.iastore, 1) := by decide +kernel
theorem dX9_put_35 : decode cX9_put 35 = .ok (.return_, 1) := by decide +kernel
theorem dX9_drop_0 : decode cX9_drop 0 = .ok (.iconst 1, 1) := by decide +kernel
theorem dX9_drop_1 : decode cX9_drop 1 = .ok (.iconst 3, 1) := by decide +kernel
theorem dX9_drop_2 : decode cX9_drop 2 = .ok (.iload_n 1, 1) := by decide +kernel
theorem dX9_drop_3 : decode cX9_drop 3 = .ok (.imul, 1) := by decide +kernel
theorem dX9_drop_4 : decode cX9_drop 4 = .ok (.iadd, 1) := by decide +kernel
theorem dX9_drop_5 : decode cX9_drop 5 = .ok (.istore_n 2, 1) := by decide +kernel
theorem dX9_drop_6 : decode cX9_drop 6 = .ok (.iload_n 2, 1) := by decide +kernel
theorem dX9_drop_7 : decode cX9_drop 7 = .ok (.iconst 3, 1) := by decide +kernel
theorem dX9_drop_8 : decode cX9_drop 8 = .ok (.iadd, 1) := by decide +kernel
theorem dX9_drop_9 : decode cX9_drop 9 = .ok (.bipush 49, 2) := by decide +kernel
theorem dX9_drop_11 : decode cX9_drop 11 = .ok (.if_icmp .ge 17, 3) := by decide +kernel
theorem dX9_drop_14 : decode cX9_drop 14 = .ok (.aload_n 0, 1) := by decide +kernel
theorem dX9_drop_15 : decode cX9_drop 15 = .ok (.iload_n 2, 1) := by decide +kernel
theorem dX9_drop_16 : decode cX9_drop 16 = .ok (.aload_n 0, 1) := by decide +kernel
theorem dX9_drop_17 : decode cX9_drop 17 = .ok (.iload_n 2, 1) := by decide +kernel
theorem dX9_drop_18 : decode cX9_drop 18 = .ok (.iconst 3, 1) := by decide +kernel
theorem dX9_drop_19 : decode cX9_drop 19 = .ok (.iadd, 1) := by decide +kernel
theorem dX9_drop_20 : decode cX9_drop 20 = .ok (.iaload, 1) := by decide +kernel
theorem dX9_drop_21 : decode cX9_drop 21 = .ok (.iastore, 1) := by decide +kernel
theorem dX9_drop_22 : decode cX9_drop 22 = .ok (.iinc 2 1, 3) := by decide +kernel
theorem dX9_drop_25 : decode cX9_drop 25 = .ok (.goto (-19), 3) := by decide +kernel
theorem dX9_drop_28 : decode cX9_drop 28 = .ok (.aload_n 0, 1) := by decide +kernel
theorem dX9_drop_29 : decode cX9_drop 29 = .ok (.iconst 0, 1) := by decide +kernel
theorem dX9_drop_30 : decode cX9_drop 30 = .ok (.dup2, 1) := by decide +kernel
theorem dX9_drop_31 : decode cX9_drop 31 = .ok (.iaload, 1) := by decide +kernel
theorem dX9_drop_32 : decode cX9_drop 32 = .ok (.iconst 1, 1) := by decide +kernel
theorem dX9_drop_33 : decode cX9_drop 33 = .ok (.isub, 1) := by decide +kernel
theorem dX9_drop_34 : decode cX9_drop 34 = .ok (.iastore, 1) := by decide +kernel
theorem dX9_drop_35 : decode cX9_drop 35 = .ok (.return_, 1) := by decide +kernel
set_option maxRecDepth 20000 in
theorem ggX9_load_X9_errorPosition : GoodIn wsX9_load wsX9_errorPosition := goodIn_r _ [12, 1, 13, 4, 14, 15, 2, 16, 17, 18, 11, 19, 20, 21, 22, 23, 24, 25, 26, 27, 28, 29, 30, 31, 32, 33, 37, 38, 39, 40, 41, 42, 43, 44, 45, 46, 47, 48, 49, 50, 51, 52, 53, 54, 55, 56, 57] (by decide +kernel) (by decide +kernel)
set_option maxRecDepth 20000 in
theorem gX9_load_X9_errorPosition : GoodIn wsX9_load (wsV RX9 115 RX9 yX9_errorPosition wsX9_errorPosition) := goodIn_app (goodIn_of _ (by decide +kernel)) ggX9_load_X9_errorPosition
set_option maxRecDepth 20000 in
theorem ggX9_load_X9_assign : GoodIn wsX9_load wsX9_assign := goodIn_r _ [36] (by decide +kernel) (by decide +kernel)
set_option maxRecDepth 20000 in
theorem gX9_load_X9_assign : GoodIn wsX9_load (va_wsS RX9 118 yX9_assign wsX9_assign) := goodIn_app (goodIn_of _ (by decide +kernel)) ggX9_load_X9_assign
theorem dX9_load_0 : decode cX9_load 0 = .ok (.aload_n 0, 1) := by decide +kernel
theorem dX9_load_1 : decode cX9_load 1 = .ok (.iconst 0, 1) := by decide +kernel
theorem dX9_load_2 : decode cX9_load 2 = .ok (.putfield 54, 3) := by decide +kernel
theorem dX9_load_5 : decode cX9_load 5 = .ok (.aload_n 0, 1) := by decide +kernel
theorem dX9_load_6 : decode cX9_load 6 = .ok (.invokevirtual 115, 3) := by decide +kernel
theorem dX9_load_9 : decode cX9_load 9 = .ok (.bipush (-9), 2) := by decide +kernel
theorem dX9_load_11 : decode cX9_load 11 = .ok (.if_icmp .eq 6, 3) := by decide +kernel
theorem dX9_load_14 : decode cX9_load 14 = .ok (.bipush (-3), 2) := by decide +kernel
theorem dX9_load_16 : decode cX9_load 16 = .ok (.ireturn, 1) := by decide +kernel
theorem dX9_load_17 : decode cX9_load 17 = .ok (.aload_n 0, 1) := by decide +kernel
theorem dX9_load_18 : decode cX9_load 18 = .ok (.aload_n 0, 1) := by decide +kernel
theorem dX9_load_19 : decode cX9_load 19 = .ok (.getfield 105, 3) := by decide +kernel
theorem dX9_load_22 : decode cX9_load 22 = .ok (.putfield 16, 3) := by decide +kernel
theorem dX9_load_25 : decode cX9_load 25 = .ok (.aload_n 0, 1) := by decide +kernel
theorem dX9_load_26 : decode cX9_load 26 = .ok (.getfield 13, 3) := by decide +kernel
theorem dX9_load_29 : decode cX9_load 29 = .ok (.aload_n 0, 1) := by decide +kernel
theorem dX9_load_30 : decode cX9_load 30 = .ok (.getfield 20, 3) := by decide +kernel
theorem dX9_load_33 : decode cX9_load 33 = .ok (.invokestatic 118, 3) := by decide +kernel
theorem dX9_load_36 : decode cX9_load 36 = .ok (.aload_n 0, 1) := by decide +kernel
theorem dX9_load_37 : decode cX9_load 37 = .ok (.iconst 0, 1) := by decide +kernel
theorem dX9_load_38 : decode cX9_load 38 = .ok (.putfield 122, 3) := by decide +kernel
theorem dX9_load_41 : decode cX9_load 41 = .ok (.aload_n 0, 1) := by decide +kernel
theorem dX9_load_42 : decode cX9_load 42 = .ok (.getfield 32, 3) := by decide +kernel
theorem dX9_load_45 : decode cX9_load 45 = .ok (.iconst 0, 1) := by decide +kernel
theorem dX9_load_46 : decode cX9_load 46 = .ok (.iconst 0, 1) := by decide +kernel
theorem dX9_load_47 : decode cX9_load 47 = .ok (.bastore, 1) := by decide +kernel
theorem dX9_load_48 : decode cX9_load 48 = .ok (.aload_n 0, 1) := by decide +kernel
theorem dX9_load_49 : decode cX9_load 49 = .ok (.getfield 32, 3) := by decide +kernel
theorem dX9_load_52 : decode cX9_load 52 = .ok (.iconst 1, 1) := by decide +kernel
theorem dX9_load_53 : decode cX9_load 53 = .ok (.iconst 0, 1) := by decide +kernel
theorem dX9_load_54 : decode cX9_load 54 = .ok (.bastore, 1) := by decide +kernel
theorem dX9_load_55 : decode cX9_load 55 = .ok (.aload_n 0, 1) := by decide +kernel
theorem dX9_load_56 : decode cX9_load 56 = .ok (.getfield 20, 3) := by decide +kernel
theorem dX9_load_59 : decode cX9_load 59 = .ok (.iconst 0, 1) := by decide +kernel
theorem dX9_load_60 : decode cX9_load 60 = .ok (.iaload, 1) := by decide +kernel
theorem dX9_load_61 : decode cX9_load 61 = .ok (.ireturn, 1) := by decide +kernel
theorem dX9_vertexCount_0 : decode cX9_vertexCount 0 = .ok (.aload_n 0, 1) := by decide +kernel
theorem dX9_vertexCount_1 : decode cX9_vertexCount 1 = .ok (.iconst 0, 1) := by decide +kernel
theorem dX9_vertexCount_2 : decode cX9_vertexCount 2 = .ok (.putfield 54, 3) := by decide +kernel
theorem dX9_vertexCount_5 : decode cX9_vertexCount 5 = .ok (.aload_n 0, 1) := by decide +kernel
theorem dX9_vertexCount_6 : decode cX9_vertexCount 6 = .ok (.getfield 16, 3) := by decide +kernel
theorem dX9_vertexCount_9 : decode cX9_vertexCount 9 = .ok (.ireturn, 1) := by decide +kernel
theorem dX9_edgeCount_0 : decode cX9_edgeCount 0 = .ok (.aload_n 0, 1) := by decide +kernel
theorem dX9_edgeCount_1 : decode cX9_edgeCount 1 = .ok (.iconst 0, 1) := by decide +kernel
theorem dX9_edgeCount_2 : decode cX9_edgeCount 2 = .ok (.putfield 54, 3) := by decide +kernel
theorem dX9_edgeCount_5 : decode cX9_edgeCount 5 = .ok (.aload_n 0, 1) := by decide +kernel
theorem dX9_edgeCount_6 : decode cX9_edgeCount 6 = .ok (.getfield 20, 3) := by decide +kernel
theorem dX9_edgeCount_9 : decode cX9_edgeCount 9 = .ok (.iconst 0, 1) := by decide +kernel
theorem dX9_edgeCount_10 : decode cX9_edgeCount 10 = .ok (.iaload, 1) := by decide +kernel
theorem dX9_edgeCount_11 : decode cX9_edgeCount 11 = .ok (.ireturn, 1) := by decide +kernel
set_option maxRecDepth 20000 in
theorem ggX9_source_X9_noEdge : GoodIn wsX9_source wsX9_noEdge := goodIn_r _ [7, 2, 8, 9, 6, 10, 11, 12, 13, 14, 15, 16, 17, 18, 19, 20, 21, 22, 23, 24, 25, 26, 27, 28, 29, 30, 31] (by decide +kernel) (by decide +kernel)
set_option maxRecDepth 20000 in
theorem gX9_source_X9_noEdge : GoodIn wsX9_source (wsV RX9 125 RX9 yX9_noEdge wsX9_noEdge) := goodIn_app (goodIn_of _ (by decide +kernel)) ggX9_source_X9_noEdge
theorem dX9_source_0 : decode cX9_source 0 = .ok (.aload_n 0, 1) := by decide +kernel
theorem dX9_source_1 : decode cX9_source 1 = .ok (.iconst 0, 1) := by decide +kernel
theorem dX9_source_2 : decode cX9_source 2 = .ok (.putfield 54, 3) := by decide +kernel
theorem dX9_source_5 : decode cX9_source 5 = .ok (.aload_n 0, 1) := by decide +kernel
theorem dX9_source_6 : decode cX9_source 6 = .ok (.iload_n 1, 1) := by decide +kernel
theorem dX9_source_7 : decode cX9_source 7 = .ok (.invokevirtual 125, 3) := by decide +kernel
theorem dX9_source_10 : decode cX9_source 10 = .ok (.ifCond .eq 7, 3) := by decide +kernel
theorem dX9_source_13 : decode cX9_source 13 = .ok (.iconst (-1), 1) := by decide +kernel
theorem dX9_source_14 : decode cX9_source 14 = .ok (.goto 13, 3) := by decide +kernel
theorem dX9_source_17 : decode cX9_source 17 = .ok (.aload_n 0, 1) := by decide +kernel
theorem dX9_source_18 : decode cX9_source 18 = .ok (.getfield 20, 3) := by decide +kernel
theorem dX9_source_21 : decode cX9_source 21 = .ok (.iconst 1, 1) := by decide +kernel
theorem dX9_source_22 : decode cX9_source 22 = .ok (.iconst 3, 1) := by decide +kernel
theorem dX9_source_23 : decode cX9_source 23 = .ok (.iload_n 1, 1) := by decide +kernel
theorem dX9_source_24 : decode cX9_source 24 = .ok (.imul, 1) := by decide +kernel
theorem dX9_source_25 : decode cX9_source 25 = .ok (.iadd, 1) := by decide +kernel
theorem dX9_source_26 : decode cX9_source 26 = .ok (.iaload, 1) := by decide +kernel
theorem dX9_source_27 : decode cX9_source 27 = .ok (.ireturn, 1) := by decide +kernel
set_option maxRecDepth 20000 in
theorem ggX9_target_X9_noEdge : GoodIn wsX9_target wsX9_noEdge := goodIn_r _ [7, 2, 8, 9, 6, 10, 11, 12, 13, 14, 15, 16, 17, 18, 19, 20, 21, 22, 23, 24, 25, 26, 27, 28, 29, 30, 31] (by decide +kernel) (by decide +kernel)
set_option maxRecDepth 20000 in
theorem gX9_target_X9_noEdge : GoodIn wsX9_target (wsV RX9 125 RX9 yX9_noEdge wsX9_noEdge) := goodIn_app (goodIn_of _ (by decide +kernel)) ggX9_target_X9_noEdge
theorem dX9_target_0 : decode cX9_target 0 = .ok (.aload_n 0, 1) := by decide +kernel
theorem dX9_target_1 : decode cX9_target 1 = .ok (.iconst 0, 1) := by decide +kernel
theorem dX9_target_2 : decode cX9_target 2 = .ok (.putfield 54, 3) := by decide +kernel
theorem dX9_target_5 : decode cX9_target 5 = .ok (.aload_n 0, 1) := by decide +kernel
theorem dX9_target_6 : decode cX9_target 6 = .ok (.iload_n 1, 1) := by decide +kernel
theorem dX9_target_7 : decode cX9_target 7 = .ok (.invokevirtual 125, 3) := by decide +kernel
theorem dX9_target_10 : decode cX9_target 10 = .ok (.ifCond .eq 7, 3) := by decide +kernel
theorem dX9_target_13 : decode cX9_target 13 = .ok (.iconst (-1), 1) := by decide +kernel
theorem dX9_target_14 : decode cX9_target 14 = .ok (.goto 13, 3) := by decide +kernel
theorem dX9_target_17 : decode cX9_target 17 = .ok (.aload_n 0, 1) := by decide +kernel
theorem dX9_target_18 : decode cX9_target 18 = .ok (.getfield 20, 3) := by decide +kernel
theorem dX9_target_21 : decode cX9_target 21 = .ok (.iconst 2, 1) := by decide +kernel
theorem dX9_target_22 : decode cX9_target 22 = .ok (.iconst 3, 1) := by decide +kernel
theorem dX9_target_23 : decode cX9_target 23 = .ok (.iload_n 1, 1) := by decide +kernel
theorem dX9_target_24 : decode cX9_target 24 = .ok (.imul, 1) := by decide +kernel
theorem dX9_target_25 : decode cX9_target 25 = .ok (.iadd, 1) := by decide +kernel
theorem dX9_target_26 : decode cX9_target 26 = .ok (.iaload, 1) := by decide +kernel
theorem dX9_target_27 : decode cX9_target 27 = .ok (.ireturn, 1) := by decide +kernel
set_option maxRecDepth 20000 in
theorem ggX9_label_X9_noEdge : GoodIn wsX9_label wsX9_noEdge := goodIn_r _ [7, 2, 8, 9, 6, 10, 11, 12, 13, 14, 15, 16, 17, 18, 19, 20, 21, 22, 23, 24, 25, 26, 27, 28, 29, 30, 31] (by decide +kernel) (by decide +kernel)
set_option maxRecDepth 20000 in
theorem gX9_label_X9_noEdge : GoodIn wsX9_label (wsV RX9 125 RX9 yX9_noEdge wsX9_noEdge) := goodIn_app (goodIn_of _ (by decide +kernel)) ggX9_label_X9_noEdge
theorem dX9_label_0 : decode cX9_label 0 = .ok (.aload_n 0, 1) := by decide +kernel
theorem dX9_label_1 : decode cX9_label 1 = .ok (.iconst 0, 1) := by decide +kernel
theorem dX9_label_2 : decode cX9_label 2 = .ok (.putfield 54, 3) := by decide +kernel
theorem dX9_label_5 : decode cX9_label 5 = .ok (.aload_n 0, 1) := by decide +kernel
theorem dX9_label_6 : decode cX9_label 6 = .ok (.iload_n 1, 1) := by decide +kernel
theorem dX9_label_7 : decode cX9_label 7 = .ok (.invokevirtual 125, 3) := by decide +kernel
theorem dX9_label_10 : decode cX9_label 10 = .ok (.ifCond .eq 7, 3) := by decide +kernel
theorem dX9_label_13 : decode cX9_label 13 = .ok (.iconst (-1), 1) := by decide +kernel
theorem dX9_label_14 : decode cX9_label 14 = .ok (.goto 13, 3) := by decide +kernel
theorem dX9_label_17 : decode cX9_label 17 = .ok (.aload_n 0, 1) := by decide +kernel
theorem dX9_label_18 : decode cX9_label 18 = .ok (.getfield 20, 3) := by decide +kernel
theorem dX9_label_21 : decode cX9_label 21 = .ok (.iconst 3, 1) := by decide +kernel
theorem dX9_label_22 : decode cX9_label 22 = .ok (.iconst 3, 1) := by decide +kernel
theorem dX9_label_23 : decode cX9_label 23 = .ok (.iload_n 1, 1) := by decide +kernel
theorem dX9_label_24 : decode cX9_label 24 = .ok (.imul, 1) := by decide +kernel
theorem dX9_label_25 : decode cX9_label 25 = .ok (.iadd, 1) := by decide +kernel
theorem dX9_label_26 : decode cX9_label 26 = .ok (.iaload, 1) := by decide +kernel
theorem dX9_label_27 : decode cX9_label 27 = .ok (.ireturn, 1) := by decide +kernel
theorem dX9_remember_0 : decode cX9_remember 0 = .ok (.aload_n 0, 1) := by decide +kernel
theorem dX9_remember_1 : decode cX9_remember 1 = .ok (.getfield 122, 3) := by decide +kernel
theorem dX9_remember_4 : decode cX9_remember 4 = .ok (.bipush 14, 2) := by decide +kernel
theorem dX9_remember_6 : decode cX9_remember 6 = .ok (.if_icmp .ne 43, 3) := by decide +kernel
theorem dX9_remember_9 : decode cX9_remember 9 = .ok (.iconst 0, 1) := by decide +kernel
theorem dX9_remember_10 : decode cX9_remember 10 = .ok (.istore_n 1, 1) := by decide +kernel
theorem dX9_remember_11 : decode cX9_remember 11 = .ok (.iload_n 1, 1) := by decide +kernel
theorem dX9_remember_12 : decode cX9_remember 12 = .ok (.sipush 637, 3) := by decide +kernel
theorem dX9_remember_15 : decode cX9_remember 15 = .ok (.if_icmp .ge 24, 3) := by decide +kernel
theorem dX9_remember_18 : decode cX9_remember 18 = .ok (.aload_n 0, 1) := by decide +kernel
theorem dX9_remember_19 : decode cX9_remember 19 = .ok (.getfield 26, 3) := by decide +kernel
theorem dX9_remember_22 : decode cX9_remember 22 = .ok (.iload_n 1, 1) := by decide +kernel
theorem dX9_remember_23 : decode cX9_remember 23 = .ok (.aload_n 0, 1) := by decide +kernel
theorem dX9_remember_24 : decode cX9_remember 24 = .ok (.getfield 26, 3) := by decide +kernel
theorem dX9_remember_27 : decode cX9_remember 27 = .ok (.iload_n 1, 1) := by decide +kernel
theorem dX9_remember_28 : decode cX9_remember 28 = .ok (.bipush 49, 2) := by decide +kernel
theorem dX9_remember_30 : decode cX9_remember 30 = .ok (.iadd, 1) := by decide +kernel
theorem dX9_remember_31 : decode cX9_remember 31 = .ok (.iaload, 1) := by decide +kernel
theorem dX9_remember_32 : decode cX9_remember 32 = .ok (.iastore, 1) := by decide +kernel
theorem dX9_remember_33 : decode cX9_remember 33 = .ok (.iinc 1 1, 3) := by decide +kernel
theorem dX9_remember_36 : decode cX9_remember 36 = .ok (.goto (-25), 3) := by decide +kernel
theorem dX9_remember_39 : decode cX9_remember 39 = .ok (.aload_n 0, 1) := by decide +kernel
theorem dX9_remember_40 : decode cX9_remember 40 = .ok (.dup, 1) := by decide +kernel
theorem dX9_remember_41 : decode cX9_remember 41 = .ok (.getfield 122, 3) := by decide +kernel
theorem dX9_remember_44 : decode cX9_remember 44 = .ok (.iconst 1, 1) := by decide +kernel
theorem dX9_remember_45 : decode cX9_remember 45 = .ok (.isub, 1) := by decide +kernel
theorem dX9_remember_46 : decode cX9_remember 46 = .ok (.putfield 122, 3) := by decide +kernel
theorem dX9_remember_49 : decode cX9_remember 49 = .ok (.iconst 0, 1) := by decide +kernel
theorem dX9_remember_50 : decode cX9_remember 50 = .ok (.istore_n 1, 1) := by decide +kernel
theorem dX9_remember_51 : decode cX9_remember 51 = .ok (.iload_n 1, 1) := by decide +kernel
theorem dX9_remember_52 : decode cX9_remember 52 = .ok (.bipush 49, 2) := by decide +kernel
theorem dX9_remember_54 : decode cX9_remember 54 = .ok (.if_icmp .ge 29, 3) := by decide +kernel
theorem dX9_remember_57 : decode cX9_remember 57 = .ok (.aload_n 0, 1) := by decide +kernel
theorem dX9_remember_58 : decode cX9_remember 58 = .ok (.getfield 26, 3) := by decide +kernel
theorem dX9_remember_61 : decode cX9_remember 61 = .ok (.bipush 49, 2) := by decide +kernel
theorem dX9_remember_63 : decode cX9_remember 63 = .ok (.aload_n 0, 1) := by decide +kernel
theorem dX9_remember_64 : decode cX9_remember 64 = .ok (.getfield 122, 3) := by decide +kernel
theorem dX9_remember_67 : decode cX9_remember 67 = .ok (.imul, 1) := by decide +kernel
theorem dX9_remember_68 : decode cX9_remember 68 = .ok (.iload_n 1, 1) := by decide +kernel
theorem dX9_remember_69 : decode cX9_remember 69 = .ok (.iadd, 1) := by decide +kernel
theorem dX9_remember_70 : decode cX9_remember 70 = .ok (.aload_n 0, 1) := by decide +kernel
theorem dX9_remember_71 : decode cX9_remember 71 = .ok (.getfield 20, 3) := by decide +kernel
theorem dX9_remember_74 : decode cX9_remember 74 = .ok (.iload_n 1, 1) := by decide +kernel
theorem dX9_remember_75 : decode cX9_remember 75 = .ok (.iaload, 1) := by decide +kernel
theorem dX9_remember_76 : decode cX9_remember 76 = .ok (.iastore, 1) := by decide +kernel
theorem dX9_remember_77 : decode cX9_remember 77 = .ok (.iinc 1 1, 3) := by decide +kernel
theorem dX9_remember_80 : decode cX9_remember 80 = .ok (.goto (-29), 3) := by decide +kernel
theorem dX9_remember_83 : decode cX9_remember 83 = .ok (.aload_n 0, 1) := by decide +kernel
theorem dX9_remember_84 : decode cX9_remember 84 = .ok (.dup, 1) := by decide +kernel
theorem dX9_remember_85 : decode cX9_remember 85 = .ok (.getfield 122, 3) := by decide +kernel
theorem dX9_remember_88 : decode cX9_remember 88 = .ok (.iconst 1, 1) := by decide +kernel
theorem dX9_remember_89 : decode cX9_remember 89 = .ok (.iadd, 1) := by decide +kernel
theorem dX9_remember_90 : decode cX9_remember 90 = .ok (.putfield 122, 3) := by decide +kernel
theorem dX9_remember_93 : decode cX9_remember 93 = .ok (.return_, 1) := by decide +kernel
set_option maxRecDepth 20000 in
theorem ggX9_addEdge_X9_noVertex : GoodIn wsX9_addEdge wsX9_noVertex := goodIn_r _ [8, 9, 10, 11, 7, 12, 22, 23, 24, 25, 26, 27, 28, 29, 30, 31, 32, 33, 34, 35, 36, 37, 38, 39, 40, 41, 42] (by decide +kernel) (by decide +kernel)
set_option maxRecDepth 20000 in
theorem gX9_addEdge_X9_noVertex : GoodIn wsX9_addEdge (wsV RX9 129 RX9 yX9_noVertex wsX9_noVertex) := goodIn_app (goodIn_of _ (by decide +kernel)) ggX9_addEdge_X9_noVertex
set_option maxRecDepth 20000 in
theorem ggX9_addEdge_X9_in : GoodIn wsX9_addEdge wsX9_in := goodIn_r _ [12] (by decide +kernel) (by decide +kernel)
set_option maxRecDepth 20000 in
theorem gX9_addEdge_X9_in : GoodIn wsX9_addEdge (va_wsS RX9 57 yX9_in wsX9_in) := goodIn_app (goodIn_of _ (by decide +kernel)) ggX9_addEdge_X9_in
set_option maxRecDepth 20000 in
theorem ggX9_addEdge_X9_remember : GoodIn wsX9_addEdge wsX9_remember := goodIn_r _ [16, 17, 18, 3, 22, 23, 24, 25, 26, 27, 28, 29, 30, 31, 32, 33, 34, 35, 36, 37, 38, 39, 40, 41, 42] (by decide +kernel) (by decide +kernel)
set_option maxRecDepth 20000 in
theorem gX9_addEdge_X9_remember : GoodIn wsX9_addEdge (wsV RX9 134 RX9 yX9_remember wsX9_remember) := goodIn_app (goodIn_of _ (by decide +kernel)) ggX9_addEdge_X9_remember
set_option maxRecDepth 20000 in
theorem ggX9_addEdge_X9_put : GoodIn wsX9_addEdge wsX9_put := goodIn_r _ [21] (by decide +kernel) (by decide +kernel)
set_option maxRecDepth 20000 in
theorem gX9_addEdge_X9_put : GoodIn wsX9_addEdge (va_wsS RX9 111 yX9_put wsX9_put) := goodIn_app (goodIn_of _ (by decide +kernel)) ggX9_addEdge_X9_put
theorem dX9_addEdge_0 : decode cX9_addEdge 0 = .ok (.aload_n 0, 1) := by decide +kernel
theorem dX9_addEdge_1 : decode cX9_addEdge 1 = .ok (.iconst 0, 1) := by decide +kernel
theorem dX9_addEdge_2 : decode cX9_addEdge 2 = .ok (.putfield 54, 3) := by decide +kernel
theorem dX9_addEdge_5 : decode cX9_addEdge 5 = .ok (.aload_n 0, 1) := by decide +kernel
theorem dX9_addEdge_6 : decode cX9_addEdge 6 = .ok (.iload_n 1, 1) := by decide +kernel
theorem dX9_addEdge_7 : decode cX9_addEdge 7 = .ok (.invokevirtual 129, 3) := by decide +kernel
theorem dX9_addEdge_10 : decode cX9_addEdge 10 = .ok (.ifCond .ne 11, 3) := by decide +kernel
theorem dX9_addEdge_13 : decode cX9_addEdge 13 = .ok (.aload_n 0, 1) := by decide +kernel
theorem dX9_addEdge_14 : decode cX9_addEdge 14 = .ok (.iload_n 2, 1) := by decide +kernel
theorem dX9_addEdge_15 : decode cX9_addEdge 15 = .ok (.invokevirtual 129, 3) := by decide +kernel
theorem dX9_addEdge_18 : decode cX9_addEdge 18 = .ok (.ifCond .eq 5, 3) := by decide +kernel
theorem dX9_addEdge_21 : decode cX9_addEdge 21 = .ok (.iconst (-1), 1) := by decide +kernel
theorem dX9_addEdge_22 : decode cX9_addEdge 22 = .ok (.ireturn, 1) := by decide +kernel
theorem dX9_addEdge_23 : decode cX9_addEdge 23 = .ok (.iload_n 3, 1) := by decide +kernel
theorem dX9_addEdge_24 : decode cX9_addEdge 24 = .ok (.i2l, 1) := by decide +kernel
theorem dX9_addEdge_25 : decode cX9_addEdge 25 = .ok (.lconst 0, 1) := by decide +kernel
theorem dX9_addEdge_26 : decode cX9_addEdge 26 = .ok (.ldc2_w 132, 3) := by decide +kernel
theorem dX9_addEdge_29 : decode cX9_addEdge 29 = .ok (.invokestatic 57, 3) := by decide +kernel
theorem dX9_addEdge_32 : decode cX9_addEdge 32 = .ok (.ifCond .ne 6, 3) := by decide +kernel
theorem dX9_addEdge_35 : decode cX9_addEdge 35 = .ok (.bipush (-2), 2) := by decide +kernel
theorem dX9_addEdge_37 : decode cX9_addEdge 37 = .ok (.ireturn, 1) := by decide +kernel
theorem dX9_addEdge_38 : decode cX9_addEdge 38 = .ok (.aload_n 0, 1) := by decide +kernel
theorem dX9_addEdge_39 : decode cX9_addEdge 39 = .ok (.getfield 20, 3) := by decide +kernel
theorem dX9_addEdge_42 : decode cX9_addEdge 42 = .ok (.iconst 0, 1) := by decide +kernel
theorem dX9_addEdge_43 : decode cX9_addEdge 43 = .ok (.iaload, 1) := by decide +kernel
theorem dX9_addEdge_44 : decode cX9_addEdge 44 = .ok (.bipush 16, 2) := by decide +kernel
theorem dX9_addEdge_46 : decode cX9_addEdge 46 = .ok (.if_icmp .ne 6, 3) := by decide +kernel
theorem dX9_addEdge_49 : decode cX9_addEdge 49 = .ok (.bipush (-4), 2) := by decide +kernel
theorem dX9_addEdge_51 : decode cX9_addEdge 51 = .ok (.ireturn, 1) := by decide +kernel
theorem dX9_addEdge_52 : decode cX9_addEdge 52 = .ok (.aload_n 0, 1) := by decide +kernel
theorem dX9_addEdge_53 : decode cX9_addEdge 53 = .ok (.invokevirtual 134, 3) := by decide +kernel
theorem dX9_addEdge_56 : decode cX9_addEdge 56 = .ok (.aload_n 0, 1) := by decide +kernel
theorem dX9_addEdge_57 : decode cX9_addEdge 57 = .ok (.getfield 20, 3) := by decide +kernel
theorem dX9_addEdge_60 : decode cX9_addEdge 60 = .ok (.iload_n 1, 1) := by decide +kernel
theorem dX9_addEdge_61 : decode cX9_addEdge 61 = .ok (.iload_n 2, 1) := by decide +kernel
theorem dX9_addEdge_62 : decode cX9_addEdge 62 = .ok (.iload_n 3, 1) := by decide +kernel
theorem dX9_addEdge_63 : decode cX9_addEdge 63 = .ok (.invokestatic 111, 3) := by decide +kernel
theorem dX9_addEdge_66 : decode cX9_addEdge 66 = .ok (.aload_n 0, 1) := by decide +kernel
theorem dX9_addEdge_67 : decode cX9_addEdge 67 = .ok (.getfield 20, 3) := by decide +kernel
theorem dX9_addEdge_70 : decode cX9_addEdge 70 = .ok (.iconst 0, 1) := by decide +kernel
theorem dX9_addEdge_71 : decode cX9_addEdge 71 = .ok (.iaload, 1) := by decide +kernel
theorem dX9_addEdge_72 : decode cX9_addEdge 72 = .ok (.iconst 1, 1) := by decide +kernel
theorem dX9_addEdge_73 : decode cX9_addEdge 73 = .ok (.isub, 1) := by decide +kernel
theorem dX9_addEdge_74 : decode cX9_addEdge 74 = .ok (.ireturn, 1) := by decide +kernel
set_option maxRecDepth 20000 in
theorem ggX9_removeEdge_X9_noEdge : GoodIn wsX9_removeEdge wsX9_noEdge := goodIn_r _ [7, 2, 8, 9, 6, 10, 20, 21, 22, 23, 24, 25, 26, 27, 28, 29, 30, 31, 32, 33, 34, 35, 36, 37, 38, 39, 40] (by decide +kernel) (by decide +kernel)
set_option maxRecDepth 20000 in
theorem gX9_removeEdge_X9_noEdge : GoodIn wsX9_removeEdge (wsV RX9 125 RX9 yX9_noEdge wsX9_noEdge) := goodIn_app (goodIn_of _ (by decide +kernel)) ggX9_removeEdge_X9_noEdge
set_option maxRecDepth 20000 in
theorem ggX9_removeEdge_X9_remember : GoodIn wsX9_removeEdge wsX9_remember := goodIn_r _ [14, 15, 16, 2, 20, 21, 22, 23, 24, 25, 26, 27, 28, 29, 30, 31, 32, 33, 34, 35, 36, 37, 38, 39, 40] (by decide +kernel) (by decide +kernel)
set_option maxRecDepth 20000 in
theorem gX9_removeEdge_X9_remember : GoodIn wsX9_removeEdge (wsV RX9 134 RX9 yX9_remember wsX9_remember) := goodIn_app (goodIn_of _ (by decide +kernel)) ggX9_removeEdge_X9_remember
set_option maxRecDepth 20000 in
theorem ggX9_removeEdge_X9_drop : GoodIn wsX9_removeEdge wsX9_drop := goodIn_r _ [19] (by decide +kernel) (by decide +kernel)
set_option maxRecDepth 20000 in
theorem gX9_removeEdge_X9_drop : GoodIn wsX9_removeEdge (va_wsS RX9 137 yX9_drop wsX9_drop) := goodIn_app (goodIn_of _ (by decide +kernel)) ggX9_removeEdge_X9_drop
theorem dX9_removeEdge_0 : decode cX9_removeEdge 0 = .ok (.aload_n 0, 1) := by decide +kernel
theorem dX9_removeEdge_1 : decode cX9_removeEdge 1 = .ok (.iconst 0, 1) := by decide +kernel
theorem dX9_removeEdge_2 : decode cX9_removeEdge 2 = .ok (.putfield 54, 3) := by decide +kernel
theorem dX9_removeEdge_5 : decode cX9_removeEdge 5 = .ok (.aload_n 0, 1) := by decide +kernel
theorem dX9_removeEdge_6 : decode cX9_removeEdge 6 = .ok (.iload_n 1, 1) := by decide +kernel
theorem dX9_removeEdge_7 : decode cX9_removeEdge 7 = .ok (.invokevirtual 125, 3) := by decide +kernel
theorem dX9_removeEdge_10 : decode cX9_removeEdge 10 = .ok (.ifCond .eq 5, 3) := by decide +kernel
theorem dX9_removeEdge_13 : decode cX9_removeEdge 13 = .ok (.iconst (-1), 1) := by decide +kernel
theorem dX9_removeEdge_14 : decode cX9_removeEdge 14 = .ok (.ireturn, 1) := by decide +kernel
theorem dX9_removeEdge_15 : decode cX9_removeEdge 15 = .ok (.aload_n 0, 1) := by decide +kernel
theorem dX9_removeEdge_16 : decode cX9_removeEdge 16 = .ok (.invokevirtual 134, 3) := by decide +kernel
theorem dX9_removeEdge_19 : decode cX9_removeEdge 19 = .ok (.aload_n 0, 1) := by decide +kernel
theorem dX9_removeEdge_20 : decode cX9_removeEdge 20 = .ok (.getfield 20, 3) := by decide +kernel
theorem dX9_removeEdge_23 : decode cX9_removeEdge 23 = .ok (.iload_n 1, 1) := by decide +kernel
theorem dX9_removeEdge_24 : decode cX9_removeEdge 24 = .ok (.invokestatic 137, 3) := by decide +kernel
theorem dX9_removeEdge_27 : decode cX9_removeEdge 27 = .ok (.aload_n 0, 1) := by decide +kernel
theorem dX9_removeEdge_28 : decode cX9_removeEdge 28 = .ok (.getfield 20, 3) := by decide +kernel
theorem dX9_removeEdge_31 : decode cX9_removeEdge 31 = .ok (.iconst 0, 1) := by decide +kernel
theorem dX9_removeEdge_32 : decode cX9_removeEdge 32 = .ok (.iaload, 1) := by decide +kernel
theorem dX9_removeEdge_33 : decode cX9_removeEdge 33 = .ok (.ireturn, 1) := by decide +kernel
set_option maxRecDepth 20000 in
theorem ggX9_setLabel_X9_noEdge : GoodIn wsX9_setLabel wsX9_noEdge := goodIn_r _ [8, 3, 9, 10, 7, 11, 18, 19, 20, 21, 22, 23, 24, 25, 26, 27, 28, 29, 30, 31, 32, 33, 34, 35, 36, 37, 38] (by decide +kernel) (by decide +kernel)
set_option maxRecDepth 20000 in
theorem gX9_setLabel_X9_noEdge : GoodIn wsX9_setLabel (wsV RX9 125 RX9 yX9_noEdge wsX9_noEdge) := goodIn_app (goodIn_of _ (by decide +kernel)) ggX9_setLabel_X9_noEdge
set_option maxRecDepth 20000 in
theorem ggX9_setLabel_X9_in : GoodIn wsX9_setLabel wsX9_in := goodIn_r _ [11] (by decide +kernel) (by decide +kernel)
set_option maxRecDepth 20000 in
theorem gX9_setLabel_X9_in : GoodIn wsX9_setLabel (va_wsS RX9 57 yX9_in wsX9_in) := goodIn_app (goodIn_of _ (by decide +kernel)) ggX9_setLabel_X9_in
set_option maxRecDepth 20000 in
theorem ggX9_setLabel_X9_remember : GoodIn wsX9_setLabel wsX9_remember := goodIn_r _ [15, 16, 17, 3, 18, 19, 20, 21, 22, 23, 24, 25, 26, 27, 28, 29, 30, 31, 32, 33, 34, 35, 36, 37, 38] (by decide +kernel) (by decide +kernel)
set_option maxRecDepth 20000 in
theorem gX9_setLabel_X9_remember : GoodIn wsX9_setLabel (wsV RX9 134 RX9 yX9_remember wsX9_remember) := goodIn_app (goodIn_of _ (by decide +kernel)) ggX9_setLabel_X9_remember
theorem dX9_setLabel_0 : decode cX9_setLabel 0 = .ok (.aload_n 0, 1) := by decide +kernel
theorem dX9_setLabel_1 : decode cX9_setLabel 1 = .ok (.iconst 0, 1) := by decide +kernel
theorem dX9_setLabel_2 : decode cX9_setLabel 2 = .ok (.putfield 54, 3) := by decide +kernel
theorem dX9_setLabel_5 : decode cX9_setLabel 5 = .ok (.aload_n 0, 1) := by decide +kernel
theorem dX9_setLabel_6 : decode cX9_setLabel 6 = .ok (.iload_n 1, 1) := by decide +kernel
theorem dX9_setLabel_7 : decode cX9_setLabel 7 = .ok (.invokevirtual 125, 3) := by decide +kernel
theorem dX9_setLabel_10 : decode cX9_setLabel 10 = .ok (.ifCond .eq 5, 3) := by decide +kernel
theorem dX9_setLabel_13 : decode cX9_setLabel 13 = .ok (.iconst (-1), 1) := by decide +kernel
theorem dX9_setLabel_14 : decode cX9_setLabel 14 = .ok (.ireturn, 1) := by decide +kernel
theorem dX9_setLabel_15 : decode cX9_setLabel 15 = .ok (.iload_n 2, 1) := by decide +kernel
theorem dX9_setLabel_16 : decode cX9_setLabel 16 = .ok (.i2l, 1) := by decide +kernel
theorem dX9_setLabel_17 : decode cX9_setLabel 17 = .ok (.lconst 0, 1) := by decide +kernel
theorem dX9_setLabel_18 : decode cX9_setLabel 18 = .ok (.ldc2_w 132, 3) := by decide +kernel
theorem dX9_setLabel_21 : decode cX9_setLabel 21 = .ok (.invokestatic 57, 3) := by decide +kernel
theorem dX9_setLabel_24 : decode cX9_setLabel 24 = .ok (.ifCond .ne 6, 3) := by decide +kernel
theorem dX9_setLabel_27 : decode cX9_setLabel 27 = .ok (.bipush (-2), 2) := by decide +kernel
theorem dX9_setLabel_29 : decode cX9_setLabel 29 = .ok (.ireturn, 1) := by decide +kernel
theorem dX9_setLabel_30 : decode cX9_setLabel 30 = .ok (.aload_n 0, 1) := by decide +kernel
theorem dX9_setLabel_31 : decode cX9_setLabel 31 = .ok (.invokevirtual 134, 3) := by decide +kernel
theorem dX9_setLabel_34 : decode cX9_setLabel 34 = .ok (.aload_n 0, 1) := by decide +kernel
theorem dX9_setLabel_35 : decode cX9_setLabel 35 = .ok (.getfield 20, 3) := by decide +kernel
theorem dX9_setLabel_38 : decode cX9_setLabel 38 = .ok (.iconst 3, 1) := by decide +kernel
theorem dX9_setLabel_39 : decode cX9_setLabel 39 = .ok (.iconst 3, 1) := by decide +kernel
theorem dX9_setLabel_40 : decode cX9_setLabel 40 = .ok (.iload_n 1, 1) := by decide +kernel
theorem dX9_setLabel_41 : decode cX9_setLabel 41 = .ok (.imul, 1) := by decide +kernel
theorem dX9_setLabel_42 : decode cX9_setLabel 42 = .ok (.iadd, 1) := by decide +kernel
theorem dX9_setLabel_43 : decode cX9_setLabel 43 = .ok (.iaload, 1) := by decide +kernel
theorem dX9_setLabel_44 : decode cX9_setLabel 44 = .ok (.istore_n 3, 1) := by decide +kernel
theorem dX9_setLabel_45 : decode cX9_setLabel 45 = .ok (.aload_n 0, 1) := by decide +kernel
theorem dX9_setLabel_46 : decode cX9_setLabel 46 = .ok (.getfield 20, 3) := by decide +kernel
theorem dX9_setLabel_49 : decode cX9_setLabel 49 = .ok (.iconst 3, 1) := by decide +kernel
theorem dX9_setLabel_50 : decode cX9_setLabel 50 = .ok (.iconst 3, 1) := by decide +kernel
theorem dX9_setLabel_51 : decode cX9_setLabel 51 = .ok (.iload_n 1, 1) := by decide +kernel
theorem dX9_setLabel_52 : decode cX9_setLabel 52 = .ok (.imul, 1) := by decide +kernel
theorem dX9_setLabel_53 : decode cX9_setLabel 53 = .ok (.iadd, 1) := by decide +kernel
theorem dX9_setLabel_54 : decode cX9_setLabel 54 = .ok (.iload_n 2, 1) := by decide +kernel
theorem dX9_setLabel_55 : decode cX9_setLabel 55 = .ok (.iastore, 1) := by decide +kernel
theorem dX9_setLabel_56 : decode cX9_setLabel 56 = .ok (.iload_n 3, 1) := by decide +kernel
theorem dX9_setLabel_57 : decode cX9_setLabel 57 = .ok (.ireturn, 1) := by decide +kernel
theorem dX9_undo_0 : decode cX9_undo 0 = .ok (.aload_n 0, 1) := by decide +kernel
theorem dX9_undo_1 : decode cX9_undo 1 = .ok (.iconst 0, 1) := by decide +kernel
theorem dX9_undo_2 : decode cX9_undo 2 = .ok (.putfield 54, 3) := by decide +kernel
theorem dX9_undo_5 : decode cX9_undo 5 = .ok (.aload_n 0, 1) := by decide +kernel
theorem dX9_undo_6 : decode cX9_undo 6 = .ok (.getfield 122, 3) := by decide +kernel
theorem dX9_undo_9 : decode cX9_undo 9 = .ok (.ifCond .ne 6, 3) := by decide +kernel
theorem dX9_undo_12 : decode cX9_undo 12 = .ok (.bipush (-3), 2) := by decide +kernel
theorem dX9_undo_14 : decode cX9_undo 14 = .ok (.ireturn, 1) := by decide +kernel
theorem dX9_undo_15 : decode cX9_undo 15 = .ok (.aload_n 0, 1) := by decide +kernel
theorem dX9_undo_16 : decode cX9_undo 16 = .ok (.dup, 1) := by decide +kernel
theorem dX9_undo_17 : decode cX9_undo 17 = .ok (.getfield 122, 3) := by decide +kernel
theorem dX9_undo_20 : decode cX9_undo 20 = .ok (.iconst 1, 1) := by decide +kernel
theorem dX9_undo_21 : decode cX9_undo 21 = .ok (.isub, 1) := by decide +kernel
theorem dX9_undo_22 : decode cX9_undo 22 = .ok (.putfield 122, 3) := by decide +kernel
theorem dX9_undo_25 : decode cX9_undo 25 = .ok (.iconst 0, 1) := by decide +kernel
theorem dX9_undo_26 : decode cX9_undo 26 = .ok (.istore_n 1, 1) := by decide +kernel
theorem dX9_undo_27 : decode cX9_undo 27 = .ok (.iload_n 1, 1) := by decide +kernel
theorem dX9_undo_28 : decode cX9_undo 28 = .ok (.bipush 49, 2) := by decide +kernel
theorem dX9_undo_30 : decode cX9_undo 30 = .ok (.if_icmp .ge 29, 3) := by decide +kernel
theorem dX9_undo_33 : decode cX9_undo 33 = .ok (.aload_n 0, 1) := by decide +kernel
theorem dX9_undo_34 : decode cX9_undo 34 = .ok (.getfield 20, 3) := by decide +kernel
theorem dX9_undo_37 : decode cX9_undo 37 = .ok (.iload_n 1, 1) := by decide +kernel
theorem dX9_undo_38 : decode cX9_undo 38 = .ok (.aload_n 0, 1) := by decide +kernel
theorem dX9_undo_39 : decode cX9_undo 39 = .ok (.getfield 26, 3) := by decide +kernel
theorem dX9_undo_42 : decode cX9_undo 42 = .ok (.bipush 49, 2) := by decide +kernel
theorem dX9_undo_44 : decode cX9_undo 44 = .ok (.aload_n 0, 1) := by decide +kernel
theorem dX9_undo_45 : decode cX9_undo 45 = .ok (.getfield 122, 3) := by decide +kernel
theorem dX9_undo_48 : decode cX9_undo 48 = .ok (.imul, 1) := by decide +kernel
theorem dX9_undo_49 : decode cX9_undo 49 = .ok (.iload_n 1, 1) := by decide +kernel
theorem dX9_undo_50 : decode cX9_undo 50 = .ok (.iadd, 1) := by decide +kernel
theorem dX9_undo_51 : decode cX9_undo 51 = .ok (.iaload, 1) := by decide +kernel
theorem dX9_undo_52 : decode cX9_undo 52 = .ok (.iastore, 1) := by decide +kernel
theorem dX9_undo_53 : decode cX9_undo 53 = .ok (.iinc 1 1, 3) := by decide +kernel
theorem dX9_undo_56 : decode cX9_undo 56 = .ok (.goto (-29), 3) := by decide +kernel
theorem dX9_undo_59 : decode cX9_undo 59 = .ok (.aload_n 0, 1) := by decide +kernel
theorem dX9_undo_60 : decode cX9_undo 60 = .ok (.getfield 122, 3) := by decide +kernel
theorem dX9_undo_63 : decode cX9_undo 63 = .ok (.ireturn, 1) := by decide +kernel
set_option maxRecDepth 20000 in
theorem ggX9_reachableFrom_X9_noVertex : GoodIn wsX9_reachableFrom wsX9_noVertex := goodIn_r _ [9, 4, 10, 11, 8, 12, 37, 38, 39, 40, 41, 42, 43, 44, 45, 46, 47, 48, 49, 50, 51, 52, 53, 54, 55, 56, 57] (by decide +kernel) (by decide +kernel)
set_option maxRecDepth 20000 in
theorem gX9_reachableFrom_X9_noVertex : GoodIn wsX9_reachableFrom (wsV RX9 129 RX9 yX9_noVertex wsX9_noVertex) := goodIn_app (goodIn_of _ (by decide +kernel)) ggX9_reachableFrom_X9_noVertex
set_option maxRecDepth 20000 in
theorem ggX9_reachableFrom_X9_closeOf : GoodIn wsX9_reachableFrom wsX9_closeOf := goodIn_r _ [16, 17, 18, 19, 8, 20, 21, 22, 23, 24, 25, 26, 27, 28, 29, 30, 31, 32, 10, 11, 12, 37, 38, 39, 40, 41, 42, 43, 44, 45, 46, 47, 48, 49, 50, 51, 52, 53, 54, 55, 56, 57] (by decide +kernel) (by decide +kernel)
set_option maxRecDepth 20000 in
theorem gX9_reachableFrom_X9_closeOf : GoodIn wsX9_reachableFrom (wsV RX9 77 RX9 yX9_closeOf wsX9_closeOf) := goodIn_app (goodIn_of _ (by decide +kernel)) ggX9_reachableFrom_X9_closeOf
set_option maxRecDepth 20000 in
theorem ggX9_reachableFrom_X9_reaches : GoodIn wsX9_reachableFrom wsX9_reaches := goodIn_r _ [36, 25, 26, 37, 38, 39, 40, 41, 42, 43, 44, 45, 46, 47, 48, 49, 50, 51, 52, 53, 54, 55, 56, 57] (by decide +kernel) (by decide +kernel)
set_option maxRecDepth 20000 in
theorem gX9_reachableFrom_X9_reaches : GoodIn wsX9_reachableFrom (wsV RX9 141 RX9 yX9_reaches wsX9_reaches) := goodIn_app (goodIn_of _ (by decide +kernel)) ggX9_reachableFrom_X9_reaches
theorem dX9_reachableFrom_0 : decode cX9_reachableFrom 0 = .ok (.aload_n 0, 1) := by decide +kernel
theorem dX9_reachableFrom_1 : decode cX9_reachableFrom 1 = .ok (.iconst 0, 1) := by decide +kernel
theorem dX9_reachableFrom_2 : decode cX9_reachableFrom 2 = .ok (.putfield 54, 3) := by decide +kernel
theorem dX9_reachableFrom_5 : decode cX9_reachableFrom 5 = .ok (.aload_n 0, 1) := by decide +kernel
theorem dX9_reachableFrom_6 : decode cX9_reachableFrom 6 = .ok (.iload_n 1, 1) := by decide +kernel
theorem dX9_reachableFrom_7 : decode cX9_reachableFrom 7 = .ok (.invokevirtual 129, 3) := by decide +kernel
theorem dX9_reachableFrom_10 : decode cX9_reachableFrom 10 = .ok (.ifCond .eq 5, 3) := by decide +kernel
theorem dX9_reachableFrom_13 : decode cX9_reachableFrom 13 = .ok (.iconst (-1), 1) := by decide +kernel
theorem dX9_reachableFrom_14 : decode cX9_reachableFrom 14 = .ok (.ireturn, 1) := by decide +kernel
theorem dX9_reachableFrom_15 : decode cX9_reachableFrom 15 = .ok (.aload_n 0, 1) := by decide +kernel
theorem dX9_reachableFrom_16 : decode cX9_reachableFrom 16 = .ok (.aload_n 0, 1) := by decide +kernel
theorem dX9_reachableFrom_17 : decode cX9_reachableFrom 17 = .ok (.getfield 20, 3) := by decide +kernel
theorem dX9_reachableFrom_20 : decode cX9_reachableFrom 20 = .ok (.ldc 140, 2) := by decide +kernel
theorem dX9_reachableFrom_22 : decode cX9_reachableFrom 22 = .ok (.invokevirtual 77, 3) := by decide +kernel
theorem dX9_reachableFrom_25 : decode cX9_reachableFrom 25 = .ok (.iconst 0, 1) := by decide +kernel
theorem dX9_reachableFrom_26 : decode cX9_reachableFrom 26 = .ok (.istore_n 2, 1) := by decide +kernel
theorem dX9_reachableFrom_27 : decode cX9_reachableFrom 27 = .ok (.iconst 0, 1) := by decide +kernel
theorem dX9_reachableFrom_28 : decode cX9_reachableFrom 28 = .ok (.istore_n 3, 1) := by decide +kernel
theorem dX9_reachableFrom_29 : decode cX9_reachableFrom 29 = .ok (.iload_n 3, 1) := by decide +kernel
theorem dX9_reachableFrom_30 : decode cX9_reachableFrom 30 = .ok (.aload_n 0, 1) := by decide +kernel
theorem dX9_reachableFrom_31 : decode cX9_reachableFrom 31 = .ok (.getfield 16, 3) := by decide +kernel
theorem dX9_reachableFrom_34 : decode cX9_reachableFrom 34 = .ok (.if_icmp .ge 28, 3) := by decide +kernel
theorem dX9_reachableFrom_37 : decode cX9_reachableFrom 37 = .ok (.iload_n 2, 1) := by decide +kernel
theorem dX9_reachableFrom_38 : decode cX9_reachableFrom 38 = .ok (.aload_n 0, 1) := by decide +kernel
theorem dX9_reachableFrom_39 : decode cX9_reachableFrom 39 = .ok (.iload_n 1, 1) := by decide +kernel
theorem dX9_reachableFrom_40 : decode cX9_reachableFrom 40 = .ok (.iload_n 3, 1) := by decide +kernel
theorem dX9_reachableFrom_41 : decode cX9_reachableFrom 41 = .ok (.invokevirtual 141, 3) := by decide +kernel
theorem dX9_reachableFrom_44 : decode cX9_reachableFrom 44 = .ok (.ifCond .eq 9, 3) := by decide +kernel
theorem dX9_reachableFrom_47 : decode cX9_reachableFrom 47 = .ok (.iconst 1, 1) := by decide +kernel
theorem dX9_reachableFrom_48 : decode cX9_reachableFrom 48 = .ok (.iload_n 3, 1) := by decide +kernel
theorem dX9_reachableFrom_49 : decode cX9_reachableFrom 49 = .ok (.ishl, 1) := by decide +kernel
theorem dX9_reachableFrom_50 : decode cX9_reachableFrom 50 = .ok (.goto 4, 3) := by decide +kernel
theorem dX9_reachableFrom_53 : decode cX9_reachableFrom 53 = .ok (.iconst 0, 1) := by decide +kernel
theorem dX9_reachableFrom_54 : decode cX9_reachableFrom 54 = .ok (.ior, 1) := by decide +kernel
theorem dX9_reachableFrom_55 : decode cX9_reachableFrom 55 = .ok (.istore_n 2, 1) := by decide +kernel
theorem dX9_reachableFrom_56 : decode cX9_reachableFrom 56 = .ok (.iinc 3 1, 3) := by decide +kernel
theorem dX9_reachableFrom_59 : decode cX9_reachableFrom 59 = .ok (.goto (-30), 3) := by decide +kernel
theorem dX9_reachableFrom_62 : decode cX9_reachableFrom 62 = .ok (.iload_n 2, 1) := by decide +kernel
theorem dX9_reachableFrom_63 : decode cX9_reachableFrom 63 = .ok (.ireturn, 1) := by decide +kernel
set_option maxRecDepth 20000 in
theorem ggX9_pairCount_X9_pairsOf : GoodIn wsX9_pairCount wsX9_pairsOf := goodIn_r _ [8, 9, 10, 11, 7, 12, 13, 14, 15, 16, 17, 18, 19, 20, 21, 22, 23, 24, 25, 26, 27, 28, 29, 30, 31, 32, 33, 34, 35, 36, 37, 38, 39, 40, 41, 42, 43, 44, 45, 46, 47, 48, 49, 50, 51, 52, 53, 54, 55, 56, 57] (by decide +kernel) (by decide +kernel)
set_option maxRecDepth 20000 in
theorem gX9_pairCount_X9_pairsOf : GoodIn wsX9_pairCount (wsV RX9 144 RX9 yX9_pairsOf wsX9_pairsOf) := goodIn_app (goodIn_of _ (by decide +kernel)) ggX9_pairCount_X9_pairsOf
theorem dX9_pairCount_0 : decode cX9_pairCount 0 = .ok (.aload_n 0, 1) := by decide +kernel
theorem dX9_pairCount_1 : decode cX9_pairCount 1 = .ok (.iconst 0, 1) := by decide +kernel
theorem dX9_pairCount_2 : decode cX9_pairCount 2 = .ok (.putfield 54, 3) := by decide +kernel
theorem dX9_pairCount_5 : decode cX9_pairCount 5 = .ok (.aload_n 0, 1) := by decide +kernel
theorem dX9_pairCount_6 : decode cX9_pairCount 6 = .ok (.aload_n 0, 1) := by decide +kernel
theorem dX9_pairCount_7 : decode cX9_pairCount 7 = .ok (.getfield 20, 3) := by decide +kernel
theorem dX9_pairCount_10 : decode cX9_pairCount 10 = .ok (.ldc 140, 2) := by decide +kernel
theorem dX9_pairCount_12 : decode cX9_pairCount 12 = .ok (.invokevirtual 144, 3) := by decide +kernel
theorem dX9_pairCount_15 : decode cX9_pairCount 15 = .ok (.ireturn, 1) := by decide +kernel
set_option maxRecDepth 20000 in
theorem ggX9_distance_X9_noVertex : GoodIn wsX9_distance wsX9_noVertex := goodIn_r _ [9, 10, 11, 12, 8, 13, 37, 38, 39, 40, 41, 42, 43, 44, 45, 46, 47, 48, 49, 50, 51, 52, 53, 54, 55, 56, 57] (by decide +kernel) (by decide +kernel)
set_option maxRecDepth 20000 in
theorem gX9_distance_X9_noVertex : GoodIn wsX9_distance (wsV RX9 129 RX9 yX9_noVertex wsX9_noVertex) := goodIn_app (goodIn_of _ (by decide +kernel)) ggX9_distance_X9_noVertex
set_option maxRecDepth 20000 in
theorem ggX9_distance_X9_closeOf : GoodIn wsX9_distance wsX9_closeOf := goodIn_r _ [17, 18, 19, 20, 8, 21, 22, 23, 24, 25, 4, 26, 27, 28, 29, 30, 31, 32, 11, 12, 13, 37, 38, 39, 40, 41, 42, 43, 44, 45, 46, 47, 48, 49, 50, 51, 52, 53, 54, 55, 56, 57] (by decide +kernel) (by decide +kernel)
set_option maxRecDepth 20000 in
theorem gX9_distance_X9_closeOf : GoodIn wsX9_distance (wsV RX9 77 RX9 yX9_closeOf wsX9_closeOf) := goodIn_app (goodIn_of _ (by decide +kernel)) ggX9_distance_X9_closeOf
set_option maxRecDepth 20000 in
theorem ggX9_distance_X9_reaches : GoodIn wsX9_distance wsX9_reaches := goodIn_r _ [36, 4, 26, 37, 38, 39, 40, 41, 42, 43, 44, 45, 46, 47, 48, 49, 50, 51, 52, 53, 54, 55, 56, 57] (by decide +kernel) (by decide +kernel)
set_option maxRecDepth 20000 in
theorem gX9_distance_X9_reaches : GoodIn wsX9_distance (wsV RX9 141 RX9 yX9_reaches wsX9_reaches) := goodIn_app (goodIn_of _ (by decide +kernel)) ggX9_distance_X9_reaches
theorem dX9_distance_0 : decode cX9_distance 0 = .ok (.aload_n 0, 1) := by decide +kernel
theorem dX9_distance_1 : decode cX9_distance 1 = .ok (.iconst 0, 1) := by decide +kernel
theorem dX9_distance_2 : decode cX9_distance 2 = .ok (.putfield 54, 3) := by decide +kernel
theorem dX9_distance_5 : decode cX9_distance 5 = .ok (.aload_n 0, 1) := by decide +kernel
theorem dX9_distance_6 : decode cX9_distance 6 = .ok (.iload_n 1, 1) := by decide +kernel
theorem dX9_distance_7 : decode cX9_distance 7 = .ok (.invokevirtual 129, 3) := by decide +kernel
theorem dX9_distance_10 : decode cX9_distance 10 = .ok (.ifCond .ne 11, 3) := by decide +kernel
theorem dX9_distance_13 : decode cX9_distance 13 = .ok (.aload_n 0, 1) := by decide +kernel
theorem dX9_distance_14 : decode cX9_distance 14 = .ok (.iload_n 2, 1) := by decide +kernel
theorem dX9_distance_15 : decode cX9_distance 15 = .ok (.invokevirtual 129, 3) := by decide +kernel
theorem dX9_distance_18 : decode cX9_distance 18 = .ok (.ifCond .eq 5, 3) := by decide +kernel
theorem dX9_distance_21 : decode cX9_distance 21 = .ok (.iconst (-1), 1) := by decide +kernel
theorem dX9_distance_22 : decode cX9_distance 22 = .ok (.ireturn, 1) := by decide +kernel
theorem dX9_distance_23 : decode cX9_distance 23 = .ok (.aload_n 0, 1) := by decide +kernel
theorem dX9_distance_24 : decode cX9_distance 24 = .ok (.aload_n 0, 1) := by decide +kernel
theorem dX9_distance_25 : decode cX9_distance 25 = .ok (.getfield 20, 3) := by decide +kernel
theorem dX9_distance_28 : decode cX9_distance 28 = .ok (.ldc 140, 2) := by decide +kernel
theorem dX9_distance_30 : decode cX9_distance 30 = .ok (.invokevirtual 77, 3) := by decide +kernel
theorem dX9_distance_33 : decode cX9_distance 33 = .ok (.aload_n 0, 1) := by decide +kernel
theorem dX9_distance_34 : decode cX9_distance 34 = .ok (.iload_n 1, 1) := by decide +kernel
theorem dX9_distance_35 : decode cX9_distance 35 = .ok (.iload_n 2, 1) := by decide +kernel
theorem dX9_distance_36 : decode cX9_distance 36 = .ok (.invokevirtual 141, 3) := by decide +kernel
theorem dX9_distance_39 : decode cX9_distance 39 = .ok (.ifCond .eq 17, 3) := by decide +kernel
theorem dX9_distance_42 : decode cX9_distance 42 = .ok (.aload_n 0, 1) := by decide +kernel
theorem dX9_distance_43 : decode cX9_distance 43 = .ok (.getfield 45, 3) := by decide +kernel
theorem dX9_distance_46 : decode cX9_distance 46 = .ok (.bipush 8, 2) := by decide +kernel
theorem dX9_distance_48 : decode cX9_distance 48 = .ok (.iload_n 1, 1) := by decide +kernel
theorem dX9_distance_49 : decode cX9_distance 49 = .ok (.imul, 1) := by decide +kernel
theorem dX9_distance_50 : decode cX9_distance 50 = .ok (.iload_n 2, 1) := by decide +kernel
theorem dX9_distance_51 : decode cX9_distance 51 = .ok (.iadd, 1) := by decide +kernel
theorem dX9_distance_52 : decode cX9_distance 52 = .ok (.iaload, 1) := by decide +kernel
theorem dX9_distance_53 : decode cX9_distance 53 = .ok (.goto 5, 3) := by decide +kernel
theorem dX9_distance_56 : decode cX9_distance 56 = .ok (.bipush (-9), 2) := by decide +kernel
theorem dX9_distance_58 : decode cX9_distance 58 = .ok (.ireturn, 1) := by decide +kernel
set_option maxRecDepth 20000 in
theorem ggX9_lengthBy_X9_in : GoodIn wsX9_lengthBy wsX9_in := goodIn_r _ [8] (by decide +kernel) (by decide +kernel)
set_option maxRecDepth 20000 in
theorem gX9_lengthBy_X9_in : GoodIn wsX9_lengthBy (va_wsS RX9 57 yX9_in wsX9_in) := goodIn_app (goodIn_of _ (by decide +kernel)) ggX9_lengthBy_X9_in
theorem dX9_lengthBy_0 : decode cX9_lengthBy 0 = .ok (.iconst 1, 1) := by decide +kernel
theorem dX9_lengthBy_1 : decode cX9_lengthBy 1 = .ok (.iconst 3, 1) := by decide +kernel
theorem dX9_lengthBy_2 : decode cX9_lengthBy 2 = .ok (.iload_n 3, 1) := by decide +kernel
theorem dX9_lengthBy_3 : decode cX9_lengthBy 3 = .ok (.imul, 1) := by decide +kernel
theorem dX9_lengthBy_4 : decode cX9_lengthBy 4 = .ok (.iadd, 1) := by decide +kernel
theorem dX9_lengthBy_5 : decode cX9_lengthBy 5 = .ok (.istore 5, 2) := by decide +kernel
theorem dX9_lengthBy_7 : decode cX9_lengthBy 7 = .ok (.aload_n 0, 1) := by decide +kernel
theorem dX9_lengthBy_8 : decode cX9_lengthBy 8 = .ok (.getfield 20, 3) := by decide +kernel
theorem dX9_lengthBy_11 : decode cX9_lengthBy 11 = .ok (.iload 5, 2) := by decide +kernel
theorem dX9_lengthBy_13 : decode cX9_lengthBy 13 = .ok (.iaload, 1) := by decide +kernel
theorem dX9_lengthBy_14 : decode cX9_lengthBy 14 = .ok (.iload_n 1, 1) := by decide +kernel
theorem dX9_lengthBy_15 : decode cX9_lengthBy 15 = .ok (.if_icmp .eq 6, 3) := by decide +kernel
theorem dX9_lengthBy_18 : decode cX9_lengthBy 18 = .ok (.ldc 62, 2) := by decide +kernel
theorem dX9_lengthBy_20 : decode cX9_lengthBy 20 = .ok (.ireturn, 1) := by decide +kernel
theorem dX9_lengthBy_21 : decode cX9_lengthBy 21 = .ok (.aload_n 0, 1) := by decide +kernel
theorem dX9_lengthBy_22 : decode cX9_lengthBy 22 = .ok (.getfield 20, 3) := by decide +kernel
theorem dX9_lengthBy_25 : decode cX9_lengthBy 25 = .ok (.iload 5, 2) := by decide +kernel
theorem dX9_lengthBy_27 : decode cX9_lengthBy 27 = .ok (.iconst 2, 1) := by decide +kernel
theorem dX9_lengthBy_28 : decode cX9_lengthBy 28 = .ok (.iadd, 1) := by decide +kernel
theorem dX9_lengthBy_29 : decode cX9_lengthBy 29 = .ok (.iaload, 1) := by decide +kernel
theorem dX9_lengthBy_30 : decode cX9_lengthBy 30 = .ok (.ifCond .ne 35, 3) := by decide +kernel
theorem dX9_lengthBy_33 : decode cX9_lengthBy 33 = .ok (.iload 4, 2) := by decide +kernel
theorem dX9_lengthBy_35 : decode cX9_lengthBy 35 = .ok (.ifCond .ne 27, 3) := by decide +kernel
theorem dX9_lengthBy_38 : decode cX9_lengthBy 38 = .ok (.iconst 1, 1) := by decide +kernel
theorem dX9_lengthBy_39 : decode cX9_lengthBy 39 = .ok (.aload_n 0, 1) := by decide +kernel
theorem dX9_lengthBy_40 : decode cX9_lengthBy 40 = .ok (.getfield 45, 3) := by decide +kernel
theorem dX9_lengthBy_43 : decode cX9_lengthBy 43 = .ok (.bipush 8, 2) := by decide +kernel
theorem dX9_lengthBy_45 : decode cX9_lengthBy 45 = .ok (.aload_n 0, 1) := by decide +kernel
theorem dX9_lengthBy_46 : decode cX9_lengthBy 46 = .ok (.getfield 20, 3) := by decide +kernel
theorem dX9_lengthBy_49 : decode cX9_lengthBy 49 = .ok (.iload 5, 2) := by decide +kernel
theorem dX9_lengthBy_51 : decode cX9_lengthBy 51 = .ok (.iconst 1, 1) := by decide +kernel
theorem dX9_lengthBy_52 : decode cX9_lengthBy 52 = .ok (.iadd, 1) := by decide +kernel
theorem dX9_lengthBy_53 : decode cX9_lengthBy 53 = .ok (.iaload, 1) := by decide +kernel
theorem dX9_lengthBy_54 : decode cX9_lengthBy 54 = .ok (.imul, 1) := by decide +kernel
theorem dX9_lengthBy_55 : decode cX9_lengthBy 55 = .ok (.iload_n 2, 1) := by decide +kernel
theorem dX9_lengthBy_56 : decode cX9_lengthBy 56 = .ok (.iadd, 1) := by decide +kernel
theorem dX9_lengthBy_57 : decode cX9_lengthBy 57 = .ok (.iaload, 1) := by decide +kernel
theorem dX9_lengthBy_58 : decode cX9_lengthBy 58 = .ok (.iadd, 1) := by decide +kernel
theorem dX9_lengthBy_59 : decode cX9_lengthBy 59 = .ok (.goto 5, 3) := by decide +kernel
theorem dX9_lengthBy_62 : decode cX9_lengthBy 62 = .ok (.ldc 62, 2) := by decide +kernel
theorem dX9_lengthBy_64 : decode cX9_lengthBy 64 = .ok (.ireturn, 1) := by decide +kernel
theorem dX9_lengthBy_65 : decode cX9_lengthBy 65 = .ok (.iconst 1, 1) := by decide +kernel
theorem dX9_lengthBy_66 : decode cX9_lengthBy 66 = .ok (.iconst 3, 1) := by decide +kernel
theorem dX9_lengthBy_67 : decode cX9_lengthBy 67 = .ok (.iload 4, 2) := by decide +kernel
theorem dX9_lengthBy_69 : decode cX9_lengthBy 69 = .ok (.imul, 1) := by decide +kernel
theorem dX9_lengthBy_70 : decode cX9_lengthBy 70 = .ok (.iadd, 1) := by decide +kernel
theorem dX9_lengthBy_71 : decode cX9_lengthBy 71 = .ok (.istore 6, 2) := by decide +kernel
theorem dX9_lengthBy_73 : decode cX9_lengthBy 73 = .ok (.aload_n 0, 1) := by decide +kernel
theorem dX9_lengthBy_74 : decode cX9_lengthBy 74 = .ok (.getfield 20, 3) := by decide +kernel
theorem dX9_lengthBy_77 : decode cX9_lengthBy 77 = .ok (.iload 5, 2) := by decide +kernel
theorem dX9_lengthBy_79 : decode cX9_lengthBy 79 = .ok (.iconst 2, 1) := by decide +kernel
theorem dX9_lengthBy_80 : decode cX9_lengthBy 80 = .ok (.iadd, 1) := by decide +kernel
theorem dX9_lengthBy_81 : decode cX9_lengthBy 81 = .ok (.iaload, 1) := by decide +kernel
theorem dX9_lengthBy_82 : decode cX9_lengthBy 82 = .ok (.i2l, 1) := by decide +kernel
theorem dX9_lengthBy_83 : decode cX9_lengthBy 83 = .ok (.lconst 1, 1) := by decide +kernel
theorem dX9_lengthBy_84 : decode cX9_lengthBy 84 = .ok (.ldc2_w 67, 3) := by decide +kernel
theorem dX9_lengthBy_87 : decode cX9_lengthBy 87 = .ok (.invokestatic 57, 3) := by decide +kernel
theorem dX9_lengthBy_90 : decode cX9_lengthBy 90 = .ok (.ifCond .eq 30, 3) := by decide +kernel
theorem dX9_lengthBy_93 : decode cX9_lengthBy 93 = .ok (.aload_n 0, 1) := by decide +kernel
theorem dX9_lengthBy_94 : decode cX9_lengthBy 94 = .ok (.getfield 20, 3) := by decide +kernel
theorem dX9_lengthBy_97 : decode cX9_lengthBy 97 = .ok (.iload 6, 2) := by decide +kernel
theorem dX9_lengthBy_99 : decode cX9_lengthBy 99 = .ok (.iconst 2, 1) := by decide +kernel
theorem dX9_lengthBy_100 : decode cX9_lengthBy 100 = .ok (.iadd, 1) := by decide +kernel
theorem dX9_lengthBy_101 : decode cX9_lengthBy 101 = .ok (.iaload, 1) := by decide +kernel
theorem dX9_lengthBy_102 : decode cX9_lengthBy 102 = .ok (.aload_n 0, 1) := by decide +kernel
theorem dX9_lengthBy_103 : decode cX9_lengthBy 103 = .ok (.getfield 20, 3) := by decide +kernel
theorem dX9_lengthBy_106 : decode cX9_lengthBy 106 = .ok (.iload 5, 2) := by decide +kernel
theorem dX9_lengthBy_108 : decode cX9_lengthBy 108 = .ok (.iconst 2, 1) := by decide +kernel
theorem dX9_lengthBy_109 : decode cX9_lengthBy 109 = .ok (.iadd, 1) := by decide +kernel
theorem dX9_lengthBy_110 : decode cX9_lengthBy 110 = .ok (.iaload, 1) := by decide +kernel
theorem dX9_lengthBy_111 : decode cX9_lengthBy 111 = .ok (.iconst 3, 1) := by decide +kernel
theorem dX9_lengthBy_112 : decode cX9_lengthBy 112 = .ok (.iadd, 1) := by decide +kernel
theorem dX9_lengthBy_113 : decode cX9_lengthBy 113 = .ok (.if_icmp .ne 7, 3) := by decide +kernel
theorem dX9_lengthBy_116 : decode cX9_lengthBy 116 = .ok (.iconst 1, 1) := by decide +kernel
theorem dX9_lengthBy_117 : decode cX9_lengthBy 117 = .ok (.goto 4, 3) := by decide +kernel
theorem dX9_lengthBy_120 : decode cX9_lengthBy 120 = .ok (.iconst 0, 1) := by decide +kernel
theorem dX9_lengthBy_121 : decode cX9_lengthBy 121 = .ok (.istore 7, 2) := by decide +kernel
theorem dX9_lengthBy_123 : decode cX9_lengthBy 123 = .ok (.iload 7, 2) := by decide +kernel
theorem dX9_lengthBy_125 : decode cX9_lengthBy 125 = .ok (.ifCond .eq 53, 3) := by decide +kernel
theorem dX9_lengthBy_128 : decode cX9_lengthBy 128 = .ok (.iconst 2, 1) := by decide +kernel
theorem dX9_lengthBy_129 : decode cX9_lengthBy 129 = .ok (.aload_n 0, 1) := by decide +kernel
theorem dX9_lengthBy_130 : decode cX9_lengthBy 130 = .ok (.getfield 45, 3) := by decide +kernel
theorem dX9_lengthBy_133 : decode cX9_lengthBy 133 = .ok (.bipush 8, 2) := by decide +kernel
theorem dX9_lengthBy_135 : decode cX9_lengthBy 135 = .ok (.aload_n 0, 1) := by decide +kernel
theorem dX9_lengthBy_136 : decode cX9_lengthBy 136 = .ok (.getfield 20, 3) := by decide +kernel
theorem dX9_lengthBy_139 : decode cX9_lengthBy 139 = .ok (.iload 5, 2) := by decide +kernel
theorem dX9_lengthBy_141 : decode cX9_lengthBy 141 = .ok (.iconst 1, 1) := by decide +kernel
theorem dX9_lengthBy_142 : decode cX9_lengthBy 142 = .ok (.iadd, 1) := by decide +kernel
theorem dX9_lengthBy_143 : decode cX9_lengthBy 143 = .ok (.iaload, 1) := by decide +kernel
theorem dX9_lengthBy_144 : decode cX9_lengthBy 144 = .ok (.imul, 1) := by decide +kernel
theorem dX9_lengthBy_145 : decode cX9_lengthBy 145 = .ok (.aload_n 0, 1) := by decide +kernel
theorem dX9_lengthBy_146 : decode cX9_lengthBy 146 = .ok (.getfield 20, 3) := by decide +kernel
theorem dX9_lengthBy_149 : decode cX9_lengthBy 149 = .ok (.iload 6, 2) := by decide +kernel
theorem dX9_lengthBy_151 : decode cX9_lengthBy 151 = .ok (.iaload, 1) := by decide +kernel
theorem dX9_lengthBy_152 : decode cX9_lengthBy 152 = .ok (.iadd, 1) := by decide +kernel
theorem dX9_lengthBy_153 : decode cX9_lengthBy 153 = .ok (.iaload, 1) := by decide +kernel
theorem dX9_lengthBy_154 : decode cX9_lengthBy 154 = .ok (.iadd, 1) := by decide +kernel
theorem dX9_lengthBy_155 : decode cX9_lengthBy 155 = .ok (.aload_n 0, 1) := by decide +kernel
theorem dX9_lengthBy_156 : decode cX9_lengthBy 156 = .ok (.getfield 45, 3) := by decide +kernel
theorem dX9_lengthBy_159 : decode cX9_lengthBy 159 = .ok (.bipush 8, 2) := by decide +kernel
theorem dX9_lengthBy_161 : decode cX9_lengthBy 161 = .ok (.aload_n 0, 1) := by decide +kernel
theorem dX9_lengthBy_162 : decode cX9_lengthBy 162 = .ok (.getfield 20, 3) := by decide +kernel
theorem dX9_lengthBy_165 : decode cX9_lengthBy 165 = .ok (.iload 6, 2) := by decide +kernel
theorem dX9_lengthBy_167 : decode cX9_lengthBy 167 = .ok (.iconst 1, 1) := by decide +kernel
theorem dX9_lengthBy_168 : decode cX9_lengthBy 168 = .ok (.iadd, 1) := by decide +kernel
theorem dX9_lengthBy_169 : decode cX9_lengthBy 169 = .ok (.iaload, 1) := by decide +kernel
theorem dX9_lengthBy_170 : decode cX9_lengthBy 170 = .ok (.imul, 1) := by decide +kernel
theorem dX9_lengthBy_171 : decode cX9_lengthBy 171 = .ok (.iload_n 2, 1) := by decide +kernel
theorem dX9_lengthBy_172 : decode cX9_lengthBy 172 = .ok (.iadd, 1) := by decide +kernel
theorem dX9_lengthBy_173 : decode cX9_lengthBy 173 = .ok (.iaload, 1) := by decide +kernel
theorem dX9_lengthBy_174 : decode cX9_lengthBy 174 = .ok (.iadd, 1) := by decide +kernel
theorem dX9_lengthBy_175 : decode cX9_lengthBy 175 = .ok (.goto 5, 3) := by decide +kernel
theorem dX9_lengthBy_178 : decode cX9_lengthBy 178 = .ok (.ldc 62, 2) := by decide +kernel
theorem dX9_lengthBy_180 : decode cX9_lengthBy 180 = .ok (.ireturn, 1) := by decide +kernel
set_option maxRecDepth 20000 in
theorem ggX9_firstStep_X9_lengthBy : GoodIn wsX9_firstStep wsX9_lengthBy := goodIn_r _ [7, 1, 8, 2, 9, 10, 11, 6, 12, 13, 14, 15, 16, 17, 18, 19, 20, 21, 22, 23, 24, 25, 26, 27, 28, 29, 30, 31, 32, 33] (by decide +kernel) (by decide +kernel)
set_option maxRecDepth 20000 in
theorem gX9_firstStep_X9_lengthBy : GoodIn wsX9_firstStep (wsV RX9 148 RX9 yX9_lengthBy wsX9_lengthBy) := goodIn_app (goodIn_of _ (by decide +kernel)) ggX9_firstStep_X9_lengthBy
theorem dX9_firstStep_0 : decode cX9_firstStep 0 = .ok (.iconst 0, 1) := by decide +kernel
theorem dX9_firstStep_1 : decode cX9_firstStep 1 = .ok (.istore_n 3, 1) := by decide +kernel
theorem dX9_firstStep_2 : decode cX9_firstStep 2 = .ok (.iload_n 3, 1) := by decide +kernel
theorem dX9_firstStep_3 : decode cX9_firstStep 3 = .ok (.bipush 16, 2) := by decide +kernel
theorem dX9_firstStep_5 : decode cX9_firstStep 5 = .ok (.aload_n 0, 1) := by decide +kernel
theorem dX9_firstStep_6 : decode cX9_firstStep 6 = .ok (.getfield 20, 3) := by decide +kernel
theorem dX9_firstStep_9 : decode cX9_firstStep 9 = .ok (.iconst 0, 1) := by decide +kernel
theorem dX9_firstStep_10 : decode cX9_firstStep 10 = .ok (.iaload, 1) := by decide +kernel
theorem dX9_firstStep_11 : decode cX9_firstStep 11 = .ok (.imul, 1) := by decide +kernel
theorem dX9_firstStep_12 : decode cX9_firstStep 12 = .ok (.if_icmp .ge 52, 3) := by decide +kernel
theorem dX9_firstStep_15 : decode cX9_firstStep 15 = .ok (.iload_n 3, 1) := by decide +kernel
theorem dX9_firstStep_16 : decode cX9_firstStep 16 = .ok (.bipush 16, 2) := by decide +kernel
theorem dX9_firstStep_18 : decode cX9_firstStep 18 = .ok (.irem, 1) := by decide +kernel
theorem dX9_firstStep_19 : decode cX9_firstStep 19 = .ok (.aload_n 0, 1) := by decide +kernel
theorem dX9_firstStep_20 : decode cX9_firstStep 20 = .ok (.getfield 20, 3) := by decide +kernel
theorem dX9_firstStep_23 : decode cX9_firstStep 23 = .ok (.iconst 0, 1) := by decide +kernel
theorem dX9_firstStep_24 : decode cX9_firstStep 24 = .ok (.iaload, 1) := by decide +kernel
theorem dX9_firstStep_25 : decode cX9_firstStep 25 = .ok (.if_icmp .ge 33, 3) := by decide +kernel
theorem dX9_firstStep_28 : decode cX9_firstStep 28 = .ok (.aload_n 0, 1) := by decide +kernel
theorem dX9_firstStep_29 : decode cX9_firstStep 29 = .ok (.iload_n 1, 1) := by decide +kernel
theorem dX9_firstStep_30 : decode cX9_firstStep 30 = .ok (.iload_n 2, 1) := by decide +kernel
theorem dX9_firstStep_31 : decode cX9_firstStep 31 = .ok (.iload_n 3, 1) := by decide +kernel
theorem dX9_firstStep_32 : decode cX9_firstStep 32 = .ok (.bipush 16, 2) := by decide +kernel
theorem dX9_firstStep_34 : decode cX9_firstStep 34 = .ok (.idiv, 1) := by decide +kernel
theorem dX9_firstStep_35 : decode cX9_firstStep 35 = .ok (.iload_n 3, 1) := by decide +kernel
theorem dX9_firstStep_36 : decode cX9_firstStep 36 = .ok (.bipush 16, 2) := by decide +kernel
theorem dX9_firstStep_38 : decode cX9_firstStep 38 = .ok (.irem, 1) := by decide +kernel
theorem dX9_firstStep_39 : decode cX9_firstStep 39 = .ok (.invokevirtual 148, 3) := by decide +kernel
theorem dX9_firstStep_42 : decode cX9_firstStep 42 = .ok (.aload_n 0, 1) := by decide +kernel
theorem dX9_firstStep_43 : decode cX9_firstStep 43 = .ok (.getfield 45, 3) := by decide +kernel
theorem dX9_firstStep_46 : decode cX9_firstStep 46 = .ok (.bipush 8, 2) := by decide +kernel
theorem dX9_firstStep_48 : decode cX9_firstStep 48 = .ok (.iload_n 1, 1) := by decide +kernel
theorem dX9_firstStep_49 : decode cX9_firstStep 49 = .ok (.imul, 1) := by decide +kernel
theorem dX9_firstStep_50 : decode cX9_firstStep 50 = .ok (.iload_n 2, 1) := by decide +kernel
theorem dX9_firstStep_51 : decode cX9_firstStep 51 = .ok (.iadd, 1) := by decide +kernel
theorem dX9_firstStep_52 : decode cX9_firstStep 52 = .ok (.iaload, 1) := by decide +kernel
theorem dX9_firstStep_53 : decode cX9_firstStep 53 = .ok (.if_icmp .ne 5, 3) := by decide +kernel
theorem dX9_firstStep_56 : decode cX9_firstStep 56 = .ok (.iload_n 3, 1) := by decide +kernel
theorem dX9_firstStep_57 : decode cX9_firstStep 57 = .ok (.ireturn, 1) := by decide +kernel
theorem dX9_firstStep_58 : decode cX9_firstStep 58 = .ok (.iinc 3 1, 3) := by decide +kernel
theorem dX9_firstStep_61 : decode cX9_firstStep 61 = .ok (.goto (-59), 3) := by decide +kernel
theorem dX9_firstStep_64 : decode cX9_firstStep 64 = .ok (.bipush (-9), 2) := by decide +kernel
theorem dX9_firstStep_66 : decode cX9_firstStep 66 = .ok (.ireturn, 1) := by decide +kernel
set_option maxRecDepth 20000 in
theorem ggX9_witnessEdge_X9_noVertex : GoodIn wsX9_witnessEdge wsX9_noVertex := goodIn_r _ [10, 11, 12, 13, 9, 14, 41, 42, 43, 44, 45, 46, 47, 48, 49, 50, 51, 52, 53, 54, 55, 56, 57, 58, 59, 60, 61] (by decide +kernel) (by decide +kernel)
set_option maxRecDepth 20000 in
theorem gX9_witnessEdge_X9_noVertex : GoodIn wsX9_witnessEdge (wsV RX9 129 RX9 yX9_noVertex wsX9_noVertex) := goodIn_app (goodIn_of _ (by decide +kernel)) ggX9_witnessEdge_X9_noVertex
set_option maxRecDepth 20000 in
theorem ggX9_witnessEdge_X9_closeOf : GoodIn wsX9_witnessEdge wsX9_closeOf := goodIn_r _ [18, 19, 20, 21, 9, 22, 23, 24, 25, 26, 4, 27, 28, 29, 30, 31, 32, 5, 12, 13, 14, 41, 42, 43, 44, 45, 46, 47, 48, 49, 50, 51, 52, 53, 54, 55, 56, 57, 58, 59, 60, 61] (by decide +kernel) (by decide +kernel)
set_option maxRecDepth 20000 in
theorem gX9_witnessEdge_X9_closeOf : GoodIn wsX9_witnessEdge (wsV RX9 77 RX9 yX9_closeOf wsX9_closeOf) := goodIn_app (goodIn_of _ (by decide +kernel)) ggX9_witnessEdge_X9_closeOf
set_option maxRecDepth 20000 in
theorem ggX9_witnessEdge_X9_firstStep : GoodIn wsX9_witnessEdge wsX9_firstStep := goodIn_r _ [36, 2, 4, 37, 38, 39, 9, 40, 27, 28, 12, 13, 14, 41, 42, 43, 44, 45, 46, 47, 48, 49, 50, 51, 52, 53, 54, 55, 56, 57, 58, 59, 60, 61] (by decide +kernel) (by decide +kernel)
set_option maxRecDepth 20000 in
theorem gX9_witnessEdge_X9_firstStep : GoodIn wsX9_witnessEdge (wsV RX9 152 RX9 yX9_firstStep wsX9_firstStep) := goodIn_app (goodIn_of _ (by decide +kernel)) ggX9_witnessEdge_X9_firstStep
theorem dX9_witnessEdge_0 : decode cX9_witnessEdge 0 = .ok (.aload_n 0, 1) := by decide +kernel
theorem dX9_witnessEdge_1 : decode cX9_witnessEdge 1 = .ok (.iconst 0, 1) := by decide +kernel
theorem dX9_witnessEdge_2 : decode cX9_witnessEdge 2 = .ok (.putfield 54, 3) := by decide +kernel
theorem dX9_witnessEdge_5 : decode cX9_witnessEdge 5 = .ok (.aload_n 0, 1) := by decide +kernel
theorem dX9_witnessEdge_6 : decode cX9_witnessEdge 6 = .ok (.iload_n 1, 1) := by decide +kernel
theorem dX9_witnessEdge_7 : decode cX9_witnessEdge 7 = .ok (.invokevirtual 129, 3) := by decide +kernel
theorem dX9_witnessEdge_10 : decode cX9_witnessEdge 10 = .ok (.ifCond .ne 11, 3) := by decide +kernel
theorem dX9_witnessEdge_13 : decode cX9_witnessEdge 13 = .ok (.aload_n 0, 1) := by decide +kernel
theorem dX9_witnessEdge_14 : decode cX9_witnessEdge 14 = .ok (.iload_n 2, 1) := by decide +kernel
theorem dX9_witnessEdge_15 : decode cX9_witnessEdge 15 = .ok (.invokevirtual 129, 3) := by decide +kernel
theorem dX9_witnessEdge_18 : decode cX9_witnessEdge 18 = .ok (.ifCond .eq 5, 3) := by decide +kernel
theorem dX9_witnessEdge_21 : decode cX9_witnessEdge 21 = .ok (.iconst (-1), 1) := by decide +kernel
theorem dX9_witnessEdge_22 : decode cX9_witnessEdge 22 = .ok (.ireturn, 1) := by decide +kernel
theorem dX9_witnessEdge_23 : decode cX9_witnessEdge 23 = .ok (.aload_n 0, 1) := by decide +kernel
theorem dX9_witnessEdge_24 : decode cX9_witnessEdge 24 = .ok (.aload_n 0, 1) := by decide +kernel
theorem dX9_witnessEdge_25 : decode cX9_witnessEdge 25 = .ok (.getfield 20, 3) := by decide +kernel
theorem dX9_witnessEdge_28 : decode cX9_witnessEdge 28 = .ok (.ldc 140, 2) := by decide +kernel
theorem dX9_witnessEdge_30 : decode cX9_witnessEdge 30 = .ok (.invokevirtual 77, 3) := by decide +kernel
theorem dX9_witnessEdge_33 : decode cX9_witnessEdge 33 = .ok (.aload_n 0, 1) := by decide +kernel
theorem dX9_witnessEdge_34 : decode cX9_witnessEdge 34 = .ok (.getfield 45, 3) := by decide +kernel
theorem dX9_witnessEdge_37 : decode cX9_witnessEdge 37 = .ok (.bipush 8, 2) := by decide +kernel
theorem dX9_witnessEdge_39 : decode cX9_witnessEdge 39 = .ok (.iload_n 1, 1) := by decide +kernel
theorem dX9_witnessEdge_40 : decode cX9_witnessEdge 40 = .ok (.imul, 1) := by decide +kernel
theorem dX9_witnessEdge_41 : decode cX9_witnessEdge 41 = .ok (.iload_n 2, 1) := by decide +kernel
theorem dX9_witnessEdge_42 : decode cX9_witnessEdge 42 = .ok (.iadd, 1) := by decide +kernel
theorem dX9_witnessEdge_43 : decode cX9_witnessEdge 43 = .ok (.iaload, 1) := by decide +kernel
theorem dX9_witnessEdge_44 : decode cX9_witnessEdge 44 = .ok (.istore 4, 2) := by decide +kernel
theorem dX9_witnessEdge_46 : decode cX9_witnessEdge 46 = .ok (.iload 4, 2) := by decide +kernel
theorem dX9_witnessEdge_48 : decode cX9_witnessEdge 48 = .ok (.ldc 61, 2) := by decide +kernel
theorem dX9_witnessEdge_50 : decode cX9_witnessEdge 50 = .ok (.if_icmp .ge 13, 3) := by decide +kernel
theorem dX9_witnessEdge_53 : decode cX9_witnessEdge 53 = .ok (.iload_n 3, 1) := by decide +kernel
theorem dX9_witnessEdge_54 : decode cX9_witnessEdge 54 = .ok (.ifCond .lt 9, 3) := by decide +kernel
theorem dX9_witnessEdge_57 : decode cX9_witnessEdge 57 = .ok (.iload_n 3, 1) := by decide +kernel
theorem dX9_witnessEdge_58 : decode cX9_witnessEdge 58 = .ok (.iload 4, 2) := by decide +kernel
theorem dX9_witnessEdge_60 : decode cX9_witnessEdge 60 = .ok (.if_icmp .lt 6, 3) := by decide +kernel
theorem dX9_witnessEdge_63 : decode cX9_witnessEdge 63 = .ok (.bipush (-9), 2) := by decide +kernel
theorem dX9_witnessEdge_65 : decode cX9_witnessEdge 65 = .ok (.ireturn, 1) := by decide +kernel
theorem dX9_witnessEdge_66 : decode cX9_witnessEdge 66 = .ok (.iload_n 1, 1) := by decide +kernel
theorem dX9_witnessEdge_67 : decode cX9_witnessEdge 67 = .ok (.istore 5, 2) := by decide +kernel
theorem dX9_witnessEdge_69 : decode cX9_witnessEdge 69 = .ok (.iload_n 2, 1) := by decide +kernel
theorem dX9_witnessEdge_70 : decode cX9_witnessEdge 70 = .ok (.istore 6, 2) := by decide +kernel
theorem dX9_witnessEdge_72 : decode cX9_witnessEdge 72 = .ok (.iload_n 3, 1) := by decide +kernel
theorem dX9_witnessEdge_73 : decode cX9_witnessEdge 73 = .ok (.istore 7, 2) := by decide +kernel
theorem dX9_witnessEdge_75 : decode cX9_witnessEdge 75 = .ok (.aload_n 0, 1) := by decide +kernel
theorem dX9_witnessEdge_76 : decode cX9_witnessEdge 76 = .ok (.iload 5, 2) := by decide +kernel
theorem dX9_witnessEdge_78 : decode cX9_witnessEdge 78 = .ok (.iload 6, 2) := by decide +kernel
theorem dX9_witnessEdge_80 : decode cX9_witnessEdge 80 = .ok (.invokevirtual 152, 3) := by decide +kernel
theorem dX9_witnessEdge_83 : decode cX9_witnessEdge 83 = .ok (.istore 8, 2) := by decide +kernel
theorem dX9_witnessEdge_85 : decode cX9_witnessEdge 85 = .ok (.iconst 1, 1) := by decide +kernel
theorem dX9_witnessEdge_86 : decode cX9_witnessEdge 86 = .ok (.iconst 3, 1) := by decide +kernel
theorem dX9_witnessEdge_87 : decode cX9_witnessEdge 87 = .ok (.iload 8, 2) := by decide +kernel
theorem dX9_witnessEdge_89 : decode cX9_witnessEdge 89 = .ok (.bipush 16, 2) := by decide +kernel
theorem dX9_witnessEdge_91 : decode cX9_witnessEdge 91 = .ok (.idiv, 1) := by decide +kernel
theorem dX9_witnessEdge_92 : decode cX9_witnessEdge 92 = .ok (.imul, 1) := by decide +kernel
theorem dX9_witnessEdge_93 : decode cX9_witnessEdge 93 = .ok (.iadd, 1) := by decide +kernel
theorem dX9_witnessEdge_94 : decode cX9_witnessEdge 94 = .ok (.istore 9, 2) := by decide +kernel
theorem dX9_witnessEdge_96 : decode cX9_witnessEdge 96 = .ok (.iconst 1, 1) := by decide +kernel
theorem dX9_witnessEdge_97 : decode cX9_witnessEdge 97 = .ok (.iconst 3, 1) := by decide +kernel
theorem dX9_witnessEdge_98 : decode cX9_witnessEdge 98 = .ok (.iload 8, 2) := by decide +kernel
theorem dX9_witnessEdge_100 : decode cX9_witnessEdge 100 = .ok (.bipush 16, 2) := by decide +kernel
theorem dX9_witnessEdge_102 : decode cX9_witnessEdge 102 = .ok (.irem, 1) := by decide +kernel
theorem dX9_witnessEdge_103 : decode cX9_witnessEdge 103 = .ok (.imul, 1) := by decide +kernel
theorem dX9_witnessEdge_104 : decode cX9_witnessEdge 104 = .ok (.iadd, 1) := by decide +kernel
theorem dX9_witnessEdge_105 : decode cX9_witnessEdge 105 = .ok (.istore 10, 2) := by decide +kernel
theorem dX9_witnessEdge_107 : decode cX9_witnessEdge 107 = .ok (.iload 7, 2) := by decide +kernel
theorem dX9_witnessEdge_109 : decode cX9_witnessEdge 109 = .ok (.ifCond .ne 9, 3) := by decide +kernel
theorem dX9_witnessEdge_112 : decode cX9_witnessEdge 112 = .ok (.iload 8, 2) := by decide +kernel
theorem dX9_witnessEdge_114 : decode cX9_witnessEdge 114 = .ok (.bipush 16, 2) := by decide +kernel
theorem dX9_witnessEdge_116 : decode cX9_witnessEdge 116 = .ok (.idiv, 1) := by decide +kernel
theorem dX9_witnessEdge_117 : decode cX9_witnessEdge 117 = .ok (.ireturn, 1) := by decide +kernel
theorem dX9_witnessEdge_118 : decode cX9_witnessEdge 118 = .ok (.iinc 7 (-1), 3) := by decide +kernel
theorem dX9_witnessEdge_121 : decode cX9_witnessEdge 121 = .ok (.aload_n 0, 1) := by decide +kernel
theorem dX9_witnessEdge_122 : decode cX9_witnessEdge 122 = .ok (.getfield 20, 3) := by decide +kernel
theorem dX9_witnessEdge_125 : decode cX9_witnessEdge 125 = .ok (.iload 9, 2) := by decide +kernel
theorem dX9_witnessEdge_127 : decode cX9_witnessEdge 127 = .ok (.iconst 2, 1) := by decide +kernel
theorem dX9_witnessEdge_128 : decode cX9_witnessEdge 128 = .ok (.iadd, 1) := by decide +kernel
theorem dX9_witnessEdge_129 : decode cX9_witnessEdge 129 = .ok (.iaload, 1) := by decide +kernel
theorem dX9_witnessEdge_130 : decode cX9_witnessEdge 130 = .ok (.ifCond .ne 17, 3) := by decide +kernel
theorem dX9_witnessEdge_133 : decode cX9_witnessEdge 133 = .ok (.aload_n 0, 1) := by decide +kernel
theorem dX9_witnessEdge_134 : decode cX9_witnessEdge 134 = .ok (.getfield 20, 3) := by decide +kernel
theorem dX9_witnessEdge_137 : decode cX9_witnessEdge 137 = .ok (.iload 9, 2) := by decide +kernel
theorem dX9_witnessEdge_139 : decode cX9_witnessEdge 139 = .ok (.iconst 1, 1) := by decide +kernel
theorem dX9_witnessEdge_140 : decode cX9_witnessEdge 140 = .ok (.iadd, 1) := by decide +kernel
theorem dX9_witnessEdge_141 : decode cX9_witnessEdge 141 = .ok (.iaload, 1) := by decide +kernel
theorem dX9_witnessEdge_142 : decode cX9_witnessEdge 142 = .ok (.istore 5, 2) := by decide +kernel
theorem dX9_witnessEdge_144 : decode cX9_witnessEdge 144 = .ok (.goto 122, 3) := by decide +kernel
theorem dX9_witnessEdge_147 : decode cX9_witnessEdge 147 = .ok (.aload_n 0, 1) := by decide +kernel
theorem dX9_witnessEdge_148 : decode cX9_witnessEdge 148 = .ok (.getfield 45, 3) := by decide +kernel
theorem dX9_witnessEdge_151 : decode cX9_witnessEdge 151 = .ok (.bipush 8, 2) := by decide +kernel
theorem dX9_witnessEdge_153 : decode cX9_witnessEdge 153 = .ok (.aload_n 0, 1) := by decide +kernel
theorem dX9_witnessEdge_154 : decode cX9_witnessEdge 154 = .ok (.getfield 20, 3) := by decide +kernel
theorem dX9_witnessEdge_157 : decode cX9_witnessEdge 157 = .ok (.iload 9, 2) := by decide +kernel
theorem dX9_witnessEdge_159 : decode cX9_witnessEdge 159 = .ok (.iconst 1, 1) := by decide +kernel
theorem dX9_witnessEdge_160 : decode cX9_witnessEdge 160 = .ok (.iadd, 1) := by decide +kernel
theorem dX9_witnessEdge_161 : decode cX9_witnessEdge 161 = .ok (.iaload, 1) := by decide +kernel
theorem dX9_witnessEdge_162 : decode cX9_witnessEdge 162 = .ok (.imul, 1) := by decide +kernel
theorem dX9_witnessEdge_163 : decode cX9_witnessEdge 163 = .ok (.aload_n 0, 1) := by decide +kernel
theorem dX9_witnessEdge_164 : decode cX9_witnessEdge 164 = .ok (.getfield 20, 3) := by decide +kernel
theorem dX9_witnessEdge_167 : decode cX9_witnessEdge 167 = .ok (.iload 10, 2) := by decide +kernel
theorem dX9_witnessEdge_169 : decode cX9_witnessEdge 169 = .ok (.iaload, 1) := by decide +kernel
theorem dX9_witnessEdge_170 : decode cX9_witnessEdge 170 = .ok (.iadd, 1) := by decide +kernel
theorem dX9_witnessEdge_171 : decode cX9_witnessEdge 171 = .ok (.iaload, 1) := by decide +kernel
theorem dX9_witnessEdge_172 : decode cX9_witnessEdge 172 = .ok (.istore 11, 2) := by decide +kernel
theorem dX9_witnessEdge_174 : decode cX9_witnessEdge 174 = .ok (.iload 7, 2) := by decide +kernel
theorem dX9_witnessEdge_176 : decode cX9_witnessEdge 176 = .ok (.iload 11, 2) := by decide +kernel
theorem dX9_witnessEdge_178 : decode cX9_witnessEdge 178 = .ok (.if_icmp .ne 9, 3) := by decide +kernel
theorem dX9_witnessEdge_181 : decode cX9_witnessEdge 181 = .ok (.iload 8, 2) := by decide +kernel
theorem dX9_witnessEdge_183 : decode cX9_witnessEdge 183 = .ok (.bipush 16, 2) := by decide +kernel
theorem dX9_witnessEdge_185 : decode cX9_witnessEdge 185 = .ok (.irem, 1) := by decide +kernel
theorem dX9_witnessEdge_186 : decode cX9_witnessEdge 186 = .ok (.ireturn, 1) := by decide +kernel
theorem dX9_witnessEdge_187 : decode cX9_witnessEdge 187 = .ok (.iload 7, 2) := by decide +kernel
theorem dX9_witnessEdge_189 : decode cX9_witnessEdge 189 = .ok (.iload 11, 2) := by decide +kernel
theorem dX9_witnessEdge_191 : decode cX9_witnessEdge 191 = .ok (.if_icmp .ge 7, 3) := by decide +kernel
theorem dX9_witnessEdge_194 : decode cX9_witnessEdge 194 = .ok (.iconst 1, 1) := by decide +kernel
theorem dX9_witnessEdge_195 : decode cX9_witnessEdge 195 = .ok (.goto 4, 3) := by decide +kernel
theorem dX9_witnessEdge_198 : decode cX9_witnessEdge 198 = .ok (.iconst 0, 1) := by decide +kernel
theorem dX9_witnessEdge_199 : decode cX9_witnessEdge 199 = .ok (.istore 12, 2) := by decide +kernel
theorem dX9_witnessEdge_201 : decode cX9_witnessEdge 201 = .ok (.iload 12, 2) := by decide +kernel
theorem dX9_witnessEdge_203 : decode cX9_witnessEdge 203 = .ok (.ifCond .eq 15, 3) := by decide +kernel
theorem dX9_witnessEdge_206 : decode cX9_witnessEdge 206 = .ok (.aload_n 0, 1) := by decide +kernel
theorem dX9_witnessEdge_207 : decode cX9_witnessEdge 207 = .ok (.getfield 20, 3) := by decide +kernel
theorem dX9_witnessEdge_210 : decode cX9_witnessEdge 210 = .ok (.iload 9, 2) := by decide +kernel
theorem dX9_witnessEdge_212 : decode cX9_witnessEdge 212 = .ok (.iconst 1, 1) := by decide +kernel
theorem dX9_witnessEdge_213 : decode cX9_witnessEdge 213 = .ok (.iadd, 1) := by decide +kernel
theorem dX9_witnessEdge_214 : decode cX9_witnessEdge 214 = .ok (.iaload, 1) := by decide +kernel
theorem dX9_witnessEdge_215 : decode cX9_witnessEdge 215 = .ok (.goto 12, 3) := by decide +kernel
theorem dX9_witnessEdge_218 : decode cX9_witnessEdge 218 = .ok (.aload_n 0, 1) := by decide +kernel
theorem dX9_witnessEdge_219 : decode cX9_witnessEdge 219 = .ok (.getfield 20, 3) := by decide +kernel
theorem dX9_witnessEdge_222 : decode cX9_witnessEdge 222 = .ok (.iload 10, 2) := by decide +kernel
theorem dX9_witnessEdge_224 : decode cX9_witnessEdge 224 = .ok (.iconst 1, 1) := by decide +kernel
theorem dX9_witnessEdge_225 : decode cX9_witnessEdge 225 = .ok (.iadd, 1) := by decide +kernel
theorem dX9_witnessEdge_226 : decode cX9_witnessEdge 226 = .ok (.iaload, 1) := by decide +kernel
theorem dX9_witnessEdge_227 : decode cX9_witnessEdge 227 = .ok (.istore 5, 2) := by decide +kernel
theorem dX9_witnessEdge_229 : decode cX9_witnessEdge 229 = .ok (.iload 12, 2) := by decide +kernel
theorem dX9_witnessEdge_231 : decode cX9_witnessEdge 231 = .ok (.ifCond .eq 13, 3) := by decide +kernel
theorem dX9_witnessEdge_234 : decode cX9_witnessEdge 234 = .ok (.aload_n 0, 1) := by decide +kernel
theorem dX9_witnessEdge_235 : decode cX9_witnessEdge 235 = .ok (.getfield 20, 3) := by decide +kernel
theorem dX9_witnessEdge_238 : decode cX9_witnessEdge 238 = .ok (.iload 10, 2) := by decide +kernel
theorem dX9_witnessEdge_240 : decode cX9_witnessEdge 240 = .ok (.iaload, 1) := by decide +kernel
theorem dX9_witnessEdge_241 : decode cX9_witnessEdge 241 = .ok (.goto 5, 3) := by decide +kernel
theorem dX9_witnessEdge_244 : decode cX9_witnessEdge 244 = .ok (.iload 6, 2) := by decide +kernel
theorem dX9_witnessEdge_246 : decode cX9_witnessEdge 246 = .ok (.istore 6, 2) := by decide +kernel
theorem dX9_witnessEdge_248 : decode cX9_witnessEdge 248 = .ok (.iload 7, 2) := by decide +kernel
theorem dX9_witnessEdge_250 : decode cX9_witnessEdge 250 = .ok (.iload 12, 2) := by decide +kernel
theorem dX9_witnessEdge_252 : decode cX9_witnessEdge 252 = .ok (.ifCond .eq 7, 3) := by decide +kernel
theorem dX9_witnessEdge_255 : decode cX9_witnessEdge 255 = .ok (.iconst 0, 1) := by decide +kernel
theorem dX9_witnessEdge_256 : decode cX9_witnessEdge 256 = .ok (.goto 7, 3) := by decide +kernel
theorem dX9_witnessEdge_259 : decode cX9_witnessEdge 259 = .ok (.iload 11, 2) := by decide +kernel
theorem dX9_witnessEdge_261 : decode cX9_witnessEdge 261 = .ok (.iconst 1, 1) := by decide +kernel
theorem dX9_witnessEdge_262 : decode cX9_witnessEdge 262 = .ok (.iadd, 1) := by decide +kernel
theorem dX9_witnessEdge_263 : decode cX9_witnessEdge 263 = .ok (.isub, 1) := by decide +kernel
theorem dX9_witnessEdge_264 : decode cX9_witnessEdge 264 = .ok (.istore 7, 2) := by decide +kernel
theorem dX9_witnessEdge_266 : decode cX9_witnessEdge 266 = .ok (.goto (-191), 3) := by decide +kernel
theorem dX9_lessDeep_0 : decode cX9_lessDeep 0 = .ok (.iload_n 3, 1) := by decide +kernel
theorem dX9_lessDeep_1 : decode cX9_lessDeep 1 = .ok (.aload_n 0, 1) := by decide +kernel
theorem dX9_lessDeep_2 : decode cX9_lessDeep 2 = .ok (.getfield 48, 3) := by decide +kernel
theorem dX9_lessDeep_5 : decode cX9_lessDeep 5 = .ok (.bipush 8, 2) := by decide +kernel
theorem dX9_lessDeep_7 : decode cX9_lessDeep 7 = .ok (.iload_n 1, 1) := by decide +kernel
theorem dX9_lessDeep_8 : decode cX9_lessDeep 8 = .ok (.imul, 1) := by decide +kernel
theorem dX9_lessDeep_9 : decode cX9_lessDeep 9 = .ok (.iload_n 2, 1) := by decide +kernel
theorem dX9_lessDeep_10 : decode cX9_lessDeep 10 = .ok (.iadd, 1) := by decide +kernel
theorem dX9_lessDeep_11 : decode cX9_lessDeep 11 = .ok (.iaload, 1) := by decide +kernel
theorem dX9_lessDeep_12 : decode cX9_lessDeep 12 = .ok (.if_icmp .ge 7, 3) := by decide +kernel
theorem dX9_lessDeep_15 : decode cX9_lessDeep 15 = .ok (.iconst 1, 1) := by decide +kernel
theorem dX9_lessDeep_16 : decode cX9_lessDeep 16 = .ok (.goto 4, 3) := by decide +kernel
theorem dX9_lessDeep_19 : decode cX9_lessDeep 19 = .ok (.iconst 0, 1) := by decide +kernel
theorem dX9_lessDeep_20 : decode cX9_lessDeep 20 = .ok (.istore 4, 2) := by decide +kernel
theorem dX9_lessDeep_22 : decode cX9_lessDeep 22 = .ok (.aload_n 0, 1) := by decide +kernel
theorem dX9_lessDeep_23 : decode cX9_lessDeep 23 = .ok (.getfield 48, 3) := by decide +kernel
theorem dX9_lessDeep_26 : decode cX9_lessDeep 26 = .ok (.bipush 8, 2) := by decide +kernel
theorem dX9_lessDeep_28 : decode cX9_lessDeep 28 = .ok (.iload_n 1, 1) := by decide +kernel
theorem dX9_lessDeep_29 : decode cX9_lessDeep 29 = .ok (.imul, 1) := by decide +kernel
theorem dX9_lessDeep_30 : decode cX9_lessDeep 30 = .ok (.iload_n 2, 1) := by decide +kernel
theorem dX9_lessDeep_31 : decode cX9_lessDeep 31 = .ok (.iadd, 1) := by decide +kernel
theorem dX9_lessDeep_32 : decode cX9_lessDeep 32 = .ok (.iload 4, 2) := by decide +kernel
theorem dX9_lessDeep_34 : decode cX9_lessDeep 34 = .ok (.ifCond .eq 7, 3) := by decide +kernel
theorem dX9_lessDeep_37 : decode cX9_lessDeep 37 = .ok (.iload_n 3, 1) := by decide +kernel
theorem dX9_lessDeep_38 : decode cX9_lessDeep 38 = .ok (.goto 14, 3) := by decide +kernel
theorem dX9_lessDeep_41 : decode cX9_lessDeep 41 = .ok (.aload_n 0, 1) := by decide +kernel
theorem dX9_lessDeep_42 : decode cX9_lessDeep 42 = .ok (.getfield 48, 3) := by decide +kernel
theorem dX9_lessDeep_45 : decode cX9_lessDeep 45 = .ok (.bipush 8, 2) := by decide +kernel
theorem dX9_lessDeep_47 : decode cX9_lessDeep 47 = .ok (.iload_n 1, 1) := by decide +kernel
theorem dX9_lessDeep_48 : decode cX9_lessDeep 48 = .ok (.imul, 1) := by decide +kernel
theorem dX9_lessDeep_49 : decode cX9_lessDeep 49 = .ok (.iload_n 2, 1) := by decide +kernel
theorem dX9_lessDeep_50 : decode cX9_lessDeep 50 = .ok (.iadd, 1) := by decide +kernel
theorem dX9_lessDeep_51 : decode cX9_lessDeep 51 = .ok (.iaload, 1) := by decide +kernel
theorem dX9_lessDeep_52 : decode cX9_lessDeep 52 = .ok (.iastore, 1) := by decide +kernel
theorem dX9_lessDeep_53 : decode cX9_lessDeep 53 = .ok (.iload 4, 2) := by decide +kernel
theorem dX9_lessDeep_55 : decode cX9_lessDeep 55 = .ok (.ireturn, 1) := by decide +kernel
set_option maxRecDepth 20000 in
theorem ggX9_closeDepths_X9_lessDeep : GoodIn wsX9_closeDepths wsX9_lessDeep := goodIn_r _ [9, 1, 13, 14, 15, 16, 17, 18, 19, 20, 21, 22, 23, 24, 25, 26, 27, 28, 29, 30, 31, 32, 33] (by decide +kernel) (by decide +kernel)
set_option maxRecDepth 20000 in
theorem gX9_closeDepths_X9_lessDeep : GoodIn wsX9_closeDepths (wsV RX9 155 RX9 yX9_lessDeep wsX9_lessDeep) := goodIn_app (goodIn_of _ (by decide +kernel)) ggX9_closeDepths_X9_lessDeep
set_option maxRecDepth 20000 in
theorem ggX9_closeDepths_X9_in : GoodIn wsX9_closeDepths wsX9_in := goodIn_r _ [12] (by decide +kernel) (by decide +kernel)
set_option maxRecDepth 20000 in
theorem gX9_closeDepths_X9_in : GoodIn wsX9_closeDepths (va_wsS RX9 57 yX9_in wsX9_in) := goodIn_app (goodIn_of _ (by decide +kernel)) ggX9_closeDepths_X9_in
theorem dX9_closeDepths_0 : decode cX9_closeDepths 0 = .ok (.iconst 0, 1) := by decide +kernel
theorem dX9_closeDepths_1 : decode cX9_closeDepths 1 = .ok (.istore_n 1, 1) := by decide +kernel
theorem dX9_closeDepths_2 : decode cX9_closeDepths 2 = .ok (.iload_n 1, 1) := by decide +kernel
theorem dX9_closeDepths_3 : decode cX9_closeDepths 3 = .ok (.bipush 64, 2) := by decide +kernel
theorem dX9_closeDepths_5 : decode cX9_closeDepths 5 = .ok (.if_icmp .ge 32, 3) := by decide +kernel
theorem dX9_closeDepths_8 : decode cX9_closeDepths 8 = .ok (.aload_n 0, 1) := by decide +kernel
theorem dX9_closeDepths_9 : decode cX9_closeDepths 9 = .ok (.getfield 48, 3) := by decide +kernel
theorem dX9_closeDepths_12 : decode cX9_closeDepths 12 = .ok (.iload_n 1, 1) := by decide +kernel
theorem dX9_closeDepths_13 : decode cX9_closeDepths 13 = .ok (.iload_n 1, 1) := by decide +kernel
theorem dX9_closeDepths_14 : decode cX9_closeDepths 14 = .ok (.bipush 8, 2) := by decide +kernel
theorem dX9_closeDepths_16 : decode cX9_closeDepths 16 = .ok (.idiv, 1) := by decide +kernel
theorem dX9_closeDepths_17 : decode cX9_closeDepths 17 = .ok (.iload_n 1, 1) := by decide +kernel
theorem dX9_closeDepths_18 : decode cX9_closeDepths 18 = .ok (.bipush 8, 2) := by decide +kernel
theorem dX9_closeDepths_20 : decode cX9_closeDepths 20 = .ok (.irem, 1) := by decide +kernel
theorem dX9_closeDepths_21 : decode cX9_closeDepths 21 = .ok (.if_icmp .ne 7, 3) := by decide +kernel
theorem dX9_closeDepths_24 : decode cX9_closeDepths 24 = .ok (.iconst 0, 1) := by decide +kernel
theorem dX9_closeDepths_25 : decode cX9_closeDepths 25 = .ok (.goto 5, 3) := by decide +kernel
theorem dX9_closeDepths_28 : decode cX9_closeDepths 28 = .ok (.ldc 62, 2) := by decide +kernel
theorem dX9_closeDepths_30 : decode cX9_closeDepths 30 = .ok (.iastore, 1) := by decide +kernel
theorem dX9_closeDepths_31 : decode cX9_closeDepths 31 = .ok (.iinc 1 1, 3) := by decide +kernel
theorem dX9_closeDepths_34 : decode cX9_closeDepths 34 = .ok (.goto (-32), 3) := by decide +kernel
theorem dX9_closeDepths_37 : decode cX9_closeDepths 37 = .ok (.iconst 1, 1) := by decide +kernel
theorem dX9_closeDepths_38 : decode cX9_closeDepths 38 = .ok (.istore_n 1, 1) := by decide +kernel
theorem dX9_closeDepths_39 : decode cX9_closeDepths 39 = .ok (.iload_n 1, 1) := by decide +kernel
theorem dX9_closeDepths_40 : decode cX9_closeDepths 40 = .ok (.ifCond .eq 269, 3) := by decide +kernel
theorem dX9_closeDepths_43 : decode cX9_closeDepths 43 = .ok (.iconst 0, 1) := by decide +kernel
theorem dX9_closeDepths_44 : decode cX9_closeDepths 44 = .ok (.istore_n 1, 1) := by decide +kernel
theorem dX9_closeDepths_45 : decode cX9_closeDepths 45 = .ok (.iconst 1, 1) := by decide +kernel
theorem dX9_closeDepths_46 : decode cX9_closeDepths 46 = .ok (.istore_n 2, 1) := by decide +kernel
theorem dX9_closeDepths_47 : decode cX9_closeDepths 47 = .ok (.iload_n 2, 1) := by decide +kernel
theorem dX9_closeDepths_48 : decode cX9_closeDepths 48 = .ok (.iconst 3, 1) := by decide +kernel
theorem dX9_closeDepths_49 : decode cX9_closeDepths 49 = .ok (.aload_n 0, 1) := by decide +kernel
theorem dX9_closeDepths_50 : decode cX9_closeDepths 50 = .ok (.getfield 20, 3) := by decide +kernel
theorem dX9_closeDepths_53 : decode cX9_closeDepths 53 = .ok (.iconst 0, 1) := by decide +kernel
theorem dX9_closeDepths_54 : decode cX9_closeDepths 54 = .ok (.iaload, 1) := by decide +kernel
theorem dX9_closeDepths_55 : decode cX9_closeDepths 55 = .ok (.imul, 1) := by decide +kernel
theorem dX9_closeDepths_56 : decode cX9_closeDepths 56 = .ok (.if_icmp .ge 163, 3) := by decide +kernel
theorem dX9_closeDepths_59 : decode cX9_closeDepths 59 = .ok (.aload_n 0, 1) := by decide +kernel
theorem dX9_closeDepths_60 : decode cX9_closeDepths 60 = .ok (.getfield 20, 3) := by decide +kernel
theorem dX9_closeDepths_63 : decode cX9_closeDepths 63 = .ok (.iload_n 2, 1) := by decide +kernel
theorem dX9_closeDepths_64 : decode cX9_closeDepths 64 = .ok (.iconst 2, 1) := by decide +kernel
theorem dX9_closeDepths_65 : decode cX9_closeDepths 65 = .ok (.iadd, 1) := by decide +kernel
theorem dX9_closeDepths_66 : decode cX9_closeDepths 66 = .ok (.iaload, 1) := by decide +kernel
theorem dX9_closeDepths_67 : decode cX9_closeDepths 67 = .ok (.ifCond .ne 27, 3) := by decide +kernel
theorem dX9_closeDepths_70 : decode cX9_closeDepths 70 = .ok (.aload_n 0, 1) := by decide +kernel
theorem dX9_closeDepths_71 : decode cX9_closeDepths 71 = .ok (.aload_n 0, 1) := by decide +kernel
theorem dX9_closeDepths_72 : decode cX9_closeDepths 72 = .ok (.getfield 20, 3) := by decide +kernel
theorem dX9_closeDepths_75 : decode cX9_closeDepths 75 = .ok (.iload_n 2, 1) := by decide +kernel
theorem dX9_closeDepths_76 : decode cX9_closeDepths 76 = .ok (.iaload, 1) := by decide +kernel
theorem dX9_closeDepths_77 : decode cX9_closeDepths 77 = .ok (.aload_n 0, 1) := by decide +kernel
theorem dX9_closeDepths_78 : decode cX9_closeDepths 78 = .ok (.getfield 20, 3) := by decide +kernel
theorem dX9_closeDepths_81 : decode cX9_closeDepths 81 = .ok (.iload_n 2, 1) := by decide +kernel
theorem dX9_closeDepths_82 : decode cX9_closeDepths 82 = .ok (.iconst 1, 1) := by decide +kernel
theorem dX9_closeDepths_83 : decode cX9_closeDepths 83 = .ok (.iadd, 1) := by decide +kernel
theorem dX9_closeDepths_84 : decode cX9_closeDepths 84 = .ok (.iaload, 1) := by decide +kernel
theorem dX9_closeDepths_85 : decode cX9_closeDepths 85 = .ok (.iconst 0, 1) := by decide +kernel
theorem dX9_closeDepths_86 : decode cX9_closeDepths 86 = .ok (.invokevirtual 155, 3) := by decide +kernel
theorem dX9_closeDepths_89 : decode cX9_closeDepths 89 = .ok (.ifCond .eq 5, 3) := by decide +kernel
theorem dX9_closeDepths_92 : decode cX9_closeDepths 92 = .ok (.iconst 1, 1) := by decide +kernel
theorem dX9_closeDepths_93 : decode cX9_closeDepths 93 = .ok (.istore_n 1, 1) := by decide +kernel
theorem dX9_closeDepths_94 : decode cX9_closeDepths 94 = .ok (.iconst 1, 1) := by decide +kernel
theorem dX9_closeDepths_95 : decode cX9_closeDepths 95 = .ok (.istore_n 3, 1) := by decide +kernel
theorem dX9_closeDepths_96 : decode cX9_closeDepths 96 = .ok (.iload_n 3, 1) := by decide +kernel
theorem dX9_closeDepths_97 : decode cX9_closeDepths 97 = .ok (.iconst 3, 1) := by decide +kernel
theorem dX9_closeDepths_98 : decode cX9_closeDepths 98 = .ok (.aload_n 0, 1) := by decide +kernel
theorem dX9_closeDepths_99 : decode cX9_closeDepths 99 = .ok (.getfield 20, 3) := by decide +kernel
theorem dX9_closeDepths_102 : decode cX9_closeDepths 102 = .ok (.iconst 0, 1) := by decide +kernel
theorem dX9_closeDepths_103 : decode cX9_closeDepths 103 = .ok (.iaload, 1) := by decide +kernel
theorem dX9_closeDepths_104 : decode cX9_closeDepths 104 = .ok (.imul, 1) := by decide +kernel
theorem dX9_closeDepths_105 : decode cX9_closeDepths 105 = .ok (.if_icmp .ge 108, 3) := by decide +kernel
theorem dX9_closeDepths_108 : decode cX9_closeDepths 108 = .ok (.aload_n 0, 1) := by decide +kernel
theorem dX9_closeDepths_109 : decode cX9_closeDepths 109 = .ok (.getfield 20, 3) := by decide +kernel
theorem dX9_closeDepths_112 : decode cX9_closeDepths 112 = .ok (.iload_n 2, 1) := by decide +kernel
theorem dX9_closeDepths_113 : decode cX9_closeDepths 113 = .ok (.iconst 2, 1) := by decide +kernel
theorem dX9_closeDepths_114 : decode cX9_closeDepths 114 = .ok (.iadd, 1) := by decide +kernel
theorem dX9_closeDepths_115 : decode cX9_closeDepths 115 = .ok (.iaload, 1) := by decide +kernel
theorem dX9_closeDepths_116 : decode cX9_closeDepths 116 = .ok (.i2l, 1) := by decide +kernel
theorem dX9_closeDepths_117 : decode cX9_closeDepths 117 = .ok (.lconst 1, 1) := by decide +kernel
theorem dX9_closeDepths_118 : decode cX9_closeDepths 118 = .ok (.ldc2_w 67, 3) := by decide +kernel
theorem dX9_closeDepths_121 : decode cX9_closeDepths 121 = .ok (.invokestatic 57, 3) := by decide +kernel
theorem dX9_closeDepths_124 : decode cX9_closeDepths 124 = .ok (.ifCond .eq 89, 3) := by decide +kernel
theorem dX9_closeDepths_127 : decode cX9_closeDepths 127 = .ok (.aload_n 0, 1) := by decide +kernel
theorem dX9_closeDepths_128 : decode cX9_closeDepths 128 = .ok (.getfield 48, 3) := by decide +kernel
theorem dX9_closeDepths_131 : decode cX9_closeDepths 131 = .ok (.bipush 8, 2) := by decide +kernel
theorem dX9_closeDepths_133 : decode cX9_closeDepths 133 = .ok (.aload_n 0, 1) := by decide +kernel
theorem dX9_closeDepths_134 : decode cX9_closeDepths 134 = .ok (.getfield 20, 3) := by decide +kernel
theorem dX9_closeDepths_137 : decode cX9_closeDepths 137 = .ok (.iload_n 2, 1) := by decide +kernel
theorem dX9_closeDepths_138 : decode cX9_closeDepths 138 = .ok (.iconst 1, 1) := by decide +kernel
theorem dX9_closeDepths_139 : decode cX9_closeDepths 139 = .ok (.iadd, 1) := by decide +kernel
theorem dX9_closeDepths_140 : decode cX9_closeDepths 140 = .ok (.iaload, 1) := by decide +kernel
theorem dX9_closeDepths_141 : decode cX9_closeDepths 141 = .ok (.imul, 1) := by decide +kernel
theorem dX9_closeDepths_142 : decode cX9_closeDepths 142 = .ok (.aload_n 0, 1) := by decide +kernel
theorem dX9_closeDepths_143 : decode cX9_closeDepths 143 = .ok (.getfield 20, 3) := by decide +kernel
theorem dX9_closeDepths_146 : decode cX9_closeDepths 146 = .ok (.iload_n 3, 1) := by decide +kernel
theorem dX9_closeDepths_147 : decode cX9_closeDepths 147 = .ok (.iaload, 1) := by decide +kernel
theorem dX9_closeDepths_148 : decode cX9_closeDepths 148 = .ok (.iadd, 1) := by decide +kernel
theorem dX9_closeDepths_149 : decode cX9_closeDepths 149 = .ok (.iaload, 1) := by decide +kernel
theorem dX9_closeDepths_150 : decode cX9_closeDepths 150 = .ok (.istore 4, 2) := by decide +kernel
theorem dX9_closeDepths_152 : decode cX9_closeDepths 152 = .ok (.aload_n 0, 1) := by decide +kernel
theorem dX9_closeDepths_153 : decode cX9_closeDepths 153 = .ok (.getfield 20, 3) := by decide +kernel
theorem dX9_closeDepths_156 : decode cX9_closeDepths 156 = .ok (.iload_n 3, 1) := by decide +kernel
theorem dX9_closeDepths_157 : decode cX9_closeDepths 157 = .ok (.iconst 2, 1) := by decide +kernel
theorem dX9_closeDepths_158 : decode cX9_closeDepths 158 = .ok (.iadd, 1) := by decide +kernel
theorem dX9_closeDepths_159 : decode cX9_closeDepths 159 = .ok (.iaload, 1) := by decide +kernel
theorem dX9_closeDepths_160 : decode cX9_closeDepths 160 = .ok (.aload_n 0, 1) := by decide +kernel
theorem dX9_closeDepths_161 : decode cX9_closeDepths 161 = .ok (.getfield 20, 3) := by decide +kernel
theorem dX9_closeDepths_164 : decode cX9_closeDepths 164 = .ok (.iload_n 2, 1) := by decide +kernel
theorem dX9_closeDepths_165 : decode cX9_closeDepths 165 = .ok (.iconst 2, 1) := by decide +kernel
theorem dX9_closeDepths_166 : decode cX9_closeDepths 166 = .ok (.iadd, 1) := by decide +kernel
theorem dX9_closeDepths_167 : decode cX9_closeDepths 167 = .ok (.iaload, 1) := by decide +kernel
end
section
theorem dX9_closeDepths_168 : decode cX9_closeDepths 168 = .ok (.iconst 3, 1) := by decide +kernel
theorem dX9_closeDepths_169 : decode cX9_closeDepths 169 = .ok (.iadd, 1) := by decide +kernel
theorem dX9_closeDepths_170 : decode cX9_closeDepths 170 = .ok (.if_icmp .ne 37, 3) := by decide +kernel
theorem dX9_closeDepths_173 : decode cX9_closeDepths 173 = .ok (.iload 4, 2) := by decide +kernel
theorem dX9_closeDepths_175 : decode cX9_closeDepths 175 = .ok (.ldc 62, 2) := by decide +kernel
theorem dX9_closeDepths_177 : decode cX9_closeDepths 177 = .ok (.if_icmp .ge 30, 3) := by decide +kernel
theorem dX9_closeDepths_180 : decode cX9_closeDepths 180 = .ok (.aload_n 0, 1) := by decide +kernel
theorem dX9_closeDepths_181 : decode cX9_closeDepths 181 = .ok (.aload_n 0, 1) := by decide +kernel
theorem dX9_closeDepths_182 : decode cX9_closeDepths 182 = .ok (.getfield 20, 3) := by decide +kernel
theorem dX9_closeDepths_185 : decode cX9_closeDepths 185 = .ok (.iload_n 2, 1) := by decide +kernel
theorem dX9_closeDepths_186 : decode cX9_closeDepths 186 = .ok (.iaload, 1) := by decide +kernel
theorem dX9_closeDepths_187 : decode cX9_closeDepths 187 = .ok (.aload_n 0, 1) := by decide +kernel
theorem dX9_closeDepths_188 : decode cX9_closeDepths 188 = .ok (.getfield 20, 3) := by decide +kernel
theorem dX9_closeDepths_191 : decode cX9_closeDepths 191 = .ok (.iload_n 3, 1) := by decide +kernel
theorem dX9_closeDepths_192 : decode cX9_closeDepths 192 = .ok (.iconst 1, 1) := by decide +kernel
theorem dX9_closeDepths_193 : decode cX9_closeDepths 193 = .ok (.iadd, 1) := by decide +kernel
theorem dX9_closeDepths_194 : decode cX9_closeDepths 194 = .ok (.iaload, 1) := by decide +kernel
theorem dX9_closeDepths_195 : decode cX9_closeDepths 195 = .ok (.iload 4, 2) := by decide +kernel
theorem dX9_closeDepths_197 : decode cX9_closeDepths 197 = .ok (.iconst 1, 1) := by decide +kernel
theorem dX9_closeDepths_198 : decode cX9_closeDepths 198 = .ok (.iadd, 1) := by decide +kernel
theorem dX9_closeDepths_199 : decode cX9_closeDepths 199 = .ok (.invokevirtual 155, 3) := by decide +kernel
theorem dX9_closeDepths_202 : decode cX9_closeDepths 202 = .ok (.ifCond .eq 5, 3) := by decide +kernel
theorem dX9_closeDepths_205 : decode cX9_closeDepths 205 = .ok (.iconst 1, 1) := by decide +kernel
theorem dX9_closeDepths_206 : decode cX9_closeDepths 206 = .ok (.istore_n 1, 1) := by decide +kernel
theorem dX9_closeDepths_207 : decode cX9_closeDepths 207 = .ok (.iinc 3 3, 3) := by decide +kernel
theorem dX9_closeDepths_210 : decode cX9_closeDepths 210 = .ok (.goto (-114), 3) := by decide +kernel
theorem dX9_closeDepths_213 : decode cX9_closeDepths 213 = .ok (.iinc 2 3, 3) := by decide +kernel
theorem dX9_closeDepths_216 : decode cX9_closeDepths 216 = .ok (.goto (-169), 3) := by decide +kernel
theorem dX9_closeDepths_219 : decode cX9_closeDepths 219 = .ok (.iconst 0, 1) := by decide +kernel
theorem dX9_closeDepths_220 : decode cX9_closeDepths 220 = .ok (.istore_n 2, 1) := by decide +kernel
theorem dX9_closeDepths_221 : decode cX9_closeDepths 221 = .ok (.iload_n 2, 1) := by decide +kernel
theorem dX9_closeDepths_222 : decode cX9_closeDepths 222 = .ok (.sipush 512, 3) := by decide +kernel
theorem dX9_closeDepths_225 : decode cX9_closeDepths 225 = .ok (.if_icmp .ge 81, 3) := by decide +kernel
theorem dX9_closeDepths_228 : decode cX9_closeDepths 228 = .ok (.aload_n 0, 1) := by decide +kernel
theorem dX9_closeDepths_229 : decode cX9_closeDepths 229 = .ok (.getfield 48, 3) := by decide +kernel
theorem dX9_closeDepths_232 : decode cX9_closeDepths 232 = .ok (.bipush 8, 2) := by decide +kernel
theorem dX9_closeDepths_234 : decode cX9_closeDepths 234 = .ok (.iload_n 2, 1) := by decide +kernel
theorem dX9_closeDepths_235 : decode cX9_closeDepths 235 = .ok (.bipush 64, 2) := by decide +kernel
theorem dX9_closeDepths_237 : decode cX9_closeDepths 237 = .ok (.idiv, 1) := by decide +kernel
theorem dX9_closeDepths_238 : decode cX9_closeDepths 238 = .ok (.imul, 1) := by decide +kernel
theorem dX9_closeDepths_239 : decode cX9_closeDepths 239 = .ok (.iload_n 2, 1) := by decide +kernel
theorem dX9_closeDepths_240 : decode cX9_closeDepths 240 = .ok (.bipush 8, 2) := by decide +kernel
theorem dX9_closeDepths_242 : decode cX9_closeDepths 242 = .ok (.idiv, 1) := by decide +kernel
theorem dX9_closeDepths_243 : decode cX9_closeDepths 243 = .ok (.bipush 8, 2) := by decide +kernel
theorem dX9_closeDepths_245 : decode cX9_closeDepths 245 = .ok (.irem, 1) := by decide +kernel
theorem dX9_closeDepths_246 : decode cX9_closeDepths 246 = .ok (.iadd, 1) := by decide +kernel
theorem dX9_closeDepths_247 : decode cX9_closeDepths 247 = .ok (.iaload, 1) := by decide +kernel
theorem dX9_closeDepths_248 : decode cX9_closeDepths 248 = .ok (.istore_n 3, 1) := by decide +kernel
theorem dX9_closeDepths_249 : decode cX9_closeDepths 249 = .ok (.aload_n 0, 1) := by decide +kernel
theorem dX9_closeDepths_250 : decode cX9_closeDepths 250 = .ok (.getfield 48, 3) := by decide +kernel
theorem dX9_closeDepths_253 : decode cX9_closeDepths 253 = .ok (.bipush 8, 2) := by decide +kernel
theorem dX9_closeDepths_255 : decode cX9_closeDepths 255 = .ok (.iload_n 2, 1) := by decide +kernel
theorem dX9_closeDepths_256 : decode cX9_closeDepths 256 = .ok (.bipush 8, 2) := by decide +kernel
theorem dX9_closeDepths_258 : decode cX9_closeDepths 258 = .ok (.idiv, 1) := by decide +kernel
theorem dX9_closeDepths_259 : decode cX9_closeDepths 259 = .ok (.bipush 8, 2) := by decide +kernel
theorem dX9_closeDepths_261 : decode cX9_closeDepths 261 = .ok (.irem, 1) := by decide +kernel
theorem dX9_closeDepths_262 : decode cX9_closeDepths 262 = .ok (.imul, 1) := by decide +kernel
theorem dX9_closeDepths_263 : decode cX9_closeDepths 263 = .ok (.iload_n 2, 1) := by decide +kernel
theorem dX9_closeDepths_264 : decode cX9_closeDepths 264 = .ok (.bipush 8, 2) := by decide +kernel
theorem dX9_closeDepths_266 : decode cX9_closeDepths 266 = .ok (.irem, 1) := by decide +kernel
theorem dX9_closeDepths_267 : decode cX9_closeDepths 267 = .ok (.iadd, 1) := by decide +kernel
theorem dX9_closeDepths_268 : decode cX9_closeDepths 268 = .ok (.iaload, 1) := by decide +kernel
theorem dX9_closeDepths_269 : decode cX9_closeDepths 269 = .ok (.istore 4, 2) := by decide +kernel
theorem dX9_closeDepths_271 : decode cX9_closeDepths 271 = .ok (.aload_n 0, 1) := by decide +kernel
theorem dX9_closeDepths_272 : decode cX9_closeDepths 272 = .ok (.iload_n 2, 1) := by decide +kernel
theorem dX9_closeDepths_273 : decode cX9_closeDepths 273 = .ok (.bipush 64, 2) := by decide +kernel
theorem dX9_closeDepths_275 : decode cX9_closeDepths 275 = .ok (.idiv, 1) := by decide +kernel
theorem dX9_closeDepths_276 : decode cX9_closeDepths 276 = .ok (.iload_n 2, 1) := by decide +kernel
theorem dX9_closeDepths_277 : decode cX9_closeDepths 277 = .ok (.bipush 8, 2) := by decide +kernel
theorem dX9_closeDepths_279 : decode cX9_closeDepths 279 = .ok (.irem, 1) := by decide +kernel
theorem dX9_closeDepths_280 : decode cX9_closeDepths 280 = .ok (.iload_n 3, 1) := by decide +kernel
theorem dX9_closeDepths_281 : decode cX9_closeDepths 281 = .ok (.iload 4, 2) := by decide +kernel
theorem dX9_closeDepths_283 : decode cX9_closeDepths 283 = .ok (.if_icmp .le 7, 3) := by decide +kernel
theorem dX9_closeDepths_286 : decode cX9_closeDepths 286 = .ok (.iload_n 3, 1) := by decide +kernel
theorem dX9_closeDepths_287 : decode cX9_closeDepths 287 = .ok (.goto 5, 3) := by decide +kernel
theorem dX9_closeDepths_290 : decode cX9_closeDepths 290 = .ok (.iload 4, 2) := by decide +kernel
theorem dX9_closeDepths_292 : decode cX9_closeDepths 292 = .ok (.invokevirtual 155, 3) := by decide +kernel
theorem dX9_closeDepths_295 : decode cX9_closeDepths 295 = .ok (.ifCond .eq 5, 3) := by decide +kernel
theorem dX9_closeDepths_298 : decode cX9_closeDepths 298 = .ok (.iconst 1, 1) := by decide +kernel
theorem dX9_closeDepths_299 : decode cX9_closeDepths 299 = .ok (.istore_n 1, 1) := by decide +kernel
theorem dX9_closeDepths_300 : decode cX9_closeDepths 300 = .ok (.iinc 2 1, 3) := by decide +kernel
theorem dX9_closeDepths_303 : decode cX9_closeDepths 303 = .ok (.goto (-82), 3) := by decide +kernel
theorem dX9_closeDepths_306 : decode cX9_closeDepths 306 = .ok (.goto (-267), 3) := by decide +kernel
theorem dX9_closeDepths_309 : decode cX9_closeDepths 309 = .ok (.return_, 1) := by decide +kernel
set_option maxRecDepth 20000 in
theorem ggX9_depth_X9_noVertex : GoodIn wsX9_depth wsX9_noVertex := goodIn_r _ [8, 9, 10, 11, 7, 12, 23, 24, 25, 26, 27, 28, 29, 30, 31, 32, 33, 34, 35, 36, 37, 38, 39, 40, 41, 42, 43] (by decide +kernel) (by decide +kernel)
set_option maxRecDepth 20000 in
theorem gX9_depth_X9_noVertex : GoodIn wsX9_depth (wsV RX9 129 RX9 yX9_noVertex wsX9_noVertex) := goodIn_app (goodIn_of _ (by decide +kernel)) ggX9_depth_X9_noVertex
set_option maxRecDepth 20000 in
theorem ggX9_depth_X9_closeDepths : GoodIn wsX9_depth wsX9_closeDepths := goodIn_r _ [16, 2, 3, 17, 18, 19, 20, 21, 7, 22, 10, 11, 12, 23, 24, 25, 26, 27, 28, 29, 30, 31, 32, 33, 34, 35, 36, 37, 38, 39, 40, 41, 42, 43] (by decide +kernel) (by decide +kernel)
set_option maxRecDepth 20000 in
theorem gX9_depth_X9_closeDepths : GoodIn wsX9_depth (wsV RX9 158 RX9 yX9_closeDepths wsX9_closeDepths) := goodIn_app (goodIn_of _ (by decide +kernel)) ggX9_depth_X9_closeDepths
theorem dX9_depth_0 : decode cX9_depth 0 = .ok (.aload_n 0, 1) := by decide +kernel
theorem dX9_depth_1 : decode cX9_depth 1 = .ok (.iconst 0, 1) := by decide +kernel
theorem dX9_depth_2 : decode cX9_depth 2 = .ok (.putfield 54, 3) := by decide +kernel
theorem dX9_depth_5 : decode cX9_depth 5 = .ok (.aload_n 0, 1) := by decide +kernel
theorem dX9_depth_6 : decode cX9_depth 6 = .ok (.iload_n 1, 1) := by decide +kernel
theorem dX9_depth_7 : decode cX9_depth 7 = .ok (.invokevirtual 129, 3) := by decide +kernel
theorem dX9_depth_10 : decode cX9_depth 10 = .ok (.ifCond .ne 11, 3) := by decide +kernel
theorem dX9_depth_13 : decode cX9_depth 13 = .ok (.aload_n 0, 1) := by decide +kernel
theorem dX9_depth_14 : decode cX9_depth 14 = .ok (.iload_n 2, 1) := by decide +kernel
theorem dX9_depth_15 : decode cX9_depth 15 = .ok (.invokevirtual 129, 3) := by decide +kernel
theorem dX9_depth_18 : decode cX9_depth 18 = .ok (.ifCond .eq 5, 3) := by decide +kernel
theorem dX9_depth_21 : decode cX9_depth 21 = .ok (.iconst (-1), 1) := by decide +kernel
theorem dX9_depth_22 : decode cX9_depth 22 = .ok (.ireturn, 1) := by decide +kernel
theorem dX9_depth_23 : decode cX9_depth 23 = .ok (.aload_n 0, 1) := by decide +kernel
theorem dX9_depth_24 : decode cX9_depth 24 = .ok (.invokevirtual 158, 3) := by decide +kernel
theorem dX9_depth_27 : decode cX9_depth 27 = .ok (.aload_n 0, 1) := by decide +kernel
theorem dX9_depth_28 : decode cX9_depth 28 = .ok (.getfield 48, 3) := by decide +kernel
theorem dX9_depth_31 : decode cX9_depth 31 = .ok (.bipush 8, 2) := by decide +kernel
theorem dX9_depth_33 : decode cX9_depth 33 = .ok (.iload_n 1, 1) := by decide +kernel
theorem dX9_depth_34 : decode cX9_depth 34 = .ok (.imul, 1) := by decide +kernel
theorem dX9_depth_35 : decode cX9_depth 35 = .ok (.iload_n 2, 1) := by decide +kernel
theorem dX9_depth_36 : decode cX9_depth 36 = .ok (.iadd, 1) := by decide +kernel
theorem dX9_depth_37 : decode cX9_depth 37 = .ok (.iaload, 1) := by decide +kernel
theorem dX9_depth_38 : decode cX9_depth 38 = .ok (.istore_n 3, 1) := by decide +kernel
theorem dX9_depth_39 : decode cX9_depth 39 = .ok (.iload_n 3, 1) := by decide +kernel
theorem dX9_depth_40 : decode cX9_depth 40 = .ok (.ldc 62, 2) := by decide +kernel
theorem dX9_depth_42 : decode cX9_depth 42 = .ok (.if_icmp .ne 8, 3) := by decide +kernel
theorem dX9_depth_45 : decode cX9_depth 45 = .ok (.bipush (-9), 2) := by decide +kernel
theorem dX9_depth_47 : decode cX9_depth 47 = .ok (.goto 4, 3) := by decide +kernel
theorem dX9_depth_50 : decode cX9_depth 50 = .ok (.iload_n 3, 1) := by decide +kernel
theorem dX9_depth_51 : decode cX9_depth 51 = .ok (.ireturn, 1) := by decide +kernel
set_option maxRecDepth 20000 in
theorem ggX9_lossOf_X9_pairsOf : GoodIn wsX9_lossOf wsX9_pairsOf := goodIn_r _ [7, 8, 9, 10, 6, 11, 12, 13, 14, 15, 16, 17, 18, 19, 20, 21, 22, 23, 24, 25, 26, 27, 28, 29, 30, 31, 32, 33, 34, 35, 36, 37, 38, 39, 40, 41, 42, 43, 44, 45, 46, 47, 48, 49, 50, 51, 52, 53, 54, 55, 56] (by decide +kernel) (by decide +kernel)
set_option maxRecDepth 20000 in
theorem gX9_lossOf_X9_pairsOf : GoodIn wsX9_lossOf (wsV RX9 144 RX9 yX9_pairsOf wsX9_pairsOf) := goodIn_app (goodIn_of _ (by decide +kernel)) ggX9_lossOf_X9_pairsOf
theorem dX9_lossOf_0 : decode cX9_lossOf 0 = .ok (.aload_n 0, 1) := by decide +kernel
theorem dX9_lossOf_1 : decode cX9_lossOf 1 = .ok (.aload_n 0, 1) := by decide +kernel
theorem dX9_lossOf_2 : decode cX9_lossOf 2 = .ok (.getfield 20, 3) := by decide +kernel
theorem dX9_lossOf_5 : decode cX9_lossOf 5 = .ok (.ldc 140, 2) := by decide +kernel
theorem dX9_lossOf_7 : decode cX9_lossOf 7 = .ok (.invokevirtual 144, 3) := by decide +kernel
theorem dX9_lossOf_10 : decode cX9_lossOf 10 = .ok (.aload_n 0, 1) := by decide +kernel
theorem dX9_lossOf_11 : decode cX9_lossOf 11 = .ok (.aload_n 0, 1) := by decide +kernel
theorem dX9_lossOf_12 : decode cX9_lossOf 12 = .ok (.getfield 20, 3) := by decide +kernel
theorem dX9_lossOf_15 : decode cX9_lossOf 15 = .ok (.ldc 140, 2) := by decide +kernel
theorem dX9_lossOf_17 : decode cX9_lossOf 17 = .ok (.iconst 1, 1) := by decide +kernel
theorem dX9_lossOf_18 : decode cX9_lossOf 18 = .ok (.iload_n 1, 1) := by decide +kernel
theorem dX9_lossOf_19 : decode cX9_lossOf 19 = .ok (.ishl, 1) := by decide +kernel
theorem dX9_lossOf_20 : decode cX9_lossOf 20 = .ok (.iconst (-1), 1) := by decide +kernel
theorem dX9_lossOf_21 : decode cX9_lossOf 21 = .ok (.ixor, 1) := by decide +kernel
theorem dX9_lossOf_22 : decode cX9_lossOf 22 = .ok (.iand, 1) := by decide +kernel
theorem dX9_lossOf_23 : decode cX9_lossOf 23 = .ok (.invokevirtual 144, 3) := by decide +kernel
theorem dX9_lossOf_26 : decode cX9_lossOf 26 = .ok (.isub, 1) := by decide +kernel
theorem dX9_lossOf_27 : decode cX9_lossOf 27 = .ok (.ireturn, 1) := by decide +kernel
set_option maxRecDepth 20000 in
theorem ggX9_loss_X9_noEdge : GoodIn wsX9_loss wsX9_noEdge := goodIn_r _ [6, 7, 8, 9, 5, 10, 45, 46, 47, 48, 49, 50, 51, 52, 53, 54, 55, 56, 57, 58, 59, 60, 61, 62, 63, 64, 65] (by decide +kernel) (by decide +kernel)
set_option maxRecDepth 20000 in
theorem gX9_loss_X9_noEdge : GoodIn wsX9_loss (wsV RX9 125 RX9 yX9_noEdge wsX9_noEdge) := goodIn_app (goodIn_of _ (by decide +kernel)) ggX9_loss_X9_noEdge
set_option maxRecDepth 20000 in
theorem ggX9_loss_X9_lossOf : GoodIn wsX9_loss wsX9_lossOf := goodIn_r _ [14, 7, 15, 16, 17, 18, 5, 19, 20, 21, 22, 23, 24, 25, 26, 27, 28, 29, 30, 31, 32, 33, 34, 35, 36, 37, 38, 39, 8, 9, 10, 40, 41, 42, 43, 44, 45, 46, 47, 48, 49, 50, 51, 52, 53, 54, 55, 56, 57, 58, 59, 60, 61, 62, 63, 64, 65] (by decide +kernel) (by decide +kernel)
set_option maxRecDepth 20000 in
theorem gX9_loss_X9_lossOf : GoodIn wsX9_loss (wsV RX9 161 RX9 yX9_lossOf wsX9_lossOf) := goodIn_app (goodIn_of _ (by decide +kernel)) ggX9_loss_X9_lossOf
theorem dX9_loss_0 : decode cX9_loss 0 = .ok (.aload_n 0, 1) := by decide +kernel
theorem dX9_loss_1 : decode cX9_loss 1 = .ok (.iconst 0, 1) := by decide +kernel
theorem dX9_loss_2 : decode cX9_loss 2 = .ok (.putfield 54, 3) := by decide +kernel
theorem dX9_loss_5 : decode cX9_loss 5 = .ok (.aload_n 0, 1) := by decide +kernel
theorem dX9_loss_6 : decode cX9_loss 6 = .ok (.iload_n 1, 1) := by decide +kernel
theorem dX9_loss_7 : decode cX9_loss 7 = .ok (.invokevirtual 125, 3) := by decide +kernel
theorem dX9_loss_10 : decode cX9_loss 10 = .ok (.ifCond .eq 7, 3) := by decide +kernel
theorem dX9_loss_13 : decode cX9_loss 13 = .ok (.iconst (-1), 1) := by decide +kernel
theorem dX9_loss_14 : decode cX9_loss 14 = .ok (.goto 8, 3) := by decide +kernel
theorem dX9_loss_17 : decode cX9_loss 17 = .ok (.aload_n 0, 1) := by decide +kernel
theorem dX9_loss_18 : decode cX9_loss 18 = .ok (.iload_n 1, 1) := by decide +kernel
theorem dX9_loss_19 : decode cX9_loss 19 = .ok (.invokevirtual 161, 3) := by decide +kernel
theorem dX9_loss_22 : decode cX9_loss 22 = .ok (.ireturn, 1) := by decide +kernel
set_option maxRecDepth 20000 in
theorem ggX9_criticalEdge_X9_lossOf : GoodIn wsX9_criticalEdge wsX9_lossOf := goodIn_r _ [7, 2, 8, 9, 10, 11, 6, 12, 13, 14, 15, 16, 17, 18, 19, 20, 21, 22, 23, 24, 25, 26, 27, 28, 29, 30, 31, 32, 33, 34, 35, 36, 37, 38, 39, 40, 41, 42, 43, 44, 45, 46, 47, 48, 49, 50, 51, 52, 53, 54, 55, 56, 57, 58, 59, 60, 61] (by decide +kernel) (by decide +kernel)
set_option maxRecDepth 20000 in
theorem gX9_criticalEdge_X9_lossOf : GoodIn wsX9_criticalEdge (wsV RX9 161 RX9 yX9_lossOf wsX9_lossOf) := goodIn_app (goodIn_of _ (by decide +kernel)) ggX9_criticalEdge_X9_lossOf
theorem dX9_criticalEdge_0 : decode cX9_criticalEdge 0 = .ok (.aload_n 0, 1) := by decide +kernel
theorem dX9_criticalEdge_1 : decode cX9_criticalEdge 1 = .ok (.iconst 0, 1) := by decide +kernel
theorem dX9_criticalEdge_2 : decode cX9_criticalEdge 2 = .ok (.putfield 54, 3) := by decide +kernel
theorem dX9_criticalEdge_5 : decode cX9_criticalEdge 5 = .ok (.bipush (-9), 2) := by decide +kernel
theorem dX9_criticalEdge_7 : decode cX9_criticalEdge 7 = .ok (.istore_n 1, 1) := by decide +kernel
theorem dX9_criticalEdge_8 : decode cX9_criticalEdge 8 = .ok (.iconst (-1), 1) := by decide +kernel
theorem dX9_criticalEdge_9 : decode cX9_criticalEdge 9 = .ok (.istore_n 2, 1) := by decide +kernel
theorem dX9_criticalEdge_10 : decode cX9_criticalEdge 10 = .ok (.iconst 0, 1) := by decide +kernel
theorem dX9_criticalEdge_11 : decode cX9_criticalEdge 11 = .ok (.istore_n 3, 1) := by decide +kernel
theorem dX9_criticalEdge_12 : decode cX9_criticalEdge 12 = .ok (.iload_n 3, 1) := by decide +kernel
theorem dX9_criticalEdge_13 : decode cX9_criticalEdge 13 = .ok (.aload_n 0, 1) := by decide +kernel
theorem dX9_criticalEdge_14 : decode cX9_criticalEdge 14 = .ok (.getfield 20, 3) := by decide +kernel
theorem dX9_criticalEdge_17 : decode cX9_criticalEdge 17 = .ok (.iconst 0, 1) := by decide +kernel
theorem dX9_criticalEdge_18 : decode cX9_criticalEdge 18 = .ok (.iaload, 1) := by decide +kernel
theorem dX9_criticalEdge_19 : decode cX9_criticalEdge 19 = .ok (.if_icmp .ge 41, 3) := by decide +kernel
theorem dX9_criticalEdge_22 : decode cX9_criticalEdge 22 = .ok (.aload_n 0, 1) := by decide +kernel
theorem dX9_criticalEdge_23 : decode cX9_criticalEdge 23 = .ok (.iload_n 3, 1) := by decide +kernel
theorem dX9_criticalEdge_24 : decode cX9_criticalEdge 24 = .ok (.invokevirtual 161, 3) := by decide +kernel
theorem dX9_criticalEdge_27 : decode cX9_criticalEdge 27 = .ok (.istore 4, 2) := by decide +kernel
theorem dX9_criticalEdge_29 : decode cX9_criticalEdge 29 = .ok (.iload 4, 2) := by decide +kernel
theorem dX9_criticalEdge_31 : decode cX9_criticalEdge 31 = .ok (.iload_n 2, 1) := by decide +kernel
theorem dX9_criticalEdge_32 : decode cX9_criticalEdge 32 = .ok (.if_icmp .le 7, 3) := by decide +kernel
theorem dX9_criticalEdge_35 : decode cX9_criticalEdge 35 = .ok (.iload_n 3, 1) := by decide +kernel
theorem dX9_criticalEdge_36 : decode cX9_criticalEdge 36 = .ok (.goto 4, 3) := by decide +kernel
theorem dX9_criticalEdge_39 : decode cX9_criticalEdge 39 = .ok (.iload_n 1, 1) := by decide +kernel
theorem dX9_criticalEdge_40 : decode cX9_criticalEdge 40 = .ok (.istore_n 1, 1) := by decide +kernel
theorem dX9_criticalEdge_41 : decode cX9_criticalEdge 41 = .ok (.iload 4, 2) := by decide +kernel
theorem dX9_criticalEdge_43 : decode cX9_criticalEdge 43 = .ok (.iload_n 2, 1) := by decide +kernel
theorem dX9_criticalEdge_44 : decode cX9_criticalEdge 44 = .ok (.if_icmp .le 8, 3) := by decide +kernel
theorem dX9_criticalEdge_47 : decode cX9_criticalEdge 47 = .ok (.iload 4, 2) := by decide +kernel
theorem dX9_criticalEdge_49 : decode cX9_criticalEdge 49 = .ok (.goto 4, 3) := by decide +kernel
theorem dX9_criticalEdge_52 : decode cX9_criticalEdge 52 = .ok (.iload_n 2, 1) := by decide +kernel
theorem dX9_criticalEdge_53 : decode cX9_criticalEdge 53 = .ok (.istore_n 2, 1) := by decide +kernel
theorem dX9_criticalEdge_54 : decode cX9_criticalEdge 54 = .ok (.iinc 3 1, 3) := by decide +kernel
theorem dX9_criticalEdge_57 : decode cX9_criticalEdge 57 = .ok (.goto (-45), 3) := by decide +kernel
theorem dX9_criticalEdge_60 : decode cX9_criticalEdge 60 = .ok (.iload_n 1, 1) := by decide +kernel
theorem dX9_criticalEdge_61 : decode cX9_criticalEdge 61 = .ok (.ireturn, 1) := by decide +kernel
set_option maxRecDepth 20000 in
theorem ggX9_representative_X9_noVertex : GoodIn wsX9_representative wsX9_noVertex := goodIn_r _ [8, 9, 10, 11, 7, 12, 29, 30, 31, 32, 33, 34, 35, 36, 37, 38, 39, 40, 41, 42, 43, 44, 45, 46, 47, 48, 49] (by decide +kernel) (by decide +kernel)
set_option maxRecDepth 20000 in
theorem gX9_representative_X9_noVertex : GoodIn wsX9_representative (wsV RX9 129 RX9 yX9_noVertex wsX9_noVertex) := goodIn_app (goodIn_of _ (by decide +kernel)) ggX9_representative_X9_noVertex
set_option maxRecDepth 20000 in
theorem ggX9_representative_X9_close : GoodIn wsX9_representative wsX9_close := goodIn_r _ [16, 17, 18, 3, 19, 20, 21, 22, 7, 23, 24, 10, 11, 12, 29, 30, 31, 32, 33, 34, 35, 36, 37, 38, 39, 40, 41, 42, 43, 44, 45, 46, 47, 48, 49] (by decide +kernel) (by decide +kernel)
set_option maxRecDepth 20000 in
theorem gX9_representative_X9_close : GoodIn wsX9_representative (wsV RX9 73 RX9 yX9_close wsX9_close) := goodIn_app (goodIn_of _ (by decide +kernel)) ggX9_representative_X9_close
set_option maxRecDepth 20000 in
theorem ggX9_representative_X9_reaches : GoodIn wsX9_representative wsX9_reaches := goodIn_r _ [28, 17, 18, 29, 30, 31, 32, 33, 34, 35, 36, 37, 38, 39, 40, 41, 42, 43, 44, 45, 46, 47, 48, 49] (by decide +kernel) (by decide +kernel)
set_option maxRecDepth 20000 in
theorem gX9_representative_X9_reaches : GoodIn wsX9_representative (wsV RX9 141 RX9 yX9_reaches wsX9_reaches) := goodIn_app (goodIn_of _ (by decide +kernel)) ggX9_representative_X9_reaches
theorem dX9_representative_0 : decode cX9_representative 0 = .ok (.aload_n 0, 1) := by decide +kernel
theorem dX9_representative_1 : decode cX9_representative 1 = .ok (.iconst 0, 1) := by decide +kernel
theorem dX9_representative_2 : decode cX9_representative 2 = .ok (.putfield 54, 3) := by decide +kernel
theorem dX9_representative_5 : decode cX9_representative 5 = .ok (.aload_n 0, 1) := by decide +kernel
theorem dX9_representative_6 : decode cX9_representative 6 = .ok (.iload_n 1, 1) := by decide +kernel
theorem dX9_representative_7 : decode cX9_representative 7 = .ok (.invokevirtual 129, 3) := by decide +kernel
theorem dX9_representative_10 : decode cX9_representative 10 = .ok (.ifCond .eq 5, 3) := by decide +kernel
theorem dX9_representative_13 : decode cX9_representative 13 = .ok (.iconst (-1), 1) := by decide +kernel
theorem dX9_representative_14 : decode cX9_representative 14 = .ok (.ireturn, 1) := by decide +kernel
theorem dX9_representative_15 : decode cX9_representative 15 = .ok (.iconst 0, 1) := by decide +kernel
theorem dX9_representative_16 : decode cX9_representative 16 = .ok (.istore_n 2, 1) := by decide +kernel
theorem dX9_representative_17 : decode cX9_representative 17 = .ok (.iload_n 2, 1) := by decide +kernel
theorem dX9_representative_18 : decode cX9_representative 18 = .ok (.aload_n 0, 1) := by decide +kernel
theorem dX9_representative_19 : decode cX9_representative 19 = .ok (.getfield 20, 3) := by decide +kernel
theorem dX9_representative_22 : decode cX9_representative 22 = .ok (.iconst 0, 1) := by decide +kernel
theorem dX9_representative_23 : decode cX9_representative 23 = .ok (.iaload, 1) := by decide +kernel
theorem dX9_representative_24 : decode cX9_representative 24 = .ok (.if_icmp .ge 147, 3) := by decide +kernel
theorem dX9_representative_27 : decode cX9_representative 27 = .ok (.aload_n 0, 1) := by decide +kernel
theorem dX9_representative_28 : decode cX9_representative 28 = .ok (.getfield 20, 3) := by decide +kernel
theorem dX9_representative_31 : decode cX9_representative 31 = .ok (.iconst 3, 1) := by decide +kernel
theorem dX9_representative_32 : decode cX9_representative 32 = .ok (.iconst 3, 1) := by decide +kernel
theorem dX9_representative_33 : decode cX9_representative 33 = .ok (.iload_n 2, 1) := by decide +kernel
theorem dX9_representative_34 : decode cX9_representative 34 = .ok (.imul, 1) := by decide +kernel
theorem dX9_representative_35 : decode cX9_representative 35 = .ok (.iadd, 1) := by decide +kernel
theorem dX9_representative_36 : decode cX9_representative 36 = .ok (.iaload, 1) := by decide +kernel
theorem dX9_representative_37 : decode cX9_representative 37 = .ok (.istore_n 3, 1) := by decide +kernel
theorem dX9_representative_38 : decode cX9_representative 38 = .ok (.aload_n 0, 1) := by decide +kernel
theorem dX9_representative_39 : decode cX9_representative 39 = .ok (.getfield 51, 3) := by decide +kernel
theorem dX9_representative_42 : decode cX9_representative 42 = .ok (.bipush 6, 2) := by decide +kernel
theorem dX9_representative_44 : decode cX9_representative 44 = .ok (.iload_n 2, 1) := by decide +kernel
theorem dX9_representative_45 : decode cX9_representative 45 = .ok (.imul, 1) := by decide +kernel
theorem dX9_representative_46 : decode cX9_representative 46 = .ok (.aload_n 0, 1) := by decide +kernel
theorem dX9_representative_47 : decode cX9_representative 47 = .ok (.getfield 20, 3) := by decide +kernel
theorem dX9_representative_50 : decode cX9_representative 50 = .ok (.iconst 1, 1) := by decide +kernel
theorem dX9_representative_51 : decode cX9_representative 51 = .ok (.iconst 3, 1) := by decide +kernel
theorem dX9_representative_52 : decode cX9_representative 52 = .ok (.iload_n 2, 1) := by decide +kernel
theorem dX9_representative_53 : decode cX9_representative 53 = .ok (.imul, 1) := by decide +kernel
theorem dX9_representative_54 : decode cX9_representative 54 = .ok (.iadd, 1) := by decide +kernel
theorem dX9_representative_55 : decode cX9_representative 55 = .ok (.iaload, 1) := by decide +kernel
theorem dX9_representative_56 : decode cX9_representative 56 = .ok (.iastore, 1) := by decide +kernel
theorem dX9_representative_57 : decode cX9_representative 57 = .ok (.aload_n 0, 1) := by decide +kernel
theorem dX9_representative_58 : decode cX9_representative 58 = .ok (.getfield 51, 3) := by decide +kernel
theorem dX9_representative_61 : decode cX9_representative 61 = .ok (.bipush 6, 2) := by decide +kernel
theorem dX9_representative_63 : decode cX9_representative 63 = .ok (.iload_n 2, 1) := by decide +kernel
theorem dX9_representative_64 : decode cX9_representative 64 = .ok (.imul, 1) := by decide +kernel
theorem dX9_representative_65 : decode cX9_representative 65 = .ok (.iconst 1, 1) := by decide +kernel
theorem dX9_representative_66 : decode cX9_representative 66 = .ok (.iadd, 1) := by decide +kernel
theorem dX9_representative_67 : decode cX9_representative 67 = .ok (.aload_n 0, 1) := by decide +kernel
theorem dX9_representative_68 : decode cX9_representative 68 = .ok (.getfield 20, 3) := by decide +kernel
theorem dX9_representative_71 : decode cX9_representative 71 = .ok (.iconst 2, 1) := by decide +kernel
theorem dX9_representative_72 : decode cX9_representative 72 = .ok (.iconst 3, 1) := by decide +kernel
theorem dX9_representative_73 : decode cX9_representative 73 = .ok (.iload_n 2, 1) := by decide +kernel
theorem dX9_representative_74 : decode cX9_representative 74 = .ok (.imul, 1) := by decide +kernel
theorem dX9_representative_75 : decode cX9_representative 75 = .ok (.iadd, 1) := by decide +kernel
theorem dX9_representative_76 : decode cX9_representative 76 = .ok (.iaload, 1) := by decide +kernel
theorem dX9_representative_77 : decode cX9_representative 77 = .ok (.iastore, 1) := by decide +kernel
theorem dX9_representative_78 : decode cX9_representative 78 = .ok (.aload_n 0, 1) := by decide +kernel
theorem dX9_representative_79 : decode cX9_representative 79 = .ok (.getfield 51, 3) := by decide +kernel
theorem dX9_representative_82 : decode cX9_representative 82 = .ok (.bipush 6, 2) := by decide +kernel
theorem dX9_representative_84 : decode cX9_representative 84 = .ok (.iload_n 2, 1) := by decide +kernel
theorem dX9_representative_85 : decode cX9_representative 85 = .ok (.imul, 1) := by decide +kernel
theorem dX9_representative_86 : decode cX9_representative 86 = .ok (.iconst 2, 1) := by decide +kernel
theorem dX9_representative_87 : decode cX9_representative 87 = .ok (.iadd, 1) := by decide +kernel
theorem dX9_representative_88 : decode cX9_representative 88 = .ok (.iload_n 3, 1) := by decide +kernel
theorem dX9_representative_89 : decode cX9_representative 89 = .ok (.iastore, 1) := by decide +kernel
theorem dX9_representative_90 : decode cX9_representative 90 = .ok (.aload_n 0, 1) := by decide +kernel
theorem dX9_representative_91 : decode cX9_representative 91 = .ok (.getfield 51, 3) := by decide +kernel
theorem dX9_representative_94 : decode cX9_representative 94 = .ok (.bipush 6, 2) := by decide +kernel
theorem dX9_representative_96 : decode cX9_representative 96 = .ok (.iload_n 2, 1) := by decide +kernel
theorem dX9_representative_97 : decode cX9_representative 97 = .ok (.imul, 1) := by decide +kernel
theorem dX9_representative_98 : decode cX9_representative 98 = .ok (.iconst 3, 1) := by decide +kernel
theorem dX9_representative_99 : decode cX9_representative 99 = .ok (.iadd, 1) := by decide +kernel
theorem dX9_representative_100 : decode cX9_representative 100 = .ok (.aload_n 0, 1) := by decide +kernel
theorem dX9_representative_101 : decode cX9_representative 101 = .ok (.getfield 20, 3) := by decide +kernel
theorem dX9_representative_104 : decode cX9_representative 104 = .ok (.iconst 2, 1) := by decide +kernel
theorem dX9_representative_105 : decode cX9_representative 105 = .ok (.iconst 3, 1) := by decide +kernel
theorem dX9_representative_106 : decode cX9_representative 106 = .ok (.iload_n 2, 1) := by decide +kernel
theorem dX9_representative_107 : decode cX9_representative 107 = .ok (.imul, 1) := by decide +kernel
theorem dX9_representative_108 : decode cX9_representative 108 = .ok (.iadd, 1) := by decide +kernel
theorem dX9_representative_109 : decode cX9_representative 109 = .ok (.iaload, 1) := by decide +kernel
theorem dX9_representative_110 : decode cX9_representative 110 = .ok (.iastore, 1) := by decide +kernel
theorem dX9_representative_111 : decode cX9_representative 111 = .ok (.aload_n 0, 1) := by decide +kernel
theorem dX9_representative_112 : decode cX9_representative 112 = .ok (.getfield 51, 3) := by decide +kernel
theorem dX9_representative_115 : decode cX9_representative 115 = .ok (.bipush 6, 2) := by decide +kernel
theorem dX9_representative_117 : decode cX9_representative 117 = .ok (.iload_n 2, 1) := by decide +kernel
theorem dX9_representative_118 : decode cX9_representative 118 = .ok (.imul, 1) := by decide +kernel
theorem dX9_representative_119 : decode cX9_representative 119 = .ok (.iconst 4, 1) := by decide +kernel
theorem dX9_representative_120 : decode cX9_representative 120 = .ok (.iadd, 1) := by decide +kernel
theorem dX9_representative_121 : decode cX9_representative 121 = .ok (.aload_n 0, 1) := by decide +kernel
theorem dX9_representative_122 : decode cX9_representative 122 = .ok (.getfield 20, 3) := by decide +kernel
theorem dX9_representative_125 : decode cX9_representative 125 = .ok (.iconst 1, 1) := by decide +kernel
theorem dX9_representative_126 : decode cX9_representative 126 = .ok (.iconst 3, 1) := by decide +kernel
theorem dX9_representative_127 : decode cX9_representative 127 = .ok (.iload_n 2, 1) := by decide +kernel
theorem dX9_representative_128 : decode cX9_representative 128 = .ok (.imul, 1) := by decide +kernel
theorem dX9_representative_129 : decode cX9_representative 129 = .ok (.iadd, 1) := by decide +kernel
theorem dX9_representative_130 : decode cX9_representative 130 = .ok (.iaload, 1) := by decide +kernel
theorem dX9_representative_131 : decode cX9_representative 131 = .ok (.iastore, 1) := by decide +kernel
theorem dX9_representative_132 : decode cX9_representative 132 = .ok (.aload_n 0, 1) := by decide +kernel
theorem dX9_representative_133 : decode cX9_representative 133 = .ok (.getfield 51, 3) := by decide +kernel
theorem dX9_representative_136 : decode cX9_representative 136 = .ok (.bipush 6, 2) := by decide +kernel
theorem dX9_representative_138 : decode cX9_representative 138 = .ok (.iload_n 2, 1) := by decide +kernel
theorem dX9_representative_139 : decode cX9_representative 139 = .ok (.imul, 1) := by decide +kernel
theorem dX9_representative_140 : decode cX9_representative 140 = .ok (.iconst 5, 1) := by decide +kernel
theorem dX9_representative_141 : decode cX9_representative 141 = .ok (.iadd, 1) := by decide +kernel
theorem dX9_representative_142 : decode cX9_representative 142 = .ok (.iload_n 3, 1) := by decide +kernel
theorem dX9_representative_143 : decode cX9_representative 143 = .ok (.ifCond .ne 7, 3) := by decide +kernel
theorem dX9_representative_146 : decode cX9_representative 146 = .ok (.iconst 0, 1) := by decide +kernel
theorem dX9_representative_147 : decode cX9_representative 147 = .ok (.goto 17, 3) := by decide +kernel
theorem dX9_representative_150 : decode cX9_representative 150 = .ok (.iload_n 3, 1) := by decide +kernel
theorem dX9_representative_151 : decode cX9_representative 151 = .ok (.iconst 4, 1) := by decide +kernel
theorem dX9_representative_152 : decode cX9_representative 152 = .ok (.if_icmp .ge 9, 3) := by decide +kernel
theorem dX9_representative_155 : decode cX9_representative 155 = .ok (.iload_n 3, 1) := by decide +kernel
theorem dX9_representative_156 : decode cX9_representative 156 = .ok (.iconst 3, 1) := by decide +kernel
theorem dX9_representative_157 : decode cX9_representative 157 = .ok (.iadd, 1) := by decide +kernel
theorem dX9_representative_158 : decode cX9_representative 158 = .ok (.goto 6, 3) := by decide +kernel
theorem dX9_representative_161 : decode cX9_representative 161 = .ok (.iload_n 3, 1) := by decide +kernel
theorem dX9_representative_162 : decode cX9_representative 162 = .ok (.iconst 3, 1) := by decide +kernel
theorem dX9_representative_163 : decode cX9_representative 163 = .ok (.isub, 1) := by decide +kernel
theorem dX9_representative_164 : decode cX9_representative 164 = .ok (.iastore, 1) := by decide +kernel
theorem dX9_representative_165 : decode cX9_representative 165 = .ok (.iinc 2 1, 3) := by decide +kernel
theorem dX9_representative_168 : decode cX9_representative 168 = .ok (.goto (-151), 3) := by decide +kernel
theorem dX9_representative_171 : decode cX9_representative 171 = .ok (.aload_n 0, 1) := by decide +kernel
theorem dX9_representative_172 : decode cX9_representative 172 = .ok (.iconst 2, 1) := by decide +kernel
theorem dX9_representative_173 : decode cX9_representative 173 = .ok (.aload_n 0, 1) := by decide +kernel
theorem dX9_representative_174 : decode cX9_representative 174 = .ok (.getfield 20, 3) := by decide +kernel
theorem dX9_representative_177 : decode cX9_representative 177 = .ok (.iconst 0, 1) := by decide +kernel
theorem dX9_representative_178 : decode cX9_representative 178 = .ok (.iaload, 1) := by decide +kernel
theorem dX9_representative_179 : decode cX9_representative 179 = .ok (.imul, 1) := by decide +kernel
theorem dX9_representative_180 : decode cX9_representative 180 = .ok (.invokevirtual 73, 3) := by decide +kernel
theorem dX9_representative_183 : decode cX9_representative 183 = .ok (.iconst 0, 1) := by decide +kernel
theorem dX9_representative_184 : decode cX9_representative 184 = .ok (.istore_n 2, 1) := by decide +kernel
theorem dX9_representative_185 : decode cX9_representative 185 = .ok (.aload_n 0, 1) := by decide +kernel
theorem dX9_representative_186 : decode cX9_representative 186 = .ok (.iload_n 1, 1) := by decide +kernel
theorem dX9_representative_187 : decode cX9_representative 187 = .ok (.iload_n 2, 1) := by decide +kernel
theorem dX9_representative_188 : decode cX9_representative 188 = .ok (.invokevirtual 141, 3) := by decide +kernel
theorem dX9_representative_191 : decode cX9_representative 191 = .ok (.ifCond .ne 9, 3) := by decide +kernel
theorem dX9_representative_194 : decode cX9_representative 194 = .ok (.iinc 2 1, 3) := by decide +kernel
theorem dX9_representative_197 : decode cX9_representative 197 = .ok (.goto (-12), 3) := by decide +kernel
theorem dX9_representative_200 : decode cX9_representative 200 = .ok (.iload_n 2, 1) := by decide +kernel
theorem dX9_representative_201 : decode cX9_representative 201 = .ok (.ireturn, 1) := by decide +kernel
set_option maxRecDepth 20000 in
theorem ggX9_command_X9_noVertex : GoodIn wsX9_command wsX9_noVertex := goodIn_r _ [8, 9, 10, 11, 7, 12, 50, 51, 52, 53, 54, 55, 56, 57, 58, 59, 60, 61, 62, 63, 64, 65, 66, 67, 68, 69, 70] (by decide +kernel) (by decide +kernel)
set_option maxRecDepth 20000 in
theorem gX9_command_X9_noVertex : GoodIn wsX9_command (wsV RX9 129 RX9 yX9_noVertex wsX9_noVertex) := goodIn_app (goodIn_of _ (by decide +kernel)) ggX9_command_X9_noVertex
set_option maxRecDepth 20000 in
theorem ggX9_command_X9_put : GoodIn wsX9_command wsX9_put := goodIn_r _ [15] (by decide +kernel) (by decide +kernel)
set_option maxRecDepth 20000 in
theorem gX9_command_X9_put : GoodIn wsX9_command (va_wsS RX9 111 yX9_put wsX9_put) := goodIn_app (goodIn_of _ (by decide +kernel)) ggX9_command_X9_put
set_option maxRecDepth 20000 in
theorem ggX9_command_X9_drop : GoodIn wsX9_command wsX9_drop := goodIn_r _ [18] (by decide +kernel) (by decide +kernel)
set_option maxRecDepth 20000 in
theorem gX9_command_X9_drop : GoodIn wsX9_command (va_wsS RX9 137 yX9_drop wsX9_drop) := goodIn_app (goodIn_of _ (by decide +kernel)) ggX9_command_X9_drop
set_option maxRecDepth 20000 in
theorem ggX9_command_X9_closeOf : GoodIn wsX9_command wsX9_closeOf := goodIn_r _ [22, 23, 24, 25, 7, 26, 27, 28, 29, 30, 3, 31, 32, 33, 34, 35, 36, 37, 10, 11, 12, 50, 51, 52, 53, 54, 55, 56, 57, 58, 59, 60, 61, 62, 63, 64, 65, 66, 67, 68, 69, 70] (by decide +kernel) (by decide +kernel)
set_option maxRecDepth 20000 in
theorem gX9_command_X9_closeOf : GoodIn wsX9_command (wsV RX9 77 RX9 yX9_closeOf wsX9_closeOf) := goodIn_app (goodIn_of _ (by decide +kernel)) ggX9_command_X9_closeOf
set_option maxRecDepth 20000 in
theorem ggX9_command_X9_reaches : GoodIn wsX9_command wsX9_reaches := goodIn_r _ [41, 3, 31, 50, 51, 52, 53, 54, 55, 56, 57, 58, 59, 60, 61, 62, 63, 64, 65, 66, 67, 68, 69, 70] (by decide +kernel) (by decide +kernel)
set_option maxRecDepth 20000 in
theorem gX9_command_X9_reaches : GoodIn wsX9_command (wsV RX9 141 RX9 yX9_reaches wsX9_reaches) := goodIn_app (goodIn_of _ (by decide +kernel)) ggX9_command_X9_reaches
set_option maxRecDepth 20000 in
theorem ggX9_command_X9_pairsOf : GoodIn wsX9_command wsX9_pairsOf := goodIn_r _ [45, 19, 20, 21, 7, 22, 23, 24, 25, 26, 27, 28, 29, 30, 3, 31, 32, 33, 34, 35, 36, 37, 10, 11, 12, 46, 47, 48, 49, 9, 50, 51, 52, 53, 54, 55, 56, 57, 58, 59, 60, 61, 62, 63, 64, 65, 66, 67, 68, 69, 70] (by decide +kernel) (by decide +kernel)
set_option maxRecDepth 20000 in
theorem gX9_command_X9_pairsOf : GoodIn wsX9_command (wsV RX9 144 RX9 yX9_pairsOf wsX9_pairsOf) := goodIn_app (goodIn_of _ (by decide +kernel)) ggX9_command_X9_pairsOf
theorem dX9_command_0 : decode cX9_command 0 = .ok (.bipush 10, 2) := by decide +kernel
theorem dX9_command_2 : decode cX9_command 2 = .ok (.iload_n 3, 1) := by decide +kernel
theorem dX9_command_3 : decode cX9_command 3 = .ok (.imul, 1) := by decide +kernel
theorem dX9_command_4 : decode cX9_command 4 = .ok (.iload 4, 2) := by decide +kernel
theorem dX9_command_6 : decode cX9_command 6 = .ok (.iadd, 1) := by decide +kernel
theorem dX9_command_7 : decode cX9_command 7 = .ok (.istore 5, 2) := by decide +kernel
theorem dX9_command_9 : decode cX9_command 9 = .ok (.iload_n 1, 1) := by decide +kernel
theorem dX9_command_10 : decode cX9_command 10 = .ok (.tableswitch 246 1 5 #[34, 83, 111, 171, 196], 34) := by decide +kernel
theorem dX9_command_44 : decode cX9_command 44 = .ok (.aload_n 0, 1) := by decide +kernel
theorem dX9_command_45 : decode cX9_command 45 = .ok (.iload_n 2, 1) := by decide +kernel
theorem dX9_command_46 : decode cX9_command 46 = .ok (.invokevirtual 129, 3) := by decide +kernel
theorem dX9_command_49 : decode cX9_command 49 = .ok (.ifCond .ne 29, 3) := by decide +kernel
theorem dX9_command_52 : decode cX9_command 52 = .ok (.aload_n 0, 1) := by decide +kernel
theorem dX9_command_53 : decode cX9_command 53 = .ok (.iload_n 3, 1) := by decide +kernel
theorem dX9_command_54 : decode cX9_command 54 = .ok (.invokevirtual 129, 3) := by decide +kernel
theorem dX9_command_57 : decode cX9_command 57 = .ok (.ifCond .ne 21, 3) := by decide +kernel
theorem dX9_command_60 : decode cX9_command 60 = .ok (.iload 4, 2) := by decide +kernel
theorem dX9_command_62 : decode cX9_command 62 = .ok (.bipush 6, 2) := by decide +kernel
theorem dX9_command_64 : decode cX9_command 64 = .ok (.if_icmp .gt 14, 3) := by decide +kernel
theorem dX9_command_67 : decode cX9_command 67 = .ok (.aload_n 0, 1) := by decide +kernel
theorem dX9_command_68 : decode cX9_command 68 = .ok (.getfield 23, 3) := by decide +kernel
theorem dX9_command_71 : decode cX9_command 71 = .ok (.iconst 0, 1) := by decide +kernel
theorem dX9_command_72 : decode cX9_command 72 = .ok (.iaload, 1) := by decide +kernel
theorem dX9_command_73 : decode cX9_command 73 = .ok (.bipush 16, 2) := by decide +kernel
theorem dX9_command_75 : decode cX9_command 75 = .ok (.if_icmp .ne 5, 3) := by decide +kernel
theorem dX9_command_78 : decode cX9_command 78 = .ok (.iconst 0, 1) := by decide +kernel
theorem dX9_command_79 : decode cX9_command 79 = .ok (.ireturn, 1) := by decide +kernel
theorem dX9_command_80 : decode cX9_command 80 = .ok (.aload_n 0, 1) := by decide +kernel
theorem dX9_command_81 : decode cX9_command 81 = .ok (.getfield 23, 3) := by decide +kernel
theorem dX9_command_84 : decode cX9_command 84 = .ok (.iload_n 2, 1) := by decide +kernel
theorem dX9_command_85 : decode cX9_command 85 = .ok (.iload_n 3, 1) := by decide +kernel
theorem dX9_command_86 : decode cX9_command 86 = .ok (.iload 4, 2) := by decide +kernel
theorem dX9_command_88 : decode cX9_command 88 = .ok (.invokestatic 111, 3) := by decide +kernel
theorem dX9_command_91 : decode cX9_command 91 = .ok (.iconst 1, 1) := by decide +kernel
theorem dX9_command_92 : decode cX9_command 92 = .ok (.ireturn, 1) := by decide +kernel
theorem dX9_command_93 : decode cX9_command 93 = .ok (.iload_n 2, 1) := by decide +kernel
theorem dX9_command_94 : decode cX9_command 94 = .ok (.ifCond .ne 14, 3) := by decide +kernel
theorem dX9_command_97 : decode cX9_command 97 = .ok (.iload 5, 2) := by decide +kernel
theorem dX9_command_99 : decode cX9_command 99 = .ok (.aload_n 0, 1) := by decide +kernel
theorem dX9_command_100 : decode cX9_command 100 = .ok (.getfield 23, 3) := by decide +kernel
theorem dX9_command_103 : decode cX9_command 103 = .ok (.iconst 0, 1) := by decide +kernel
theorem dX9_command_104 : decode cX9_command 104 = .ok (.iaload, 1) := by decide +kernel
theorem dX9_command_105 : decode cX9_command 105 = .ok (.if_icmp .lt 5, 3) := by decide +kernel
theorem dX9_command_108 : decode cX9_command 108 = .ok (.iconst 0, 1) := by decide +kernel
theorem dX9_command_109 : decode cX9_command 109 = .ok (.ireturn, 1) := by decide +kernel
theorem dX9_command_110 : decode cX9_command 110 = .ok (.aload_n 0, 1) := by decide +kernel
theorem dX9_command_111 : decode cX9_command 111 = .ok (.getfield 23, 3) := by decide +kernel
theorem dX9_command_114 : decode cX9_command 114 = .ok (.iload 5, 2) := by decide +kernel
theorem dX9_command_116 : decode cX9_command 116 = .ok (.invokestatic 137, 3) := by decide +kernel
theorem dX9_command_119 : decode cX9_command 119 = .ok (.iconst 1, 1) := by decide +kernel
theorem dX9_command_120 : decode cX9_command 120 = .ok (.ireturn, 1) := by decide +kernel
theorem dX9_command_121 : decode cX9_command 121 = .ok (.aload_n 0, 1) := by decide +kernel
theorem dX9_command_122 : decode cX9_command 122 = .ok (.iload_n 2, 1) := by decide +kernel
theorem dX9_command_123 : decode cX9_command 123 = .ok (.invokevirtual 129, 3) := by decide +kernel
theorem dX9_command_126 : decode cX9_command 126 = .ok (.ifCond .ne 17, 3) := by decide +kernel
theorem dX9_command_129 : decode cX9_command 129 = .ok (.aload_n 0, 1) := by decide +kernel
theorem dX9_command_130 : decode cX9_command 130 = .ok (.iload_n 3, 1) := by decide +kernel
theorem dX9_command_131 : decode cX9_command 131 = .ok (.invokevirtual 129, 3) := by decide +kernel
theorem dX9_command_134 : decode cX9_command 134 = .ok (.ifCond .ne 9, 3) := by decide +kernel
theorem dX9_command_137 : decode cX9_command 137 = .ok (.iload 4, 2) := by decide +kernel
theorem dX9_command_139 : decode cX9_command 139 = .ok (.iconst 1, 1) := by decide +kernel
theorem dX9_command_140 : decode cX9_command 140 = .ok (.if_icmp .le 5, 3) := by decide +kernel
theorem dX9_command_143 : decode cX9_command 143 = .ok (.iconst 0, 1) := by decide +kernel
theorem dX9_command_144 : decode cX9_command 144 = .ok (.ireturn, 1) := by decide +kernel
theorem dX9_command_145 : decode cX9_command 145 = .ok (.aload_n 0, 1) := by decide +kernel
theorem dX9_command_146 : decode cX9_command 146 = .ok (.aload_n 0, 1) := by decide +kernel
theorem dX9_command_147 : decode cX9_command 147 = .ok (.getfield 23, 3) := by decide +kernel
theorem dX9_command_150 : decode cX9_command 150 = .ok (.ldc 140, 2) := by decide +kernel
theorem dX9_command_152 : decode cX9_command 152 = .ok (.invokevirtual 77, 3) := by decide +kernel
theorem dX9_command_155 : decode cX9_command 155 = .ok (.aload_n 0, 1) := by decide +kernel
theorem dX9_command_156 : decode cX9_command 156 = .ok (.iload_n 2, 1) := by decide +kernel
theorem dX9_command_157 : decode cX9_command 157 = .ok (.iload_n 3, 1) := by decide +kernel
theorem dX9_command_158 : decode cX9_command 158 = .ok (.invokevirtual 141, 3) := by decide +kernel
theorem dX9_command_161 : decode cX9_command 161 = .ok (.iload 4, 2) := by decide +kernel
theorem dX9_command_163 : decode cX9_command 163 = .ok (.iconst 1, 1) := by decide +kernel
theorem dX9_command_164 : decode cX9_command 164 = .ok (.if_icmp .ne 7, 3) := by decide +kernel
theorem dX9_command_167 : decode cX9_command 167 = .ok (.iconst 1, 1) := by decide +kernel
theorem dX9_command_168 : decode cX9_command 168 = .ok (.goto 4, 3) := by decide +kernel
theorem dX9_command_171 : decode cX9_command 171 = .ok (.iconst 0, 1) := by decide +kernel
theorem dX9_command_172 : decode cX9_command 172 = .ok (.if_icmp .ne 7, 3) := by decide +kernel
theorem dX9_command_175 : decode cX9_command 175 = .ok (.iconst 1, 1) := by decide +kernel
theorem dX9_command_176 : decode cX9_command 176 = .ok (.goto 4, 3) := by decide +kernel
theorem dX9_command_179 : decode cX9_command 179 = .ok (.iconst 0, 1) := by decide +kernel
theorem dX9_command_180 : decode cX9_command 180 = .ok (.ireturn, 1) := by decide +kernel
theorem dX9_command_181 : decode cX9_command 181 = .ok (.iload_n 2, 1) := by decide +kernel
theorem dX9_command_182 : decode cX9_command 182 = .ok (.ifCond .ne 22, 3) := by decide +kernel
theorem dX9_command_185 : decode cX9_command 185 = .ok (.aload_n 0, 1) := by decide +kernel
theorem dX9_command_186 : decode cX9_command 186 = .ok (.aload_n 0, 1) := by decide +kernel
theorem dX9_command_187 : decode cX9_command 187 = .ok (.getfield 23, 3) := by decide +kernel
theorem dX9_command_190 : decode cX9_command 190 = .ok (.ldc 140, 2) := by decide +kernel
theorem dX9_command_192 : decode cX9_command 192 = .ok (.invokevirtual 144, 3) := by decide +kernel
theorem dX9_command_195 : decode cX9_command 195 = .ok (.iload 5, 2) := by decide +kernel
theorem dX9_command_197 : decode cX9_command 197 = .ok (.if_icmp .ne 7, 3) := by decide +kernel
theorem dX9_command_200 : decode cX9_command 200 = .ok (.iconst 1, 1) := by decide +kernel
theorem dX9_command_201 : decode cX9_command 201 = .ok (.goto 4, 3) := by decide +kernel
theorem dX9_command_204 : decode cX9_command 204 = .ok (.iconst 0, 1) := by decide +kernel
theorem dX9_command_205 : decode cX9_command 205 = .ok (.ireturn, 1) := by decide +kernel
theorem dX9_command_206 : decode cX9_command 206 = .ok (.aload_n 0, 1) := by decide +kernel
theorem dX9_command_207 : decode cX9_command 207 = .ok (.iload_n 2, 1) := by decide +kernel
theorem dX9_command_208 : decode cX9_command 208 = .ok (.invokevirtual 129, 3) := by decide +kernel
theorem dX9_command_211 : decode cX9_command 211 = .ok (.ifCond .ne 11, 3) := by decide +kernel
theorem dX9_command_214 : decode cX9_command 214 = .ok (.aload_n 0, 1) := by decide +kernel
theorem dX9_command_215 : decode cX9_command 215 = .ok (.iload_n 3, 1) := by decide +kernel
theorem dX9_command_216 : decode cX9_command 216 = .ok (.invokevirtual 129, 3) := by decide +kernel
theorem dX9_command_219 : decode cX9_command 219 = .ok (.ifCond .eq 5, 3) := by decide +kernel
theorem dX9_command_222 : decode cX9_command 222 = .ok (.iconst 0, 1) := by decide +kernel
theorem dX9_command_223 : decode cX9_command 223 = .ok (.ireturn, 1) := by decide +kernel
theorem dX9_command_224 : decode cX9_command 224 = .ok (.aload_n 0, 1) := by decide +kernel
theorem dX9_command_225 : decode cX9_command 225 = .ok (.aload_n 0, 1) := by decide +kernel
theorem dX9_command_226 : decode cX9_command 226 = .ok (.getfield 23, 3) := by decide +kernel
theorem dX9_command_229 : decode cX9_command 229 = .ok (.ldc 140, 2) := by decide +kernel
theorem dX9_command_231 : decode cX9_command 231 = .ok (.invokevirtual 77, 3) := by decide +kernel
theorem dX9_command_234 : decode cX9_command 234 = .ok (.aload_n 0, 1) := by decide +kernel
theorem dX9_command_235 : decode cX9_command 235 = .ok (.getfield 45, 3) := by decide +kernel
theorem dX9_command_238 : decode cX9_command 238 = .ok (.bipush 8, 2) := by decide +kernel
theorem dX9_command_240 : decode cX9_command 240 = .ok (.iload_n 2, 1) := by decide +kernel
theorem dX9_command_241 : decode cX9_command 241 = .ok (.imul, 1) := by decide +kernel
theorem dX9_command_242 : decode cX9_command 242 = .ok (.iload_n 3, 1) := by decide +kernel
theorem dX9_command_243 : decode cX9_command 243 = .ok (.iadd, 1) := by decide +kernel
theorem dX9_command_244 : decode cX9_command 244 = .ok (.iaload, 1) := by decide +kernel
theorem dX9_command_245 : decode cX9_command 245 = .ok (.iload 4, 2) := by decide +kernel
theorem dX9_command_247 : decode cX9_command 247 = .ok (.if_icmp .ne 7, 3) := by decide +kernel
theorem dX9_command_250 : decode cX9_command 250 = .ok (.iconst 1, 1) := by decide +kernel
theorem dX9_command_251 : decode cX9_command 251 = .ok (.goto 4, 3) := by decide +kernel
theorem dX9_command_254 : decode cX9_command 254 = .ok (.iconst 0, 1) := by decide +kernel
theorem dX9_command_255 : decode cX9_command 255 = .ok (.ireturn, 1) := by decide +kernel
theorem dX9_command_256 : decode cX9_command 256 = .ok (.iconst 0, 1) := by decide +kernel
theorem dX9_command_257 : decode cX9_command 257 = .ok (.ireturn, 1) := by decide +kernel
theorem dX9_tenThousands_0 : decode cX9_tenThousands 0 = .ok (.lconst 1, 1) := by decide +kernel
theorem dX9_tenThousands_1 : decode cX9_tenThousands 1 = .ok (.lstore_n 1, 1) := by decide +kernel
theorem dX9_tenThousands_2 : decode cX9_tenThousands 2 = .ok (.iconst 0, 1) := by decide +kernel
theorem dX9_tenThousands_3 : decode cX9_tenThousands 3 = .ok (.istore_n 3, 1) := by decide +kernel
theorem dX9_tenThousands_4 : decode cX9_tenThousands 4 = .ok (.iload_n 3, 1) := by decide +kernel
theorem dX9_tenThousands_5 : decode cX9_tenThousands 5 = .ok (.iload_n 0, 1) := by decide +kernel
theorem dX9_tenThousands_6 : decode cX9_tenThousands 6 = .ok (.if_icmp .ge 15, 3) := by decide +kernel
theorem dX9_tenThousands_9 : decode cX9_tenThousands 9 = .ok (.lload_n 1, 1) := by decide +kernel
theorem dX9_tenThousands_10 : decode cX9_tenThousands 10 = .ok (.ldc2_w 165, 3) := by decide +kernel
theorem dX9_tenThousands_13 : decode cX9_tenThousands 13 = .ok (.lmul, 1) := by decide +kernel
theorem dX9_tenThousands_14 : decode cX9_tenThousands 14 = .ok (.lstore_n 1, 1) := by decide +kernel
theorem dX9_tenThousands_15 : decode cX9_tenThousands 15 = .ok (.iinc 3 1, 3) := by decide +kernel
theorem dX9_tenThousands_18 : decode cX9_tenThousands 18 = .ok (.goto (-14), 3) := by decide +kernel
theorem dX9_tenThousands_21 : decode cX9_tenThousands 21 = .ok (.lload_n 1, 1) := by decide +kernel
theorem dX9_tenThousands_22 : decode cX9_tenThousands 22 = .ok (.lreturn, 1) := by decide +kernel
set_option maxRecDepth 20000 in
theorem ggX9_runScript_X9_in : GoodIn wsX9_runScript wsX9_in := goodIn_r _ [9] (by decide +kernel) (by decide +kernel)
set_option maxRecDepth 20000 in
theorem gX9_runScript_X9_in : GoodIn wsX9_runScript (va_wsS RX9 57 yX9_in wsX9_in) := goodIn_app (goodIn_of _ (by decide +kernel)) ggX9_runScript_X9_in
set_option maxRecDepth 20000 in
theorem ggX9_runScript_X9_tenThousands : GoodIn wsX9_runScript wsX9_tenThousands := goodIn_r _ [12, 5] (by decide +kernel) (by decide +kernel)
set_option maxRecDepth 20000 in
theorem gX9_runScript_X9_tenThousands : GoodIn wsX9_runScript (va_wsS RX9 169 yX9_tenThousands wsX9_tenThousands) := goodIn_app (goodIn_of _ (by decide +kernel)) ggX9_runScript_X9_tenThousands
set_option maxRecDepth 20000 in
theorem ggX9_runScript_X9_assign : GoodIn wsX9_runScript wsX9_assign := goodIn_r _ [15] (by decide +kernel) (by decide +kernel)
set_option maxRecDepth 20000 in
theorem gX9_runScript_X9_assign : GoodIn wsX9_runScript (va_wsS RX9 118 yX9_assign wsX9_assign) := goodIn_app (goodIn_of _ (by decide +kernel)) ggX9_runScript_X9_assign
set_option maxRecDepth 20000 in
theorem ggX9_runScript_X9_command : GoodIn wsX9_runScript wsX9_command := goodIn_r _ [19, 4, 20, 21, 22, 23, 24, 8, 25, 26, 6, 7, 9, 27, 28, 29, 30, 31, 32, 33, 34, 35, 36, 37, 38, 39, 40, 41, 42, 43, 44, 45, 46, 47, 48, 49, 50, 51, 52, 53, 54, 55, 56, 57, 58, 59, 60, 61, 62, 63, 64, 65, 66, 67, 68, 69, 70, 71, 72, 73, 74, 75, 76, 77, 78, 79, 80, 81, 82, 83, 84] (by decide +kernel) (by decide +kernel)
set_option maxRecDepth 20000 in
theorem gX9_runScript_X9_command : GoodIn wsX9_runScript (wsV RX9 173 RX9 yX9_command wsX9_command) := goodIn_app (goodIn_of _ (by decide +kernel)) ggX9_runScript_X9_command
theorem dX9_runScript_0 : decode cX9_runScript 0 = .ok (.aload_n 0, 1) := by decide +kernel
theorem dX9_runScript_1 : decode cX9_runScript 1 = .ok (.iconst 0, 1) := by decide +kernel
theorem dX9_runScript_2 : decode cX9_runScript 2 = .ok (.putfield 54, 3) := by decide +kernel
theorem dX9_runScript_5 : decode cX9_runScript 5 = .ok (.iload_n 1, 1) := by decide +kernel
theorem dX9_runScript_6 : decode cX9_runScript 6 = .ok (.i2l, 1) := by decide +kernel
theorem dX9_runScript_7 : decode cX9_runScript 7 = .ok (.lconst 1, 1) := by decide +kernel
theorem dX9_runScript_8 : decode cX9_runScript 8 = .ok (.ldc2_w 167, 3) := by decide +kernel
theorem dX9_runScript_11 : decode cX9_runScript 11 = .ok (.invokestatic 57, 3) := by decide +kernel
theorem dX9_runScript_14 : decode cX9_runScript 14 = .ok (.ifCond .eq 17, 3) := by decide +kernel
theorem dX9_runScript_17 : decode cX9_runScript 17 = .ok (.lload_n 2, 1) := by decide +kernel
theorem dX9_runScript_18 : decode cX9_runScript 18 = .ok (.lconst 0, 1) := by decide +kernel
theorem dX9_runScript_19 : decode cX9_runScript 19 = .ok (.iload_n 1, 1) := by decide +kernel
theorem dX9_runScript_20 : decode cX9_runScript 20 = .ok (.invokestatic 169, 3) := by decide +kernel
theorem dX9_runScript_23 : decode cX9_runScript 23 = .ok (.lconst 1, 1) := by decide +kernel
theorem dX9_runScript_24 : decode cX9_runScript 24 = .ok (.lsub, 1) := by decide +kernel
theorem dX9_runScript_25 : decode cX9_runScript 25 = .ok (.invokestatic 57, 3) := by decide +kernel
theorem dX9_runScript_28 : decode cX9_runScript 28 = .ok (.ifCond .ne 6, 3) := by decide +kernel
theorem dX9_runScript_31 : decode cX9_runScript 31 = .ok (.bipush (-2), 2) := by decide +kernel
theorem dX9_runScript_33 : decode cX9_runScript 33 = .ok (.ireturn, 1) := by decide +kernel
theorem dX9_runScript_34 : decode cX9_runScript 34 = .ok (.aload_n 0, 1) := by decide +kernel
theorem dX9_runScript_35 : decode cX9_runScript 35 = .ok (.getfield 20, 3) := by decide +kernel
theorem dX9_runScript_38 : decode cX9_runScript 38 = .ok (.aload_n 0, 1) := by decide +kernel
theorem dX9_runScript_39 : decode cX9_runScript 39 = .ok (.getfield 23, 3) := by decide +kernel
theorem dX9_runScript_42 : decode cX9_runScript 42 = .ok (.invokestatic 118, 3) := by decide +kernel
theorem dX9_runScript_45 : decode cX9_runScript 45 = .ok (.iconst 0, 1) := by decide +kernel
theorem dX9_runScript_46 : decode cX9_runScript 46 = .ok (.istore 4, 2) := by decide +kernel
theorem dX9_runScript_48 : decode cX9_runScript 48 = .ok (.iload 4, 2) := by decide +kernel
theorem dX9_runScript_50 : decode cX9_runScript 50 = .ok (.iload_n 1, 1) := by decide +kernel
theorem dX9_runScript_51 : decode cX9_runScript 51 = .ok (.if_icmp .ge 64, 3) := by decide +kernel
theorem dX9_runScript_54 : decode cX9_runScript 54 = .ok (.lload_n 2, 1) := by decide +kernel
theorem dX9_runScript_55 : decode cX9_runScript 55 = .ok (.iload_n 1, 1) := by decide +kernel
theorem dX9_runScript_56 : decode cX9_runScript 56 = .ok (.iconst 1, 1) := by decide +kernel
theorem dX9_runScript_57 : decode cX9_runScript 57 = .ok (.isub, 1) := by decide +kernel
theorem dX9_runScript_58 : decode cX9_runScript 58 = .ok (.iload 4, 2) := by decide +kernel
theorem dX9_runScript_60 : decode cX9_runScript 60 = .ok (.isub, 1) := by decide +kernel
theorem dX9_runScript_61 : decode cX9_runScript 61 = .ok (.invokestatic 169, 3) := by decide +kernel
theorem dX9_runScript_64 : decode cX9_runScript 64 = .ok (.ldiv, 1) := by decide +kernel
theorem dX9_runScript_65 : decode cX9_runScript 65 = .ok (.ldc2_w 165, 3) := by decide +kernel
theorem dX9_runScript_68 : decode cX9_runScript 68 = .ok (.lrem, 1) := by decide +kernel
theorem dX9_runScript_69 : decode cX9_runScript 69 = .ok (.l2i, 1) := by decide +kernel
theorem dX9_runScript_70 : decode cX9_runScript 70 = .ok (.istore 5, 2) := by decide +kernel
theorem dX9_runScript_72 : decode cX9_runScript 72 = .ok (.aload_n 0, 1) := by decide +kernel
theorem dX9_runScript_73 : decode cX9_runScript 73 = .ok (.iload 5, 2) := by decide +kernel
theorem dX9_runScript_75 : decode cX9_runScript 75 = .ok (.sipush 1000, 3) := by decide +kernel
theorem dX9_runScript_78 : decode cX9_runScript 78 = .ok (.idiv, 1) := by decide +kernel
theorem dX9_runScript_79 : decode cX9_runScript 79 = .ok (.iload 5, 2) := by decide +kernel
theorem dX9_runScript_81 : decode cX9_runScript 81 = .ok (.bipush 100, 2) := by decide +kernel
theorem dX9_runScript_83 : decode cX9_runScript 83 = .ok (.idiv, 1) := by decide +kernel
theorem dX9_runScript_84 : decode cX9_runScript 84 = .ok (.bipush 10, 2) := by decide +kernel
theorem dX9_runScript_86 : decode cX9_runScript 86 = .ok (.irem, 1) := by decide +kernel
theorem dX9_runScript_87 : decode cX9_runScript 87 = .ok (.iload 5, 2) := by decide +kernel
theorem dX9_runScript_89 : decode cX9_runScript 89 = .ok (.bipush 10, 2) := by decide +kernel
theorem dX9_runScript_91 : decode cX9_runScript 91 = .ok (.idiv, 1) := by decide +kernel
theorem dX9_runScript_92 : decode cX9_runScript 92 = .ok (.bipush 10, 2) := by decide +kernel
theorem dX9_runScript_94 : decode cX9_runScript 94 = .ok (.irem, 1) := by decide +kernel
theorem dX9_runScript_95 : decode cX9_runScript 95 = .ok (.iload 5, 2) := by decide +kernel
theorem dX9_runScript_97 : decode cX9_runScript 97 = .ok (.bipush 10, 2) := by decide +kernel
theorem dX9_runScript_99 : decode cX9_runScript 99 = .ok (.irem, 1) := by decide +kernel
theorem dX9_runScript_100 : decode cX9_runScript 100 = .ok (.invokevirtual 173, 3) := by decide +kernel
theorem dX9_runScript_103 : decode cX9_runScript 103 = .ok (.ifCond .ne 6, 3) := by decide +kernel
theorem dX9_runScript_106 : decode cX9_runScript 106 = .ok (.iload 4, 2) := by decide +kernel
theorem dX9_runScript_108 : decode cX9_runScript 108 = .ok (.ireturn, 1) := by decide +kernel
theorem dX9_runScript_109 : decode cX9_runScript 109 = .ok (.iinc 4 1, 3) := by decide +kernel
theorem dX9_runScript_112 : decode cX9_runScript 112 = .ok (.goto (-64), 3) := by decide +kernel
theorem dX9_runScript_115 : decode cX9_runScript 115 = .ok (.bipush (-9), 2) := by decide +kernel
theorem dX9_runScript_117 : decode cX9_runScript 117 = .ok (.ireturn, 1) := by decide +kernel
set_option maxRecDepth 20000 in
theorem ggX9_observe_X9_in : GoodIn wsX9_observe wsX9_in := goodIn_r _ [10] (by decide +kernel) (by decide +kernel)
set_option maxRecDepth 20000 in
theorem gX9_observe_X9_in : GoodIn wsX9_observe (va_wsS RX9 57 yX9_in wsX9_in) := goodIn_app (goodIn_of _ (by decide +kernel)) ggX9_observe_X9_in
theorem dX9_observe_0 : decode cX9_observe 0 = .ok (.aload_n 0, 1) := by decide +kernel
theorem dX9_observe_1 : decode cX9_observe 1 = .ok (.iconst 0, 1) := by decide +kernel
theorem dX9_observe_2 : decode cX9_observe 2 = .ok (.putfield 54, 3) := by decide +kernel
theorem dX9_observe_5 : decode cX9_observe 5 = .ok (.iload_n 1, 1) := by decide +kernel
theorem dX9_observe_6 : decode cX9_observe 6 = .ok (.i2l, 1) := by decide +kernel
theorem dX9_observe_7 : decode cX9_observe 7 = .ok (.lconst 0, 1) := by decide +kernel
theorem dX9_observe_8 : decode cX9_observe 8 = .ok (.ldc2_w 177, 3) := by decide +kernel
theorem dX9_observe_11 : decode cX9_observe 11 = .ok (.invokestatic 57, 3) := by decide +kernel
theorem dX9_observe_14 : decode cX9_observe 14 = .ok (.ifCond .eq 25, 3) := by decide +kernel
theorem dX9_observe_17 : decode cX9_observe 17 = .ok (.iload_n 2, 1) := by decide +kernel
theorem dX9_observe_18 : decode cX9_observe 18 = .ok (.i2l, 1) := by decide +kernel
theorem dX9_observe_19 : decode cX9_observe 19 = .ok (.lconst 0, 1) := by decide +kernel
theorem dX9_observe_20 : decode cX9_observe 20 = .ok (.ldc2_w 177, 3) := by decide +kernel
theorem dX9_observe_23 : decode cX9_observe 23 = .ok (.invokestatic 57, 3) := by decide +kernel
theorem dX9_observe_26 : decode cX9_observe 26 = .ok (.ifCond .eq 13, 3) := by decide +kernel
theorem dX9_observe_29 : decode cX9_observe 29 = .ok (.iload_n 3, 1) := by decide +kernel
theorem dX9_observe_30 : decode cX9_observe 30 = .ok (.i2l, 1) := by decide +kernel
theorem dX9_observe_31 : decode cX9_observe 31 = .ok (.lconst 0, 1) := by decide +kernel
theorem dX9_observe_32 : decode cX9_observe 32 = .ok (.lconst 1, 1) := by decide +kernel
theorem dX9_observe_33 : decode cX9_observe 33 = .ok (.invokestatic 57, 3) := by decide +kernel
theorem dX9_observe_36 : decode cX9_observe 36 = .ok (.ifCond .ne 6, 3) := by decide +kernel
theorem dX9_observe_39 : decode cX9_observe 39 = .ok (.bipush (-2), 2) := by decide +kernel
theorem dX9_observe_41 : decode cX9_observe 41 = .ok (.ireturn, 1) := by decide +kernel
theorem dX9_observe_42 : decode cX9_observe 42 = .ok (.aload_n 0, 1) := by decide +kernel
theorem dX9_observe_43 : decode cX9_observe 43 = .ok (.getfield 179, 3) := by decide +kernel
theorem dX9_observe_46 : decode cX9_observe 46 = .ok (.bipush 6, 2) := by decide +kernel
theorem dX9_observe_48 : decode cX9_observe 48 = .ok (.if_icmp .ne 6, 3) := by decide +kernel
theorem dX9_observe_51 : decode cX9_observe 51 = .ok (.bipush (-4), 2) := by decide +kernel
theorem dX9_observe_53 : decode cX9_observe 53 = .ok (.ireturn, 1) := by decide +kernel
theorem dX9_observe_54 : decode cX9_observe 54 = .ok (.aload_n 0, 1) := by decide +kernel
theorem dX9_observe_55 : decode cX9_observe 55 = .ok (.getfield 36, 3) := by decide +kernel
theorem dX9_observe_58 : decode cX9_observe 58 = .ok (.aload_n 0, 1) := by decide +kernel
theorem dX9_observe_59 : decode cX9_observe 59 = .ok (.getfield 179, 3) := by decide +kernel
theorem dX9_observe_62 : decode cX9_observe 62 = .ok (.iload_n 1, 1) := by decide +kernel
theorem dX9_observe_63 : decode cX9_observe 63 = .ok (.iastore, 1) := by decide +kernel
theorem dX9_observe_64 : decode cX9_observe 64 = .ok (.aload_n 0, 1) := by decide +kernel
theorem dX9_observe_65 : decode cX9_observe 65 = .ok (.getfield 39, 3) := by decide +kernel
theorem dX9_observe_68 : decode cX9_observe 68 = .ok (.aload_n 0, 1) := by decide +kernel
theorem dX9_observe_69 : decode cX9_observe 69 = .ok (.getfield 179, 3) := by decide +kernel
theorem dX9_observe_72 : decode cX9_observe 72 = .ok (.iload_n 2, 1) := by decide +kernel
theorem dX9_observe_73 : decode cX9_observe 73 = .ok (.iastore, 1) := by decide +kernel
theorem dX9_observe_74 : decode cX9_observe 74 = .ok (.aload_n 0, 1) := by decide +kernel
theorem dX9_observe_75 : decode cX9_observe 75 = .ok (.getfield 42, 3) := by decide +kernel
theorem dX9_observe_78 : decode cX9_observe 78 = .ok (.aload_n 0, 1) := by decide +kernel
theorem dX9_observe_79 : decode cX9_observe 79 = .ok (.getfield 179, 3) := by decide +kernel
theorem dX9_observe_82 : decode cX9_observe 82 = .ok (.iload_n 3, 1) := by decide +kernel
theorem dX9_observe_83 : decode cX9_observe 83 = .ok (.iastore, 1) := by decide +kernel
theorem dX9_observe_84 : decode cX9_observe 84 = .ok (.aload_n 0, 1) := by decide +kernel
theorem dX9_observe_85 : decode cX9_observe 85 = .ok (.dup, 1) := by decide +kernel
theorem dX9_observe_86 : decode cX9_observe 86 = .ok (.getfield 179, 3) := by decide +kernel
theorem dX9_observe_89 : decode cX9_observe 89 = .ok (.iconst 1, 1) := by decide +kernel
theorem dX9_observe_90 : decode cX9_observe 90 = .ok (.iadd, 1) := by decide +kernel
theorem dX9_observe_91 : decode cX9_observe 91 = .ok (.putfield 179, 3) := by decide +kernel
theorem dX9_observe_94 : decode cX9_observe 94 = .ok (.aload_n 0, 1) := by decide +kernel
theorem dX9_observe_95 : decode cX9_observe 95 = .ok (.getfield 179, 3) := by decide +kernel
theorem dX9_observe_98 : decode cX9_observe 98 = .ok (.ireturn, 1) := by decide +kernel
theorem dX9_clearObservations_0 : decode cX9_clearObservations 0 = .ok (.aload_n 0, 1) := by decide +kernel
theorem dX9_clearObservations_1 : decode cX9_clearObservations 1 = .ok (.iconst 0, 1) := by decide +kernel
theorem dX9_clearObservations_2 : decode cX9_clearObservations 2 = .ok (.putfield 54, 3) := by decide +kernel
theorem dX9_clearObservations_5 : decode cX9_clearObservations 5 = .ok (.aload_n 0, 1) := by decide +kernel
theorem dX9_clearObservations_6 : decode cX9_clearObservations 6 = .ok (.getfield 179, 3) := by decide +kernel
theorem dX9_clearObservations_9 : decode cX9_clearObservations 9 = .ok (.istore_n 1, 1) := by decide +kernel
theorem dX9_clearObservations_10 : decode cX9_clearObservations 10 = .ok (.aload_n 0, 1) := by decide +kernel
theorem dX9_clearObservations_11 : decode cX9_clearObservations 11 = .ok (.iconst 0, 1) := by decide +kernel
theorem dX9_clearObservations_12 : decode cX9_clearObservations 12 = .ok (.putfield 179, 3) := by decide +kernel
theorem dX9_clearObservations_15 : decode cX9_clearObservations 15 = .ok (.iload_n 1, 1) := by decide +kernel
theorem dX9_clearObservations_16 : decode cX9_clearObservations 16 = .ok (.ireturn, 1) := by decide +kernel
set_option maxRecDepth 20000 in
theorem ggX9_possibleLabels_X9_noEdge : GoodIn wsX9_possibleLabels wsX9_noEdge := goodIn_r _ [13, 2, 14, 15, 12, 16, 49, 50, 51, 52, 53, 54, 55, 56, 57, 58, 59, 60, 61, 62, 63, 64, 65, 66, 67, 68, 69] (by decide +kernel) (by decide +kernel)
set_option maxRecDepth 20000 in
theorem gX9_possibleLabels_X9_noEdge : GoodIn wsX9_possibleLabels (wsV RX9 125 RX9 yX9_noEdge wsX9_noEdge) := goodIn_app (goodIn_of _ (by decide +kernel)) ggX9_possibleLabels_X9_noEdge
set_option maxRecDepth 20000 in
theorem ggX9_possibleLabels_X9_assign : GoodIn wsX9_possibleLabels wsX9_assign := goodIn_r _ [19] (by decide +kernel) (by decide +kernel)
set_option maxRecDepth 20000 in
theorem gX9_possibleLabels_X9_assign : GoodIn wsX9_possibleLabels (va_wsS RX9 118 yX9_assign wsX9_assign) := goodIn_app (goodIn_of _ (by decide +kernel)) ggX9_possibleLabels_X9_assign
set_option maxRecDepth 20000 in
theorem ggX9_possibleLabels_X9_closeOf : GoodIn wsX9_possibleLabels wsX9_closeOf := goodIn_r _ [23, 24, 25, 26, 12, 27, 28, 29, 30, 31, 32, 33, 34, 35, 36, 37, 38, 39, 14, 15, 16, 49, 50, 51, 52, 53, 54, 55, 56, 57, 58, 59, 60, 61, 62, 63, 64, 65, 66, 67, 68, 69] (by decide +kernel) (by decide +kernel)
set_option maxRecDepth 20000 in
theorem gX9_possibleLabels_X9_closeOf : GoodIn wsX9_possibleLabels (wsV RX9 77 RX9 yX9_closeOf wsX9_closeOf) := goodIn_app (goodIn_of _ (by decide +kernel)) ggX9_possibleLabels_X9_closeOf
set_option maxRecDepth 20000 in
theorem ggX9_possibleLabels_X9_noVertex : GoodIn wsX9_possibleLabels wsX9_noVertex := goodIn_r _ [43, 44, 14, 15, 12, 16, 49, 50, 51, 52, 53, 54, 55, 56, 57, 58, 59, 60, 61, 62, 63, 64, 65, 66, 67, 68, 69] (by decide +kernel) (by decide +kernel)
set_option maxRecDepth 20000 in
theorem gX9_possibleLabels_X9_noVertex : GoodIn wsX9_possibleLabels (wsV RX9 129 RX9 yX9_noVertex wsX9_noVertex) := goodIn_app (goodIn_of _ (by decide +kernel)) ggX9_possibleLabels_X9_noVertex
set_option maxRecDepth 20000 in
theorem ggX9_possibleLabels_X9_reaches : GoodIn wsX9_possibleLabels wsX9_reaches := goodIn_r _ [48, 32, 33, 49, 50, 51, 52, 53, 54, 55, 56, 57, 58, 59, 60, 61, 62, 63, 64, 65, 66, 67, 68, 69] (by decide +kernel) (by decide +kernel)
set_option maxRecDepth 20000 in
theorem gX9_possibleLabels_X9_reaches : GoodIn wsX9_possibleLabels (wsV RX9 141 RX9 yX9_reaches wsX9_reaches) := goodIn_app (goodIn_of _ (by decide +kernel)) ggX9_possibleLabels_X9_reaches
theorem dX9_possibleLabels_0 : decode cX9_possibleLabels 0 = .ok (.aload_n 0, 1) := by decide +kernel
theorem dX9_possibleLabels_1 : decode cX9_possibleLabels 1 = .ok (.iconst 0, 1) := by decide +kernel
theorem dX9_possibleLabels_2 : decode cX9_possibleLabels 2 = .ok (.putfield 54, 3) := by decide +kernel
theorem dX9_possibleLabels_5 : decode cX9_possibleLabels 5 = .ok (.aload_n 0, 1) := by decide +kernel
theorem dX9_possibleLabels_6 : decode cX9_possibleLabels 6 = .ok (.iload_n 1, 1) := by decide +kernel
theorem dX9_possibleLabels_7 : decode cX9_possibleLabels 7 = .ok (.invokevirtual 125, 3) := by decide +kernel
theorem dX9_possibleLabels_10 : decode cX9_possibleLabels 10 = .ok (.ifCond .eq 5, 3) := by decide +kernel
theorem dX9_possibleLabels_13 : decode cX9_possibleLabels 13 = .ok (.iconst (-1), 1) := by decide +kernel
theorem dX9_possibleLabels_14 : decode cX9_possibleLabels 14 = .ok (.ireturn, 1) := by decide +kernel
theorem dX9_possibleLabels_15 : decode cX9_possibleLabels 15 = .ok (.iconst 0, 1) := by decide +kernel
theorem dX9_possibleLabels_16 : decode cX9_possibleLabels 16 = .ok (.istore_n 2, 1) := by decide +kernel
theorem dX9_possibleLabels_17 : decode cX9_possibleLabels 17 = .ok (.iconst 0, 1) := by decide +kernel
theorem dX9_possibleLabels_18 : decode cX9_possibleLabels 18 = .ok (.istore_n 3, 1) := by decide +kernel
theorem dX9_possibleLabels_19 : decode cX9_possibleLabels 19 = .ok (.iload_n 3, 1) := by decide +kernel
theorem dX9_possibleLabels_20 : decode cX9_possibleLabels 20 = .ok (.bipush 7, 2) := by decide +kernel
theorem dX9_possibleLabels_22 : decode cX9_possibleLabels 22 = .ok (.if_icmp .ge 166, 3) := by decide +kernel
theorem dX9_possibleLabels_25 : decode cX9_possibleLabels 25 = .ok (.aload_n 0, 1) := by decide +kernel
theorem dX9_possibleLabels_26 : decode cX9_possibleLabels 26 = .ok (.getfield 20, 3) := by decide +kernel
theorem dX9_possibleLabels_29 : decode cX9_possibleLabels 29 = .ok (.aload_n 0, 1) := by decide +kernel
theorem dX9_possibleLabels_30 : decode cX9_possibleLabels 30 = .ok (.getfield 23, 3) := by decide +kernel
theorem dX9_possibleLabels_33 : decode cX9_possibleLabels 33 = .ok (.invokestatic 118, 3) := by decide +kernel
theorem dX9_possibleLabels_36 : decode cX9_possibleLabels 36 = .ok (.aload_n 0, 1) := by decide +kernel
theorem dX9_possibleLabels_37 : decode cX9_possibleLabels 37 = .ok (.getfield 23, 3) := by decide +kernel
theorem dX9_possibleLabels_40 : decode cX9_possibleLabels 40 = .ok (.iconst 3, 1) := by decide +kernel
theorem dX9_possibleLabels_41 : decode cX9_possibleLabels 41 = .ok (.iconst 3, 1) := by decide +kernel
theorem dX9_possibleLabels_42 : decode cX9_possibleLabels 42 = .ok (.iload_n 1, 1) := by decide +kernel
theorem dX9_possibleLabels_43 : decode cX9_possibleLabels 43 = .ok (.imul, 1) := by decide +kernel
theorem dX9_possibleLabels_44 : decode cX9_possibleLabels 44 = .ok (.iadd, 1) := by decide +kernel
theorem dX9_possibleLabels_45 : decode cX9_possibleLabels 45 = .ok (.iload_n 3, 1) := by decide +kernel
theorem dX9_possibleLabels_46 : decode cX9_possibleLabels 46 = .ok (.iastore, 1) := by decide +kernel
theorem dX9_possibleLabels_47 : decode cX9_possibleLabels 47 = .ok (.aload_n 0, 1) := by decide +kernel
theorem dX9_possibleLabels_48 : decode cX9_possibleLabels 48 = .ok (.aload_n 0, 1) := by decide +kernel
theorem dX9_possibleLabels_49 : decode cX9_possibleLabels 49 = .ok (.getfield 23, 3) := by decide +kernel
theorem dX9_possibleLabels_52 : decode cX9_possibleLabels 52 = .ok (.ldc 140, 2) := by decide +kernel
theorem dX9_possibleLabels_54 : decode cX9_possibleLabels 54 = .ok (.invokevirtual 77, 3) := by decide +kernel
theorem dX9_possibleLabels_57 : decode cX9_possibleLabels 57 = .ok (.iconst 1, 1) := by decide +kernel
theorem dX9_possibleLabels_58 : decode cX9_possibleLabels 58 = .ok (.istore 4, 2) := by decide +kernel
theorem dX9_possibleLabels_60 : decode cX9_possibleLabels 60 = .ok (.iconst 0, 1) := by decide +kernel
theorem dX9_possibleLabels_61 : decode cX9_possibleLabels 61 = .ok (.istore 5, 2) := by decide +kernel
theorem dX9_possibleLabels_63 : decode cX9_possibleLabels 63 = .ok (.iload 5, 2) := by decide +kernel
theorem dX9_possibleLabels_65 : decode cX9_possibleLabels 65 = .ok (.aload_n 0, 1) := by decide +kernel
theorem dX9_possibleLabels_66 : decode cX9_possibleLabels 66 = .ok (.getfield 179, 3) := by decide +kernel
theorem dX9_possibleLabels_69 : decode cX9_possibleLabels 69 = .ok (.if_icmp .ge 98, 3) := by decide +kernel
theorem dX9_possibleLabels_72 : decode cX9_possibleLabels 72 = .ok (.aload_n 0, 1) := by decide +kernel
theorem dX9_possibleLabels_73 : decode cX9_possibleLabels 73 = .ok (.aload_n 0, 1) := by decide +kernel
theorem dX9_possibleLabels_74 : decode cX9_possibleLabels 74 = .ok (.getfield 36, 3) := by decide +kernel
theorem dX9_possibleLabels_77 : decode cX9_possibleLabels 77 = .ok (.iload 5, 2) := by decide +kernel
theorem dX9_possibleLabels_79 : decode cX9_possibleLabels 79 = .ok (.iaload, 1) := by decide +kernel
theorem dX9_possibleLabels_80 : decode cX9_possibleLabels 80 = .ok (.invokevirtual 129, 3) := by decide +kernel
theorem dX9_possibleLabels_83 : decode cX9_possibleLabels 83 = .ok (.ifCond .ne 21, 3) := by decide +kernel
theorem dX9_possibleLabels_86 : decode cX9_possibleLabels 86 = .ok (.aload_n 0, 1) := by decide +kernel
theorem dX9_possibleLabels_87 : decode cX9_possibleLabels 87 = .ok (.aload_n 0, 1) := by decide +kernel
theorem dX9_possibleLabels_88 : decode cX9_possibleLabels 88 = .ok (.getfield 39, 3) := by decide +kernel
theorem dX9_possibleLabels_91 : decode cX9_possibleLabels 91 = .ok (.iload 5, 2) := by decide +kernel
theorem dX9_possibleLabels_93 : decode cX9_possibleLabels 93 = .ok (.iaload, 1) := by decide +kernel
theorem dX9_possibleLabels_94 : decode cX9_possibleLabels 94 = .ok (.invokevirtual 129, 3) := by decide +kernel
theorem dX9_possibleLabels_97 : decode cX9_possibleLabels 97 = .ok (.ifCond .ne 7, 3) := by decide +kernel
theorem dX9_possibleLabels_100 : decode cX9_possibleLabels 100 = .ok (.iconst 1, 1) := by decide +kernel
theorem dX9_possibleLabels_101 : decode cX9_possibleLabels 101 = .ok (.goto 4, 3) := by decide +kernel
theorem dX9_possibleLabels_104 : decode cX9_possibleLabels 104 = .ok (.iconst 0, 1) := by decide +kernel
theorem dX9_possibleLabels_105 : decode cX9_possibleLabels 105 = .ok (.istore 6, 2) := by decide +kernel
theorem dX9_possibleLabels_107 : decode cX9_possibleLabels 107 = .ok (.iload 4, 2) := by decide +kernel
theorem dX9_possibleLabels_109 : decode cX9_possibleLabels 109 = .ok (.ifCond .eq 49, 3) := by decide +kernel
theorem dX9_possibleLabels_112 : decode cX9_possibleLabels 112 = .ok (.iload 6, 2) := by decide +kernel
theorem dX9_possibleLabels_114 : decode cX9_possibleLabels 114 = .ok (.ifCond .eq 40, 3) := by decide +kernel
theorem dX9_possibleLabels_117 : decode cX9_possibleLabels 117 = .ok (.aload_n 0, 1) := by decide +kernel
theorem dX9_possibleLabels_118 : decode cX9_possibleLabels 118 = .ok (.aload_n 0, 1) := by decide +kernel
theorem dX9_possibleLabels_119 : decode cX9_possibleLabels 119 = .ok (.getfield 36, 3) := by decide +kernel
theorem dX9_possibleLabels_122 : decode cX9_possibleLabels 122 = .ok (.iload 5, 2) := by decide +kernel
theorem dX9_possibleLabels_124 : decode cX9_possibleLabels 124 = .ok (.iaload, 1) := by decide +kernel
theorem dX9_possibleLabels_125 : decode cX9_possibleLabels 125 = .ok (.aload_n 0, 1) := by decide +kernel
theorem dX9_possibleLabels_126 : decode cX9_possibleLabels 126 = .ok (.getfield 39, 3) := by decide +kernel
theorem dX9_possibleLabels_129 : decode cX9_possibleLabels 129 = .ok (.iload 5, 2) := by decide +kernel
theorem dX9_possibleLabels_131 : decode cX9_possibleLabels 131 = .ok (.iaload, 1) := by decide +kernel
theorem dX9_possibleLabels_132 : decode cX9_possibleLabels 132 = .ok (.invokevirtual 141, 3) := by decide +kernel
theorem dX9_possibleLabels_135 : decode cX9_possibleLabels 135 = .ok (.aload_n 0, 1) := by decide +kernel
theorem dX9_possibleLabels_136 : decode cX9_possibleLabels 136 = .ok (.getfield 42, 3) := by decide +kernel
theorem dX9_possibleLabels_139 : decode cX9_possibleLabels 139 = .ok (.iload 5, 2) := by decide +kernel
theorem dX9_possibleLabels_141 : decode cX9_possibleLabels 141 = .ok (.iaload, 1) := by decide +kernel
theorem dX9_possibleLabels_142 : decode cX9_possibleLabels 142 = .ok (.iconst 1, 1) := by decide +kernel
theorem dX9_possibleLabels_143 : decode cX9_possibleLabels 143 = .ok (.if_icmp .ne 7, 3) := by decide +kernel
theorem dX9_possibleLabels_146 : decode cX9_possibleLabels 146 = .ok (.iconst 1, 1) := by decide +kernel
theorem dX9_possibleLabels_147 : decode cX9_possibleLabels 147 = .ok (.goto 4, 3) := by decide +kernel
theorem dX9_possibleLabels_150 : decode cX9_possibleLabels 150 = .ok (.iconst 0, 1) := by decide +kernel
theorem dX9_possibleLabels_151 : decode cX9_possibleLabels 151 = .ok (.if_icmp .ne 7, 3) := by decide +kernel
theorem dX9_possibleLabels_154 : decode cX9_possibleLabels 154 = .ok (.iconst 1, 1) := by decide +kernel
theorem dX9_possibleLabels_155 : decode cX9_possibleLabels 155 = .ok (.goto 4, 3) := by decide +kernel
theorem dX9_possibleLabels_158 : decode cX9_possibleLabels 158 = .ok (.iconst 0, 1) := by decide +kernel
theorem dX9_possibleLabels_159 : decode cX9_possibleLabels 159 = .ok (.istore 4, 2) := by decide +kernel
theorem dX9_possibleLabels_161 : decode cX9_possibleLabels 161 = .ok (.iinc 5 1, 3) := by decide +kernel
theorem dX9_possibleLabels_164 : decode cX9_possibleLabels 164 = .ok (.goto (-101), 3) := by decide +kernel
theorem dX9_possibleLabels_167 : decode cX9_possibleLabels 167 = .ok (.iload_n 2, 1) := by decide +kernel
theorem dX9_possibleLabels_168 : decode cX9_possibleLabels 168 = .ok (.iload 4, 2) := by decide +kernel
theorem dX9_possibleLabels_170 : decode cX9_possibleLabels 170 = .ok (.ifCond .eq 9, 3) := by decide +kernel
theorem dX9_possibleLabels_173 : decode cX9_possibleLabels 173 = .ok (.iconst 1, 1) := by decide +kernel
theorem dX9_possibleLabels_174 : decode cX9_possibleLabels 174 = .ok (.iload_n 3, 1) := by decide +kernel
theorem dX9_possibleLabels_175 : decode cX9_possibleLabels 175 = .ok (.ishl, 1) := by decide +kernel
theorem dX9_possibleLabels_176 : decode cX9_possibleLabels 176 = .ok (.goto 4, 3) := by decide +kernel
theorem dX9_possibleLabels_179 : decode cX9_possibleLabels 179 = .ok (.iconst 0, 1) := by decide +kernel
theorem dX9_possibleLabels_180 : decode cX9_possibleLabels 180 = .ok (.ior, 1) := by decide +kernel
theorem dX9_possibleLabels_181 : decode cX9_possibleLabels 181 = .ok (.istore_n 2, 1) := by decide +kernel
theorem dX9_possibleLabels_182 : decode cX9_possibleLabels 182 = .ok (.iinc 3 1, 3) := by decide +kernel
theorem dX9_possibleLabels_185 : decode cX9_possibleLabels 185 = .ok (.goto (-166), 3) := by decide +kernel
theorem dX9_possibleLabels_188 : decode cX9_possibleLabels 188 = .ok (.iload_n 2, 1) := by decide +kernel
theorem dX9_possibleLabels_189 : decode cX9_possibleLabels 189 = .ok (.ireturn, 1) := by decide +kernel
theorem dX9_factorial_0 : decode cX9_factorial 0 = .ok (.iconst 1, 1) := by decide +kernel
theorem dX9_factorial_1 : decode cX9_factorial 1 = .ok (.istore_n 1, 1) := by decide +kernel
theorem dX9_factorial_2 : decode cX9_factorial 2 = .ok (.iconst 2, 1) := by decide +kernel
theorem dX9_factorial_3 : decode cX9_factorial 3 = .ok (.istore_n 2, 1) := by decide +kernel
theorem dX9_factorial_4 : decode cX9_factorial 4 = .ok (.iload_n 2, 1) := by decide +kernel
theorem dX9_factorial_5 : decode cX9_factorial 5 = .ok (.iload_n 0, 1) := by decide +kernel
theorem dX9_factorial_6 : decode cX9_factorial 6 = .ok (.if_icmp .gt 13, 3) := by decide +kernel
theorem dX9_factorial_9 : decode cX9_factorial 9 = .ok (.iload_n 1, 1) := by decide +kernel
theorem dX9_factorial_10 : decode cX9_factorial 10 = .ok (.iload_n 2, 1) := by decide +kernel
theorem dX9_factorial_11 : decode cX9_factorial 11 = .ok (.imul, 1) := by decide +kernel
theorem dX9_factorial_12 : decode cX9_factorial 12 = .ok (.istore_n 1, 1) := by decide +kernel
theorem dX9_factorial_13 : decode cX9_factorial 13 = .ok (.iinc 2 1, 3) := by decide +kernel
theorem dX9_factorial_16 : decode cX9_factorial 16 = .ok (.goto (-12), 3) := by decide +kernel
theorem dX9_factorial_19 : decode cX9_factorial 19 = .ok (.iload_n 1, 1) := by decide +kernel
theorem dX9_factorial_20 : decode cX9_factorial 20 = .ok (.ireturn, 1) := by decide +kernel
set_option maxRecDepth 20000 in
theorem ggX9_share_X9_noEdge : GoodIn wsX9_share wsX9_noEdge := goodIn_r _ [8, 2, 9, 10, 7, 11, 47, 48, 49, 50, 51, 52, 53, 54, 55, 56, 57, 58, 59, 60, 61, 62, 63, 64, 65, 66, 67] (by decide +kernel) (by decide +kernel)
set_option maxRecDepth 20000 in
theorem gX9_share_X9_noEdge : GoodIn wsX9_share (wsV RX9 125 RX9 yX9_noEdge wsX9_noEdge) := goodIn_app (goodIn_of _ (by decide +kernel)) ggX9_share_X9_noEdge
set_option maxRecDepth 20000 in
theorem ggX9_share_X9_has : GoodIn wsX9_share wsX9_has := goodIn_r _ [14] (by decide +kernel) (by decide +kernel)
set_option maxRecDepth 20000 in
theorem gX9_share_X9_has : GoodIn wsX9_share (va_wsS RX9 69 yX9_has wsX9_has) := goodIn_app (goodIn_of _ (by decide +kernel)) ggX9_share_X9_has
set_option maxRecDepth 20000 in
theorem ggX9_share_X9_bits : GoodIn wsX9_share wsX9_bits := goodIn_r _ [17] (by decide +kernel) (by decide +kernel)
set_option maxRecDepth 20000 in
theorem gX9_share_X9_bits : GoodIn wsX9_share (va_wsS RX9 182 yX9_bits wsX9_bits) := goodIn_app (goodIn_of _ (by decide +kernel)) ggX9_share_X9_bits
set_option maxRecDepth 20000 in
theorem ggX9_share_X9_factorial : GoodIn wsX9_share wsX9_factorial := goodIn_r _ [20] (by decide +kernel) (by decide +kernel)
set_option maxRecDepth 20000 in
theorem gX9_share_X9_factorial : GoodIn wsX9_share (va_wsS RX9 185 yX9_factorial wsX9_factorial) := goodIn_app (goodIn_of _ (by decide +kernel)) ggX9_share_X9_factorial
set_option maxRecDepth 20000 in
theorem ggX9_share_X9_pairsOf : GoodIn wsX9_share wsX9_pairsOf := goodIn_r _ [24, 25, 26, 27, 7, 28, 29, 12, 13, 14, 30, 31, 32, 33, 34, 35, 36, 37, 38, 39, 40, 41, 9, 10, 11, 42, 43, 44, 45, 46, 47, 48, 49, 50, 51, 52, 53, 54, 55, 56, 57, 58, 59, 60, 61, 62, 63, 64, 65, 66, 67] (by decide +kernel) (by decide +kernel)
set_option maxRecDepth 20000 in
theorem gX9_share_X9_pairsOf : GoodIn wsX9_share (wsV RX9 144 RX9 yX9_pairsOf wsX9_pairsOf) := goodIn_app (goodIn_of _ (by decide +kernel)) ggX9_share_X9_pairsOf
theorem dX9_share_0 : decode cX9_share 0 = .ok (.aload_n 0, 1) := by decide +kernel
theorem dX9_share_1 : decode cX9_share 1 = .ok (.iconst 0, 1) := by decide +kernel
theorem dX9_share_2 : decode cX9_share 2 = .ok (.putfield 54, 3) := by decide +kernel
theorem dX9_share_5 : decode cX9_share 5 = .ok (.aload_n 0, 1) := by decide +kernel
theorem dX9_share_6 : decode cX9_share 6 = .ok (.iload_n 1, 1) := by decide +kernel
theorem dX9_share_7 : decode cX9_share 7 = .ok (.invokevirtual 125, 3) := by decide +kernel
theorem dX9_share_10 : decode cX9_share 10 = .ok (.ifCond .eq 5, 3) := by decide +kernel
theorem dX9_share_13 : decode cX9_share 13 = .ok (.iconst (-1), 1) := by decide +kernel
theorem dX9_share_14 : decode cX9_share 14 = .ok (.ireturn, 1) := by decide +kernel
theorem dX9_share_15 : decode cX9_share 15 = .ok (.aload_n 0, 1) := by decide +kernel
theorem dX9_share_16 : decode cX9_share 16 = .ok (.getfield 20, 3) := by decide +kernel
theorem dX9_share_19 : decode cX9_share 19 = .ok (.iconst 0, 1) := by decide +kernel
theorem dX9_share_20 : decode cX9_share 20 = .ok (.iaload, 1) := by decide +kernel
theorem dX9_share_21 : decode cX9_share 21 = .ok (.istore_n 2, 1) := by decide +kernel
theorem dX9_share_22 : decode cX9_share 22 = .ok (.iload_n 2, 1) := by decide +kernel
theorem dX9_share_23 : decode cX9_share 23 = .ok (.bipush 8, 2) := by decide +kernel
theorem dX9_share_25 : decode cX9_share 25 = .ok (.if_icmp .le 6, 3) := by decide +kernel
theorem dX9_share_28 : decode cX9_share 28 = .ok (.bipush (-3), 2) := by decide +kernel
theorem dX9_share_30 : decode cX9_share 30 = .ok (.ireturn, 1) := by decide +kernel
theorem dX9_share_31 : decode cX9_share 31 = .ok (.iconst 0, 1) := by decide +kernel
theorem dX9_share_32 : decode cX9_share 32 = .ok (.istore_n 3, 1) := by decide +kernel
theorem dX9_share_33 : decode cX9_share 33 = .ok (.iconst 0, 1) := by decide +kernel
theorem dX9_share_34 : decode cX9_share 34 = .ok (.istore 4, 2) := by decide +kernel
theorem dX9_share_36 : decode cX9_share 36 = .ok (.iload 4, 2) := by decide +kernel
theorem dX9_share_38 : decode cX9_share 38 = .ok (.iconst 1, 1) := by decide +kernel
theorem dX9_share_39 : decode cX9_share 39 = .ok (.iload_n 2, 1) := by decide +kernel
theorem dX9_share_40 : decode cX9_share 40 = .ok (.ishl, 1) := by decide +kernel
theorem dX9_share_41 : decode cX9_share 41 = .ok (.if_icmp .ge 69, 3) := by decide +kernel
theorem dX9_share_44 : decode cX9_share 44 = .ok (.iload 4, 2) := by decide +kernel
theorem dX9_share_46 : decode cX9_share 46 = .ok (.iload_n 1, 1) := by decide +kernel
theorem dX9_share_47 : decode cX9_share 47 = .ok (.invokestatic 69, 3) := by decide +kernel
theorem dX9_share_50 : decode cX9_share 50 = .ok (.ifCond .ne 54, 3) := by decide +kernel
theorem dX9_share_53 : decode cX9_share 53 = .ok (.iload 4, 2) := by decide +kernel
theorem dX9_share_55 : decode cX9_share 55 = .ok (.invokestatic 182, 3) := by decide +kernel
theorem dX9_share_58 : decode cX9_share 58 = .ok (.istore 5, 2) := by decide +kernel
theorem dX9_share_60 : decode cX9_share 60 = .ok (.iload_n 3, 1) := by decide +kernel
theorem dX9_share_61 : decode cX9_share 61 = .ok (.iload 5, 2) := by decide +kernel
theorem dX9_share_63 : decode cX9_share 63 = .ok (.invokestatic 185, 3) := by decide +kernel
theorem dX9_share_66 : decode cX9_share 66 = .ok (.iload_n 2, 1) := by decide +kernel
theorem dX9_share_67 : decode cX9_share 67 = .ok (.iconst 1, 1) := by decide +kernel
theorem dX9_share_68 : decode cX9_share 68 = .ok (.isub, 1) := by decide +kernel
theorem dX9_share_69 : decode cX9_share 69 = .ok (.iload 5, 2) := by decide +kernel
theorem dX9_share_71 : decode cX9_share 71 = .ok (.isub, 1) := by decide +kernel
theorem dX9_share_72 : decode cX9_share 72 = .ok (.invokestatic 185, 3) := by decide +kernel
theorem dX9_share_75 : decode cX9_share 75 = .ok (.imul, 1) := by decide +kernel
theorem dX9_share_76 : decode cX9_share 76 = .ok (.aload_n 0, 1) := by decide +kernel
theorem dX9_share_77 : decode cX9_share 77 = .ok (.aload_n 0, 1) := by decide +kernel
theorem dX9_share_78 : decode cX9_share 78 = .ok (.getfield 20, 3) := by decide +kernel
theorem dX9_share_81 : decode cX9_share 81 = .ok (.iload 4, 2) := by decide +kernel
theorem dX9_share_83 : decode cX9_share 83 = .ok (.iconst 1, 1) := by decide +kernel
theorem dX9_share_84 : decode cX9_share 84 = .ok (.iload_n 1, 1) := by decide +kernel
theorem dX9_share_85 : decode cX9_share 85 = .ok (.ishl, 1) := by decide +kernel
theorem dX9_share_86 : decode cX9_share 86 = .ok (.ior, 1) := by decide +kernel
theorem dX9_share_87 : decode cX9_share 87 = .ok (.invokevirtual 144, 3) := by decide +kernel
theorem dX9_share_90 : decode cX9_share 90 = .ok (.aload_n 0, 1) := by decide +kernel
theorem dX9_share_91 : decode cX9_share 91 = .ok (.aload_n 0, 1) := by decide +kernel
theorem dX9_share_92 : decode cX9_share 92 = .ok (.getfield 20, 3) := by decide +kernel
theorem dX9_share_95 : decode cX9_share 95 = .ok (.iload 4, 2) := by decide +kernel
theorem dX9_share_97 : decode cX9_share 97 = .ok (.invokevirtual 144, 3) := by decide +kernel
theorem dX9_share_100 : decode cX9_share 100 = .ok (.isub, 1) := by decide +kernel
theorem dX9_share_101 : decode cX9_share 101 = .ok (.imul, 1) := by decide +kernel
theorem dX9_share_102 : decode cX9_share 102 = .ok (.iadd, 1) := by decide +kernel
theorem dX9_share_103 : decode cX9_share 103 = .ok (.istore_n 3, 1) := by decide +kernel
theorem dX9_share_104 : decode cX9_share 104 = .ok (.iinc 4 1, 3) := by decide +kernel
theorem dX9_share_107 : decode cX9_share 107 = .ok (.goto (-71), 3) := by decide +kernel
theorem dX9_share_110 : decode cX9_share 110 = .ok (.iload_n 3, 1) := by decide +kernel
theorem dX9_share_111 : decode cX9_share 111 = .ok (.ldc 188, 2) := by decide +kernel
theorem dX9_share_113 : decode cX9_share 113 = .ok (.iload_n 2, 1) := by decide +kernel
theorem dX9_share_114 : decode cX9_share 114 = .ok (.invokestatic 185, 3) := by decide +kernel
theorem dX9_share_117 : decode cX9_share 117 = .ok (.idiv, 1) := by decide +kernel
theorem dX9_share_118 : decode cX9_share 118 = .ok (.imul, 1) := by decide +kernel
theorem dX9_share_119 : decode cX9_share 119 = .ok (.ireturn, 1) := by decide +kernel
set_option maxRecDepth 20000 in
theorem ggX9_reliability_X9_noVertex : GoodIn wsX9_reliability wsX9_noVertex := goodIn_r _ [8, 9, 10, 11, 7, 12, 37, 38, 39, 40, 41, 42, 43, 44, 45, 46, 47, 48, 49, 50, 51, 52, 53, 54, 55, 56, 57] (by decide +kernel) (by decide +kernel)
set_option maxRecDepth 20000 in
theorem gX9_reliability_X9_noVertex : GoodIn wsX9_reliability (wsV RX9 129 RX9 yX9_noVertex wsX9_noVertex) := goodIn_app (goodIn_of _ (by decide +kernel)) ggX9_reliability_X9_noVertex
set_option maxRecDepth 20000 in
theorem ggX9_reliability_X9_in : GoodIn wsX9_reliability wsX9_in := goodIn_r _ [12] (by decide +kernel) (by decide +kernel)
set_option maxRecDepth 20000 in
theorem gX9_reliability_X9_in : GoodIn wsX9_reliability (va_wsS RX9 57 yX9_in wsX9_in) := goodIn_app (goodIn_of _ (by decide +kernel)) ggX9_reliability_X9_in
set_option maxRecDepth 20000 in
theorem ggX9_reliability_X9_closeOf : GoodIn wsX9_reliability wsX9_closeOf := goodIn_r _ [16, 17, 18, 19, 7, 20, 21, 22, 23, 24, 25, 26, 27, 28, 29, 30, 31, 32, 10, 11, 12, 37, 38, 39, 40, 41, 42, 43, 44, 45, 46, 47, 48, 49, 50, 51, 52, 53, 54, 55, 56, 57] (by decide +kernel) (by decide +kernel)
set_option maxRecDepth 20000 in
theorem gX9_reliability_X9_closeOf : GoodIn wsX9_reliability (wsV RX9 77 RX9 yX9_closeOf wsX9_closeOf) := goodIn_app (goodIn_of _ (by decide +kernel)) ggX9_reliability_X9_closeOf
set_option maxRecDepth 20000 in
theorem ggX9_reliability_X9_has : GoodIn wsX9_reliability wsX9_has := goodIn_r _ [20] (by decide +kernel) (by decide +kernel)
set_option maxRecDepth 20000 in
theorem gX9_reliability_X9_has : GoodIn wsX9_reliability (va_wsS RX9 69 yX9_has wsX9_has) := goodIn_app (goodIn_of _ (by decide +kernel)) ggX9_reliability_X9_has
set_option maxRecDepth 20000 in
theorem ggX9_reliability_X9_reaches : GoodIn wsX9_reliability wsX9_reaches := goodIn_r _ [36, 25, 26, 37, 38, 39, 40, 41, 42, 43, 44, 45, 46, 47, 48, 49, 50, 51, 52, 53, 54, 55, 56, 57] (by decide +kernel) (by decide +kernel)
set_option maxRecDepth 20000 in
theorem gX9_reliability_X9_reaches : GoodIn wsX9_reliability (wsV RX9 141 RX9 yX9_reaches wsX9_reaches) := goodIn_app (goodIn_of _ (by decide +kernel)) ggX9_reliability_X9_reaches
theorem dX9_reliability_0 : decode cX9_reliability 0 = .ok (.aload_n 0, 1) := by decide +kernel
theorem dX9_reliability_1 : decode cX9_reliability 1 = .ok (.iconst 0, 1) := by decide +kernel
theorem dX9_reliability_2 : decode cX9_reliability 2 = .ok (.putfield 54, 3) := by decide +kernel
theorem dX9_reliability_5 : decode cX9_reliability 5 = .ok (.aload_n 0, 1) := by decide +kernel
theorem dX9_reliability_6 : decode cX9_reliability 6 = .ok (.iload_n 1, 1) := by decide +kernel
theorem dX9_reliability_7 : decode cX9_reliability 7 = .ok (.invokevirtual 129, 3) := by decide +kernel
theorem dX9_reliability_10 : decode cX9_reliability 10 = .ok (.ifCond .ne 11, 3) := by decide +kernel
theorem dX9_reliability_13 : decode cX9_reliability 13 = .ok (.aload_n 0, 1) := by decide +kernel
theorem dX9_reliability_14 : decode cX9_reliability 14 = .ok (.iload_n 2, 1) := by decide +kernel
theorem dX9_reliability_15 : decode cX9_reliability 15 = .ok (.invokevirtual 129, 3) := by decide +kernel
theorem dX9_reliability_18 : decode cX9_reliability 18 = .ok (.ifCond .eq 5, 3) := by decide +kernel
theorem dX9_reliability_21 : decode cX9_reliability 21 = .ok (.iconst (-1), 1) := by decide +kernel
theorem dX9_reliability_22 : decode cX9_reliability 22 = .ok (.ireturn, 1) := by decide +kernel
theorem dX9_reliability_23 : decode cX9_reliability 23 = .ok (.iload_n 3, 1) := by decide +kernel
theorem dX9_reliability_24 : decode cX9_reliability 24 = .ok (.i2l, 1) := by decide +kernel
theorem dX9_reliability_25 : decode cX9_reliability 25 = .ok (.lconst 0, 1) := by decide +kernel
theorem dX9_reliability_26 : decode cX9_reliability 26 = .ok (.ldc2_w 189, 3) := by decide +kernel
theorem dX9_reliability_29 : decode cX9_reliability 29 = .ok (.invokestatic 57, 3) := by decide +kernel
theorem dX9_reliability_32 : decode cX9_reliability 32 = .ok (.ifCond .ne 6, 3) := by decide +kernel
theorem dX9_reliability_35 : decode cX9_reliability 35 = .ok (.bipush (-2), 2) := by decide +kernel
theorem dX9_reliability_37 : decode cX9_reliability 37 = .ok (.ireturn, 1) := by decide +kernel
theorem dX9_reliability_38 : decode cX9_reliability 38 = .ok (.aload_n 0, 1) := by decide +kernel
theorem dX9_reliability_39 : decode cX9_reliability 39 = .ok (.getfield 20, 3) := by decide +kernel
theorem dX9_reliability_42 : decode cX9_reliability 42 = .ok (.iconst 0, 1) := by decide +kernel
theorem dX9_reliability_43 : decode cX9_reliability 43 = .ok (.iaload, 1) := by decide +kernel
theorem dX9_reliability_44 : decode cX9_reliability 44 = .ok (.istore 4, 2) := by decide +kernel
theorem dX9_reliability_46 : decode cX9_reliability 46 = .ok (.iload 4, 2) := by decide +kernel
theorem dX9_reliability_48 : decode cX9_reliability 48 = .ok (.bipush 8, 2) := by decide +kernel
theorem dX9_reliability_50 : decode cX9_reliability 50 = .ok (.if_icmp .le 6, 3) := by decide +kernel
theorem dX9_reliability_53 : decode cX9_reliability 53 = .ok (.bipush (-3), 2) := by decide +kernel
theorem dX9_reliability_55 : decode cX9_reliability 55 = .ok (.ireturn, 1) := by decide +kernel
theorem dX9_reliability_56 : decode cX9_reliability 56 = .ok (.iconst 0, 1) := by decide +kernel
theorem dX9_reliability_57 : decode cX9_reliability 57 = .ok (.istore 5, 2) := by decide +kernel
theorem dX9_reliability_59 : decode cX9_reliability 59 = .ok (.iconst 0, 1) := by decide +kernel
theorem dX9_reliability_60 : decode cX9_reliability 60 = .ok (.istore 6, 2) := by decide +kernel
theorem dX9_reliability_62 : decode cX9_reliability 62 = .ok (.iload 6, 2) := by decide +kernel
theorem dX9_reliability_64 : decode cX9_reliability 64 = .ok (.iconst 1, 1) := by decide +kernel
theorem dX9_reliability_65 : decode cX9_reliability 65 = .ok (.iload 4, 2) := by decide +kernel
theorem dX9_reliability_67 : decode cX9_reliability 67 = .ok (.ishl, 1) := by decide +kernel
theorem dX9_reliability_68 : decode cX9_reliability 68 = .ok (.if_icmp .ge 81, 3) := by decide +kernel
theorem dX9_reliability_71 : decode cX9_reliability 71 = .ok (.aload_n 0, 1) := by decide +kernel
theorem dX9_reliability_72 : decode cX9_reliability 72 = .ok (.aload_n 0, 1) := by decide +kernel
theorem dX9_reliability_73 : decode cX9_reliability 73 = .ok (.getfield 20, 3) := by decide +kernel
theorem dX9_reliability_76 : decode cX9_reliability 76 = .ok (.iload 6, 2) := by decide +kernel
theorem dX9_reliability_78 : decode cX9_reliability 78 = .ok (.invokevirtual 77, 3) := by decide +kernel
theorem dX9_reliability_81 : decode cX9_reliability 81 = .ok (.iconst 1, 1) := by decide +kernel
theorem dX9_reliability_82 : decode cX9_reliability 82 = .ok (.istore 7, 2) := by decide +kernel
theorem dX9_reliability_84 : decode cX9_reliability 84 = .ok (.iconst 0, 1) := by decide +kernel
theorem dX9_reliability_85 : decode cX9_reliability 85 = .ok (.istore 8, 2) := by decide +kernel
theorem dX9_reliability_87 : decode cX9_reliability 87 = .ok (.iload 8, 2) := by decide +kernel
theorem dX9_reliability_89 : decode cX9_reliability 89 = .ok (.iload 4, 2) := by decide +kernel
theorem dX9_reliability_91 : decode cX9_reliability 91 = .ok (.if_icmp .ge 32, 3) := by decide +kernel
theorem dX9_reliability_94 : decode cX9_reliability 94 = .ok (.iload 7, 2) := by decide +kernel
theorem dX9_reliability_96 : decode cX9_reliability 96 = .ok (.iload 6, 2) := by decide +kernel
theorem dX9_reliability_98 : decode cX9_reliability 98 = .ok (.iload 8, 2) := by decide +kernel
theorem dX9_reliability_100 : decode cX9_reliability 100 = .ok (.invokestatic 69, 3) := by decide +kernel
theorem dX9_reliability_103 : decode cX9_reliability 103 = .ok (.ifCond .eq 10, 3) := by decide +kernel
theorem dX9_reliability_106 : decode cX9_reliability 106 = .ok (.bipush 10, 2) := by decide +kernel
theorem dX9_reliability_108 : decode cX9_reliability 108 = .ok (.iload_n 3, 1) := by decide +kernel
theorem dX9_reliability_109 : decode cX9_reliability 109 = .ok (.isub, 1) := by decide +kernel
theorem dX9_reliability_110 : decode cX9_reliability 110 = .ok (.goto 4, 3) := by decide +kernel
theorem dX9_reliability_113 : decode cX9_reliability 113 = .ok (.iload_n 3, 1) := by decide +kernel
theorem dX9_reliability_114 : decode cX9_reliability 114 = .ok (.imul, 1) := by decide +kernel
theorem dX9_reliability_115 : decode cX9_reliability 115 = .ok (.istore 7, 2) := by decide +kernel
theorem dX9_reliability_117 : decode cX9_reliability 117 = .ok (.iinc 8 1, 3) := by decide +kernel
theorem dX9_reliability_120 : decode cX9_reliability 120 = .ok (.goto (-33), 3) := by decide +kernel
theorem dX9_reliability_123 : decode cX9_reliability 123 = .ok (.iload 5, 2) := by decide +kernel
theorem dX9_reliability_125 : decode cX9_reliability 125 = .ok (.aload_n 0, 1) := by decide +kernel
theorem dX9_reliability_126 : decode cX9_reliability 126 = .ok (.iload_n 1, 1) := by decide +kernel
theorem dX9_reliability_127 : decode cX9_reliability 127 = .ok (.iload_n 2, 1) := by decide +kernel
theorem dX9_reliability_128 : decode cX9_reliability 128 = .ok (.invokevirtual 141, 3) := by decide +kernel
theorem dX9_reliability_131 : decode cX9_reliability 131 = .ok (.ifCond .eq 8, 3) := by decide +kernel
theorem dX9_reliability_134 : decode cX9_reliability 134 = .ok (.iload 7, 2) := by decide +kernel
theorem dX9_reliability_136 : decode cX9_reliability 136 = .ok (.goto 4, 3) := by decide +kernel
theorem dX9_reliability_139 : decode cX9_reliability 139 = .ok (.iconst 0, 1) := by decide +kernel
theorem dX9_reliability_140 : decode cX9_reliability 140 = .ok (.iadd, 1) := by decide +kernel
theorem dX9_reliability_141 : decode cX9_reliability 141 = .ok (.istore 5, 2) := by decide +kernel
theorem dX9_reliability_143 : decode cX9_reliability 143 = .ok (.iinc 6 1, 3) := by decide +kernel
theorem dX9_reliability_146 : decode cX9_reliability 146 = .ok (.goto (-84), 3) := by decide +kernel
theorem dX9_reliability_149 : decode cX9_reliability 149 = .ok (.iload 5, 2) := by decide +kernel
theorem dX9_reliability_151 : decode cX9_reliability 151 = .ok (.ireturn, 1) := by decide +kernel
theorem dX9_setSeed_0 : decode cX9_setSeed 0 = .ok (.aload_n 0, 1) := by decide +kernel
theorem dX9_setSeed_1 : decode cX9_setSeed 1 = .ok (.iconst 0, 1) := by decide +kernel
theorem dX9_setSeed_2 : decode cX9_setSeed 2 = .ok (.putfield 54, 3) := by decide +kernel
theorem dX9_setSeed_5 : decode cX9_setSeed 5 = .ok (.aload_n 0, 1) := by decide +kernel
theorem dX9_setSeed_6 : decode cX9_setSeed 6 = .ok (.getfield 191, 3) := by decide +kernel
theorem dX9_setSeed_9 : decode cX9_setSeed 9 = .ok (.lstore_n 3, 1) := by decide +kernel
theorem dX9_setSeed_10 : decode cX9_setSeed 10 = .ok (.aload_n 0, 1) := by decide +kernel
theorem dX9_setSeed_11 : decode cX9_setSeed 11 = .ok (.lload_n 1, 1) := by decide +kernel
theorem dX9_setSeed_12 : decode cX9_setSeed 12 = .ok (.putfield 191, 3) := by decide +kernel
theorem dX9_setSeed_15 : decode cX9_setSeed 15 = .ok (.lload_n 3, 1) := by decide +kernel
theorem dX9_setSeed_16 : decode cX9_setSeed 16 = .ok (.lreturn, 1) := by decide +kernel
set_option maxRecDepth 20000 in
theorem ggX9_toggle_X9_drop : GoodIn wsX9_toggle wsX9_drop := goodIn_r _ [5] (by decide +kernel) (by decide +kernel)
set_option maxRecDepth 20000 in
theorem gX9_toggle_X9_drop : GoodIn wsX9_toggle (va_wsS RX9 137 yX9_drop wsX9_drop) := goodIn_app (goodIn_of _ (by decide +kernel)) ggX9_toggle_X9_drop
set_option maxRecDepth 20000 in
theorem ggX9_toggle_X9_put : GoodIn wsX9_toggle wsX9_put := goodIn_r _ [8] (by decide +kernel) (by decide +kernel)
set_option maxRecDepth 20000 in
theorem gX9_toggle_X9_put : GoodIn wsX9_toggle (va_wsS RX9 111 yX9_put wsX9_put) := goodIn_app (goodIn_of _ (by decide +kernel)) ggX9_toggle_X9_put
theorem dX9_toggle_0 : decode cX9_toggle 0 = .ok (.iconst 0, 1) := by decide +kernel
theorem dX9_toggle_1 : decode cX9_toggle 1 = .ok (.istore 4, 2) := by decide +kernel
theorem dX9_toggle_3 : decode cX9_toggle 3 = .ok (.iload 4, 2) := by decide +kernel
theorem dX9_toggle_5 : decode cX9_toggle 5 = .ok (.aload_n 0, 1) := by decide +kernel
theorem dX9_toggle_6 : decode cX9_toggle 6 = .ok (.getfield 23, 3) := by decide +kernel
theorem dX9_toggle_9 : decode cX9_toggle 9 = .ok (.iconst 0, 1) := by decide +kernel
theorem dX9_toggle_10 : decode cX9_toggle 10 = .ok (.iaload, 1) := by decide +kernel
theorem dX9_toggle_11 : decode cX9_toggle 11 = .ok (.if_icmp .ge 64, 3) := by decide +kernel
theorem dX9_toggle_14 : decode cX9_toggle 14 = .ok (.iconst 1, 1) := by decide +kernel
theorem dX9_toggle_15 : decode cX9_toggle 15 = .ok (.iconst 3, 1) := by decide +kernel
theorem dX9_toggle_16 : decode cX9_toggle 16 = .ok (.iload 4, 2) := by decide +kernel
theorem dX9_toggle_18 : decode cX9_toggle 18 = .ok (.imul, 1) := by decide +kernel
theorem dX9_toggle_19 : decode cX9_toggle 19 = .ok (.iadd, 1) := by decide +kernel
theorem dX9_toggle_20 : decode cX9_toggle 20 = .ok (.istore 5, 2) := by decide +kernel
theorem dX9_toggle_22 : decode cX9_toggle 22 = .ok (.aload_n 0, 1) := by decide +kernel
theorem dX9_toggle_23 : decode cX9_toggle 23 = .ok (.getfield 23, 3) := by decide +kernel
theorem dX9_toggle_26 : decode cX9_toggle 26 = .ok (.iload 5, 2) := by decide +kernel
theorem dX9_toggle_28 : decode cX9_toggle 28 = .ok (.iaload, 1) := by decide +kernel
theorem dX9_toggle_29 : decode cX9_toggle 29 = .ok (.iload_n 1, 1) := by decide +kernel
theorem dX9_toggle_30 : decode cX9_toggle 30 = .ok (.if_icmp .ne 39, 3) := by decide +kernel
theorem dX9_toggle_33 : decode cX9_toggle 33 = .ok (.aload_n 0, 1) := by decide +kernel
theorem dX9_toggle_34 : decode cX9_toggle 34 = .ok (.getfield 23, 3) := by decide +kernel
theorem dX9_toggle_37 : decode cX9_toggle 37 = .ok (.iload 5, 2) := by decide +kernel
theorem dX9_toggle_39 : decode cX9_toggle 39 = .ok (.iconst 1, 1) := by decide +kernel
theorem dX9_toggle_40 : decode cX9_toggle 40 = .ok (.iadd, 1) := by decide +kernel
theorem dX9_toggle_41 : decode cX9_toggle 41 = .ok (.iaload, 1) := by decide +kernel
theorem dX9_toggle_42 : decode cX9_toggle 42 = .ok (.iload_n 2, 1) := by decide +kernel
theorem dX9_toggle_43 : decode cX9_toggle 43 = .ok (.if_icmp .ne 26, 3) := by decide +kernel
theorem dX9_toggle_46 : decode cX9_toggle 46 = .ok (.aload_n 0, 1) := by decide +kernel
theorem dX9_toggle_47 : decode cX9_toggle 47 = .ok (.getfield 23, 3) := by decide +kernel
theorem dX9_toggle_50 : decode cX9_toggle 50 = .ok (.iload 5, 2) := by decide +kernel
theorem dX9_toggle_52 : decode cX9_toggle 52 = .ok (.iconst 2, 1) := by decide +kernel
theorem dX9_toggle_53 : decode cX9_toggle 53 = .ok (.iadd, 1) := by decide +kernel
theorem dX9_toggle_54 : decode cX9_toggle 54 = .ok (.iaload, 1) := by decide +kernel
theorem dX9_toggle_55 : decode cX9_toggle 55 = .ok (.iload_n 3, 1) := by decide +kernel
theorem dX9_toggle_56 : decode cX9_toggle 56 = .ok (.if_icmp .ne 13, 3) := by decide +kernel
theorem dX9_toggle_59 : decode cX9_toggle 59 = .ok (.aload_n 0, 1) := by decide +kernel
theorem dX9_toggle_60 : decode cX9_toggle 60 = .ok (.getfield 23, 3) := by decide +kernel
theorem dX9_toggle_63 : decode cX9_toggle 63 = .ok (.iload 4, 2) := by decide +kernel
theorem dX9_toggle_65 : decode cX9_toggle 65 = .ok (.invokestatic 137, 3) := by decide +kernel
theorem dX9_toggle_68 : decode cX9_toggle 68 = .ok (.return_, 1) := by decide +kernel
theorem dX9_toggle_69 : decode cX9_toggle 69 = .ok (.iinc 4 1, 3) := by decide +kernel
theorem dX9_toggle_72 : decode cX9_toggle 72 = .ok (.goto (-69), 3) := by decide +kernel
theorem dX9_toggle_75 : decode cX9_toggle 75 = .ok (.aload_n 0, 1) := by decide +kernel
theorem dX9_toggle_76 : decode cX9_toggle 76 = .ok (.getfield 23, 3) := by decide +kernel
theorem dX9_toggle_79 : decode cX9_toggle 79 = .ok (.iconst 0, 1) := by decide +kernel
theorem dX9_toggle_80 : decode cX9_toggle 80 = .ok (.iaload, 1) := by decide +kernel
theorem dX9_toggle_81 : decode cX9_toggle 81 = .ok (.bipush 16, 2) := by decide +kernel
theorem dX9_toggle_83 : decode cX9_toggle 83 = .ok (.if_icmp .ge 13, 3) := by decide +kernel
theorem dX9_toggle_86 : decode cX9_toggle 86 = .ok (.aload_n 0, 1) := by decide +kernel
theorem dX9_toggle_87 : decode cX9_toggle 87 = .ok (.getfield 23, 3) := by decide +kernel
theorem dX9_toggle_90 : decode cX9_toggle 90 = .ok (.iload_n 1, 1) := by decide +kernel
theorem dX9_toggle_91 : decode cX9_toggle 91 = .ok (.iload_n 2, 1) := by decide +kernel
theorem dX9_toggle_92 : decode cX9_toggle 92 = .ok (.iload_n 3, 1) := by decide +kernel
theorem dX9_toggle_93 : decode cX9_toggle 93 = .ok (.invokestatic 111, 3) := by decide +kernel
theorem dX9_toggle_96 : decode cX9_toggle 96 = .ok (.return_, 1) := by decide +kernel
set_option maxRecDepth 20000 in
theorem ggX9_simulate_X9_in : GoodIn wsX9_simulate wsX9_in := goodIn_r _ [13] (by decide +kernel) (by decide +kernel)
set_option maxRecDepth 20000 in
theorem gX9_simulate_X9_in : GoodIn wsX9_simulate (va_wsS RX9 57 yX9_in wsX9_in) := goodIn_app (goodIn_of _ (by decide +kernel)) ggX9_simulate_X9_in
set_option maxRecDepth 20000 in
theorem ggX9_simulate_X9_assign : GoodIn wsX9_simulate wsX9_assign := goodIn_r _ [16] (by decide +kernel) (by decide +kernel)
set_option maxRecDepth 20000 in
theorem gX9_simulate_X9_assign : GoodIn wsX9_simulate (va_wsS RX9 118 yX9_assign wsX9_assign) := goodIn_app (goodIn_of _ (by decide +kernel)) ggX9_simulate_X9_assign
set_option maxRecDepth 20000 in
theorem ggX9_simulate_X9_toggle : GoodIn wsX9_simulate wsX9_toggle := goodIn_r _ [20, 4, 21, 22, 12, 23, 24, 25, 26, 55, 56, 57, 58, 59, 60, 61, 62, 63, 64, 65, 66, 67, 68, 69, 70, 71, 72, 73, 74, 75] (by decide +kernel) (by decide +kernel)
set_option maxRecDepth 20000 in
theorem gX9_simulate_X9_toggle : GoodIn wsX9_simulate (wsV RX9 201 RX9 yX9_toggle wsX9_toggle) := goodIn_app (goodIn_of _ (by decide +kernel)) ggX9_simulate_X9_toggle
set_option maxRecDepth 20000 in
theorem ggX9_simulate_X9_pairsOf : GoodIn wsX9_simulate wsX9_pairsOf := goodIn_r _ [30, 31, 32, 33, 12, 34, 35, 36, 37, 38, 39, 40, 41, 42, 43, 44, 45, 46, 47, 48, 49, 50, 10, 11, 13, 51, 52, 53, 54, 8, 55, 56, 57, 58, 59, 60, 61, 62, 63, 64, 65, 66, 67, 68, 69, 70, 71, 72, 73, 74, 75] (by decide +kernel) (by decide +kernel)
set_option maxRecDepth 20000 in
theorem gX9_simulate_X9_pairsOf : GoodIn wsX9_simulate (wsV RX9 144 RX9 yX9_pairsOf wsX9_pairsOf) := goodIn_app (goodIn_of _ (by decide +kernel)) ggX9_simulate_X9_pairsOf
theorem dX9_simulate_0 : decode cX9_simulate 0 = .ok (.aload_n 0, 1) := by decide +kernel
theorem dX9_simulate_1 : decode cX9_simulate 1 = .ok (.iconst 0, 1) := by decide +kernel
theorem dX9_simulate_2 : decode cX9_simulate 2 = .ok (.putfield 54, 3) := by decide +kernel
theorem dX9_simulate_5 : decode cX9_simulate 5 = .ok (.iload_n 1, 1) := by decide +kernel
theorem dX9_simulate_6 : decode cX9_simulate 6 = .ok (.i2l, 1) := by decide +kernel
theorem dX9_simulate_7 : decode cX9_simulate 7 = .ok (.lconst 1, 1) := by decide +kernel
theorem dX9_simulate_8 : decode cX9_simulate 8 = .ok (.ldc2_w 195, 3) := by decide +kernel
theorem dX9_simulate_11 : decode cX9_simulate 11 = .ok (.invokestatic 57, 3) := by decide +kernel
theorem dX9_simulate_14 : decode cX9_simulate 14 = .ok (.ifCond .ne 6, 3) := by decide +kernel
theorem dX9_simulate_17 : decode cX9_simulate 17 = .ok (.bipush (-2), 2) := by decide +kernel
theorem dX9_simulate_19 : decode cX9_simulate 19 = .ok (.ireturn, 1) := by decide +kernel
theorem dX9_simulate_20 : decode cX9_simulate 20 = .ok (.aload_n 0, 1) := by decide +kernel
theorem dX9_simulate_21 : decode cX9_simulate 21 = .ok (.getfield 20, 3) := by decide +kernel
theorem dX9_simulate_24 : decode cX9_simulate 24 = .ok (.aload_n 0, 1) := by decide +kernel
theorem dX9_simulate_25 : decode cX9_simulate 25 = .ok (.getfield 23, 3) := by decide +kernel
theorem dX9_simulate_28 : decode cX9_simulate 28 = .ok (.invokestatic 118, 3) := by decide +kernel
theorem dX9_simulate_31 : decode cX9_simulate 31 = .ok (.iconst 0, 1) := by decide +kernel
theorem dX9_simulate_32 : decode cX9_simulate 32 = .ok (.istore_n 2, 1) := by decide +kernel
theorem dX9_simulate_33 : decode cX9_simulate 33 = .ok (.iconst 0, 1) := by decide +kernel
theorem dX9_simulate_34 : decode cX9_simulate 34 = .ok (.istore_n 3, 1) := by decide +kernel
theorem dX9_simulate_35 : decode cX9_simulate 35 = .ok (.iload_n 3, 1) := by decide +kernel
theorem dX9_simulate_36 : decode cX9_simulate 36 = .ok (.iload_n 1, 1) := by decide +kernel
theorem dX9_simulate_37 : decode cX9_simulate 37 = .ok (.if_icmp .ge 77, 3) := by decide +kernel
theorem dX9_simulate_40 : decode cX9_simulate 40 = .ok (.aload_n 0, 1) := by decide +kernel
theorem dX9_simulate_41 : decode cX9_simulate 41 = .ok (.aload_n 0, 1) := by decide +kernel
theorem dX9_simulate_42 : decode cX9_simulate 42 = .ok (.getfield 191, 3) := by decide +kernel
theorem dX9_simulate_45 : decode cX9_simulate 45 = .ok (.ldc2_w 197, 3) := by decide +kernel
theorem dX9_simulate_48 : decode cX9_simulate 48 = .ok (.lmul, 1) := by decide +kernel
theorem dX9_simulate_49 : decode cX9_simulate 49 = .ok (.ldc2_w 199, 3) := by decide +kernel
theorem dX9_simulate_52 : decode cX9_simulate 52 = .ok (.ladd, 1) := by decide +kernel
theorem dX9_simulate_53 : decode cX9_simulate 53 = .ok (.putfield 191, 3) := by decide +kernel
theorem dX9_simulate_56 : decode cX9_simulate 56 = .ok (.aload_n 0, 1) := by decide +kernel
theorem dX9_simulate_57 : decode cX9_simulate 57 = .ok (.getfield 191, 3) := by decide +kernel
theorem dX9_simulate_60 : decode cX9_simulate 60 = .ok (.bipush 33, 2) := by decide +kernel
theorem dX9_simulate_62 : decode cX9_simulate 62 = .ok (.lushr, 1) := by decide +kernel
theorem dX9_simulate_63 : decode cX9_simulate 63 = .ok (.l2i, 1) := by decide +kernel
theorem dX9_simulate_64 : decode cX9_simulate 64 = .ok (.istore 4, 2) := by decide +kernel
theorem dX9_simulate_66 : decode cX9_simulate 66 = .ok (.aload_n 0, 1) := by decide +kernel
theorem dX9_simulate_67 : decode cX9_simulate 67 = .ok (.iload 4, 2) := by decide +kernel
theorem dX9_simulate_69 : decode cX9_simulate 69 = .ok (.aload_n 0, 1) := by decide +kernel
theorem dX9_simulate_70 : decode cX9_simulate 70 = .ok (.getfield 16, 3) := by decide +kernel
theorem dX9_simulate_73 : decode cX9_simulate 73 = .ok (.irem, 1) := by decide +kernel
theorem dX9_simulate_74 : decode cX9_simulate 74 = .ok (.iload 4, 2) := by decide +kernel
theorem dX9_simulate_76 : decode cX9_simulate 76 = .ok (.bipush 8, 2) := by decide +kernel
theorem dX9_simulate_78 : decode cX9_simulate 78 = .ok (.idiv, 1) := by decide +kernel
theorem dX9_simulate_79 : decode cX9_simulate 79 = .ok (.aload_n 0, 1) := by decide +kernel
theorem dX9_simulate_80 : decode cX9_simulate 80 = .ok (.getfield 16, 3) := by decide +kernel
theorem dX9_simulate_83 : decode cX9_simulate 83 = .ok (.irem, 1) := by decide +kernel
theorem dX9_simulate_84 : decode cX9_simulate 84 = .ok (.iload 4, 2) := by decide +kernel
theorem dX9_simulate_86 : decode cX9_simulate 86 = .ok (.bipush 64, 2) := by decide +kernel
theorem dX9_simulate_88 : decode cX9_simulate 88 = .ok (.idiv, 1) := by decide +kernel
theorem dX9_simulate_89 : decode cX9_simulate 89 = .ok (.bipush 7, 2) := by decide +kernel
theorem dX9_simulate_91 : decode cX9_simulate 91 = .ok (.irem, 1) := by decide +kernel
theorem dX9_simulate_92 : decode cX9_simulate 92 = .ok (.invokevirtual 201, 3) := by decide +kernel
theorem dX9_simulate_95 : decode cX9_simulate 95 = .ok (.iload_n 2, 1) := by decide +kernel
theorem dX9_simulate_96 : decode cX9_simulate 96 = .ok (.aload_n 0, 1) := by decide +kernel
theorem dX9_simulate_97 : decode cX9_simulate 97 = .ok (.aload_n 0, 1) := by decide +kernel
theorem dX9_simulate_98 : decode cX9_simulate 98 = .ok (.getfield 23, 3) := by decide +kernel
theorem dX9_simulate_101 : decode cX9_simulate 101 = .ok (.ldc 140, 2) := by decide +kernel
theorem dX9_simulate_103 : decode cX9_simulate 103 = .ok (.invokevirtual 144, 3) := by decide +kernel
theorem dX9_simulate_106 : decode cX9_simulate 106 = .ok (.iadd, 1) := by decide +kernel
theorem dX9_simulate_107 : decode cX9_simulate 107 = .ok (.istore_n 2, 1) := by decide +kernel
theorem dX9_simulate_108 : decode cX9_simulate 108 = .ok (.iinc 3 1, 3) := by decide +kernel
theorem dX9_simulate_111 : decode cX9_simulate 111 = .ok (.goto (-76), 3) := by decide +kernel
theorem dX9_simulate_114 : decode cX9_simulate 114 = .ok (.iload_n 2, 1) := by decide +kernel
theorem dX9_simulate_115 : decode cX9_simulate 115 = .ok (.ireturn, 1) := by decide +kernel
set_option maxRecDepth 20000 in
theorem ggX9_save_X9_in : GoodIn wsX9_save wsX9_in := goodIn_r _ [8] (by decide +kernel) (by decide +kernel)
set_option maxRecDepth 20000 in
theorem gX9_save_X9_in : GoodIn wsX9_save (va_wsS RX9 57 yX9_in wsX9_in) := goodIn_app (goodIn_of _ (by decide +kernel)) ggX9_save_X9_in
theorem dX9_save_0 : decode cX9_save 0 = .ok (.aload_n 0, 1) := by decide +kernel
theorem dX9_save_1 : decode cX9_save 1 = .ok (.iconst 0, 1) := by decide +kernel
theorem dX9_save_2 : decode cX9_save 2 = .ok (.putfield 54, 3) := by decide +kernel
theorem dX9_save_5 : decode cX9_save 5 = .ok (.iload_n 1, 1) := by decide +kernel
theorem dX9_save_6 : decode cX9_save 6 = .ok (.i2l, 1) := by decide +kernel
theorem dX9_save_7 : decode cX9_save 7 = .ok (.lconst 0, 1) := by decide +kernel
theorem dX9_save_8 : decode cX9_save 8 = .ok (.lconst 1, 1) := by decide +kernel
theorem dX9_save_9 : decode cX9_save 9 = .ok (.invokestatic 57, 3) := by decide +kernel
theorem dX9_save_12 : decode cX9_save 12 = .ok (.ifCond .ne 5, 3) := by decide +kernel
theorem dX9_save_15 : decode cX9_save 15 = .ok (.iconst (-1), 1) := by decide +kernel
theorem dX9_save_16 : decode cX9_save 16 = .ok (.ireturn, 1) := by decide +kernel
theorem dX9_save_17 : decode cX9_save 17 = .ok (.aload_n 0, 1) := by decide +kernel
theorem dX9_save_18 : decode cX9_save 18 = .ok (.getfield 32, 3) := by decide +kernel
theorem dX9_save_21 : decode cX9_save 21 = .ok (.iload_n 1, 1) := by decide +kernel
theorem dX9_save_22 : decode cX9_save 22 = .ok (.iconst 1, 1) := by decide +kernel
theorem dX9_save_23 : decode cX9_save 23 = .ok (.bastore, 1) := by decide +kernel
theorem dX9_save_24 : decode cX9_save 24 = .ok (.iconst 0, 1) := by decide +kernel
theorem dX9_save_25 : decode cX9_save 25 = .ok (.istore_n 2, 1) := by decide +kernel
theorem dX9_save_26 : decode cX9_save 26 = .ok (.iload_n 2, 1) := by decide +kernel
theorem dX9_save_27 : decode cX9_save 27 = .ok (.bipush 49, 2) := by decide +kernel
theorem dX9_save_29 : decode cX9_save 29 = .ok (.if_icmp .ge 26, 3) := by decide +kernel
theorem dX9_save_32 : decode cX9_save 32 = .ok (.aload_n 0, 1) := by decide +kernel
theorem dX9_save_33 : decode cX9_save 33 = .ok (.getfield 29, 3) := by decide +kernel
theorem dX9_save_36 : decode cX9_save 36 = .ok (.bipush 49, 2) := by decide +kernel
theorem dX9_save_38 : decode cX9_save 38 = .ok (.iload_n 1, 1) := by decide +kernel
theorem dX9_save_39 : decode cX9_save 39 = .ok (.imul, 1) := by decide +kernel
theorem dX9_save_40 : decode cX9_save 40 = .ok (.iload_n 2, 1) := by decide +kernel
theorem dX9_save_41 : decode cX9_save 41 = .ok (.iadd, 1) := by decide +kernel
theorem dX9_save_42 : decode cX9_save 42 = .ok (.aload_n 0, 1) := by decide +kernel
theorem dX9_save_43 : decode cX9_save 43 = .ok (.getfield 20, 3) := by decide +kernel
theorem dX9_save_46 : decode cX9_save 46 = .ok (.iload_n 2, 1) := by decide +kernel
theorem dX9_save_47 : decode cX9_save 47 = .ok (.iaload, 1) := by decide +kernel
theorem dX9_save_48 : decode cX9_save 48 = .ok (.iastore, 1) := by decide +kernel
theorem dX9_save_49 : decode cX9_save 49 = .ok (.iinc 2 1, 3) := by decide +kernel
theorem dX9_save_52 : decode cX9_save 52 = .ok (.goto (-26), 3) := by decide +kernel
theorem dX9_save_55 : decode cX9_save 55 = .ok (.aload_n 0, 1) := by decide +kernel
theorem dX9_save_56 : decode cX9_save 56 = .ok (.getfield 20, 3) := by decide +kernel
theorem dX9_save_59 : decode cX9_save 59 = .ok (.iconst 0, 1) := by decide +kernel
theorem dX9_save_60 : decode cX9_save 60 = .ok (.iaload, 1) := by decide +kernel
theorem dX9_save_61 : decode cX9_save 61 = .ok (.ireturn, 1) := by decide +kernel
set_option maxRecDepth 20000 in
theorem ggX9_restore_X9_in : GoodIn wsX9_restore wsX9_in := goodIn_r _ [9] (by decide +kernel) (by decide +kernel)
set_option maxRecDepth 20000 in
theorem gX9_restore_X9_in : GoodIn wsX9_restore (va_wsS RX9 57 yX9_in wsX9_in) := goodIn_app (goodIn_of _ (by decide +kernel)) ggX9_restore_X9_in
theorem dX9_restore_0 : decode cX9_restore 0 = .ok (.aload_n 0, 1) := by decide +kernel
theorem dX9_restore_1 : decode cX9_restore 1 = .ok (.iconst 0, 1) := by decide +kernel
theorem dX9_restore_2 : decode cX9_restore 2 = .ok (.putfield 54, 3) := by decide +kernel
theorem dX9_restore_5 : decode cX9_restore 5 = .ok (.iload_n 1, 1) := by decide +kernel
theorem dX9_restore_6 : decode cX9_restore 6 = .ok (.i2l, 1) := by decide +kernel
theorem dX9_restore_7 : decode cX9_restore 7 = .ok (.lconst 0, 1) := by decide +kernel
theorem dX9_restore_8 : decode cX9_restore 8 = .ok (.lconst 1, 1) := by decide +kernel
theorem dX9_restore_9 : decode cX9_restore 9 = .ok (.invokestatic 57, 3) := by decide +kernel
theorem dX9_restore_12 : decode cX9_restore 12 = .ok (.ifCond .ne 5, 3) := by decide +kernel
theorem dX9_restore_15 : decode cX9_restore 15 = .ok (.iconst (-1), 1) := by decide +kernel
theorem dX9_restore_16 : decode cX9_restore 16 = .ok (.ireturn, 1) := by decide +kernel
theorem dX9_restore_17 : decode cX9_restore 17 = .ok (.aload_n 0, 1) := by decide +kernel
theorem dX9_restore_18 : decode cX9_restore 18 = .ok (.getfield 32, 3) := by decide +kernel
theorem dX9_restore_21 : decode cX9_restore 21 = .ok (.iload_n 1, 1) := by decide +kernel
theorem dX9_restore_22 : decode cX9_restore 22 = .ok (.baload, 1) := by decide +kernel
theorem dX9_restore_23 : decode cX9_restore 23 = .ok (.ifCond .ne 6, 3) := by decide +kernel
theorem dX9_restore_26 : decode cX9_restore 26 = .ok (.bipush (-3), 2) := by decide +kernel
theorem dX9_restore_28 : decode cX9_restore 28 = .ok (.ireturn, 1) := by decide +kernel
theorem dX9_restore_29 : decode cX9_restore 29 = .ok (.iconst 0, 1) := by decide +kernel
theorem dX9_restore_30 : decode cX9_restore 30 = .ok (.istore_n 2, 1) := by decide +kernel
theorem dX9_restore_31 : decode cX9_restore 31 = .ok (.iload_n 2, 1) := by decide +kernel
theorem dX9_restore_32 : decode cX9_restore 32 = .ok (.bipush 49, 2) := by decide +kernel
theorem dX9_restore_34 : decode cX9_restore 34 = .ok (.if_icmp .ge 26, 3) := by decide +kernel
theorem dX9_restore_37 : decode cX9_restore 37 = .ok (.aload_n 0, 1) := by decide +kernel
theorem dX9_restore_38 : decode cX9_restore 38 = .ok (.getfield 20, 3) := by decide +kernel
theorem dX9_restore_41 : decode cX9_restore 41 = .ok (.iload_n 2, 1) := by decide +kernel
theorem dX9_restore_42 : decode cX9_restore 42 = .ok (.aload_n 0, 1) := by decide +kernel
theorem dX9_restore_43 : decode cX9_restore 43 = .ok (.getfield 29, 3) := by decide +kernel
theorem dX9_restore_46 : decode cX9_restore 46 = .ok (.bipush 49, 2) := by decide +kernel
theorem dX9_restore_48 : decode cX9_restore 48 = .ok (.iload_n 1, 1) := by decide +kernel
theorem dX9_restore_49 : decode cX9_restore 49 = .ok (.imul, 1) := by decide +kernel
theorem dX9_restore_50 : decode cX9_restore 50 = .ok (.iload_n 2, 1) := by decide +kernel
theorem dX9_restore_51 : decode cX9_restore 51 = .ok (.iadd, 1) := by decide +kernel
theorem dX9_restore_52 : decode cX9_restore 52 = .ok (.iaload, 1) := by decide +kernel
theorem dX9_restore_53 : decode cX9_restore 53 = .ok (.iastore, 1) := by decide +kernel
theorem dX9_restore_54 : decode cX9_restore 54 = .ok (.iinc 2 1, 3) := by decide +kernel
theorem dX9_restore_57 : decode cX9_restore 57 = .ok (.goto (-26), 3) := by decide +kernel
theorem dX9_restore_60 : decode cX9_restore 60 = .ok (.aload_n 0, 1) := by decide +kernel
theorem dX9_restore_61 : decode cX9_restore 61 = .ok (.iconst 0, 1) := by decide +kernel
theorem dX9_restore_62 : decode cX9_restore 62 = .ok (.putfield 122, 3) := by decide +kernel
theorem dX9_restore_65 : decode cX9_restore 65 = .ok (.aload_n 0, 1) := by decide +kernel
theorem dX9_restore_66 : decode cX9_restore 66 = .ok (.getfield 20, 3) := by decide +kernel
theorem dX9_restore_69 : decode cX9_restore 69 = .ok (.iconst 0, 1) := by decide +kernel
theorem dX9_restore_70 : decode cX9_restore 70 = .ok (.iaload, 1) := by decide +kernel
theorem dX9_restore_71 : decode cX9_restore 71 = .ok (.ireturn, 1) := by decide +kernel
theorem dJ6_numberOfTrailingZeros_0f7a4_0 : decode cJ6_numberOfTrailingZeros_0f7a4 0 = .ok (.iload_n 0, 1) := by decide +kernel
theorem dJ6_numberOfTrailingZeros_0f7a4_1 : decode cJ6_numberOfTrailingZeros_0f7a4 1 = .ok (.iconst (-1), 1) := by decide +kernel
theorem dJ6_numberOfTrailingZeros_0f7a4_2 : decode cJ6_numberOfTrailingZeros_0f7a4 2 = .ok (.ixor, 1) := by decide +kernel
theorem dJ6_numberOfTrailingZeros_0f7a4_3 : decode cJ6_numberOfTrailingZeros_0f7a4 3 = .ok (.iload_n 0, 1) := by decide +kernel
theorem dJ6_numberOfTrailingZeros_0f7a4_4 : decode cJ6_numberOfTrailingZeros_0f7a4 4 = .ok (.iconst 1, 1) := by decide +kernel
theorem dJ6_numberOfTrailingZeros_0f7a4_5 : decode cJ6_numberOfTrailingZeros_0f7a4 5 = .ok (.isub, 1) := by decide +kernel
theorem dJ6_numberOfTrailingZeros_0f7a4_6 : decode cJ6_numberOfTrailingZeros_0f7a4 6 = .ok (.iand, 1) := by decide +kernel
theorem dJ6_numberOfTrailingZeros_0f7a4_7 : decode cJ6_numberOfTrailingZeros_0f7a4 7 = .ok (.istore_n 0, 1) := by decide +kernel
theorem dJ6_numberOfTrailingZeros_0f7a4_8 : decode cJ6_numberOfTrailingZeros_0f7a4 8 = .ok (.iload_n 0, 1) := by decide +kernel
theorem dJ6_numberOfTrailingZeros_0f7a4_9 : decode cJ6_numberOfTrailingZeros_0f7a4 9 = .ok (.ifCond .gt 8, 3) := by decide +kernel
theorem dJ6_numberOfTrailingZeros_0f7a4_12 : decode cJ6_numberOfTrailingZeros_0f7a4 12 = .ok (.iload_n 0, 1) := by decide +kernel
theorem dJ6_numberOfTrailingZeros_0f7a4_13 : decode cJ6_numberOfTrailingZeros_0f7a4 13 = .ok (.bipush 32, 2) := by decide +kernel
theorem dJ6_numberOfTrailingZeros_0f7a4_15 : decode cJ6_numberOfTrailingZeros_0f7a4 15 = .ok (.iand, 1) := by decide +kernel
theorem dJ6_numberOfTrailingZeros_0f7a4_16 : decode cJ6_numberOfTrailingZeros_0f7a4 16 = .ok (.ireturn, 1) := by decide +kernel
theorem dJ6_numberOfTrailingZeros_0f7a4_17 : decode cJ6_numberOfTrailingZeros_0f7a4 17 = .ok (.iconst 1, 1) := by decide +kernel
theorem dJ6_numberOfTrailingZeros_0f7a4_18 : decode cJ6_numberOfTrailingZeros_0f7a4 18 = .ok (.istore_n 1, 1) := by decide +kernel
theorem dJ6_numberOfTrailingZeros_0f7a4_19 : decode cJ6_numberOfTrailingZeros_0f7a4 19 = .ok (.iload_n 0, 1) := by decide +kernel
theorem dJ6_numberOfTrailingZeros_0f7a4_20 : decode cJ6_numberOfTrailingZeros_0f7a4 20 = .ok (.ldc_w 264, 3) := by decide +kernel
theorem dJ6_numberOfTrailingZeros_0f7a4_23 : decode cJ6_numberOfTrailingZeros_0f7a4 23 = .ok (.if_icmp .le 11, 3) := by decide +kernel
theorem dJ6_numberOfTrailingZeros_0f7a4_26 : decode cJ6_numberOfTrailingZeros_0f7a4 26 = .ok (.iinc 1 16, 3) := by decide +kernel
theorem dJ6_numberOfTrailingZeros_0f7a4_29 : decode cJ6_numberOfTrailingZeros_0f7a4 29 = .ok (.iload_n 0, 1) := by decide +kernel
theorem dJ6_numberOfTrailingZeros_0f7a4_30 : decode cJ6_numberOfTrailingZeros_0f7a4 30 = .ok (.bipush 16, 2) := by decide +kernel
theorem dJ6_numberOfTrailingZeros_0f7a4_32 : decode cJ6_numberOfTrailingZeros_0f7a4 32 = .ok (.iushr, 1) := by decide +kernel
theorem dJ6_numberOfTrailingZeros_0f7a4_33 : decode cJ6_numberOfTrailingZeros_0f7a4 33 = .ok (.istore_n 0, 1) := by decide +kernel
theorem dJ6_numberOfTrailingZeros_0f7a4_34 : decode cJ6_numberOfTrailingZeros_0f7a4 34 = .ok (.iload_n 0, 1) := by decide +kernel
theorem dJ6_numberOfTrailingZeros_0f7a4_35 : decode cJ6_numberOfTrailingZeros_0f7a4 35 = .ok (.sipush 256, 3) := by decide +kernel
theorem dJ6_numberOfTrailingZeros_0f7a4_38 : decode cJ6_numberOfTrailingZeros_0f7a4 38 = .ok (.if_icmp .le 11, 3) := by decide +kernel
theorem dJ6_numberOfTrailingZeros_0f7a4_41 : decode cJ6_numberOfTrailingZeros_0f7a4 41 = .ok (.iinc 1 8, 3) := by decide +kernel
theorem dJ6_numberOfTrailingZeros_0f7a4_44 : decode cJ6_numberOfTrailingZeros_0f7a4 44 = .ok (.iload_n 0, 1) := by decide +kernel
theorem dJ6_numberOfTrailingZeros_0f7a4_45 : decode cJ6_numberOfTrailingZeros_0f7a4 45 = .ok (.bipush 8, 2) := by decide +kernel
theorem dJ6_numberOfTrailingZeros_0f7a4_47 : decode cJ6_numberOfTrailingZeros_0f7a4 47 = .ok (.iushr, 1) := by decide +kernel
theorem dJ6_numberOfTrailingZeros_0f7a4_48 : decode cJ6_numberOfTrailingZeros_0f7a4 48 = .ok (.istore_n 0, 1) := by decide +kernel
theorem dJ6_numberOfTrailingZeros_0f7a4_49 : decode cJ6_numberOfTrailingZeros_0f7a4 49 = .ok (.iload_n 0, 1) := by decide +kernel
theorem dJ6_numberOfTrailingZeros_0f7a4_50 : decode cJ6_numberOfTrailingZeros_0f7a4 50 = .ok (.bipush 16, 2) := by decide +kernel
theorem dJ6_numberOfTrailingZeros_0f7a4_52 : decode cJ6_numberOfTrailingZeros_0f7a4 52 = .ok (.if_icmp .le 10, 3) := by decide +kernel
theorem dJ6_numberOfTrailingZeros_0f7a4_55 : decode cJ6_numberOfTrailingZeros_0f7a4 55 = .ok (.iinc 1 4, 3) := by decide +kernel
theorem dJ6_numberOfTrailingZeros_0f7a4_58 : decode cJ6_numberOfTrailingZeros_0f7a4 58 = .ok (.iload_n 0, 1) := by decide +kernel
theorem dJ6_numberOfTrailingZeros_0f7a4_59 : decode cJ6_numberOfTrailingZeros_0f7a4 59 = .ok (.iconst 4, 1) := by decide +kernel
theorem dJ6_numberOfTrailingZeros_0f7a4_60 : decode cJ6_numberOfTrailingZeros_0f7a4 60 = .ok (.iushr, 1) := by decide +kernel
theorem dJ6_numberOfTrailingZeros_0f7a4_61 : decode cJ6_numberOfTrailingZeros_0f7a4 61 = .ok (.istore_n 0, 1) := by decide +kernel
theorem dJ6_numberOfTrailingZeros_0f7a4_62 : decode cJ6_numberOfTrailingZeros_0f7a4 62 = .ok (.iload_n 0, 1) := by decide +kernel
theorem dJ6_numberOfTrailingZeros_0f7a4_63 : decode cJ6_numberOfTrailingZeros_0f7a4 63 = .ok (.iconst 4, 1) := by decide +kernel
theorem dJ6_numberOfTrailingZeros_0f7a4_64 : decode cJ6_numberOfTrailingZeros_0f7a4 64 = .ok (.if_icmp .le 10, 3) := by decide +kernel
theorem dJ6_numberOfTrailingZeros_0f7a4_67 : decode cJ6_numberOfTrailingZeros_0f7a4 67 = .ok (.iinc 1 2, 3) := by decide +kernel
theorem dJ6_numberOfTrailingZeros_0f7a4_70 : decode cJ6_numberOfTrailingZeros_0f7a4 70 = .ok (.iload_n 0, 1) := by decide +kernel
theorem dJ6_numberOfTrailingZeros_0f7a4_71 : decode cJ6_numberOfTrailingZeros_0f7a4 71 = .ok (.iconst 2, 1) := by decide +kernel
theorem dJ6_numberOfTrailingZeros_0f7a4_72 : decode cJ6_numberOfTrailingZeros_0f7a4 72 = .ok (.iushr, 1) := by decide +kernel
theorem dJ6_numberOfTrailingZeros_0f7a4_73 : decode cJ6_numberOfTrailingZeros_0f7a4 73 = .ok (.istore_n 0, 1) := by decide +kernel
theorem dJ6_numberOfTrailingZeros_0f7a4_74 : decode cJ6_numberOfTrailingZeros_0f7a4 74 = .ok (.iload_n 1, 1) := by decide +kernel
theorem dJ6_numberOfTrailingZeros_0f7a4_75 : decode cJ6_numberOfTrailingZeros_0f7a4 75 = .ok (.iload_n 0, 1) := by decide +kernel
theorem dJ6_numberOfTrailingZeros_0f7a4_76 : decode cJ6_numberOfTrailingZeros_0f7a4 76 = .ok (.iconst 1, 1) := by decide +kernel
theorem dJ6_numberOfTrailingZeros_0f7a4_77 : decode cJ6_numberOfTrailingZeros_0f7a4 77 = .ok (.iushr, 1) := by decide +kernel
theorem dJ6_numberOfTrailingZeros_0f7a4_78 : decode cJ6_numberOfTrailingZeros_0f7a4 78 = .ok (.iadd, 1) := by decide +kernel
theorem dJ6_numberOfTrailingZeros_0f7a4_79 : decode cJ6_numberOfTrailingZeros_0f7a4 79 = .ok (.ireturn, 1) := by decide +kernel
theorem dJ6_bitCount_0f7a4_0 : decode cJ6_bitCount_0f7a4 0 = .ok (.iload_n 0, 1) := by decide +kernel
theorem dJ6_bitCount_0f7a4_1 : decode cJ6_bitCount_0f7a4 1 = .ok (.iload_n 0, 1) := by decide +kernel
theorem dJ6_bitCount_0f7a4_2 : decode cJ6_bitCount_0f7a4 2 = .ok (.iconst 1, 1) := by decide +kernel
theorem dJ6_bitCount_0f7a4_3 : decode cJ6_bitCount_0f7a4 3 = .ok (.iushr, 1) := by decide +kernel
theorem dJ6_bitCount_0f7a4_4 : decode cJ6_bitCount_0f7a4 4 = .ok (.ldc_w 265, 3) := by decide +kernel
theorem dJ6_bitCount_0f7a4_7 : decode cJ6_bitCount_0f7a4 7 = .ok (.iand, 1) := by decide +kernel
theorem dJ6_bitCount_0f7a4_8 : decode cJ6_bitCount_0f7a4 8 = .ok (.isub, 1) := by decide +kernel
theorem dJ6_bitCount_0f7a4_9 : decode cJ6_bitCount_0f7a4 9 = .ok (.istore_n 0, 1) := by decide +kernel
theorem dJ6_bitCount_0f7a4_10 : decode cJ6_bitCount_0f7a4 10 = .ok (.iload_n 0, 1) := by decide +kernel
theorem dJ6_bitCount_0f7a4_11 : decode cJ6_bitCount_0f7a4 11 = .ok (.ldc_w 266, 3) := by decide +kernel
theorem dJ6_bitCount_0f7a4_14 : decode cJ6_bitCount_0f7a4 14 = .ok (.iand, 1) := by decide +kernel
theorem dJ6_bitCount_0f7a4_15 : decode cJ6_bitCount_0f7a4 15 = .ok (.iload_n 0, 1) := by decide +kernel
theorem dJ6_bitCount_0f7a4_16 : decode cJ6_bitCount_0f7a4 16 = .ok (.iconst 2, 1) := by decide +kernel
theorem dJ6_bitCount_0f7a4_17 : decode cJ6_bitCount_0f7a4 17 = .ok (.iushr, 1) := by decide +kernel
theorem dJ6_bitCount_0f7a4_18 : decode cJ6_bitCount_0f7a4 18 = .ok (.ldc_w 266, 3) := by decide +kernel
theorem dJ6_bitCount_0f7a4_21 : decode cJ6_bitCount_0f7a4 21 = .ok (.iand, 1) := by decide +kernel
theorem dJ6_bitCount_0f7a4_22 : decode cJ6_bitCount_0f7a4 22 = .ok (.iadd, 1) := by decide +kernel
theorem dJ6_bitCount_0f7a4_23 : decode cJ6_bitCount_0f7a4 23 = .ok (.istore_n 0, 1) := by decide +kernel
theorem dJ6_bitCount_0f7a4_24 : decode cJ6_bitCount_0f7a4 24 = .ok (.iload_n 0, 1) := by decide +kernel
theorem dJ6_bitCount_0f7a4_25 : decode cJ6_bitCount_0f7a4 25 = .ok (.iload_n 0, 1) := by decide +kernel
theorem dJ6_bitCount_0f7a4_26 : decode cJ6_bitCount_0f7a4 26 = .ok (.iconst 4, 1) := by decide +kernel
theorem dJ6_bitCount_0f7a4_27 : decode cJ6_bitCount_0f7a4 27 = .ok (.iushr, 1) := by decide +kernel
theorem dJ6_bitCount_0f7a4_28 : decode cJ6_bitCount_0f7a4 28 = .ok (.iadd, 1) := by decide +kernel
theorem dJ6_bitCount_0f7a4_29 : decode cJ6_bitCount_0f7a4 29 = .ok (.ldc_w 267, 3) := by decide +kernel
theorem dJ6_bitCount_0f7a4_32 : decode cJ6_bitCount_0f7a4 32 = .ok (.iand, 1) := by decide +kernel
theorem dJ6_bitCount_0f7a4_33 : decode cJ6_bitCount_0f7a4 33 = .ok (.istore_n 0, 1) := by decide +kernel
theorem dJ6_bitCount_0f7a4_34 : decode cJ6_bitCount_0f7a4 34 = .ok (.iload_n 0, 1) := by decide +kernel
theorem dJ6_bitCount_0f7a4_35 : decode cJ6_bitCount_0f7a4 35 = .ok (.iload_n 0, 1) := by decide +kernel
theorem dJ6_bitCount_0f7a4_36 : decode cJ6_bitCount_0f7a4 36 = .ok (.bipush 8, 2) := by decide +kernel
theorem dJ6_bitCount_0f7a4_38 : decode cJ6_bitCount_0f7a4 38 = .ok (.iushr, 1) := by decide +kernel
theorem dJ6_bitCount_0f7a4_39 : decode cJ6_bitCount_0f7a4 39 = .ok (.iadd, 1) := by decide +kernel
theorem dJ6_bitCount_0f7a4_40 : decode cJ6_bitCount_0f7a4 40 = .ok (.istore_n 0, 1) := by decide +kernel
theorem dJ6_bitCount_0f7a4_41 : decode cJ6_bitCount_0f7a4 41 = .ok (.iload_n 0, 1) := by decide +kernel
theorem dJ6_bitCount_0f7a4_42 : decode cJ6_bitCount_0f7a4 42 = .ok (.iload_n 0, 1) := by decide +kernel
theorem dJ6_bitCount_0f7a4_43 : decode cJ6_bitCount_0f7a4 43 = .ok (.bipush 16, 2) := by decide +kernel
theorem dJ6_bitCount_0f7a4_45 : decode cJ6_bitCount_0f7a4 45 = .ok (.iushr, 1) := by decide +kernel
theorem dJ6_bitCount_0f7a4_46 : decode cJ6_bitCount_0f7a4 46 = .ok (.iadd, 1) := by decide +kernel
theorem dJ6_bitCount_0f7a4_47 : decode cJ6_bitCount_0f7a4 47 = .ok (.istore_n 0, 1) := by decide +kernel
theorem dJ6_bitCount_0f7a4_48 : decode cJ6_bitCount_0f7a4 48 = .ok (.iload_n 0, 1) := by decide +kernel
theorem dJ6_bitCount_0f7a4_49 : decode cJ6_bitCount_0f7a4 49 = .ok (.bipush 63, 2) := by decide +kernel
theorem dJ6_bitCount_0f7a4_51 : decode cJ6_bitCount_0f7a4 51 = .ok (.iand, 1) := by decide +kernel
theorem dJ6_bitCount_0f7a4_52 : decode cJ6_bitCount_0f7a4 52 = .ok (.ireturn, 1) := by decide +kernel
theorem dJ13_bitCount_95d88_0 : decode cJ13_bitCount_95d88 0 = .ok (.lload_n 0, 1) := by decide +kernel
theorem dJ13_bitCount_95d88_1 : decode cJ13_bitCount_95d88 1 = .ok (.lload_n 0, 1) := by decide +kernel
theorem dJ13_bitCount_95d88_2 : decode cJ13_bitCount_95d88 2 = .ok (.iconst 1, 1) := by decide +kernel
theorem dJ13_bitCount_95d88_3 : decode cJ13_bitCount_95d88 3 = .ok (.lushr, 1) := by decide +kernel
theorem dJ13_bitCount_95d88_4 : decode cJ13_bitCount_95d88 4 = .ok (.ldc2_w 314, 3) := by decide +kernel
theorem dJ13_bitCount_95d88_7 : decode cJ13_bitCount_95d88 7 = .ok (.land, 1) := by decide +kernel
theorem dJ13_bitCount_95d88_8 : decode cJ13_bitCount_95d88 8 = .ok (.lsub, 1) := by decide +kernel
theorem dJ13_bitCount_95d88_9 : decode cJ13_bitCount_95d88 9 = .ok (.lstore_n 0, 1) := by decide +kernel
theorem dJ13_bitCount_95d88_10 : decode cJ13_bitCount_95d88 10 = .ok (.lload_n 0, 1) := by decide +kernel
theorem dJ13_bitCount_95d88_11 : decode cJ13_bitCount_95d88 11 = .ok (.ldc2_w 316, 3) := by decide +kernel
theorem dJ13_bitCount_95d88_14 : decode cJ13_bitCount_95d88 14 = .ok (.land, 1) := by decide +kernel
theorem dJ13_bitCount_95d88_15 : decode cJ13_bitCount_95d88 15 = .ok (.lload_n 0, 1) := by decide +kernel
theorem dJ13_bitCount_95d88_16 : decode cJ13_bitCount_95d88 16 = .ok (.iconst 2, 1) := by decide +kernel
theorem dJ13_bitCount_95d88_17 : decode cJ13_bitCount_95d88 17 = .ok (.lushr, 1) := by decide +kernel
theorem dJ13_bitCount_95d88_18 : decode cJ13_bitCount_95d88 18 = .ok (.ldc2_w 316, 3) := by decide +kernel
theorem dJ13_bitCount_95d88_21 : decode cJ13_bitCount_95d88 21 = .ok (.land, 1) := by decide +kernel
theorem dJ13_bitCount_95d88_22 : decode cJ13_bitCount_95d88 22 = .ok (.ladd, 1) := by decide +kernel
theorem dJ13_bitCount_95d88_23 : decode cJ13_bitCount_95d88 23 = .ok (.lstore_n 0, 1) := by decide +kernel
theorem dJ13_bitCount_95d88_24 : decode cJ13_bitCount_95d88 24 = .ok (.lload_n 0, 1) := by decide +kernel
theorem dJ13_bitCount_95d88_25 : decode cJ13_bitCount_95d88 25 = .ok (.lload_n 0, 1) := by decide +kernel
theorem dJ13_bitCount_95d88_26 : decode cJ13_bitCount_95d88 26 = .ok (.iconst 4, 1) := by decide +kernel
theorem dJ13_bitCount_95d88_27 : decode cJ13_bitCount_95d88 27 = .ok (.lushr, 1) := by decide +kernel
theorem dJ13_bitCount_95d88_28 : decode cJ13_bitCount_95d88 28 = .ok (.ladd, 1) := by decide +kernel
theorem dJ13_bitCount_95d88_29 : decode cJ13_bitCount_95d88 29 = .ok (.ldc2_w 318, 3) := by decide +kernel
theorem dJ13_bitCount_95d88_32 : decode cJ13_bitCount_95d88 32 = .ok (.land, 1) := by decide +kernel
theorem dJ13_bitCount_95d88_33 : decode cJ13_bitCount_95d88 33 = .ok (.lstore_n 0, 1) := by decide +kernel
theorem dJ13_bitCount_95d88_34 : decode cJ13_bitCount_95d88 34 = .ok (.lload_n 0, 1) := by decide +kernel
theorem dJ13_bitCount_95d88_35 : decode cJ13_bitCount_95d88 35 = .ok (.lload_n 0, 1) := by decide +kernel
theorem dJ13_bitCount_95d88_36 : decode cJ13_bitCount_95d88 36 = .ok (.bipush 8, 2) := by decide +kernel
theorem dJ13_bitCount_95d88_38 : decode cJ13_bitCount_95d88 38 = .ok (.lushr, 1) := by decide +kernel
theorem dJ13_bitCount_95d88_39 : decode cJ13_bitCount_95d88 39 = .ok (.ladd, 1) := by decide +kernel
theorem dJ13_bitCount_95d88_40 : decode cJ13_bitCount_95d88 40 = .ok (.lstore_n 0, 1) := by decide +kernel
theorem dJ13_bitCount_95d88_41 : decode cJ13_bitCount_95d88 41 = .ok (.lload_n 0, 1) := by decide +kernel
theorem dJ13_bitCount_95d88_42 : decode cJ13_bitCount_95d88 42 = .ok (.lload_n 0, 1) := by decide +kernel
theorem dJ13_bitCount_95d88_43 : decode cJ13_bitCount_95d88 43 = .ok (.bipush 16, 2) := by decide +kernel
theorem dJ13_bitCount_95d88_45 : decode cJ13_bitCount_95d88 45 = .ok (.lushr, 1) := by decide +kernel
theorem dJ13_bitCount_95d88_46 : decode cJ13_bitCount_95d88 46 = .ok (.ladd, 1) := by decide +kernel
theorem dJ13_bitCount_95d88_47 : decode cJ13_bitCount_95d88 47 = .ok (.lstore_n 0, 1) := by decide +kernel
theorem dJ13_bitCount_95d88_48 : decode cJ13_bitCount_95d88 48 = .ok (.lload_n 0, 1) := by decide +kernel
theorem dJ13_bitCount_95d88_49 : decode cJ13_bitCount_95d88 49 = .ok (.lload_n 0, 1) := by decide +kernel
theorem dJ13_bitCount_95d88_50 : decode cJ13_bitCount_95d88 50 = .ok (.bipush 32, 2) := by decide +kernel
theorem dJ13_bitCount_95d88_52 : decode cJ13_bitCount_95d88 52 = .ok (.lushr, 1) := by decide +kernel
theorem dJ13_bitCount_95d88_53 : decode cJ13_bitCount_95d88 53 = .ok (.ladd, 1) := by decide +kernel
theorem dJ13_bitCount_95d88_54 : decode cJ13_bitCount_95d88 54 = .ok (.lstore_n 0, 1) := by decide +kernel
theorem dJ13_bitCount_95d88_55 : decode cJ13_bitCount_95d88 55 = .ok (.lload_n 0, 1) := by decide +kernel
theorem dJ13_bitCount_95d88_56 : decode cJ13_bitCount_95d88 56 = .ok (.l2i, 1) := by decide +kernel
theorem dJ13_bitCount_95d88_57 : decode cJ13_bitCount_95d88 57 = .ok (.bipush 127, 2) := by decide +kernel
theorem dJ13_bitCount_95d88_59 : decode cJ13_bitCount_95d88 59 = .ok (.iand, 1) := by decide +kernel
theorem dJ13_bitCount_95d88_60 : decode cJ13_bitCount_95d88 60 = .ok (.ireturn, 1) := by decide +kernel
theorem dJ9_min_7cf53_0 : decode cJ9_min_7cf53 0 = .ok (.iload_n 0, 1) := by decide +kernel
theorem dJ9_min_7cf53_1 : decode cJ9_min_7cf53 1 = .ok (.iload_n 1, 1) := by decide +kernel
theorem dJ9_min_7cf53_2 : decode cJ9_min_7cf53 2 = .ok (.if_icmp .gt 7, 3) := by decide +kernel
theorem dJ9_min_7cf53_5 : decode cJ9_min_7cf53 5 = .ok (.iload_n 0, 1) := by decide +kernel
theorem dJ9_min_7cf53_6 : decode cJ9_min_7cf53 6 = .ok (.goto 4, 3) := by decide +kernel
theorem dJ9_min_7cf53_9 : decode cJ9_min_7cf53 9 = .ok (.iload_n 1, 1) := by decide +kernel
theorem dJ9_min_7cf53_10 : decode cJ9_min_7cf53 10 = .ok (.ireturn, 1) := by decide +kernel
end
section
abbrev vwCl : List vw_C := [(RX1, TX1, 2), (RX2, TX2, 4), (RX3, TX3, 2), (RX4, TX4, 3), (RX5, TX5, 4), (RX8, TX8, 11), (RX9, TX9, 21)]
end
section
/-! the base: arrays of small numbers, contracts that are functions, how a walk begins, how a call goes -/
def zF (g : Nat → Nat) : Nat → Int32 := fun i => nI (g i)
def zU (g : Nat → Nat) (k x : Nat) : Nat → Nat := fun j => if j = k then x else g j
theorem zF_upd (g : Nat → Nat) (k x : Nat) : upd (zF g) k (nI x) = zF (zU g k x) := by
  funext j
  simp only [upd, zF, zU]
  split <;> rfl
theorem zU_same (g : Nat → Nat) (k x : Nat) : zU g k x k = x := by simp [zU]
theorem zU_ne {g : Nat → Nat} {k x j : Nat} (h : j ≠ k) : zU g k x j = g j := by simp [zU, h]
def bI (b : Bool) : Int32 := if b then 1 else 0
theorem bI_t {P : Prop} [Decidable P] (h : P) : (1 : Int32) = bI (decide P) := by simp [bI, h]
theorem bI_f {P : Prop} [Decidable P] (h : ¬ P) : (0 : Int32) = bI (decide P) := by simp [bI, h]
theorem bI_nar (b : Bool) : narrow .boolean (.int (bI b)) = .int (bI b) := by cases b <;> decide
theorem zI {n : Nat} (h : n < 2147483648) : (nI n).toInt = (n : Int) := nI_toInt h
theorem zcl {n : Nat} (h : n < 2147483648) : (nI n).toNatClampNeg = n := nI_clamp h
theorem zin {i n : Nat} (h : i < n) (hn : n < 2147483648) : vp_in (nI i) n := vp_in_nI h hn
/-- the names of a run: the tables' numbers of classes and slots; the array classes of ints, booleans, Edges; the three static rows -/
abbrev zG : Type := va_G × (ClassId × ClassId × ClassId) × (Nat × Nat × Nat)
abbrev zT (G : zG) : List (ClassId × FieldType) := [(G.2.1.1, .int), (G.2.1.2.1, .boolean), (G.2.1.2.2, .object RX2)]
abbrev zA (G : zG) (a n : Nat) (f : Nat → Nat) : Nat × va_E := (a, .inl (G.2.1.1, n, .inl (zF f)))
abbrev zB (G : zG) (a n : Nat) (f : Nat → Nat) : Nat × va_E := (a, .inl (G.2.1.2.1, n, .inl (zF f)))
abbrev zR (G : zG) (a n : Nat) (f : Nat → Option Nat) : Nat × va_E := (a, .inl (G.2.1.2.2, n, .inr (.inr (.inr (.inr f)))))
def zLabL : List Nat := [46, 97, 98, 99, 65, 66, 67]
def zFacL : List Nat := [1, 1, 2, 6, 24, 120, 720, 5040]
def zScaL : List Nat := [40320, 40320, 20160, 6720, 1680, 336, 56, 8, 1]
def zLab : Nat → Value := fun j => .int (nI (zLabL.getD j 0))
def zFac : Nat → Value := fun j => .int (nI (zFacL.getD j 0))
def zSca : Nat → Value := fun j => .int (nI (zScaL.getD j 0))
def zS (G : zG) (A : Nat → Prop) (U : State) (H : Heap) : Prop :=
  (va_Z RX3 "LABEL_SIGNS" "[C" (.ref G.2.2.1) A U H ∧ va_T .char G.2.2.1 7 zLab A U H) ∧
  (va_Z RX0 "FACTORIALS" "[I" (.ref G.2.2.2.1) A U H ∧ va_T .int G.2.2.2.1 8 zFac A U H) ∧
  (va_Z RX0 "SCALES" "[I" (.ref G.2.2.2.2) A U H ∧ va_T .int G.2.2.2.2 9 zSca A U H)
theorem zS.moved {G : zG} {A : Nat → Prop} {u U : State} {H : Heap} (hvm : u.vm.Alike U.vm) (h : zS G A u H) : zS G A U H :=
  ⟨⟨h.1.1.moved hvm, h.1.2.moved hvm⟩, ⟨h.2.1.1.moved hvm, h.2.1.2.moved hvm⟩, ⟨h.2.2.1.moved hvm, h.2.2.2.moved hvm⟩⟩
theorem zS.kept {G : zG} {A : Nat → Prop} {U : State} {H H1 : Heap} (h : zS G A U H) (hq : ∀ a : Nat, a < H.size → ¬ A a → H1[a]? = H[a]?) : zS G A U H1 :=
  ⟨⟨h.1.1.kept hq, h.1.2.kept hq⟩, ⟨h.2.1.1.kept hq, h.2.1.2.kept hq⟩, ⟨h.2.2.1.kept hq, h.2.2.2.kept hq⟩⟩
theorem zS.narrow {G : zG} {A B : Nat → Prop} {U : State} {H : Heap} (h : zS G A U H) (hAB : ∀ q, B q → A q) : zS G B U H :=
  ⟨⟨h.1.1.narrow hAB, h.1.2.narrow hAB⟩, ⟨h.2.1.1.narrow hAB, h.2.1.2.narrow hAB⟩, ⟨h.2.2.1.narrow hAB, h.2.2.2.narrow hAB⟩⟩
/-- the world before a call, and behind it -/
def zPre (G : zG) (w : va_W) (sz : Nat) (U : State) : Prop := U.heap.size = sz ∧ va_P G.1 vwCl w U.heap ∧ va_K G.1 vwCl (zT G) U ∧ va_D (fun _ => True) w ∧ zS G (va_A w sz) U U.heap
def zPost (G : zG) (w w2 : va_W) (sz : Nat) (t : State) : Prop := va_P G.1 vwCl w2 t.heap ∧ va_K G.1 vwCl (zT G) t ∧ va_D (va_A w sz) w2
/-- contracts: the method answers r, and the world w becomes w2 -/
def MI (l : Launch) (y : MethodName) (ws : List Cond) (rm : Room) (G : zG) (av : List Value) (w : va_W) (r : Int32) (w2 : va_W) : Prop :=
  ∀ sz : Nat, Met l y ws rm (va_Pc av (zPre G w sz)) (va_Qi (fun a (_ : Unit) => a = r) (fun _ t => zPost G w w2 sz t) (va_A w sz)) 0 0 (va_A w sz)
def ML (l : Launch) (y : MethodName) (ws : List Cond) (rm : Room) (G : zG) (av : List Value) (w : va_W) (r : Int64) (w2 : va_W) : Prop :=
  ∀ sz : Nat, Met l y ws rm (va_Pc av (zPre G w sz)) (va_Ql (fun a (_ : Unit) => a = r) (fun _ t => zPost G w w2 sz t) (va_A w sz)) 0 0 (va_A w sz)
def MV (l : Launch) (y : MethodName) (ws : List Cond) (rm : Room) (G : zG) (av : List Value) (w : va_W) (w2 : va_W) : Prop :=
  ∀ sz : Nat, Met l y ws rm (va_Pc av (zPre G w sz)) (va_Qv (fun (_ : Unit) => True) (fun _ t => zPost G w w2 sz t) (va_A w sz)) 0 0 (va_A w sz)
theorem zPre_blind (G : zG) (w : va_W) (sz : Nat) (av : List Value) : FrameBlind (va_Pc av (zPre G w sz)) := by
  intro a U g mk q
  obtain ⟨q0, q1, qP, qK, qD, qS⟩ := q
  exact ⟨q0, q1, qP, va_K.moved (u := U) (U := U.calling g mk a) (Vm.Alike.refl U.vm) qK, qD, zS.moved (u := U) (U := U.calling g mk a) (Vm.Alike.refl U.vm) qS⟩
/-- what stands at a method's first instruction -/
def zAt (p : Program) (l : Launch) (e : Env) (rm : Room) (G : zG) (s : State) (m : MethodId) (av : List Value) (c : Code) (cc : ByteArray) (maxL : Nat) (ws : List Cond) (own : String) (w : va_W) (A : Nat → Prop) (ls : Array Slot) : Prop :=
  CallFix p m c cc maxL s av.toArray ws own ∧ (∀ q, s.heap.size ≤ q → A q) ∧ va_K G.1 vwCl (zT G) s ∧ zS G A s s.heap ∧ va_P G.1 vwCl w s.heap ∧ va_D A w ∧ va_S A s.heap s.heap [] ∧ lv_has ls maxL (lv_args 0 av)
section ENTER
variable {l : Launch} {y : MethodName} {ws ws' : List Cond} {rm : Room} {G : zG} {av : List Value} {w w2 : va_W} {cc : ByteArray} {maxL : Nat}
theorem MI.enter {r : Int32} {ty : FieldType} (hy : plainName y.cls = true) (hw : ws = Cond.code y cc maxL (some ty) :: ws') (hlen : (lg_sl av).length ≤ maxL) (hn : narrow ty (.int r) = .int r)
    (body : ∀ (p : Program) (e : Env) (s : State) (m : MethodId) (below : List Frame) (meth : Method) (c : Code) (Q : State → Prop) (A : Nat → Prop) (ls : Array Slot), zAt p l e rm G s m av c cc maxL ws y.cls w A ls →
      (∀ (H : Heap) (locs : List Loc) (pc : Nat) (ls2 : Array Slot) (x : Int32) (w3 : va_W), x = r → w3 = w2 → va_P G.1 vwCl w3 H → va_D A w3 → va_S A s.heap H locs → decode cc pc = .ok (.ireturn, 1) → W p l e rm s m av.toArray below meth c H locs 0 0 Q (F0 m pc ls2 [.int x])) →
      W p l e rm s m av.toArray below meth c s.heap [] 0 0 Q (F0 m 0 ls [])) : MI l y ws rm G av w r w2 := by
  intro sz
  refine Met.ofW (cc := cc) (maxL := maxL) (ret := some ty) hy hw ?_
  intro p e s m args below meth c s₁ B hml hv
  obtain ⟨rfl, hsz, hP, hK, hD0, hE⟩ := hv
  subst hsz
  have hr := B.returns
  have hlocks := B.notSynchronized
  rw [lg_entry_eq]
  refine body p e s m below meth c _ (va_A w s.heap.size) _ ⟨⟨B.exec, B.bytes, hml, findClass_of_methodNamed B.named, atoms_spec (ws := ws) B.pre⟩, fun q h => Or.inr h, hK, hE, hP, hD0.self, va_S.rf, lv_entry av hlen⟩ ?_
  intro H locs pc ls2 x w3 hxr hww hP2 hD2 hS2 hdg
  subst hxr; subst hww
  exact W.zret (ty := ty) B.exec B.bytes hr hn (fun t ht hW => ⟨⟨x, (), rfl, rfl, by rw [ht]; exact hP2, va_K.moved hW.alike hK, hD2⟩, hS2.F ht⟩) hS2.2.2 hdg
theorem ML.enter {r : Int64} (hy : plainName y.cls = true) (hw : ws = Cond.code y cc maxL (some .long) :: ws') (hlen : (lg_sl av).length ≤ maxL)
    (body : ∀ (p : Program) (e : Env) (s : State) (m : MethodId) (below : List Frame) (meth : Method) (c : Code) (Q : State → Prop) (A : Nat → Prop) (ls : Array Slot), zAt p l e rm G s m av c cc maxL ws y.cls w A ls →
      (∀ (H : Heap) (locs : List Loc) (pc : Nat) (ls2 : Array Slot) (x : Int64) (w3 : va_W), x = r → w3 = w2 → va_P G.1 vwCl w3 H → va_D A w3 → va_S A s.heap H locs → decode cc pc = .ok (.lreturn, 1) → W p l e rm s m av.toArray below meth c H locs 0 0 Q (F0 m pc ls2 [.long x])) →
      W p l e rm s m av.toArray below meth c s.heap [] 0 0 Q (F0 m 0 ls [])) : ML l y ws rm G av w r w2 := by
  intro sz
  refine Met.ofW (cc := cc) (maxL := maxL) (ret := some .long) hy hw ?_
  intro p e s m args below meth c s₁ B hml hv
  obtain ⟨rfl, hsz, hP, hK, hD0, hE⟩ := hv
  subst hsz
  have hr := B.returns
  have hlocks := B.notSynchronized
  rw [lg_entry_eq]
  refine body p e s m below meth c _ (va_A w s.heap.size) _ ⟨⟨B.exec, B.bytes, hml, findClass_of_methodNamed B.named, atoms_spec (ws := ws) B.pre⟩, fun q h => Or.inr h, hK, hE, hP, hD0.self, va_S.rf, lv_entry av hlen⟩ ?_
  intro H locs pc ls2 x w3 hxr hww hP2 hD2 hS2 hdg
  subst hxr; subst hww
  exact W.lret B.exec B.bytes hr (fun t ht hW => ⟨⟨x, (), rfl, rfl, by rw [ht]; exact hP2, va_K.moved hW.alike hK, hD2⟩, hS2.F ht⟩) hS2.2.2 hdg
theorem MV.enter (hy : plainName y.cls = true) (hw : ws = Cond.code y cc maxL none :: ws') (hlen : (lg_sl av).length ≤ maxL)
    (body : ∀ (p : Program) (e : Env) (s : State) (m : MethodId) (below : List Frame) (meth : Method) (c : Code) (Q : State → Prop) (A : Nat → Prop) (ls : Array Slot), zAt p l e rm G s m av c cc maxL ws y.cls w A ls →
      (∀ (H : Heap) (locs : List Loc) (pc : Nat) (ls2 : Array Slot) (w3 : va_W), w3 = w2 → va_P G.1 vwCl w3 H → va_D A w3 → va_S A s.heap H locs → decode cc pc = .ok (.return_, 1) → W p l e rm s m av.toArray below meth c H locs 0 0 Q (F0 m pc ls2 [])) →
      W p l e rm s m av.toArray below meth c s.heap [] 0 0 Q (F0 m 0 ls [])) : MV l y ws rm G av w w2 := by
  intro sz
  refine Met.ofW (cc := cc) (maxL := maxL) (ret := none) hy hw ?_
  intro p e s m args below meth c s₁ B hml hv
  obtain ⟨rfl, hsz, hP, hK, hD0, hE⟩ := hv
  subst hsz
  have hr := B.returns
  have hlocks := B.notSynchronized
  rw [lg_entry_eq]
  refine body p e s m below meth c _ (va_A w s.heap.size) _ ⟨⟨B.exec, B.bytes, hml, findClass_of_methodNamed B.named, atoms_spec (ws := ws) B.pre⟩, fun q h => Or.inr h, hK, hE, hP, hD0.self, va_S.rf, lv_entry av hlen⟩ ?_
  intro H locs pc ls2 w3 hww hP2 hD2 hS2 hdg
  subst hww
  exact W.vret B.exec B.bytes hr (fun t ht hW => ⟨⟨(), rfl, trivial, by rw [ht]; exact hP2, va_K.moved hW.alike hK, hD2⟩, hS2.F ht⟩) hS2.2.2 hdg
end ENTER
/-- the world behind a call, in the order that the caller wants -/
theorem zjoin {G : zG} {A : Nat → Prop} {W1 wc wr wc2 W2 : va_W} {H H1 : Heap} (hP : va_P G.1 vwCl W1 H) (hD : va_D A W1) (isC isR perm : List Nat) (hC : isC.map (fun i => W1[i]?) = wc.map some) (hR : isR.map (fun i => W1[i]?) = wr.map some) (hn : va_nd isR = true) (hdis : ∀ i ∈ isR, i ∉ isC)
    (hk : ∀ q : Nat, q < H.size → ¬ va_A wc H.size q → H1[q]? = H[q]?) (hF : ∀ q, va_A wc H.size q → A q) (hP1 : va_P G.1 vwCl wc2 H1) (hD1 : va_D (va_A wc H.size) wc2) (hp : perm.map (fun i => (wr ++ wc2)[i]?) = W2.map some) (hnp : va_nd perm = true) : va_P G.1 vwCl W2 H1 ∧ va_D A W2 := by
  obtain ⟨g1, g2⟩ := va_join hP hD isC isR hC hR hn hdis hk hF hP1 hD1
  refine ⟨g1.sub perm ?_, g2.sub perm hnp hp⟩
  have e : perm.filterMap (fun i => (wr ++ wc2)[i]?) = (perm.map (fun i => (wr ++ wc2)[i]?)).filterMap id := by rw [List.filterMap_map]; rfl
  rw [e, hp, List.filterMap_map]
  have e2 : (id ∘ some : Nat × va_E → Option (Nat × va_E)) = some := rfl
  rw [e2, List.filterMap_some]
theorem zsubP {G : zG} {W1 wc : va_W} {H : Heap} (hP : va_P G.1 vwCl W1 H) (isC : List Nat) (hC : isC.map (fun i => W1[i]?) = wc.map some) : va_P G.1 vwCl wc H := by
  refine hP.sub isC ?_
  have e : isC.filterMap (fun i => W1[i]?) = (isC.map (fun i => W1[i]?)).filterMap id := by rw [List.filterMap_map]; rfl
  rw [e, hC, List.filterMap_map]
  have e2 : (id ∘ some : Nat × va_E → Option (Nat × va_E)) = some := rfl
  rw [e2, List.filterMap_some]
theorem zrest {G : zG} {A : Nat → Prop} {W1 wc : va_W} {s U : State} {H : Heap} {locs : List Loc} (hK : va_K G.1 vwCl (zT G) s) (hE : zS G A s s.heap) (hP : va_P G.1 vwCl wc H) (hD : va_D A W1) (hS : va_S A s.heap H locs) (isC : List Nat) (hnc : va_nd isC = true) (hC : isC.map (fun i => W1[i]?) = wc.map some) (hF : ∀ q, va_A wc H.size q → A q) (hU : U.heap = H) (hW : s.WarmedH U.vm) : zPre G wc H.size U := by
  refine ⟨by rw [hU], by rw [hU]; exact hP, va_K.moved hW.alike hK, (hD.sub isC hnc hC).weaken (fun _ _ _ _ => trivial), ?_⟩
  rw [hU]
  exact ((hE.kept (H1 := H) (fun a h1 h2 => hS.2.1 a h1 h2)).narrow hF).moved hW.alike
section CALL
variable {p : Program} {l : Launch} {e : Env} {R : Room} {s : State} {m : MethodId} {args : Array Value} {below : List Frame} {meth : Method} {c : Code} {H : Heap} {locs : List Loc} {cells slots : Nat} {Q : State → Prop}
variable {cc bytes : ByteArray} {nL maxL n index : Nat} {Ts ws : List Cond} {own C : String} {y : MethodName} {ret : Option FieldType} {rm : Room} {G : zG} {A : Nat → Prop} {W1 W2 wc wr wc2 : va_W} {b pc : Nat} {As rest st0 : List Value} {ls : Array Slot}
theorem zVi {r : Int32} (S : CallFix p m c cc nL s args Ts own) (hM : MI l y ws rm G (.ref b :: As) wc r wc2) (cw : CallW R s args own C index y bytes maxL ret ws rm 0 0 n)
    (hK : va_K G.1 vwCl (zT G) s) (hE : zS G A s s.heap) (hA : ∀ q, s.heap.size ≤ q → A q) (hP : va_P G.1 vwCl W1 H) (hD : va_D A W1) (hS : va_S A s.heap H locs) (hsz : ls.size = nL)
    (isC isR perm : List Nat) (hC : isC.map (fun i => W1[i]?) = wc.map some) (hR : isR.map (fun i => W1[i]?) = wr.map some) (hp : perm.map (fun i => (wr ++ wc2)[i]?) = W2.map some) (hnc : (va_nd isC && va_nd isR && va_nd perm && isR.all (fun i => !isC.contains i)) = true)
    {ci : Nat} {q : vw_C} {fs : List Value} (hc : vwCl[ci]? = some q) (he : wc[0]? = some (b, .inr (ci, fs))) (hqC : q.1 = C)
    (hn : As.length = n) (hst : st0 = As.reverse ++ .ref b :: rest) (hW : (rest.map fun v => v.category).sum ≤ 8) (hcap : cells ≤ R.cells ∧ slots ≤ R.slots) (hdg : decode cc pc = .ok (.invokevirtual index, 3))
    (kk : ∀ (H1 : Heap) (locs1 : List Loc), va_P G.1 vwCl W2 H1 → va_D A W2 → va_S A s.heap H1 locs1 → W p l e R s m args below meth c H1 locs1 cells slots Q (F0 m (pc + 3) ls (.int r :: rest))) : W p l e R s m args below meth c H locs cells slots Q (F0 m pc ls st0) := by
  subst hqC
  simp only [Bool.and_eq_true] at hnc
  obtain ⟨⟨⟨n1, n2⟩, n3⟩, n4⟩ := hnc
  have hPc := zsubP hP isC hC
  have hFc := va_free (wc := wc) hD hS hA isC hC
  refine va_calli (va_runV (As := As) (rest := rest) S (hM H.size) cw ⟨zPre_blind G wc H.size _, va_recv hK hPc hc he, fun U hU hW => ⟨rfl, zrest hK hE hPc hD hS isC n1 hC hFc hU hW⟩⟩ rfl hn hsz hst (lv_room hW) hdg ⟨hcap.1, hcap.2⟩) hS (fun q _ h => hFc q h) hFc (fun r2 u t H1 locs1 ht hvm hw hB hz1 hk1 hS1 => ?_)
  subst hw
  obtain ⟨hP1, hK1, hD1⟩ := hB
  rw [ht] at hP1
  obtain ⟨g1, g2⟩ := zjoin hP hD isC isR perm hC hR n2 (fun i hi h => by have := List.all_eq_true.mp n4 i hi; simp [h] at this) hk1 hFc hP1 hD1 hp n3
  exact kk H1 locs1 g1 g2 hS1
theorem zVv (S : CallFix p m c cc nL s args Ts own) (hM : MV l y ws rm G (.ref b :: As) wc wc2) (cw : CallW R s args own C index y bytes maxL ret ws rm 0 0 n)
    (hK : va_K G.1 vwCl (zT G) s) (hE : zS G A s s.heap) (hA : ∀ q, s.heap.size ≤ q → A q) (hP : va_P G.1 vwCl W1 H) (hD : va_D A W1) (hS : va_S A s.heap H locs) (hsz : ls.size = nL)
    (isC isR perm : List Nat) (hC : isC.map (fun i => W1[i]?) = wc.map some) (hR : isR.map (fun i => W1[i]?) = wr.map some) (hp : perm.map (fun i => (wr ++ wc2)[i]?) = W2.map some) (hnc : (va_nd isC && va_nd isR && va_nd perm && isR.all (fun i => !isC.contains i)) = true)
    {ci : Nat} {q : vw_C} {fs : List Value} (hc : vwCl[ci]? = some q) (he : wc[0]? = some (b, .inr (ci, fs))) (hqC : q.1 = C)
    (hn : As.length = n) (hst : st0 = As.reverse ++ .ref b :: rest) (hW : (rest.map fun v => v.category).sum ≤ 8) (hcap : cells ≤ R.cells ∧ slots ≤ R.slots) (hdg : decode cc pc = .ok (.invokevirtual index, 3))
    (kk : ∀ (H1 : Heap) (locs1 : List Loc), va_P G.1 vwCl W2 H1 → va_D A W2 → va_S A s.heap H1 locs1 → W p l e R s m args below meth c H1 locs1 cells slots Q (F0 m (pc + 3) ls rest)) : W p l e R s m args below meth c H locs cells slots Q (F0 m pc ls st0) := by
  subst hqC
  simp only [Bool.and_eq_true] at hnc
  obtain ⟨⟨⟨n1, n2⟩, n3⟩, n4⟩ := hnc
  have hPc := zsubP hP isC hC
  have hFc := va_free (wc := wc) hD hS hA isC hC
  refine va_callv (va_runV (As := As) (rest := rest) S (hM H.size) cw ⟨zPre_blind G wc H.size _, va_recv hK hPc hc he, fun U hU hW => ⟨rfl, zrest hK hE hPc hD hS isC n1 hC hFc hU hW⟩⟩ rfl hn hsz hst (lv_room hW) hdg ⟨hcap.1, hcap.2⟩) hS (fun q _ h => hFc q h) hFc (fun u t H1 locs1 ht hvm hw hB hz1 hk1 hS1 => ?_)
  obtain ⟨hP1, hK1, hD1⟩ := hB
  rw [ht] at hP1
  obtain ⟨g1, g2⟩ := zjoin hP hD isC isR perm hC hR n2 (fun i hi h => by have := List.all_eq_true.mp n4 i hi; simp [h] at this) hk1 hFc hP1 hD1 hp n3
  exact kk H1 locs1 g1 g2 hS1
theorem zSi {r : Int32} (S : CallFix p m c cc nL s args Ts own) (hM : MI l y ws rm G As wc r wc2) (cw : CallB R s args own index y bytes maxL ret ws rm 0 0 n ∧ (Cond.static y).before args s = true)
    (hK : va_K G.1 vwCl (zT G) s) (hE : zS G A s s.heap) (hA : ∀ q, s.heap.size ≤ q → A q) (hP : va_P G.1 vwCl W1 H) (hD : va_D A W1) (hS : va_S A s.heap H locs) (hsz : ls.size = nL)
    (isC isR perm : List Nat) (hC : isC.map (fun i => W1[i]?) = wc.map some) (hR : isR.map (fun i => W1[i]?) = wr.map some) (hp : perm.map (fun i => (wr ++ wc2)[i]?) = W2.map some) (hnc : (va_nd isC && va_nd isR && va_nd perm && isR.all (fun i => !isC.contains i)) = true)
    (hn : As.length = n) (hst : st0 = As.reverse ++ rest) (hW : (rest.map fun v => v.category).sum ≤ 8) (hcap : cells ≤ R.cells ∧ slots ≤ R.slots) (hdg : decode cc pc = .ok (.invokestatic index, 3))
    (kk : ∀ (H1 : Heap) (locs1 : List Loc), va_P G.1 vwCl W2 H1 → va_D A W2 → va_S A s.heap H1 locs1 → W p l e R s m args below meth c H1 locs1 cells slots Q (F0 m (pc + 3) ls (.int r :: rest))) : W p l e R s m args below meth c H locs cells slots Q (F0 m pc ls st0) := by
  simp only [Bool.and_eq_true] at hnc
  obtain ⟨⟨⟨n1, n2⟩, n3⟩, n4⟩ := hnc
  have hPc := zsubP hP isC hC
  have hFc := va_free (wc := wc) hD hS hA isC hC
  refine va_calli (va_runS (As := As) (rest := rest) S (hM H.size) cw ⟨zPre_blind G wc H.size _, fun U hU hW => ⟨rfl, zrest hK hE hPc hD hS isC n1 hC hFc hU hW⟩⟩ rfl hn hsz hst (lv_room hW) hdg ⟨hcap.1, hcap.2⟩) hS (fun q _ h => hFc q h) hFc (fun r2 u t H1 locs1 ht hvm hw hB hz1 hk1 hS1 => ?_)
  subst hw
  obtain ⟨hP1, hK1, hD1⟩ := hB
  rw [ht] at hP1
  obtain ⟨g1, g2⟩ := zjoin hP hD isC isR perm hC hR n2 (fun i hi h => by have := List.all_eq_true.mp n4 i hi; simp [h] at this) hk1 hFc hP1 hD1 hp n3
  exact kk H1 locs1 g1 g2 hS1
theorem zSl {r : Int64} (S : CallFix p m c cc nL s args Ts own) (hM : ML l y ws rm G As wc r wc2) (cw : CallB R s args own index y bytes maxL ret ws rm 0 0 n ∧ (Cond.static y).before args s = true)
    (hK : va_K G.1 vwCl (zT G) s) (hE : zS G A s s.heap) (hA : ∀ q, s.heap.size ≤ q → A q) (hP : va_P G.1 vwCl W1 H) (hD : va_D A W1) (hS : va_S A s.heap H locs) (hsz : ls.size = nL)
    (isC isR perm : List Nat) (hC : isC.map (fun i => W1[i]?) = wc.map some) (hR : isR.map (fun i => W1[i]?) = wr.map some) (hp : perm.map (fun i => (wr ++ wc2)[i]?) = W2.map some) (hnc : (va_nd isC && va_nd isR && va_nd perm && isR.all (fun i => !isC.contains i)) = true)
    (hn : As.length = n) (hst : st0 = As.reverse ++ rest) (hW : (rest.map fun v => v.category).sum ≤ 8) (hcap : cells ≤ R.cells ∧ slots ≤ R.slots) (hdg : decode cc pc = .ok (.invokestatic index, 3))
    (kk : ∀ (H1 : Heap) (locs1 : List Loc), va_P G.1 vwCl W2 H1 → va_D A W2 → va_S A s.heap H1 locs1 → W p l e R s m args below meth c H1 locs1 cells slots Q (F0 m (pc + 3) ls (.long r :: rest))) : W p l e R s m args below meth c H locs cells slots Q (F0 m pc ls st0) := by
  simp only [Bool.and_eq_true] at hnc
  obtain ⟨⟨⟨n1, n2⟩, n3⟩, n4⟩ := hnc
  have hPc := zsubP hP isC hC
  have hFc := va_free (wc := wc) hD hS hA isC hC
  refine va_calll (va_runS (As := As) (rest := rest) S (hM H.size) cw ⟨zPre_blind G wc H.size _, fun U hU hW => ⟨rfl, zrest hK hE hPc hD hS isC n1 hC hFc hU hW⟩⟩ rfl hn hsz hst (lv_room hW) hdg ⟨hcap.1, hcap.2⟩) hS (fun q _ h => hFc q h) hFc (fun r2 u t H1 locs1 ht hvm hw hB hz1 hk1 hS1 => ?_)
  subst hw
  obtain ⟨hP1, hK1, hD1⟩ := hB
  rw [ht] at hP1
  obtain ⟨g1, g2⟩ := zjoin hP hD isC isR perm hC hR n2 (fun i hi h => by have := List.all_eq_true.mp n4 i hi; simp [h] at this) hk1 hFc hP1 hD1 hp n3
  exact kk H1 locs1 g1 g2 hS1
theorem zSv (S : CallFix p m c cc nL s args Ts own) (hM : MV l y ws rm G As wc wc2) (cw : CallB R s args own index y bytes maxL ret ws rm 0 0 n ∧ (Cond.static y).before args s = true)
    (hK : va_K G.1 vwCl (zT G) s) (hE : zS G A s s.heap) (hA : ∀ q, s.heap.size ≤ q → A q) (hP : va_P G.1 vwCl W1 H) (hD : va_D A W1) (hS : va_S A s.heap H locs) (hsz : ls.size = nL)
    (isC isR perm : List Nat) (hC : isC.map (fun i => W1[i]?) = wc.map some) (hR : isR.map (fun i => W1[i]?) = wr.map some) (hp : perm.map (fun i => (wr ++ wc2)[i]?) = W2.map some) (hnc : (va_nd isC && va_nd isR && va_nd perm && isR.all (fun i => !isC.contains i)) = true)
    (hn : As.length = n) (hst : st0 = As.reverse ++ rest) (hW : (rest.map fun v => v.category).sum ≤ 8) (hcap : cells ≤ R.cells ∧ slots ≤ R.slots) (hdg : decode cc pc = .ok (.invokestatic index, 3))
    (kk : ∀ (H1 : Heap) (locs1 : List Loc), va_P G.1 vwCl W2 H1 → va_D A W2 → va_S A s.heap H1 locs1 → W p l e R s m args below meth c H1 locs1 cells slots Q (F0 m (pc + 3) ls rest)) : W p l e R s m args below meth c H locs cells slots Q (F0 m pc ls st0) := by
  simp only [Bool.and_eq_true] at hnc
  obtain ⟨⟨⟨n1, n2⟩, n3⟩, n4⟩ := hnc
  have hPc := zsubP hP isC hC
  have hFc := va_free (wc := wc) hD hS hA isC hC
  refine va_callv (va_runS (As := As) (rest := rest) S (hM H.size) cw ⟨zPre_blind G wc H.size _, fun U hU hW => ⟨rfl, zrest hK hE hPc hD hS isC n1 hC hFc hU hW⟩⟩ rfl hn hsz hst (lv_room hW) hdg ⟨hcap.1, hcap.2⟩) hS (fun q _ h => hFc q h) hFc (fun u t H1 locs1 ht hvm hw hB hz1 hk1 hS1 => ?_)
  obtain ⟨hP1, hK1, hD1⟩ := hB
  rw [ht] at hP1
  obtain ⟨g1, g2⟩ := zjoin hP hD isC isR perm hC hR n2 (fun i hi h => by have := List.all_eq_true.mp n4 i hi; simp [h] at this) hk1 hFc hP1 hD1 hp n3
  exact kk H1 locs1 g1 g2 hS1
theorem zVl {r : Int64} (S : CallFix p m c cc nL s args Ts own) (hM : ML l y ws rm G (.ref b :: As) wc r wc2) (cw : CallW R s args own C index y bytes maxL ret ws rm 0 0 n)
    (hK : va_K G.1 vwCl (zT G) s) (hE : zS G A s s.heap) (hA : ∀ q, s.heap.size ≤ q → A q) (hP : va_P G.1 vwCl W1 H) (hD : va_D A W1) (hS : va_S A s.heap H locs) (hsz : ls.size = nL)
    (isC isR perm : List Nat) (hC : isC.map (fun i => W1[i]?) = wc.map some) (hR : isR.map (fun i => W1[i]?) = wr.map some) (hp : perm.map (fun i => (wr ++ wc2)[i]?) = W2.map some) (hnc : (va_nd isC && va_nd isR && va_nd perm && isR.all (fun i => !isC.contains i)) = true)
    {ci : Nat} {q : vw_C} {fs : List Value} (hc : vwCl[ci]? = some q) (he : wc[0]? = some (b, .inr (ci, fs))) (hqC : q.1 = C)
    (hn : As.length = n) (hst : st0 = As.reverse ++ .ref b :: rest) (hW : (rest.map fun v => v.category).sum ≤ 8) (hcap : cells ≤ R.cells ∧ slots ≤ R.slots) (hdg : decode cc pc = .ok (.invokevirtual index, 3))
    (kk : ∀ (H1 : Heap) (locs1 : List Loc), va_P G.1 vwCl W2 H1 → va_D A W2 → va_S A s.heap H1 locs1 → W p l e R s m args below meth c H1 locs1 cells slots Q (F0 m (pc + 3) ls (.long r :: rest))) : W p l e R s m args below meth c H locs cells slots Q (F0 m pc ls st0) := by
  subst hqC
  simp only [Bool.and_eq_true] at hnc
  obtain ⟨⟨⟨n1, n2⟩, n3⟩, n4⟩ := hnc
  have hPc := zsubP hP isC hC
  have hFc := va_free (wc := wc) hD hS hA isC hC
  refine va_calll (va_runV (As := As) (rest := rest) S (hM H.size) cw ⟨zPre_blind G wc H.size _, va_recv hK hPc hc he, fun U hU hW => ⟨rfl, zrest hK hE hPc hD hS isC n1 hC hFc hU hW⟩⟩ rfl hn hsz hst (lv_room hW) hdg ⟨hcap.1, hcap.2⟩) hS (fun q _ h => hFc q h) hFc (fun r2 u t H1 locs1 ht hvm hw hB hz1 hk1 hS1 => ?_)
  subst hw
  obtain ⟨hP1, hK1, hD1⟩ := hB
  rw [ht] at hP1
  obtain ⟨g1, g2⟩ := zjoin hP hD isC isR perm hC hR n2 (fun i hi h => by have := List.all_eq_true.mp n4 i hi; simp [h] at this) hk1 hFc hP1 hD1 hp n3
  exact kk H1 locs1 g1 g2 hS1
end CALL
end
section
/-! rows over small numbers: one instruction each -/
theorem zinc (t k : Nat) : nI t + Int32.ofInt (k : Int) = nI (t + k) := by
  rw [show Int32.ofInt (k : Int) = nI k from Int32.ofInt_eq_ofNat .., nI_add]
theorem zdec {t : Nat} (h : 1 ≤ t) : nI t + Int32.ofInt (-1) = nI (t - 1) := by
  obtain ⟨u, rfl⟩ : ∃ u, t = u + 1 := ⟨t - 1, by omega⟩
  rw [show Int32.ofInt (-1) = (-1 : Int32) from rfl, pk_m1]; rfl
theorem zmin {a b : Nat} (ha : a < 2147483648) (hb : b < 2147483648) : (if nI b < nI a then nI b else nI a) = nI (min a b) := by
  have h := nI_ltI hb ha
  by_cases hab : b < a
  · rw [if_pos (h.mpr hab), Nat.min_eq_right (by omega)]
  · rw [if_neg (fun q => hab (h.mp q)), Nat.min_eq_left (by omega)]
theorem z_narb : ∀ x, x < 2 → vp_nar .boolean (nI x) = nI x := by decide +kernel
theorem z_and (a b : Nat) : nI a &&& nI b = nI (a &&& b) := by
  apply Int32.toBitVec_inj.mp
  rw [Int32.toBitVec_and]
  show BitVec.ofNat 32 a &&& BitVec.ofNat 32 b = BitVec.ofNat 32 (a &&& b)
  rw [BitVec.ofNat_and]
theorem z_or (a b : Nat) : nI a ||| nI b = nI (a ||| b) := by
  apply Int32.toBitVec_inj.mp
  rw [Int32.toBitVec_or]
  show BitVec.ofNat 32 a ||| BitVec.ofNat 32 b = BitVec.ofNat 32 (a ||| b)
  rw [BitVec.ofNat_or]
theorem z_xor (a b : Nat) : nI a ^^^ nI b = nI (a ^^^ b) := by
  apply Int32.toBitVec_inj.mp
  rw [Int32.toBitVec_xor]
  show BitVec.ofNat 32 a ^^^ BitVec.ofNat 32 b = BitVec.ofNat 32 (a ^^^ b)
  rw [BitVec.ofNat_xor]
theorem z_andL (a b : Nat) : lN a &&& lN b = lN (a &&& b) := by
  apply Int64.toBitVec_inj.mp
  rw [Int64.toBitVec_and]
  show BitVec.ofNat 64 a &&& BitVec.ofNat 64 b = BitVec.ofNat 64 (a &&& b)
  rw [BitVec.ofNat_and]
theorem z_orL (a b : Nat) : lN a ||| lN b = lN (a ||| b) := by
  apply Int64.toBitVec_inj.mp
  rw [Int64.toBitVec_or]
  show BitVec.ofNat 64 a ||| BitVec.ofNat 64 b = BitVec.ofNat 64 (a ||| b)
  rw [BitVec.ofNat_or]
theorem z_sm : ∀ n, n < 32 → ((nI n &&& 31).toBitVec.smod 32).toNat = n := by decide +kernel
theorem z_shl {a k : Nat} (hk : k < 32) : nI a <<< (nI k &&& 31) = nI (a * 2 ^ k) := by
  apply Int32.toBitVec_inj.mp
  apply BitVec.eq_of_toNat_eq
  rw [pk_shl _ _ k (z_sm k hk)]
  show (BitVec.ofNat 32 a).toNat * 2 ^ k % 2 ^ 32 = (BitVec.ofNat 32 (a * 2 ^ k)).toNat
  rw [BitVec.toNat_ofNat, BitVec.toNat_ofNat, Nat.mod_mul_mod]
theorem z_shr {a k : Nat} (ha : a < 2147483648) (hk : k < 32) : nI a >>> (nI k &&& 31) = nI (a / 2 ^ k) := pk_shrN ha _ k (z_sm k hk)
theorem z_c64 : ∀ k, k < 64 → ((nI k).toInt64 &&& 63) = lN k := by decide +kernel
theorem z_cu64 : ∀ k, k < 64 → ((nI k).toInt64.toUInt64 &&& Int64.toUInt64 63) = UInt64.ofNat k := by decide +kernel
theorem z_sm64 : ∀ k, k < 64 → (BitVec.ofNat 64 k).smod 64 = BitVec.ofNat 64 k := by decide +kernel
theorem z_shlL (n : Nat) {k : Nat} (hk : k < 64) : lN n <<< ((nI k).toInt64 &&& 63) = lN (n * 2 ^ k) := by
  rw [z_c64 k hk]
  apply Int64.toBitVec_inj.mp
  apply BitVec.eq_of_toNat_eq
  rw [Int64.toBitVec_shiftLeft]
  show ((BitVec.ofNat 64 n) <<< ((BitVec.ofNat 64 k).smod 64)).toNat = (BitVec.ofNat 64 (n * 2 ^ k)).toNat
  rw [z_sm64 k hk, BitVec.shiftLeft_eq', BitVec.toNat_shiftLeft, BitVec.toNat_ofNat, BitVec.toNat_ofNat, BitVec.toNat_ofNat, Nat.shiftLeft_eq, Nat.mod_eq_of_lt (show k < 2 ^ 64 by omega), Nat.mod_mul_mod]
theorem z_ushrL {n k : Nat} (hn : n < 18446744073709551616) (hk : k < 64) : ((lN n).toUInt64 >>> ((nI k).toInt64.toUInt64 &&& Int64.toUInt64 63)).toInt64 = lN (n / 2 ^ k) := by
  rw [z_cu64 k hk]
  apply Int64.toBitVec_inj.mp
  apply BitVec.eq_of_toNat_eq
  show ((UInt64.ofBitVec (BitVec.ofNat 64 n)) >>> (UInt64.ofNat k)).toBitVec.toNat = (BitVec.ofNat 64 (n / 2 ^ k)).toNat
  rw [UInt64.toBitVec_shiftRight]
  show ((BitVec.ofNat 64 n) >>> ((BitVec.ofNat 64 k) % 64)).toNat = (BitVec.ofNat 64 (n / 2 ^ k)).toNat
  rw [BitVec.ushiftRight_eq', BitVec.toNat_ushiftRight, BitVec.toNat_umod, BitVec.toNat_ofNat, BitVec.toNat_ofNat, BitVec.toNat_ofNat, Nat.shiftRight_eq_div_pow, Nat.mod_eq_of_lt (show k < 2 ^ 64 by omega), Nat.mod_eq_of_lt hn]
  rw [show ((64 : BitVec 64).toNat) = 64 from rfl, Nat.mod_eq_of_lt hk, Nat.mod_eq_of_lt (Nat.lt_of_le_of_lt (Nat.div_le_self _ _) hn)]
theorem z_lT {n : Nat} (h : n < 9223372036854775808) : (lN n).toInt = (n : Int) := pk_lT h
theorem z_lcmp (x y : Int64) : (lg_cmp x y = 0 ↔ x = y) ∧ (lg_cmp x y < 0 ↔ x < y) ∧ (0 < lg_cmp x y ↔ y < x) := by
  unfold lg_cmp
  by_cases h1 : y < x
  · have h2 : ¬ x = y := fun e => by subst e; exact Int64.lt_irrefl h1
    have h3 : ¬ x < y := fun e => Int64.lt_irrefl (Int64.lt_trans h1 e)
    simp [h1, h2, h3]
  · by_cases h2 : x = y
    · subst h2; simp [Int64.lt_irrefl]
    · have h3 : x < y := by
        rw [Int64.lt_iff_toInt_lt] at h1 ⊢
        have h4 : x.toInt ≠ y.toInt := fun e => h2 (Int64.toInt_inj.mp e)
        omega
      simp [h1, h2, h3]
section ZR
variable {p : Program} {l : Launch} {e : Env} {R : Room} {s : State} {m : MethodId} {args : Array Value} {below : List Frame} {meth : Method} {c : Code} {H : Heap} {locs : List Loc} {cells slots : Nat} {Q : State → Prop}
variable {cc : ByteArray} {pc : Nat} {ls : Array Slot} {rest : List Value} {G : zG} {A : Nat → Prop} {H0 : Heap} {w : va_W}
theorem zti {x y : Int32} (h : x = y) (k : W p l e R s m args below meth c H locs cells slots Q (F0 m pc ls (.int y :: rest))) : W p l e R s m args below meth c H locs cells slots Q (F0 m pc ls (.int x :: rest)) := h ▸ k
theorem ztl {x y : Int64} (h : x = y) (k : W p l e R s m args below meth c H locs cells slots Q (F0 m pc ls (.long y :: rest))) : W p l e R s m args below meth c H locs cells slots Q (F0 m pc ls (.long x :: rest)) := h ▸ k

theorem zi_add (hexec : p.tables.exec = Jvm.exec) (hb : c.code = cc) {a b : Nat} (hdg : decode cc pc = .ok (.iadd, 1)) (k : W p l e R s m args below meth c H locs cells slots Q (F0 m (pc + 1) ls (.int (nI (a + b)) :: rest))) : W p l e R s m args below meth c H locs cells slots Q (F0 m pc ls (.int (nI b) :: .int (nI a) :: rest)) := lv_iadd hexec hb hdg (zti (nI_add a b) k)
theorem zi_addk (hexec : p.tables.exec = Jvm.exec) (hb : c.code = cc) {a b n : Nat} (hdg : decode cc pc = .ok (.iadd, 1)) (hn : a + b = n) (k : W p l e R s m args below meth c H locs cells slots Q (F0 m (pc + 1) ls (.int (nI n) :: rest))) : W p l e R s m args below meth c H locs cells slots Q (F0 m pc ls (.int (nI b) :: .int (nI a) :: rest)) := lv_iadd hexec hb hdg (zti ((nI_add a b).trans (congrArg nI hn)) k)
theorem zi_sub (hexec : p.tables.exec = Jvm.exec) (hb : c.code = cc) {a b : Nat} (hdg : decode cc pc = .ok (.isub, 1)) (h : b ≤ a) (k : W p l e R s m args below meth c H locs cells slots Q (F0 m (pc + 1) ls (.int (nI (a - b)) :: rest))) : W p l e R s m args below meth c H locs cells slots Q (F0 m pc ls (.int (nI b) :: .int (nI a) :: rest)) := lv_isub hexec hb hdg (zti (pk_sub h) k)
theorem zi_mul (hexec : p.tables.exec = Jvm.exec) (hb : c.code = cc) {a b : Nat} (hdg : decode cc pc = .ok (.imul, 1)) (k : W p l e R s m args below meth c H locs cells slots Q (F0 m (pc + 1) ls (.int (nI (a * b)) :: rest))) : W p l e R s m args below meth c H locs cells slots Q (F0 m pc ls (.int (nI b) :: .int (nI a) :: rest)) := lv_imul hexec hb hdg (zti (pk_mul a b) k)
theorem zi_mulk (hexec : p.tables.exec = Jvm.exec) (hb : c.code = cc) {a b n : Nat} (hdg : decode cc pc = .ok (.imul, 1)) (hn : a * b = n) (k : W p l e R s m args below meth c H locs cells slots Q (F0 m (pc + 1) ls (.int (nI n) :: rest))) : W p l e R s m args below meth c H locs cells slots Q (F0 m pc ls (.int (nI b) :: .int (nI a) :: rest)) := lv_imul hexec hb hdg (zti ((pk_mul a b).trans (congrArg nI hn)) k)
theorem zi_div (hexec : p.tables.exec = Jvm.exec) (hb : c.code = cc) {a b : Nat} (hdg : decode cc pc = .ok (.idiv, 1)) (ha : a < 2147483648) (h0 : 0 < b) (h2 : b < 2147483648) (k : W p l e R s m args below meth c H locs cells slots Q (F0 m (pc + 1) ls (.int (nI (a / b)) :: rest))) : W p l e R s m args below meth c H locs cells slots Q (F0 m pc ls (.int (nI b) :: .int (nI a) :: rest)) := lv_idiv hexec hb hdg (nI_ne0 h0 h2) (zti (pk_div ha h0 h2) k)
theorem zi_rem (hexec : p.tables.exec = Jvm.exec) (hb : c.code = cc) {a b : Nat} (hdg : decode cc pc = .ok (.irem, 1)) (ha : a < 2147483648) (h0 : 0 < b) (h2 : b < 2147483648) (k : W p l e R s m args below meth c H locs cells slots Q (F0 m (pc + 1) ls (.int (nI (a % b)) :: rest))) : W p l e R s m args below meth c H locs cells slots Q (F0 m pc ls (.int (nI b) :: .int (nI a) :: rest)) := lv_irem hexec hb hdg (nI_ne0 h0 h2) (zti (pk_rem ha h0 h2) k)
theorem zi_and (hexec : p.tables.exec = Jvm.exec) (hb : c.code = cc) {a b : Nat} (hdg : decode cc pc = .ok (.iand, 1)) (k : W p l e R s m args below meth c H locs cells slots Q (F0 m (pc + 1) ls (.int (nI (a &&& b)) :: rest))) : W p l e R s m args below meth c H locs cells slots Q (F0 m pc ls (.int (nI b) :: .int (nI a) :: rest)) := lv_iand hexec hb hdg (zti (z_and a b) k)
theorem zi_and1 (hexec : p.tables.exec = Jvm.exec) (hb : c.code = cc) {a : Nat} (hdg : decode cc pc = .ok (.iand, 1)) (k : W p l e R s m args below meth c H locs cells slots Q (F0 m (pc + 1) ls (.int (nI (a % 2)) :: rest))) : W p l e R s m args below meth c H locs cells slots Q (F0 m pc ls (.int (nI 1) :: .int (nI a) :: rest)) := lv_iand hexec hb hdg (zti ((z_and a 1).trans (congrArg nI (Nat.and_one_is_mod a))) k)
theorem zi_and255 (hexec : p.tables.exec = Jvm.exec) (hb : c.code = cc) {a : Nat} (hdg : decode cc pc = .ok (.iand, 1)) (k : W p l e R s m args below meth c H locs cells slots Q (F0 m (pc + 1) ls (.int (nI (a % 256)) :: rest))) : W p l e R s m args below meth c H locs cells slots Q (F0 m pc ls (.int (nI 255) :: .int (nI a) :: rest)) := lv_iand hexec hb hdg (zti ((z_and a 255).trans (congrArg nI (Nat.and_two_pow_sub_one_eq_mod a 8))) k)
theorem zi_or (hexec : p.tables.exec = Jvm.exec) (hb : c.code = cc) {a b : Nat} (hdg : decode cc pc = .ok (.ior, 1)) (k : W p l e R s m args below meth c H locs cells slots Q (F0 m (pc + 1) ls (.int (nI (a ||| b)) :: rest))) : W p l e R s m args below meth c H locs cells slots Q (F0 m pc ls (.int (nI b) :: .int (nI a) :: rest)) := lv_ior hexec hb hdg (zti (z_or a b) k)
theorem zi_xor (hexec : p.tables.exec = Jvm.exec) (hb : c.code = cc) {a b : Nat} (hdg : decode cc pc = .ok (.ixor, 1)) (k : W p l e R s m args below meth c H locs cells slots Q (F0 m (pc + 1) ls (.int (nI (a ^^^ b)) :: rest))) : W p l e R s m args below meth c H locs cells slots Q (F0 m pc ls (.int (nI b) :: .int (nI a) :: rest)) := lv_ixor hexec hb hdg (zti (z_xor a b) k)
theorem zi_shl (hexec : p.tables.exec = Jvm.exec) (hb : c.code = cc) {a b : Nat} (hdg : decode cc pc = .ok (.ishl, 1)) (h : b < 32) (k : W p l e R s m args below meth c H locs cells slots Q (F0 m (pc + 1) ls (.int (nI (a * 2 ^ b)) :: rest))) : W p l e R s m args below meth c H locs cells slots Q (F0 m pc ls (.int (nI b) :: .int (nI a) :: rest)) := lv_ishl hexec hb hdg (zti (z_shl h) k)
theorem zi_shl1 (hexec : p.tables.exec = Jvm.exec) (hb : c.code = cc) {b : Nat} (hdg : decode cc pc = .ok (.ishl, 1)) (h : b < 32) (k : W p l e R s m args below meth c H locs cells slots Q (F0 m (pc + 1) ls (.int (nI (2 ^ b)) :: rest))) : W p l e R s m args below meth c H locs cells slots Q (F0 m pc ls (.int (nI b) :: .int (nI 1) :: rest)) := lv_ishl hexec hb hdg (zti ((z_shl h).trans (by rw [Nat.one_mul])) k)
theorem zi_shr (hexec : p.tables.exec = Jvm.exec) (hb : c.code = cc) {a b : Nat} (hdg : decode cc pc = .ok (.ishr, 1)) (ha : a < 2147483648) (h : b < 32) (k : W p l e R s m args below meth c H locs cells slots Q (F0 m (pc + 1) ls (.int (nI (a / 2 ^ b)) :: rest))) : W p l e R s m args below meth c H locs cells slots Q (F0 m pc ls (.int (nI b) :: .int (nI a) :: rest)) := lv_ishr hexec hb hdg (zti (z_shr ha h) k)
theorem zl_or (hexec : p.tables.exec = Jvm.exec) (hb : c.code = cc) {a b : Nat} (hdg : decode cc pc = .ok (.lor, 1)) (k : W p l e R s m args below meth c H locs cells slots Q (F0 m (pc + 1) ls (.long (lN (a ||| b)) :: rest))) : W p l e R s m args below meth c H locs cells slots Q (F0 m pc ls (.long (lN b) :: .long (lN a) :: rest)) := lv_lor hexec hb hdg (ztl (z_orL a b) k)
theorem zl_and (hexec : p.tables.exec = Jvm.exec) (hb : c.code = cc) {a b : Nat} (hdg : decode cc pc = .ok (.land, 1)) (k : W p l e R s m args below meth c H locs cells slots Q (F0 m (pc + 1) ls (.long (lN (a &&& b)) :: rest))) : W p l e R s m args below meth c H locs cells slots Q (F0 m pc ls (.long (lN b) :: .long (lN a) :: rest)) := lv_land hexec hb hdg (ztl (z_andL a b) k)
theorem zl_add (hexec : p.tables.exec = Jvm.exec) (hb : c.code = cc) {a b : Nat} (hdg : decode cc pc = .ok (.ladd, 1)) (k : W p l e R s m args below meth c H locs cells slots Q (F0 m (pc + 1) ls (.long (lN (a + b)) :: rest))) : W p l e R s m args below meth c H locs cells slots Q (F0 m pc ls (.long (lN b) :: .long (lN a) :: rest)) := lv_ladd hexec hb hdg (ztl (lN_add a b) k)
theorem zl_mul (hexec : p.tables.exec = Jvm.exec) (hb : c.code = cc) {a b : Nat} (hdg : decode cc pc = .ok (.lmul, 1)) (k : W p l e R s m args below meth c H locs cells slots Q (F0 m (pc + 1) ls (.long (lN (a * b)) :: rest))) : W p l e R s m args below meth c H locs cells slots Q (F0 m pc ls (.long (lN b) :: .long (lN a) :: rest)) := lv_lmul hexec hb hdg (ztl (lN_mul a b) k)
theorem zl_sub (hexec : p.tables.exec = Jvm.exec) (hb : c.code = cc) {a b : Nat} (hdg : decode cc pc = .ok (.lsub, 1)) (h : b ≤ a) (k : W p l e R s m args below meth c H locs cells slots Q (F0 m (pc + 1) ls (.long (lN (a - b)) :: rest))) : W p l e R s m args below meth c H locs cells slots Q (F0 m pc ls (.long (lN b) :: .long (lN a) :: rest)) := lv_lsub hexec hb hdg (ztl (lN_sub h) k)
theorem zl_div (hexec : p.tables.exec = Jvm.exec) (hb : c.code = cc) {a b : Nat} (hdg : decode cc pc = .ok (.ldiv, 1)) (ha : a < 9223372036854775808) (h0 : 0 < b) (h2 : b < 9223372036854775808) (k : W p l e R s m args below meth c H locs cells slots Q (F0 m (pc + 1) ls (.long (lN (a / b)) :: rest))) : W p l e R s m args below meth c H locs cells slots Q (F0 m pc ls (.long (lN b) :: .long (lN a) :: rest)) := lv_ldiv hexec hb hdg (fun q => by have h3 := congrArg Int64.toInt q; rw [z_lT h2, Int64.toInt_zero] at h3; omega) (ztl (pk_lDiv ha h0 h2) k)
theorem zl_rem (hexec : p.tables.exec = Jvm.exec) (hb : c.code = cc) {a b : Nat} (hdg : decode cc pc = .ok (.lrem, 1)) (ha : a < 9223372036854775808) (h0 : 0 < b) (h2 : b < 9223372036854775808) (k : W p l e R s m args below meth c H locs cells slots Q (F0 m (pc + 1) ls (.long (lN (a % b)) :: rest))) : W p l e R s m args below meth c H locs cells slots Q (F0 m pc ls (.long (lN b) :: .long (lN a) :: rest)) := lv_lrem hexec hb hdg (fun q => by have h3 := congrArg Int64.toInt q; rw [z_lT h2, Int64.toInt_zero] at h3; omega) (ztl (pk_lRem ha h0 h2) k)
theorem zl_shl (hexec : p.tables.exec = Jvm.exec) (hb : c.code = cc) {a b : Nat} (hdg : decode cc pc = .ok (.lshl, 1)) (h : b < 64) (k : W p l e R s m args below meth c H locs cells slots Q (F0 m (pc + 1) ls (.long (lN (a * 2 ^ b)) :: rest))) : W p l e R s m args below meth c H locs cells slots Q (F0 m pc ls (.int (nI b) :: .long (lN a) :: rest)) := lv_lshl hexec hb hdg (z_shlL a h) k
theorem zl_ushr (hexec : p.tables.exec = Jvm.exec) (hb : c.code = cc) {a b : Nat} (hdg : decode cc pc = .ok (.lushr, 1)) (ha : a < 18446744073709551616) (h : b < 64) (k : W p l e R s m args below meth c H locs cells slots Q (F0 m (pc + 1) ls (.long (lN (a / 2 ^ b)) :: rest))) : W p l e R s m args below meth c H locs cells slots Q (F0 m pc ls (.int (nI b) :: .long (lN a) :: rest)) := lv_lushr hexec hb hdg (z_ushrL ha h) k
theorem zc_eq {x y : Int32} {a b : Int} {off : Int} {tgt : Nat} (hexec : p.tables.exec = Jvm.exec) (hb : c.code = cc) (hdg : decode cc pc = .ok (.if_icmp .eq off, 3)) (ht : (pc : Int) + off = (tgt : Int)) (ha : x.toInt = a) (hb2 : y.toInt = b)
    (kt : a = b → W p l e R s m args below meth c H locs cells slots Q (F0 m tgt ls rest)) (kf : ¬ a = b → W p l e R s m args below meth c H locs cells slots Q (F0 m (pc + 3) ls rest)) : W p l e R s m args below meth c H locs cells slots Q (F0 m pc ls (.int y :: .int x :: rest)) := by
  subst ha; subst hb2
  exact lv_icmp_eq hexec hb hdg ht (fun q => kt (by simp only [Int32.lt_iff_toInt_lt, Int32.le_iff_toInt_le, ← Int32.toInt_inj, ne_eq] at q; omega)) (fun q => kf (by simp only [Int32.lt_iff_toInt_lt, Int32.le_iff_toInt_le, ← Int32.toInt_inj, ne_eq] at q; omega))
theorem zn_eq {a b : Nat} {off : Int} {tgt : Nat} (hexec : p.tables.exec = Jvm.exec) (hb : c.code = cc) (hdg : decode cc pc = .ok (.if_icmp .eq off, 3)) (ht : (pc : Int) + off = (tgt : Int)) (ha : a < 2147483648) (hb2 : b < 2147483648)
    (kt : a = b → W p l e R s m args below meth c H locs cells slots Q (F0 m tgt ls rest)) (kf : ¬ a = b → W p l e R s m args below meth c H locs cells slots Q (F0 m (pc + 3) ls rest)) : W p l e R s m args below meth c H locs cells slots Q (F0 m pc ls (.int (nI b) :: .int (nI a) :: rest)) :=
  zc_eq hexec hb hdg ht (zI ha) (zI hb2) (fun q => kt (by omega)) (fun q => kf (by omega))
theorem zd_eq {x : Int32} {a : Int} {off : Int} {tgt : Nat} (hexec : p.tables.exec = Jvm.exec) (hb : c.code = cc) (hdg : decode cc pc = .ok (.ifCond .eq off, 3)) (ht : (pc : Int) + off = (tgt : Int)) (ha : x.toInt = a)
    (kt : a = 0 → W p l e R s m args below meth c H locs cells slots Q (F0 m tgt ls rest)) (kf : ¬ a = 0 → W p l e R s m args below meth c H locs cells slots Q (F0 m (pc + 3) ls rest)) : W p l e R s m args below meth c H locs cells slots Q (F0 m pc ls (.int x :: rest)) := by
  subst ha
  exact lv_if_eq hexec hb hdg ht (fun q => kt (by simp only [Int32.lt_iff_toInt_lt, Int32.le_iff_toInt_le, ← Int32.toInt_inj, ne_eq, Int32.toInt_zero] at q; omega)) (fun q => kf (by simp only [Int32.lt_iff_toInt_lt, Int32.le_iff_toInt_le, ← Int32.toInt_inj, ne_eq, Int32.toInt_zero] at q; omega))
theorem zkk_eq_t {k j : Nat} {off : Int} {tgt : Nat} (hexec : p.tables.exec = Jvm.exec) (hb : c.code = cc) (hdg : decode cc pc = .ok (.if_icmp .eq off, 3)) (ht : (pc : Int) + off = (tgt : Int)) (h : (nI k) = (nI j)) (kt : W p l e R s m args below meth c H locs cells slots Q (F0 m tgt ls rest)) : W p l e R s m args below meth c H locs cells slots Q (F0 m pc ls (.int (nI j) :: .int (nI k) :: rest)) := lv_icmp_eq hexec hb hdg ht (fun _ => kt) (fun q => absurd h q)
theorem zkk_eq_f {k j : Nat} {off : Int} (hexec : p.tables.exec = Jvm.exec) (hb : c.code = cc) (hdg : decode cc pc = .ok (.if_icmp .eq off, 3)) (h : ¬ ((nI k) = (nI j)) ∧ 0 ≤ (pc : Int) + off) (kf : W p l e R s m args below meth c H locs cells slots Q (F0 m (pc + 3) ls rest)) : W p l e R s m args below meth c H locs cells slots Q (F0 m pc ls (.int (nI j) :: .int (nI k) :: rest)) := lv_icmp_eq (tgt := ((pc : Int) + off).toNat) hexec hb hdg (Int.toNat_of_nonneg h.2).symm (fun q => absurd q h.1) (fun _ => kf)
theorem zk_eq_t {k : Nat} {off : Int} {tgt : Nat} (hexec : p.tables.exec = Jvm.exec) (hb : c.code = cc) (hdg : decode cc pc = .ok (.ifCond .eq off, 3)) (ht : (pc : Int) + off = (tgt : Int)) (h : (nI k) = 0) (kt : W p l e R s m args below meth c H locs cells slots Q (F0 m tgt ls rest)) : W p l e R s m args below meth c H locs cells slots Q (F0 m pc ls (.int (nI k) :: rest)) := lv_if_eq hexec hb hdg ht (fun _ => kt) (fun q => absurd h q)
theorem zk_eq_f {k : Nat} {off : Int} (hexec : p.tables.exec = Jvm.exec) (hb : c.code = cc) (hdg : decode cc pc = .ok (.ifCond .eq off, 3)) (h : ¬ ((nI k) = 0) ∧ 0 ≤ (pc : Int) + off) (kf : W p l e R s m args below meth c H locs cells slots Q (F0 m (pc + 3) ls rest)) : W p l e R s m args below meth c H locs cells slots Q (F0 m pc ls (.int (nI k) :: rest)) := lv_if_eq (tgt := ((pc : Int) + off).toNat) hexec hb hdg (Int.toNat_of_nonneg h.2).symm (fun q => absurd q h.1) (fun _ => kf)
theorem zc_ne {x y : Int32} {a b : Int} {off : Int} {tgt : Nat} (hexec : p.tables.exec = Jvm.exec) (hb : c.code = cc) (hdg : decode cc pc = .ok (.if_icmp .ne off, 3)) (ht : (pc : Int) + off = (tgt : Int)) (ha : x.toInt = a) (hb2 : y.toInt = b)
    (kt : ¬ a = b → W p l e R s m args below meth c H locs cells slots Q (F0 m tgt ls rest)) (kf : a = b → W p l e R s m args below meth c H locs cells slots Q (F0 m (pc + 3) ls rest)) : W p l e R s m args below meth c H locs cells slots Q (F0 m pc ls (.int y :: .int x :: rest)) := by
  subst ha; subst hb2
  exact lv_icmp_ne hexec hb hdg ht (fun q => kt (by simp only [Int32.lt_iff_toInt_lt, Int32.le_iff_toInt_le, ← Int32.toInt_inj, ne_eq] at q; omega)) (fun q => kf (by simp only [Int32.lt_iff_toInt_lt, Int32.le_iff_toInt_le, ← Int32.toInt_inj, ne_eq] at q; omega))
theorem zn_ne {a b : Nat} {off : Int} {tgt : Nat} (hexec : p.tables.exec = Jvm.exec) (hb : c.code = cc) (hdg : decode cc pc = .ok (.if_icmp .ne off, 3)) (ht : (pc : Int) + off = (tgt : Int)) (ha : a < 2147483648) (hb2 : b < 2147483648)
    (kt : ¬ a = b → W p l e R s m args below meth c H locs cells slots Q (F0 m tgt ls rest)) (kf : a = b → W p l e R s m args below meth c H locs cells slots Q (F0 m (pc + 3) ls rest)) : W p l e R s m args below meth c H locs cells slots Q (F0 m pc ls (.int (nI b) :: .int (nI a) :: rest)) :=
  zc_ne hexec hb hdg ht (zI ha) (zI hb2) (fun q => kt (by omega)) (fun q => kf (by omega))
theorem zd_ne {x : Int32} {a : Int} {off : Int} {tgt : Nat} (hexec : p.tables.exec = Jvm.exec) (hb : c.code = cc) (hdg : decode cc pc = .ok (.ifCond .ne off, 3)) (ht : (pc : Int) + off = (tgt : Int)) (ha : x.toInt = a)
    (kt : ¬ a = 0 → W p l e R s m args below meth c H locs cells slots Q (F0 m tgt ls rest)) (kf : a = 0 → W p l e R s m args below meth c H locs cells slots Q (F0 m (pc + 3) ls rest)) : W p l e R s m args below meth c H locs cells slots Q (F0 m pc ls (.int x :: rest)) := by
  subst ha
  exact lv_if_ne hexec hb hdg ht (fun q => kt (by simp only [Int32.lt_iff_toInt_lt, Int32.le_iff_toInt_le, ← Int32.toInt_inj, ne_eq, Int32.toInt_zero] at q; omega)) (fun q => kf (by simp only [Int32.lt_iff_toInt_lt, Int32.le_iff_toInt_le, ← Int32.toInt_inj, ne_eq, Int32.toInt_zero] at q; omega))
theorem zkk_ne_t {k j : Nat} {off : Int} {tgt : Nat} (hexec : p.tables.exec = Jvm.exec) (hb : c.code = cc) (hdg : decode cc pc = .ok (.if_icmp .ne off, 3)) (ht : (pc : Int) + off = (tgt : Int)) (h : ¬ (nI k) = (nI j)) (kt : W p l e R s m args below meth c H locs cells slots Q (F0 m tgt ls rest)) : W p l e R s m args below meth c H locs cells slots Q (F0 m pc ls (.int (nI j) :: .int (nI k) :: rest)) := lv_icmp_ne hexec hb hdg ht (fun _ => kt) (fun q => absurd q h)
theorem zkk_ne_f {k j : Nat} {off : Int} (hexec : p.tables.exec = Jvm.exec) (hb : c.code = cc) (hdg : decode cc pc = .ok (.if_icmp .ne off, 3)) (h : ¬ (¬ (nI k) = (nI j)) ∧ 0 ≤ (pc : Int) + off) (kf : W p l e R s m args below meth c H locs cells slots Q (F0 m (pc + 3) ls rest)) : W p l e R s m args below meth c H locs cells slots Q (F0 m pc ls (.int (nI j) :: .int (nI k) :: rest)) := lv_icmp_ne (tgt := ((pc : Int) + off).toNat) hexec hb hdg (Int.toNat_of_nonneg h.2).symm (fun q => absurd q h.1) (fun _ => kf)
theorem zk_ne_t {k : Nat} {off : Int} {tgt : Nat} (hexec : p.tables.exec = Jvm.exec) (hb : c.code = cc) (hdg : decode cc pc = .ok (.ifCond .ne off, 3)) (ht : (pc : Int) + off = (tgt : Int)) (h : ¬ (nI k) = 0) (kt : W p l e R s m args below meth c H locs cells slots Q (F0 m tgt ls rest)) : W p l e R s m args below meth c H locs cells slots Q (F0 m pc ls (.int (nI k) :: rest)) := lv_if_ne hexec hb hdg ht (fun _ => kt) (fun q => absurd q h)
theorem zk_ne_f {k : Nat} {off : Int} (hexec : p.tables.exec = Jvm.exec) (hb : c.code = cc) (hdg : decode cc pc = .ok (.ifCond .ne off, 3)) (h : ¬ (¬ (nI k) = 0) ∧ 0 ≤ (pc : Int) + off) (kf : W p l e R s m args below meth c H locs cells slots Q (F0 m (pc + 3) ls rest)) : W p l e R s m args below meth c H locs cells slots Q (F0 m pc ls (.int (nI k) :: rest)) := lv_if_ne (tgt := ((pc : Int) + off).toNat) hexec hb hdg (Int.toNat_of_nonneg h.2).symm (fun q => absurd q h.1) (fun _ => kf)
theorem zc_lt {x y : Int32} {a b : Int} {off : Int} {tgt : Nat} (hexec : p.tables.exec = Jvm.exec) (hb : c.code = cc) (hdg : decode cc pc = .ok (.if_icmp .lt off, 3)) (ht : (pc : Int) + off = (tgt : Int)) (ha : x.toInt = a) (hb2 : y.toInt = b)
    (kt : a < b → W p l e R s m args below meth c H locs cells slots Q (F0 m tgt ls rest)) (kf : b ≤ a → W p l e R s m args below meth c H locs cells slots Q (F0 m (pc + 3) ls rest)) : W p l e R s m args below meth c H locs cells slots Q (F0 m pc ls (.int y :: .int x :: rest)) := by
  subst ha; subst hb2
  exact lv_icmp_lt hexec hb hdg ht (fun q => kt (by simp only [Int32.lt_iff_toInt_lt, Int32.le_iff_toInt_le, ← Int32.toInt_inj, ne_eq] at q; omega)) (fun q => kf (by simp only [Int32.lt_iff_toInt_lt, Int32.le_iff_toInt_le, ← Int32.toInt_inj, ne_eq] at q; omega))
theorem zn_lt {a b : Nat} {off : Int} {tgt : Nat} (hexec : p.tables.exec = Jvm.exec) (hb : c.code = cc) (hdg : decode cc pc = .ok (.if_icmp .lt off, 3)) (ht : (pc : Int) + off = (tgt : Int)) (ha : a < 2147483648) (hb2 : b < 2147483648)
    (kt : a < b → W p l e R s m args below meth c H locs cells slots Q (F0 m tgt ls rest)) (kf : b ≤ a → W p l e R s m args below meth c H locs cells slots Q (F0 m (pc + 3) ls rest)) : W p l e R s m args below meth c H locs cells slots Q (F0 m pc ls (.int (nI b) :: .int (nI a) :: rest)) :=
  zc_lt hexec hb hdg ht (zI ha) (zI hb2) (fun q => kt (by omega)) (fun q => kf (by omega))
theorem zd_lt {x : Int32} {a : Int} {off : Int} {tgt : Nat} (hexec : p.tables.exec = Jvm.exec) (hb : c.code = cc) (hdg : decode cc pc = .ok (.ifCond .lt off, 3)) (ht : (pc : Int) + off = (tgt : Int)) (ha : x.toInt = a)
    (kt : a < 0 → W p l e R s m args below meth c H locs cells slots Q (F0 m tgt ls rest)) (kf : 0 ≤ a → W p l e R s m args below meth c H locs cells slots Q (F0 m (pc + 3) ls rest)) : W p l e R s m args below meth c H locs cells slots Q (F0 m pc ls (.int x :: rest)) := by
  subst ha
  exact lv_if_lt hexec hb hdg ht (fun q => kt (by simp only [Int32.lt_iff_toInt_lt, Int32.le_iff_toInt_le, ← Int32.toInt_inj, ne_eq, Int32.toInt_zero] at q; omega)) (fun q => kf (by simp only [Int32.lt_iff_toInt_lt, Int32.le_iff_toInt_le, ← Int32.toInt_inj, ne_eq, Int32.toInt_zero] at q; omega))
theorem zkk_lt_t {k j : Nat} {off : Int} {tgt : Nat} (hexec : p.tables.exec = Jvm.exec) (hb : c.code = cc) (hdg : decode cc pc = .ok (.if_icmp .lt off, 3)) (ht : (pc : Int) + off = (tgt : Int)) (h : (nI k) < (nI j)) (kt : W p l e R s m args below meth c H locs cells slots Q (F0 m tgt ls rest)) : W p l e R s m args below meth c H locs cells slots Q (F0 m pc ls (.int (nI j) :: .int (nI k) :: rest)) := lv_icmp_lt hexec hb hdg ht (fun _ => kt) (fun q => absurd h q)
theorem zkk_lt_f {k j : Nat} {off : Int} (hexec : p.tables.exec = Jvm.exec) (hb : c.code = cc) (hdg : decode cc pc = .ok (.if_icmp .lt off, 3)) (h : ¬ ((nI k) < (nI j)) ∧ 0 ≤ (pc : Int) + off) (kf : W p l e R s m args below meth c H locs cells slots Q (F0 m (pc + 3) ls rest)) : W p l e R s m args below meth c H locs cells slots Q (F0 m pc ls (.int (nI j) :: .int (nI k) :: rest)) := lv_icmp_lt (tgt := ((pc : Int) + off).toNat) hexec hb hdg (Int.toNat_of_nonneg h.2).symm (fun q => absurd q h.1) (fun _ => kf)
theorem zk_lt_t {k : Nat} {off : Int} {tgt : Nat} (hexec : p.tables.exec = Jvm.exec) (hb : c.code = cc) (hdg : decode cc pc = .ok (.ifCond .lt off, 3)) (ht : (pc : Int) + off = (tgt : Int)) (h : (nI k) < 0) (kt : W p l e R s m args below meth c H locs cells slots Q (F0 m tgt ls rest)) : W p l e R s m args below meth c H locs cells slots Q (F0 m pc ls (.int (nI k) :: rest)) := lv_if_lt hexec hb hdg ht (fun _ => kt) (fun q => absurd h q)
theorem zk_lt_f {k : Nat} {off : Int} (hexec : p.tables.exec = Jvm.exec) (hb : c.code = cc) (hdg : decode cc pc = .ok (.ifCond .lt off, 3)) (h : ¬ ((nI k) < 0) ∧ 0 ≤ (pc : Int) + off) (kf : W p l e R s m args below meth c H locs cells slots Q (F0 m (pc + 3) ls rest)) : W p l e R s m args below meth c H locs cells slots Q (F0 m pc ls (.int (nI k) :: rest)) := lv_if_lt (tgt := ((pc : Int) + off).toNat) hexec hb hdg (Int.toNat_of_nonneg h.2).symm (fun q => absurd q h.1) (fun _ => kf)
theorem zc_ge {x y : Int32} {a b : Int} {off : Int} {tgt : Nat} (hexec : p.tables.exec = Jvm.exec) (hb : c.code = cc) (hdg : decode cc pc = .ok (.if_icmp .ge off, 3)) (ht : (pc : Int) + off = (tgt : Int)) (ha : x.toInt = a) (hb2 : y.toInt = b)
    (kt : b ≤ a → W p l e R s m args below meth c H locs cells slots Q (F0 m tgt ls rest)) (kf : a < b → W p l e R s m args below meth c H locs cells slots Q (F0 m (pc + 3) ls rest)) : W p l e R s m args below meth c H locs cells slots Q (F0 m pc ls (.int y :: .int x :: rest)) := by
  subst ha; subst hb2
  exact lv_icmp_ge hexec hb hdg ht (fun q => kt (by simp only [Int32.lt_iff_toInt_lt, Int32.le_iff_toInt_le, ← Int32.toInt_inj, ne_eq] at q; omega)) (fun q => kf (by simp only [Int32.lt_iff_toInt_lt, Int32.le_iff_toInt_le, ← Int32.toInt_inj, ne_eq] at q; omega))
theorem zn_ge {a b : Nat} {off : Int} {tgt : Nat} (hexec : p.tables.exec = Jvm.exec) (hb : c.code = cc) (hdg : decode cc pc = .ok (.if_icmp .ge off, 3)) (ht : (pc : Int) + off = (tgt : Int)) (ha : a < 2147483648) (hb2 : b < 2147483648)
    (kt : b ≤ a → W p l e R s m args below meth c H locs cells slots Q (F0 m tgt ls rest)) (kf : a < b → W p l e R s m args below meth c H locs cells slots Q (F0 m (pc + 3) ls rest)) : W p l e R s m args below meth c H locs cells slots Q (F0 m pc ls (.int (nI b) :: .int (nI a) :: rest)) :=
  zc_ge hexec hb hdg ht (zI ha) (zI hb2) (fun q => kt (by omega)) (fun q => kf (by omega))
theorem zd_ge {x : Int32} {a : Int} {off : Int} {tgt : Nat} (hexec : p.tables.exec = Jvm.exec) (hb : c.code = cc) (hdg : decode cc pc = .ok (.ifCond .ge off, 3)) (ht : (pc : Int) + off = (tgt : Int)) (ha : x.toInt = a)
    (kt : 0 ≤ a → W p l e R s m args below meth c H locs cells slots Q (F0 m tgt ls rest)) (kf : a < 0 → W p l e R s m args below meth c H locs cells slots Q (F0 m (pc + 3) ls rest)) : W p l e R s m args below meth c H locs cells slots Q (F0 m pc ls (.int x :: rest)) := by
  subst ha
  exact lv_if_ge hexec hb hdg ht (fun q => kt (by simp only [Int32.lt_iff_toInt_lt, Int32.le_iff_toInt_le, ← Int32.toInt_inj, ne_eq, Int32.toInt_zero] at q; omega)) (fun q => kf (by simp only [Int32.lt_iff_toInt_lt, Int32.le_iff_toInt_le, ← Int32.toInt_inj, ne_eq, Int32.toInt_zero] at q; omega))
theorem zkk_ge_t {k j : Nat} {off : Int} {tgt : Nat} (hexec : p.tables.exec = Jvm.exec) (hb : c.code = cc) (hdg : decode cc pc = .ok (.if_icmp .ge off, 3)) (ht : (pc : Int) + off = (tgt : Int)) (h : (nI j) ≤ (nI k)) (kt : W p l e R s m args below meth c H locs cells slots Q (F0 m tgt ls rest)) : W p l e R s m args below meth c H locs cells slots Q (F0 m pc ls (.int (nI j) :: .int (nI k) :: rest)) := lv_icmp_ge hexec hb hdg ht (fun _ => kt) (fun q => absurd h q)
theorem zkk_ge_f {k j : Nat} {off : Int} (hexec : p.tables.exec = Jvm.exec) (hb : c.code = cc) (hdg : decode cc pc = .ok (.if_icmp .ge off, 3)) (h : ¬ ((nI j) ≤ (nI k)) ∧ 0 ≤ (pc : Int) + off) (kf : W p l e R s m args below meth c H locs cells slots Q (F0 m (pc + 3) ls rest)) : W p l e R s m args below meth c H locs cells slots Q (F0 m pc ls (.int (nI j) :: .int (nI k) :: rest)) := lv_icmp_ge (tgt := ((pc : Int) + off).toNat) hexec hb hdg (Int.toNat_of_nonneg h.2).symm (fun q => absurd q h.1) (fun _ => kf)
theorem zk_ge_t {k : Nat} {off : Int} {tgt : Nat} (hexec : p.tables.exec = Jvm.exec) (hb : c.code = cc) (hdg : decode cc pc = .ok (.ifCond .ge off, 3)) (ht : (pc : Int) + off = (tgt : Int)) (h : 0 ≤ (nI k)) (kt : W p l e R s m args below meth c H locs cells slots Q (F0 m tgt ls rest)) : W p l e R s m args below meth c H locs cells slots Q (F0 m pc ls (.int (nI k) :: rest)) := lv_if_ge hexec hb hdg ht (fun _ => kt) (fun q => absurd h q)
theorem zk_ge_f {k : Nat} {off : Int} (hexec : p.tables.exec = Jvm.exec) (hb : c.code = cc) (hdg : decode cc pc = .ok (.ifCond .ge off, 3)) (h : ¬ (0 ≤ (nI k)) ∧ 0 ≤ (pc : Int) + off) (kf : W p l e R s m args below meth c H locs cells slots Q (F0 m (pc + 3) ls rest)) : W p l e R s m args below meth c H locs cells slots Q (F0 m pc ls (.int (nI k) :: rest)) := lv_if_ge (tgt := ((pc : Int) + off).toNat) hexec hb hdg (Int.toNat_of_nonneg h.2).symm (fun q => absurd q h.1) (fun _ => kf)
theorem zc_gt {x y : Int32} {a b : Int} {off : Int} {tgt : Nat} (hexec : p.tables.exec = Jvm.exec) (hb : c.code = cc) (hdg : decode cc pc = .ok (.if_icmp .gt off, 3)) (ht : (pc : Int) + off = (tgt : Int)) (ha : x.toInt = a) (hb2 : y.toInt = b)
    (kt : b < a → W p l e R s m args below meth c H locs cells slots Q (F0 m tgt ls rest)) (kf : a ≤ b → W p l e R s m args below meth c H locs cells slots Q (F0 m (pc + 3) ls rest)) : W p l e R s m args below meth c H locs cells slots Q (F0 m pc ls (.int y :: .int x :: rest)) := by
  subst ha; subst hb2
  exact lv_icmp_gt hexec hb hdg ht (fun q => kt (by simp only [Int32.lt_iff_toInt_lt, Int32.le_iff_toInt_le, ← Int32.toInt_inj, ne_eq] at q; omega)) (fun q => kf (by simp only [Int32.lt_iff_toInt_lt, Int32.le_iff_toInt_le, ← Int32.toInt_inj, ne_eq] at q; omega))
theorem zn_gt {a b : Nat} {off : Int} {tgt : Nat} (hexec : p.tables.exec = Jvm.exec) (hb : c.code = cc) (hdg : decode cc pc = .ok (.if_icmp .gt off, 3)) (ht : (pc : Int) + off = (tgt : Int)) (ha : a < 2147483648) (hb2 : b < 2147483648)
    (kt : b < a → W p l e R s m args below meth c H locs cells slots Q (F0 m tgt ls rest)) (kf : a ≤ b → W p l e R s m args below meth c H locs cells slots Q (F0 m (pc + 3) ls rest)) : W p l e R s m args below meth c H locs cells slots Q (F0 m pc ls (.int (nI b) :: .int (nI a) :: rest)) :=
  zc_gt hexec hb hdg ht (zI ha) (zI hb2) (fun q => kt (by omega)) (fun q => kf (by omega))
theorem zd_gt {x : Int32} {a : Int} {off : Int} {tgt : Nat} (hexec : p.tables.exec = Jvm.exec) (hb : c.code = cc) (hdg : decode cc pc = .ok (.ifCond .gt off, 3)) (ht : (pc : Int) + off = (tgt : Int)) (ha : x.toInt = a)
    (kt : 0 < a → W p l e R s m args below meth c H locs cells slots Q (F0 m tgt ls rest)) (kf : a ≤ 0 → W p l e R s m args below meth c H locs cells slots Q (F0 m (pc + 3) ls rest)) : W p l e R s m args below meth c H locs cells slots Q (F0 m pc ls (.int x :: rest)) := by
  subst ha
  exact lv_if_gt hexec hb hdg ht (fun q => kt (by simp only [Int32.lt_iff_toInt_lt, Int32.le_iff_toInt_le, ← Int32.toInt_inj, ne_eq, Int32.toInt_zero] at q; omega)) (fun q => kf (by simp only [Int32.lt_iff_toInt_lt, Int32.le_iff_toInt_le, ← Int32.toInt_inj, ne_eq, Int32.toInt_zero] at q; omega))
theorem zkk_gt_t {k j : Nat} {off : Int} {tgt : Nat} (hexec : p.tables.exec = Jvm.exec) (hb : c.code = cc) (hdg : decode cc pc = .ok (.if_icmp .gt off, 3)) (ht : (pc : Int) + off = (tgt : Int)) (h : (nI j) < (nI k)) (kt : W p l e R s m args below meth c H locs cells slots Q (F0 m tgt ls rest)) : W p l e R s m args below meth c H locs cells slots Q (F0 m pc ls (.int (nI j) :: .int (nI k) :: rest)) := lv_icmp_gt hexec hb hdg ht (fun _ => kt) (fun q => absurd h q)
theorem zkk_gt_f {k j : Nat} {off : Int} (hexec : p.tables.exec = Jvm.exec) (hb : c.code = cc) (hdg : decode cc pc = .ok (.if_icmp .gt off, 3)) (h : ¬ ((nI j) < (nI k)) ∧ 0 ≤ (pc : Int) + off) (kf : W p l e R s m args below meth c H locs cells slots Q (F0 m (pc + 3) ls rest)) : W p l e R s m args below meth c H locs cells slots Q (F0 m pc ls (.int (nI j) :: .int (nI k) :: rest)) := lv_icmp_gt (tgt := ((pc : Int) + off).toNat) hexec hb hdg (Int.toNat_of_nonneg h.2).symm (fun q => absurd q h.1) (fun _ => kf)
theorem zk_gt_t {k : Nat} {off : Int} {tgt : Nat} (hexec : p.tables.exec = Jvm.exec) (hb : c.code = cc) (hdg : decode cc pc = .ok (.ifCond .gt off, 3)) (ht : (pc : Int) + off = (tgt : Int)) (h : 0 < (nI k)) (kt : W p l e R s m args below meth c H locs cells slots Q (F0 m tgt ls rest)) : W p l e R s m args below meth c H locs cells slots Q (F0 m pc ls (.int (nI k) :: rest)) := lv_if_gt hexec hb hdg ht (fun _ => kt) (fun q => absurd h q)
theorem zk_gt_f {k : Nat} {off : Int} (hexec : p.tables.exec = Jvm.exec) (hb : c.code = cc) (hdg : decode cc pc = .ok (.ifCond .gt off, 3)) (h : ¬ (0 < (nI k)) ∧ 0 ≤ (pc : Int) + off) (kf : W p l e R s m args below meth c H locs cells slots Q (F0 m (pc + 3) ls rest)) : W p l e R s m args below meth c H locs cells slots Q (F0 m pc ls (.int (nI k) :: rest)) := lv_if_gt (tgt := ((pc : Int) + off).toNat) hexec hb hdg (Int.toNat_of_nonneg h.2).symm (fun q => absurd q h.1) (fun _ => kf)
theorem zc_le {x y : Int32} {a b : Int} {off : Int} {tgt : Nat} (hexec : p.tables.exec = Jvm.exec) (hb : c.code = cc) (hdg : decode cc pc = .ok (.if_icmp .le off, 3)) (ht : (pc : Int) + off = (tgt : Int)) (ha : x.toInt = a) (hb2 : y.toInt = b)
    (kt : a ≤ b → W p l e R s m args below meth c H locs cells slots Q (F0 m tgt ls rest)) (kf : b < a → W p l e R s m args below meth c H locs cells slots Q (F0 m (pc + 3) ls rest)) : W p l e R s m args below meth c H locs cells slots Q (F0 m pc ls (.int y :: .int x :: rest)) := by
  subst ha; subst hb2
  exact lv_icmp_le hexec hb hdg ht (fun q => kt (by simp only [Int32.lt_iff_toInt_lt, Int32.le_iff_toInt_le, ← Int32.toInt_inj, ne_eq] at q; omega)) (fun q => kf (by simp only [Int32.lt_iff_toInt_lt, Int32.le_iff_toInt_le, ← Int32.toInt_inj, ne_eq] at q; omega))
theorem zn_le {a b : Nat} {off : Int} {tgt : Nat} (hexec : p.tables.exec = Jvm.exec) (hb : c.code = cc) (hdg : decode cc pc = .ok (.if_icmp .le off, 3)) (ht : (pc : Int) + off = (tgt : Int)) (ha : a < 2147483648) (hb2 : b < 2147483648)
    (kt : a ≤ b → W p l e R s m args below meth c H locs cells slots Q (F0 m tgt ls rest)) (kf : b < a → W p l e R s m args below meth c H locs cells slots Q (F0 m (pc + 3) ls rest)) : W p l e R s m args below meth c H locs cells slots Q (F0 m pc ls (.int (nI b) :: .int (nI a) :: rest)) :=
  zc_le hexec hb hdg ht (zI ha) (zI hb2) (fun q => kt (by omega)) (fun q => kf (by omega))
theorem zd_le {x : Int32} {a : Int} {off : Int} {tgt : Nat} (hexec : p.tables.exec = Jvm.exec) (hb : c.code = cc) (hdg : decode cc pc = .ok (.ifCond .le off, 3)) (ht : (pc : Int) + off = (tgt : Int)) (ha : x.toInt = a)
    (kt : a ≤ 0 → W p l e R s m args below meth c H locs cells slots Q (F0 m tgt ls rest)) (kf : 0 < a → W p l e R s m args below meth c H locs cells slots Q (F0 m (pc + 3) ls rest)) : W p l e R s m args below meth c H locs cells slots Q (F0 m pc ls (.int x :: rest)) := by
  subst ha
  exact lv_if_le hexec hb hdg ht (fun q => kt (by simp only [Int32.lt_iff_toInt_lt, Int32.le_iff_toInt_le, ← Int32.toInt_inj, ne_eq, Int32.toInt_zero] at q; omega)) (fun q => kf (by simp only [Int32.lt_iff_toInt_lt, Int32.le_iff_toInt_le, ← Int32.toInt_inj, ne_eq, Int32.toInt_zero] at q; omega))
theorem zkk_le_t {k j : Nat} {off : Int} {tgt : Nat} (hexec : p.tables.exec = Jvm.exec) (hb : c.code = cc) (hdg : decode cc pc = .ok (.if_icmp .le off, 3)) (ht : (pc : Int) + off = (tgt : Int)) (h : (nI k) ≤ (nI j)) (kt : W p l e R s m args below meth c H locs cells slots Q (F0 m tgt ls rest)) : W p l e R s m args below meth c H locs cells slots Q (F0 m pc ls (.int (nI j) :: .int (nI k) :: rest)) := lv_icmp_le hexec hb hdg ht (fun _ => kt) (fun q => absurd h q)
theorem zkk_le_f {k j : Nat} {off : Int} (hexec : p.tables.exec = Jvm.exec) (hb : c.code = cc) (hdg : decode cc pc = .ok (.if_icmp .le off, 3)) (h : ¬ ((nI k) ≤ (nI j)) ∧ 0 ≤ (pc : Int) + off) (kf : W p l e R s m args below meth c H locs cells slots Q (F0 m (pc + 3) ls rest)) : W p l e R s m args below meth c H locs cells slots Q (F0 m pc ls (.int (nI j) :: .int (nI k) :: rest)) := lv_icmp_le (tgt := ((pc : Int) + off).toNat) hexec hb hdg (Int.toNat_of_nonneg h.2).symm (fun q => absurd q h.1) (fun _ => kf)
theorem zk_le_t {k : Nat} {off : Int} {tgt : Nat} (hexec : p.tables.exec = Jvm.exec) (hb : c.code = cc) (hdg : decode cc pc = .ok (.ifCond .le off, 3)) (ht : (pc : Int) + off = (tgt : Int)) (h : (nI k) ≤ 0) (kt : W p l e R s m args below meth c H locs cells slots Q (F0 m tgt ls rest)) : W p l e R s m args below meth c H locs cells slots Q (F0 m pc ls (.int (nI k) :: rest)) := lv_if_le hexec hb hdg ht (fun _ => kt) (fun q => absurd h q)
theorem zk_le_f {k : Nat} {off : Int} (hexec : p.tables.exec = Jvm.exec) (hb : c.code = cc) (hdg : decode cc pc = .ok (.ifCond .le off, 3)) (h : ¬ ((nI k) ≤ 0) ∧ 0 ≤ (pc : Int) + off) (kf : W p l e R s m args below meth c H locs cells slots Q (F0 m (pc + 3) ls rest)) : W p l e R s m args below meth c H locs cells slots Q (F0 m pc ls (.int (nI k) :: rest)) := lv_if_le (tgt := ((pc : Int) + off).toNat) hexec hb hdg (Int.toNat_of_nonneg h.2).symm (fun q => absurd q h.1) (fun _ => kf)
theorem zb_eq {P : Prop} [Decidable P] {off : Int} {tgt : Nat} (hexec : p.tables.exec = Jvm.exec) (hb : c.code = cc) (hdg : decode cc pc = .ok (.ifCond .eq off, 3)) (ht : (pc : Int) + off = (tgt : Int)) (kt : ¬ P → W p l e R s m args below meth c H locs cells slots Q (F0 m tgt ls rest)) (kf : P → W p l e R s m args below meth c H locs cells slots Q (F0 m (pc + 3) ls rest)) : W p l e R s m args below meth c H locs cells slots Q (F0 m pc ls (.int (bI (decide P)) :: rest)) :=
  lv_if_eq hexec hb hdg ht (fun q => kt (fun h => by simp [bI, h] at q)) (fun q => kf (Classical.byContradiction fun h => q (by simp [bI, h])))
theorem zb_ne {P : Prop} [Decidable P] {off : Int} {tgt : Nat} (hexec : p.tables.exec = Jvm.exec) (hb : c.code = cc) (hdg : decode cc pc = .ok (.ifCond .ne off, 3)) (ht : (pc : Int) + off = (tgt : Int)) (kt : P → W p l e R s m args below meth c H locs cells slots Q (F0 m tgt ls rest)) (kf : ¬ P → W p l e R s m args below meth c H locs cells slots Q (F0 m (pc + 3) ls rest)) : W p l e R s m args below meth c H locs cells slots Q (F0 m pc ls (.int (bI (decide P)) :: rest)) :=
  lv_if_ne hexec hb hdg ht (fun q => kt (Classical.byContradiction fun h => q (by simp [bI, h]))) (fun q => kf (fun h => by simp [bI, h] at q))
theorem bI_inj {a b : Bool} : bI a = bI b ↔ a = b := by cases a <;> cases b <;> simp [bI]
theorem zbb_ne {P P2 : Prop} [Decidable P] [Decidable P2] {off : Int} {tgt : Nat} (hexec : p.tables.exec = Jvm.exec) (hb : c.code = cc) (hdg : decode cc pc = .ok (.if_icmp .ne off, 3)) (ht : (pc : Int) + off = (tgt : Int)) (kt : ¬ (P ↔ P2) → W p l e R s m args below meth c H locs cells slots Q (F0 m tgt ls rest)) (kf : (P ↔ P2) → W p l e R s m args below meth c H locs cells slots Q (F0 m (pc + 3) ls rest)) : W p l e R s m args below meth c H locs cells slots Q (F0 m pc ls (.int (bI (decide P2)) :: .int (bI (decide P)) :: rest)) :=
  lv_icmp_ne hexec hb hdg ht (fun q => kt (fun h => q (bI_inj.mpr (decide_eq_decide.mpr h)))) (fun q => kf (by rw [bI_inj, decide_eq_decide] at q; exact q))
theorem zbb_eq {P P2 : Prop} [Decidable P] [Decidable P2] {off : Int} {tgt : Nat} (hexec : p.tables.exec = Jvm.exec) (hb : c.code = cc) (hdg : decode cc pc = .ok (.if_icmp .eq off, 3)) (ht : (pc : Int) + off = (tgt : Int)) (kt : (P ↔ P2) → W p l e R s m args below meth c H locs cells slots Q (F0 m tgt ls rest)) (kf : ¬ (P ↔ P2) → W p l e R s m args below meth c H locs cells slots Q (F0 m (pc + 3) ls rest)) : W p l e R s m args below meth c H locs cells slots Q (F0 m pc ls (.int (bI (decide P2)) :: .int (bI (decide P)) :: rest)) :=
  lv_icmp_eq hexec hb hdg ht (fun q => kt (by rw [bI_inj, decide_eq_decide] at q; exact q)) (fun q => kf (fun h => q (bI_inj.mpr (decide_eq_decide.mpr h))))
theorem zb1_ne_1 {P : Prop} [Decidable P] {off : Int} {tgt : Nat} (hexec : p.tables.exec = Jvm.exec) (hb : c.code = cc) (hdg : decode cc pc = .ok (.if_icmp .ne off, 3)) (ht : (pc : Int) + off = (tgt : Int)) (kt : ¬ P → W p l e R s m args below meth c H locs cells slots Q (F0 m tgt ls rest)) (kf : P → W p l e R s m args below meth c H locs cells slots Q (F0 m (pc + 3) ls rest)) : W p l e R s m args below meth c H locs cells slots Q (F0 m pc ls (.int (nI 1) :: .int (bI (decide P)) :: rest)) :=
  lv_icmp_ne hexec hb hdg ht (fun q => kt (fun h => q (by simp [bI, h]; decide))) (fun q => kf (Classical.byContradiction fun h => by simp [bI, h] at q; revert q; decide))
theorem zb1_ne_0 {P : Prop} [Decidable P] {off : Int} {tgt : Nat} (hexec : p.tables.exec = Jvm.exec) (hb : c.code = cc) (hdg : decode cc pc = .ok (.if_icmp .ne off, 3)) (ht : (pc : Int) + off = (tgt : Int)) (kt : P → W p l e R s m args below meth c H locs cells slots Q (F0 m tgt ls rest)) (kf : ¬ P → W p l e R s m args below meth c H locs cells slots Q (F0 m (pc + 3) ls rest)) : W p l e R s m args below meth c H locs cells slots Q (F0 m pc ls (.int (nI 0) :: .int (bI (decide P)) :: rest)) :=
  lv_icmp_ne hexec hb hdg ht (fun q => kt (Classical.byContradiction fun h => q (by simp [bI, h]; decide))) (fun q => kf (fun h => by simp [bI, h] at q; revert q; decide))
theorem zll_ne {a b : Nat} {off : Int} {tgt : Nat} (hexec : p.tables.exec = Jvm.exec) (hb : c.code = cc) (hdg : decode cc pc = .ok (.lcmp, 1)) (hdg2 : decode cc (pc + 1) = .ok (.ifCond .ne off, 3)) (ht : ((pc + 1 : Nat) : Int) + off = (tgt : Int)) (ha : a < 18446744073709551616) (hb2 : b < 18446744073709551616) (kt : ¬ a = b → W p l e R s m args below meth c H locs cells slots Q (F0 m tgt ls rest)) (kf : a = b → W p l e R s m args below meth c H locs cells slots Q (F0 m (pc + 4) ls rest)) : W p l e R s m args below meth c H locs cells slots Q (F0 m pc ls (.long (lN b) :: .long (lN a) :: rest)) :=
  W.lcmp hexec hb hdg (lv_if_ne hexec hb hdg2 ht (fun q => kt (fun h => q ((z_lcmp _ _).1.mpr (by rw [h])))) (fun q => kf (by
    rw [(z_lcmp _ _).1] at q
    have h := congrArg (fun z => z.toBitVec.toNat) q
    change (BitVec.ofNat 64 a).toNat = (BitVec.ofNat 64 b).toNat at h
    rw [BitVec.toNat_ofNat, BitVec.toNat_ofNat, Nat.mod_eq_of_lt ha, Nat.mod_eq_of_lt hb2] at h
    exact h)))
theorem zl_ne {x y : Int64} {off : Int} {tgt : Nat} (hexec : p.tables.exec = Jvm.exec) (hb : c.code = cc) (hdg : decode cc pc = .ok (.lcmp, 1)) (hdg2 : decode cc (pc + 1) = .ok (.ifCond .ne off, 3)) (ht : ((pc + 1 : Nat) : Int) + off = (tgt : Int)) (kt : ¬ x = y → W p l e R s m args below meth c H locs cells slots Q (F0 m tgt ls rest)) (kf : x = y → W p l e R s m args below meth c H locs cells slots Q (F0 m (pc + 4) ls rest)) : W p l e R s m args below meth c H locs cells slots Q (F0 m pc ls (.long y :: .long x :: rest)) :=
  W.lcmp hexec hb hdg (lv_if_ne hexec hb hdg2 ht (fun q => kt (fun h => q ((z_lcmp _ _).1.mpr h))) (fun q => kf (by rw [(z_lcmp _ _).1] at q; exact q)))
theorem zl_eq {x y : Int64} {off : Int} {tgt : Nat} (hexec : p.tables.exec = Jvm.exec) (hb : c.code = cc) (hdg : decode cc pc = .ok (.lcmp, 1)) (hdg2 : decode cc (pc + 1) = .ok (.ifCond .eq off, 3)) (ht : ((pc + 1 : Nat) : Int) + off = (tgt : Int)) (kt : x = y → W p l e R s m args below meth c H locs cells slots Q (F0 m tgt ls rest)) (kf : ¬ x = y → W p l e R s m args below meth c H locs cells slots Q (F0 m (pc + 4) ls rest)) : W p l e R s m args below meth c H locs cells slots Q (F0 m pc ls (.long y :: .long x :: rest)) :=
  W.lcmp hexec hb hdg (lv_if_eq hexec hb hdg2 ht (fun q => kt ((z_lcmp _ _).1.mp q)) (fun q => kf (fun h => q ((z_lcmp _ _).1.mpr h))))
theorem zl_lt {x y : Int64} {off : Int} {tgt : Nat} (hexec : p.tables.exec = Jvm.exec) (hb : c.code = cc) (hdg : decode cc pc = .ok (.lcmp, 1)) (hdg2 : decode cc (pc + 1) = .ok (.ifCond .lt off, 3)) (ht : ((pc + 1 : Nat) : Int) + off = (tgt : Int)) (kt : x.toInt < y.toInt → W p l e R s m args below meth c H locs cells slots Q (F0 m tgt ls rest)) (kf : y.toInt ≤ x.toInt → W p l e R s m args below meth c H locs cells slots Q (F0 m (pc + 4) ls rest)) : W p l e R s m args below meth c H locs cells slots Q (F0 m pc ls (.long y :: .long x :: rest)) :=
  W.lcmp hexec hb hdg (lv_if_lt hexec hb hdg2 ht (fun q => kt (Int64.lt_iff_toInt_lt.mp ((z_lcmp _ _).2.1.mp q))) (fun q => kf (by rw [(z_lcmp _ _).2.1, Int64.lt_iff_toInt_lt] at q; omega)))
theorem zl_gt {x y : Int64} {off : Int} {tgt : Nat} (hexec : p.tables.exec = Jvm.exec) (hb : c.code = cc) (hdg : decode cc pc = .ok (.lcmp, 1)) (hdg2 : decode cc (pc + 1) = .ok (.ifCond .gt off, 3)) (ht : ((pc + 1 : Nat) : Int) + off = (tgt : Int)) (kt : y.toInt < x.toInt → W p l e R s m args below meth c H locs cells slots Q (F0 m tgt ls rest)) (kf : x.toInt ≤ y.toInt → W p l e R s m args below meth c H locs cells slots Q (F0 m (pc + 4) ls rest)) : W p l e R s m args below meth c H locs cells slots Q (F0 m pc ls (.long y :: .long x :: rest)) :=
  W.lcmp hexec hb hdg (lv_if_gt hexec hb hdg2 ht (fun q => kt (Int64.lt_iff_toInt_lt.mp ((z_lcmp _ _).2.2.mp q))) (fun q => kf (by rw [(z_lcmp _ _).2.2, Int64.lt_iff_toInt_lt] at q; omega)))
theorem zl_ge {x y : Int64} {off : Int} {tgt : Nat} (hexec : p.tables.exec = Jvm.exec) (hb : c.code = cc) (hdg : decode cc pc = .ok (.lcmp, 1)) (hdg2 : decode cc (pc + 1) = .ok (.ifCond .ge off, 3)) (ht : ((pc + 1 : Nat) : Int) + off = (tgt : Int)) (kt : y.toInt ≤ x.toInt → W p l e R s m args below meth c H locs cells slots Q (F0 m tgt ls rest)) (kf : x.toInt < y.toInt → W p l e R s m args below meth c H locs cells slots Q (F0 m (pc + 4) ls rest)) : W p l e R s m args below meth c H locs cells slots Q (F0 m pc ls (.long y :: .long x :: rest)) :=
  W.lcmp hexec hb hdg (lv_if_ge hexec hb hdg2 ht (fun q => kt (by have h := (z_lcmp x y).2.1; rw [Int64.lt_iff_toInt_lt, Int32.lt_iff_toInt_lt] at h; rw [Int32.le_iff_toInt_le] at q; omega)) (fun q => kf (by have h := (z_lcmp x y).2.1; rw [Int64.lt_iff_toInt_lt, Int32.lt_iff_toInt_lt] at h; rw [Int32.le_iff_toInt_le] at q; omega)))
theorem zi_ald {a i n : Nat} {f : Nat → Nat} (hexec : p.tables.exec = Jvm.exec) (hb : c.code = cc) (hK : va_K G.1 vwCl (zT G) s) (hP : va_P G.1 vwCl w H) (q0 : Nat) (ha : w[q0]? = some (zA G a n f)) (hi : i < n) (hn : n < 2147483648) (hdg : decode cc pc = .ok (.iaload, 1))
    (kk : W p l e R s m args below meth c H locs cells slots Q (F0 m (pc + 1) ls (.int (nI (f i)) :: rest))) : W p l e R s m args below meth c H locs cells slots Q (F0 m pc ls (.int (nI i) :: .ref a :: rest)) :=
  va_iald hexec hb hK hP q0 0 ha rfl (zin hi hn) hdg (by rw [zcl (Nat.lt_trans hi hn)]; exact kk)
theorem zz_ald {a i n : Nat} {f : Nat → Nat} (hexec : p.tables.exec = Jvm.exec) (hb : c.code = cc) (hK : va_K G.1 vwCl (zT G) s) (hP : va_P G.1 vwCl w H) (q0 : Nat) (ha : w[q0]? = some (zB G a n f)) (hi : i < n) (hn : n < 2147483648) (hdg : decode cc pc = .ok (.baload, 1))
    (kk : W p l e R s m args below meth c H locs cells slots Q (F0 m (pc + 1) ls (.int (nI (f i)) :: rest))) : W p l e R s m args below meth c H locs cells slots Q (F0 m pc ls (.int (nI i) :: .ref a :: rest)) :=
  va_zald hexec hb hK hP q0 1 ha rfl (zin hi hn) hdg (by rw [zcl (Nat.lt_trans hi hn)]; exact kk)
theorem zi_ast {a i n x : Nat} {f : Nat → Nat} (hexec : p.tables.exec = Jvm.exec) (hb : c.code = cc) (hK : va_K G.1 vwCl (zT G) s) (hP : va_P G.1 vwCl w H) (hD : va_D A w) (hS : va_S A H0 H locs) (q0 : Nat) (ha : w[q0]? = some (zA G a n f)) (hi : i < n) (hn : n < 2147483648) (hdg : decode cc pc = .ok (.iastore, 1))
    (kk : ∀ (H1 : Heap) (locs1 : List Loc), va_P G.1 vwCl (w.set q0 (zA G a n (zU f i x))) H1 → va_D A (w.set q0 (zA G a n (zU f i x))) → va_S A H0 H1 locs1 → W p l e R s m args below meth c H1 locs1 cells slots Q (F0 m (pc + 1) ls rest)) : W p l e R s m args below meth c H locs cells slots Q (F0 m pc ls (.int (nI x) :: .int (nI i) :: .ref a :: rest)) :=
  va_iast hexec hb hK hP hD hS q0 0 ha rfl (zin hi hn) hdg (by rw [zcl (Nat.lt_trans hi hn), zF_upd]; exact kk)
theorem zz_ast {a i n x : Nat} {f : Nat → Nat} (hexec : p.tables.exec = Jvm.exec) (hb : c.code = cc) (hK : va_K G.1 vwCl (zT G) s) (hP : va_P G.1 vwCl w H) (hD : va_D A w) (hS : va_S A H0 H locs) (q0 : Nat) (ha : w[q0]? = some (zB G a n f)) (hi : i < n) (hn : n < 2147483648) (hx2 : x < 2) (hdg : decode cc pc = .ok (.bastore, 1))
    (kk : ∀ (H1 : Heap) (locs1 : List Loc), va_P G.1 vwCl (w.set q0 (zB G a n (zU f i x))) H1 → va_D A (w.set q0 (zB G a n (zU f i x))) → va_S A H0 H1 locs1 → W p l e R s m args below meth c H1 locs1 cells slots Q (F0 m (pc + 1) ls rest)) : W p l e R s m args below meth c H locs cells slots Q (F0 m pc ls (.int (nI x) :: .int (nI i) :: .ref a :: rest)) :=
  va_zast hexec hb hK hP hD hS q0 1 ha rfl (zin hi hn) hdg (by rw [zcl (Nat.lt_trans hi hn), z_narb x hx2, zF_upd]; exact kk)
theorem zr_ald {a i n x : Nat} {f : Nat → Option Nat} (hexec : p.tables.exec = Jvm.exec) (hb : c.code = cc) (hK : va_K G.1 vwCl (zT G) s) (hP : va_P G.1 vwCl w H) (q0 : Nat) (ha : w[q0]? = some (zR G a n f)) (hi : i < n) (hn : n < 2147483648) (hx : f i = some x) (hdg : decode cc pc = .ok (.aaload, 1))
    (kk : W p l e R s m args below meth c H locs cells slots Q (F0 m (pc + 1) ls (.ref x :: rest))) : W p l e R s m args below meth c H locs cells slots Q (F0 m pc ls (.int (nI i) :: .ref a :: rest)) := by
  refine va_aldq hexec hb hK hP q0 2 ha rfl (zin hi hn) hdg ?_
  rw [zcl (Nat.lt_trans hi hn), hx]
  exact kk
end ZR
end
section
/-! what the methods of Edges do to their rows -/
def zDr (s : Nat → Nat) (j q : Nat) : Nat → Nat := fun i => if j ≤ i ∧ i + 1 < q then s (i + 1) else s i
theorem zDr_0 (s : Nat → Nat) (j : Nat) : zDr s j (j + 1) = s := by
  funext i; simp only [zDr]; rw [if_neg (by omega)]
theorem zDr_step {s : Nat → Nat} {j q : Nat} (h : j + 1 ≤ q) : zDr s j (q + 1) = zU (zDr s j q) (q - 1) (zDr s j q q) := by
  funext i
  simp only [zDr, zU]
  by_cases h1 : i = q - 1
  · subst h1
    rw [if_pos (by omega), if_pos rfl, if_neg (by omega), show q - 1 + 1 = q by omega]
  · rw [if_neg h1]
    by_cases h2 : j ≤ i ∧ i + 1 < q
    · rw [if_pos (by omega), if_pos h2]
    · rw [if_neg (by omega), if_neg h2]
def zTk (s s2 : Nat → Nat) (n : Nat) : Nat → Nat := fun i => if i < n then s2 i else s i
theorem zTk_0 (s s2 : Nat → Nat) : zTk s s2 0 = s := by funext i; simp [zTk]
theorem zTk_step (s s2 : Nat → Nat) (n : Nat) : zTk s s2 (n + 1) = zU (zTk s s2 n) n (s2 n) := by
  funext i
  simp only [zTk, zU]
  by_cases h : i = n
  · subst h; simp
  · rw [if_neg h]
    by_cases h2 : i < n
    · rw [if_pos (by omega), if_pos h2]
    · rw [if_neg (by omega), if_neg h2]
def zCt (sub : Nat) : Nat → Nat
  | 0 => 0
  | n + 1 => zCt sub n + if sub / 2 ^ n % 2 = 0 then 0 else 1
theorem zCt_0 (sub : Nat) : zCt sub 0 = 0 := rfl
theorem zCt_y {sub n : Nat} (h : ¬ (sub / 2 ^ n % 2) = 0) : zCt sub (n + 1) = zCt sub n + 1 := by simp only [zCt]; rw [if_neg h]
theorem zCt_n {sub n : Nat} (h : (sub / 2 ^ n % 2) = 0) : zCt sub (n + 1) = zCt sub n := by simp only [zCt]; rw [if_pos h]; rfl
theorem zCt_le (sub : Nat) : ∀ n, zCt sub n ≤ n
  | 0 => Nat.le_refl 0
  | n + 1 => by have h := zCt_le sub n; simp only [zCt]; split <;> omega
def zSel (sub : Nat) (s s2 : Nat → Nat) : Nat → Nat → Nat
  | 0 => s
  | n + 1 => if sub / 2 ^ n % 2 = 0 then zSel sub s s2 n else zU (zSel sub s s2 n) (zCt sub n) (s2 n)
theorem zSel_0 (sub : Nat) (s s2 : Nat → Nat) : zSel sub s s2 0 = s := rfl
theorem zSel_y {sub n : Nat} (h : ¬ (sub / 2 ^ n % 2) = 0) (s s2 : Nat → Nat) : zSel sub s s2 (n + 1) = zU (zSel sub s s2 n) (zCt sub n) (s2 n) := by simp only [zSel]; rw [if_neg h]
theorem zSel_n {sub n : Nat} (h : (sub / 2 ^ n % 2) = 0) (s s2 : Nat → Nat) : zSel sub s s2 (n + 1) = zSel sub s s2 n := by simp only [zSel]; rw [if_pos h]
def zOB (z : Nat) : Nat := if z = 0 then 0 else if z ≤ 3 then z + 3 else z - 3
def zOBs (l2 : Nat → Nat) : Nat → Nat := fun i => zOB (l2 i)
/-- first n rows of s2, then i rows of t2 -/
def zBw (s s2 t2 : Nat → Nat) (n i : Nat) : Nat → Nat := fun k => if k < n then s2 k else if k < n + i then t2 (k - n) else s k
theorem zBw_0 (s s2 t2 : Nat → Nat) (n : Nat) : zBw s s2 t2 n 0 = zTk s s2 n := by
  funext k; simp only [zBw, zTk]
  by_cases h : k < n
  · rw [if_pos h, if_pos h]
  · rw [if_neg h, if_neg h, if_neg (by omega)]
theorem zBw_step (s s2 t2 : Nat → Nat) (n i : Nat) : zBw s s2 t2 n (i + 1) = zU (zBw s s2 t2 n i) (n + i) (t2 i) := by
  funext k; simp only [zBw, zU]
  by_cases h : k = n + i
  · subst h
    rw [if_neg (by omega), if_pos (by omega), if_pos rfl, show n + i - n = i by omega]
  · rw [if_neg h]
    by_cases h2 : k < n
    · rw [if_pos h2, if_pos h2]
    · rw [if_neg h2, if_neg h2]
      by_cases h3 : k < n + i
      · rw [if_pos (by omega), if_pos h3]
      · rw [if_neg (by omega), if_neg h3]
def zHit (s t lb : Nat → Nat) (x y z j : Nat) : Bool := decide (s j = x ∧ t j = y ∧ lb j = z)
/-- the first place below n where p holds, or n -/
def zFst (p : Nat → Bool) : Nat → Nat
  | 0 => 0
  | n + 1 => if zFst p n < n then zFst p n else if p n then n else n + 1
theorem zFst_none {p : Nat → Bool} : ∀ {n : Nat}, (∀ j, j < n → p j = false) → zFst p n = n
  | 0, _ => rfl
  | n + 1, h => by
    simp only [zFst]
    rw [zFst_none (fun j hj => h j (by omega)), if_neg (Nat.lt_irrefl n), h n (by omega)]; rfl
theorem zFst_at {p : Nat → Bool} {i : Nat} (h : ∀ j, j < i → p j = false) (hp : p i = true) : ∀ {n : Nat}, i < n → zFst p n = i
  | 0, hn => absurd hn (Nat.not_lt_zero _)
  | n + 1, hn => by
    simp only [zFst]
    by_cases h1 : i = n
    · subst h1
      rw [zFst_none h, if_neg (Nat.lt_irrefl i), if_pos hp]
    · have h2 := zFst_at h hp (n := n) (by omega)
      rw [h2, if_pos (by omega)]
theorem zFst_le (p : Nat → Bool) : ∀ n, zFst p n ≤ n
  | 0 => Nat.le_refl 0
  | n + 1 => by have h := zFst_le p n; simp only [zFst]; split <;> (try split) <;> omega
def zFd (s t lb : Nat → Nat) (x y z k : Nat) : Int32 := if zFst (zHit s t lb x y z) k < k then nI (zFst (zHit s t lb x y z) k) else (-9)
end
section
set_option maxHeartbeats 4000000 in
set_option maxRecDepth 100000 in
theorem c_X2_holds (l : Launch) (G : zG) (e a1 a2 a3 : Nat) (k : Nat) (x : Int32) (hk : k < 2147483648) : MI l yX2_holds wsX2_holds ({ frames := 0, cells := 0, slots := 0, locals := 0 }) G [.ref e, .int x] [(e, .inr (1, [.ref a1, .ref a2, .ref a3, .int (nI k)]))] (bI (decide (0 ≤ x.toInt ∧ x.toInt < k))) [(e, .inr (1, [.ref a1, .ref a2, .ref a3, .int (nI k)]))] := by
  refine MI.enter (cc := cX2_holds) (maxL := 2) (by decide) rfl (Nat.le_of_ble_eq_true rfl) (bI_nar _) ?_
  intro pM eM sM mM bM tM cM QM AM ls hat kret
  obtain ⟨SM, hA, hK, hE, hP, hD, hS, hl⟩ := hat
  have hx := SM.1
  have hb := SM.2.1
  have hown : sM.vm.findClass RX2 = some mM.cls := SM.2.2.2.1
  have hts := SM.2.2.2.2
  have hinX2 : ∀ w ∈ u_ws RX2 TX2 4, w ∈ wsX2_holds := by decide +kernel
  have hlk21 : (Cond.fieldLink RX2 21 "DyckReachability$Edges" "size" "I").before _ sM = true := hts _ (by decide +kernel)
  have hl : lv_has ls 2 [(0, .ref e), (1, .int x)] := hl
  refine lv_iload_n hx hb dX2_holds_0 rfl (lv_at hl 1 rfl) ?_
  refine zd_lt (a := (x).toInt) (tgt := 16) hx hb dX2_holds_1 (by decide) rfl (fun c_1 => ?_) (fun c_1 => ?_)
  · skip
    refine lv_iconst (v := nI 0) hx hb dX2_holds_16 (by decide) ?_
    exact kret _ _ _ _ _ _ (bI_f (by omega)) rfl hP hD hS dX2_holds_17
  · skip
    refine lv_iload_n hx hb dX2_holds_4 rfl (lv_at hl 1 rfl) ?_
    refine lv_aload_n hx hb dX2_holds_5 rfl (lv_at hl 0 rfl) ?_
    refine va_get (D := G.1) (ci := 1) (v := .int (nI k)) (C := RX2) (T := TX2) (N := 4) hx hb hts hinX2 hown hK hP 0 rfl rfl 3 (by decide) hlk21 (fun _ h9 => h9) rfl dX2_holds_6 ?_
    refine zc_ge (a := (x).toInt) (b := (k : Nat)) (tgt := 16) hx hb dX2_holds_9 (by decide) rfl (zI (by omega)) (fun c_2 => ?_) (fun c_2 => ?_)
    · skip
      refine lv_iconst (v := nI 0) hx hb dX2_holds_16 (by decide) ?_
      exact kret _ _ _ _ _ _ (bI_f (by omega)) rfl hP hD hS dX2_holds_17
    · skip
      refine lv_iconst (v := nI 1) hx hb dX2_holds_12 (by decide) ?_
      refine lv_goto (tgt := 17) hx hb dX2_holds_13 (by decide) ?_
      exact kret _ _ _ _ _ _ (bI_t (by omega)) rfl hP hD hS dX2_holds_17
set_option maxHeartbeats 4000000 in
set_option maxRecDepth 100000 in
theorem c_X2_holds_N (l : Launch) (G : zG) (e a1 a2 a3 : Nat) (k j : Nat) (hk : k < 2147483648) (hj : j < 2147483648) : MI l yX2_holds wsX2_holds ({ frames := 0, cells := 0, slots := 0, locals := 0 }) G [.ref e, .int (nI j)] [(e, .inr (1, [.ref a1, .ref a2, .ref a3, .int (nI k)]))] (bI (decide (j < k))) [(e, .inr (1, [.ref a1, .ref a2, .ref a3, .int (nI k)]))] := by
  refine MI.enter (cc := cX2_holds) (maxL := 2) (by decide) rfl (Nat.le_of_ble_eq_true rfl) (bI_nar _) ?_
  intro pM eM sM mM bM tM cM QM AM ls hat kret
  obtain ⟨SM, hA, hK, hE, hP, hD, hS, hl⟩ := hat
  have hx := SM.1
  have hb := SM.2.1
  have hown : sM.vm.findClass RX2 = some mM.cls := SM.2.2.2.1
  have hts := SM.2.2.2.2
  have hinX2 : ∀ w ∈ u_ws RX2 TX2 4, w ∈ wsX2_holds := by decide +kernel
  have hlk21 : (Cond.fieldLink RX2 21 "DyckReachability$Edges" "size" "I").before _ sM = true := hts _ (by decide +kernel)
  have hl : lv_has ls 2 [(0, .ref e), (1, .int (nI j))] := hl
  refine lv_iload_n hx hb dX2_holds_0 rfl (lv_at hl 1 rfl) ?_
  refine zd_lt (a := (j : Nat)) (tgt := 16) hx hb dX2_holds_1 (by decide) (zI (by omega)) (fun c_1 => ?_) (fun c_1 => ?_)
  · skip
    refine lv_iconst (v := nI 0) hx hb dX2_holds_16 (by decide) ?_
    exact kret _ _ _ _ _ _ (bI_f (by omega)) rfl hP hD hS dX2_holds_17
  · skip
    refine lv_iload_n hx hb dX2_holds_4 rfl (lv_at hl 1 rfl) ?_
    refine lv_aload_n hx hb dX2_holds_5 rfl (lv_at hl 0 rfl) ?_
    refine va_get (D := G.1) (ci := 1) (v := .int (nI k)) (C := RX2) (T := TX2) (N := 4) hx hb hts hinX2 hown hK hP 0 rfl rfl 3 (by decide) hlk21 (fun _ h9 => h9) rfl dX2_holds_6 ?_
    refine zn_ge (tgt := 16) hx hb dX2_holds_9 (by decide) (by omega) (by omega) (fun c_2 => ?_) (fun c_2 => ?_)
    · skip
      refine lv_iconst (v := nI 0) hx hb dX2_holds_16 (by decide) ?_
      exact kret _ _ _ _ _ _ (bI_f (by omega)) rfl hP hD hS dX2_holds_17
    · skip
      refine lv_iconst (v := nI 1) hx hb dX2_holds_12 (by decide) ?_
      refine lv_goto (tgt := 17) hx hb dX2_holds_13 (by decide) ?_
      exact kret _ _ _ _ _ _ (bI_t (by omega)) rfl hP hD hS dX2_holds_17
set_option maxHeartbeats 4000000 in
set_option maxRecDepth 100000 in
theorem c_X2_isFull (l : Launch) (G : zG) (e a1 a2 a3 : Nat) (cap : Nat) (s : Nat → Nat) (k : Nat) (hk : k < 2147483648) (hc : cap < 2147483648) : MI l yX2_isFull wsX2_isFull ({ frames := 0, cells := 0, slots := 0, locals := 0 }) G [.ref e] [(e, .inr (1, [.ref a1, .ref a2, .ref a3, .int (nI k)])), zA G a1 cap s] (bI (decide (cap ≤ k))) [(e, .inr (1, [.ref a1, .ref a2, .ref a3, .int (nI k)])), zA G a1 cap s] := by
  refine MI.enter (cc := cX2_isFull) (maxL := 1) (by decide) rfl (Nat.le_of_ble_eq_true rfl) (bI_nar _) ?_
  intro pM eM sM mM bM tM cM QM AM ls hat kret
  obtain ⟨SM, hA, hK, hE, hP, hD, hS, hl⟩ := hat
  have hx := SM.1
  have hb := SM.2.1
  have hown : sM.vm.findClass RX2 = some mM.cls := SM.2.2.2.1
  have hts := SM.2.2.2.2
  have hinX2 : ∀ w ∈ u_ws RX2 TX2 4, w ∈ wsX2_isFull := by decide +kernel
  have hlk21 : (Cond.fieldLink RX2 21 "DyckReachability$Edges" "size" "I").before _ sM = true := hts _ (by decide +kernel)
  have hlk9 : (Cond.fieldLink RX2 9 "DyckReachability$Edges" "sources" "[I").before _ sM = true := hts _ (by decide +kernel)
  have hl : lv_has ls 1 [(0, .ref e)] := hl
  refine lv_aload_n hx hb dX2_isFull_0 rfl (lv_at hl 0 rfl) ?_
  refine va_get (D := G.1) (ci := 1) (v := .int (nI k)) (C := RX2) (T := TX2) (N := 4) hx hb hts hinX2 hown hK hP 0 rfl rfl 3 (by decide) hlk21 (fun _ h9 => h9) rfl dX2_isFull_1 ?_
  refine lv_aload_n hx hb dX2_isFull_4 rfl (lv_at hl 0 rfl) ?_
  refine va_get (D := G.1) (ci := 1) (v := .ref a1) (C := RX2) (T := TX2) (N := 4) hx hb hts hinX2 hown hK hP 0 rfl rfl 0 (by decide) hlk9 (fun _ h9 => h9) rfl dX2_isFull_5 ?_
  refine va_alen hx hb hK hP 1 0 rfl rfl (v := nI cap) rfl dX2_isFull_8 ?_
  refine zn_lt (tgt := 16) hx hb dX2_isFull_9 (by decide) (by omega) (by omega) (fun c_1 => ?_) (fun c_1 => ?_)
  · skip
    refine lv_iconst (v := nI 0) hx hb dX2_isFull_16 (by decide) ?_
    exact kret _ _ _ _ _ _ (bI_f (by omega)) rfl hP hD hS dX2_isFull_17
  · skip
    refine lv_iconst (v := nI 1) hx hb dX2_isFull_12 (by decide) ?_
    refine lv_goto (tgt := 17) hx hb dX2_isFull_13 (by decide) ?_
    exact kret _ _ _ _ _ _ (bI_t (by omega)) rfl hP hD hS dX2_isFull_17
set_option maxHeartbeats 4000000 in
set_option maxRecDepth 100000 in
theorem c_X2_put_N (l : Launch) (G : zG) (e a1 a2 a3 : Nat) (cap : Nat) (s t lb : Nat → Nat) (k x y z : Nat) (hk : k < cap) (hc : cap < 2147483648) : MV l yX2_put wsX2_put ({ frames := 1, cells := 0, slots := 0, locals := 20 }) G [.ref e, .int (nI x), .int (nI y), .int (nI z)] [(e, .inr (1, [.ref a1, .ref a2, .ref a3, .int (nI k)])), zA G a1 cap s, zA G a2 cap t, zA G a3 cap lb] [(e, .inr (1, [.ref a1, .ref a2, .ref a3, .int (nI (k + 1))])), zA G a1 cap (zU s k x), zA G a2 cap (zU t k y), zA G a3 cap (zU lb k z)] := by
  refine MV.enter (cc := cX2_put) (maxL := 4) (by decide) rfl (Nat.le_of_ble_eq_true rfl) ?_
  intro pM eM sM mM bM tM cM QM AM ls hat kret
  obtain ⟨SM, hA, hK, hE, hP, hD, hS, hl⟩ := hat
  have hx := SM.1
  have hb := SM.2.1
  have hown : sM.vm.findClass RX2 = some mM.cls := SM.2.2.2.1
  have hts := SM.2.2.2.2
  have hinX2 : ∀ w ∈ u_ws RX2 TX2 4, w ∈ wsX2_put := by decide +kernel
  have hlk9 : (Cond.fieldLink RX2 9 "DyckReachability$Edges" "sources" "[I").before _ sM = true := hts _ (by decide +kernel)
  have hlk21 : (Cond.fieldLink RX2 21 "DyckReachability$Edges" "size" "I").before _ sM = true := hts _ (by decide +kernel)
  have hlk15 : (Cond.fieldLink RX2 15 "DyckReachability$Edges" "targets" "[I").before _ sM = true := hts _ (by decide +kernel)
  have hlk18 : (Cond.fieldLink RX2 18 "DyckReachability$Edges" "labels" "[I").before _ sM = true := hts _ (by decide +kernel)
  have hl : lv_has ls 4 [(0, .ref e), (1, .int (nI x)), (2, .int (nI y)), (3, .int (nI z))] := hl
  refine lv_aload_n hx hb dX2_put_0 rfl (lv_at hl 0 rfl) ?_
  refine zVi (W1 := [(e, .inr (1, [.ref a1, .ref a2, .ref a3, .int (nI k)])), zA G a1 cap s, zA G a2 cap t, zA G a3 cap lb]) (W2 := [(e, .inr (1, [.ref a1, .ref a2, .ref a3, .int (nI k)])), zA G a1 cap s, zA G a2 cap t, zA G a3 cap lb]) (wr := [zA G a2 cap t, zA G a3 cap lb]) (rest := []) SM (c_X2_isFull l G e a1 a2 a3 cap s k (by first | assumption | omega) (by first | assumption | omega)) (cwV 0 hts gX2_put_X2_isFull rfl rfl rfl (by decide +kernel) ⟨Nat.le_of_ble_eq_true rfl, Nat.le_of_ble_eq_true rfl⟩) hK hE hA hP hD hS hl.1 [0, 1] [2, 3] [2, 3, 0, 1] rfl rfl rfl (by decide) (ci := 1) rfl rfl rfl rfl rfl (Nat.le_of_ble_eq_true rfl) ⟨Nat.zero_le _, Nat.zero_le _⟩ dX2_put_1 (fun H locs hP hD hS => ?_)
  refine zb_eq (tgt := 8) hx hb dX2_put_4 (by decide) (fun c_1 => ?_) (fun c_1 => ?_)
  · skip
    refine lv_aload_n hx hb dX2_put_8 rfl (lv_at hl 0 rfl) ?_
    refine va_get (D := G.1) (ci := 1) (v := .ref a1) (C := RX2) (T := TX2) (N := 4) hx hb hts hinX2 hown hK hP 0 rfl rfl 0 (by decide) hlk9 (fun _ h9 => h9) rfl dX2_put_9 ?_
    refine lv_aload_n hx hb dX2_put_12 rfl (lv_at hl 0 rfl) ?_
    refine va_get (D := G.1) (ci := 1) (v := .int (nI k)) (C := RX2) (T := TX2) (N := 4) hx hb hts hinX2 hown hK hP 0 rfl rfl 3 (by decide) hlk21 (fun _ h9 => h9) rfl dX2_put_13 ?_
    refine lv_iload_n hx hb dX2_put_16 rfl (lv_at hl 1 rfl) ?_
    refine zi_ast hx hb hK hP hD hS 1 rfl (by omega) (by omega) dX2_put_17 (fun H locs hP hD hS => ?_)
    have hP : va_P G.1 vwCl [(e, .inr (1, [.ref a1, .ref a2, .ref a3, .int (nI k)])), zA G a1 cap (zU s k x), zA G a2 cap t, zA G a3 cap lb] H := hP
    have hD : va_D AM [(e, .inr (1, [.ref a1, .ref a2, .ref a3, .int (nI k)])), zA G a1 cap (zU s k x), zA G a2 cap t, zA G a3 cap lb] := hD
    refine lv_aload_n hx hb dX2_put_18 rfl (lv_at hl 0 rfl) ?_
    refine va_get (D := G.1) (ci := 1) (v := .ref a2) (C := RX2) (T := TX2) (N := 4) hx hb hts hinX2 hown hK hP 0 rfl rfl 1 (by decide) hlk15 (fun _ h9 => h9) rfl dX2_put_19 ?_
    refine lv_aload_n hx hb dX2_put_22 rfl (lv_at hl 0 rfl) ?_
    refine va_get (D := G.1) (ci := 1) (v := .int (nI k)) (C := RX2) (T := TX2) (N := 4) hx hb hts hinX2 hown hK hP 0 rfl rfl 3 (by decide) hlk21 (fun _ h9 => h9) rfl dX2_put_23 ?_
    refine lv_iload_n hx hb dX2_put_26 rfl (lv_at hl 2 rfl) ?_
    refine zi_ast hx hb hK hP hD hS 2 rfl (by omega) (by omega) dX2_put_27 (fun H locs hP hD hS => ?_)
    have hP : va_P G.1 vwCl [(e, .inr (1, [.ref a1, .ref a2, .ref a3, .int (nI k)])), zA G a1 cap (zU s k x), zA G a2 cap (zU t k y), zA G a3 cap lb] H := hP
    have hD : va_D AM [(e, .inr (1, [.ref a1, .ref a2, .ref a3, .int (nI k)])), zA G a1 cap (zU s k x), zA G a2 cap (zU t k y), zA G a3 cap lb] := hD
    refine lv_aload_n hx hb dX2_put_28 rfl (lv_at hl 0 rfl) ?_
    refine va_get (D := G.1) (ci := 1) (v := .ref a3) (C := RX2) (T := TX2) (N := 4) hx hb hts hinX2 hown hK hP 0 rfl rfl 2 (by decide) hlk18 (fun _ h9 => h9) rfl dX2_put_29 ?_
    refine lv_aload_n hx hb dX2_put_32 rfl (lv_at hl 0 rfl) ?_
    refine va_get (D := G.1) (ci := 1) (v := .int (nI k)) (C := RX2) (T := TX2) (N := 4) hx hb hts hinX2 hown hK hP 0 rfl rfl 3 (by decide) hlk21 (fun _ h9 => h9) rfl dX2_put_33 ?_
    refine lv_iload_n hx hb dX2_put_36 rfl (lv_at hl 3 rfl) ?_
    refine zi_ast hx hb hK hP hD hS 3 rfl (by omega) (by omega) dX2_put_37 (fun H locs hP hD hS => ?_)
    have hP : va_P G.1 vwCl [(e, .inr (1, [.ref a1, .ref a2, .ref a3, .int (nI k)])), zA G a1 cap (zU s k x), zA G a2 cap (zU t k y), zA G a3 cap (zU lb k z)] H := hP
    have hD : va_D AM [(e, .inr (1, [.ref a1, .ref a2, .ref a3, .int (nI k)])), zA G a1 cap (zU s k x), zA G a2 cap (zU t k y), zA G a3 cap (zU lb k z)] := hD
    refine lv_aload_n hx hb dX2_put_38 rfl (lv_at hl 0 rfl) ?_
    refine lv_dup hx hb dX2_put_39 rfl ?_
    refine va_get (D := G.1) (ci := 1) (v := .int (nI k)) (C := RX2) (T := TX2) (N := 4) hx hb hts hinX2 hown hK hP 0 rfl rfl 3 (by decide) hlk21 (fun _ h9 => h9) rfl dX2_put_40 ?_
    refine lv_iconst (v := nI 1) hx hb dX2_put_43 (by decide) ?_
    refine zi_addk (n := k + 1) hx hb dX2_put_44 (by omega) ?_
    refine va_put (D := G.1) (ci := 1) (v := .int (nI (k + 1))) (ty := .int) (C := RX2) (T := TX2) (N := 4) hx hb hts hinX2 tyX2 tyX2_ok nmX2 hown hK hP hD hS 0 rfl rfl 3 (by decide) hlk21 (fun _ h9 => h9) rfl (by decide +kernel) rfl rfl (Nat.le_of_ble_eq_true rfl) dX2_put_45 (fun H locs hP hD hS => ?_)
    have hP : va_P G.1 vwCl [(e, .inr (1, [.ref a1, .ref a2, .ref a3, .int (nI (k + 1))])), zA G a1 cap (zU s k x), zA G a2 cap (zU t k y), zA G a3 cap (zU lb k z)] H := hP
    have hD : va_D AM [(e, .inr (1, [.ref a1, .ref a2, .ref a3, .int (nI (k + 1))])), zA G a1 cap (zU s k x), zA G a2 cap (zU t k y), zA G a3 cap (zU lb k z)] := hD
    exact kret _ _ _ _ _ rfl hP hD hS dX2_put_48
  · skip
    exfalso; omega
set_option maxHeartbeats 4000000 in
set_option maxRecDepth 100000 in
theorem c_X2_put_F (l : Launch) (G : zG) (e a1 a2 a3 : Nat) (cap : Nat) (s t lb : Nat → Nat) (k x y z : Nat) (hk : cap ≤ k) (hc : cap < 2147483648) (hk2 : k < 2147483648) : MV l yX2_put wsX2_put ({ frames := 1, cells := 0, slots := 0, locals := 20 }) G [.ref e, .int (nI x), .int (nI y), .int (nI z)] [(e, .inr (1, [.ref a1, .ref a2, .ref a3, .int (nI k)])), zA G a1 cap s, zA G a2 cap t, zA G a3 cap lb] [(e, .inr (1, [.ref a1, .ref a2, .ref a3, .int (nI k)])), zA G a1 cap s, zA G a2 cap t, zA G a3 cap lb] := by
  refine MV.enter (cc := cX2_put) (maxL := 4) (by decide) rfl (Nat.le_of_ble_eq_true rfl) ?_
  intro pM eM sM mM bM tM cM QM AM ls hat kret
  obtain ⟨SM, hA, hK, hE, hP, hD, hS, hl⟩ := hat
  have hx := SM.1
  have hb := SM.2.1
  have hown : sM.vm.findClass RX2 = some mM.cls := SM.2.2.2.1
  have hts := SM.2.2.2.2
  have hl : lv_has ls 4 [(0, .ref e), (1, .int (nI x)), (2, .int (nI y)), (3, .int (nI z))] := hl
  refine lv_aload_n hx hb dX2_put_0 rfl (lv_at hl 0 rfl) ?_
  refine zVi (W1 := [(e, .inr (1, [.ref a1, .ref a2, .ref a3, .int (nI k)])), zA G a1 cap s, zA G a2 cap t, zA G a3 cap lb]) (W2 := [(e, .inr (1, [.ref a1, .ref a2, .ref a3, .int (nI k)])), zA G a1 cap s, zA G a2 cap t, zA G a3 cap lb]) (wr := [zA G a2 cap t, zA G a3 cap lb]) (rest := []) SM (c_X2_isFull l G e a1 a2 a3 cap s k (by first | assumption | omega) (by first | assumption | omega)) (cwV 0 hts gX2_put_X2_isFull rfl rfl rfl (by decide +kernel) ⟨Nat.le_of_ble_eq_true rfl, Nat.le_of_ble_eq_true rfl⟩) hK hE hA hP hD hS hl.1 [0, 1] [2, 3] [2, 3, 0, 1] rfl rfl rfl (by decide) (ci := 1) rfl rfl rfl rfl rfl (Nat.le_of_ble_eq_true rfl) ⟨Nat.zero_le _, Nat.zero_le _⟩ dX2_put_1 (fun H locs hP hD hS => ?_)
  refine zb_eq (tgt := 8) hx hb dX2_put_4 (by decide) (fun c_1 => ?_) (fun c_1 => ?_)
  · skip
    exfalso; omega
  · skip
    exact kret _ _ _ _ _ rfl hP hD hS dX2_put_7
set_option maxHeartbeats 4000000 in
set_option maxRecDepth 100000 in
theorem c_X2_drop (l : Launch) (G : zG) (e a1 a2 a3 : Nat) (cap : Nat) (s t lb : Nat → Nat) (k j : Nat) (hj : j < k) (hk : k ≤ cap) (hc : cap < 2147483648) : MV l yX2_drop wsX2_drop ({ frames := 1, cells := 0, slots := 0, locals := 21 }) G [.ref e, .int (nI j)] [(e, .inr (1, [.ref a1, .ref a2, .ref a3, .int (nI k)])), zA G a1 cap s, zA G a2 cap t, zA G a3 cap lb] [(e, .inr (1, [.ref a1, .ref a2, .ref a3, .int (nI (k - 1))])), zA G a1 cap (zDr s j k), zA G a2 cap (zDr t j k), zA G a3 cap (zDr lb j k)] := by
  refine MV.enter (cc := cX2_drop) (maxL := 3) (by decide) rfl (Nat.le_of_ble_eq_true rfl) ?_
  intro pM eM sM mM bM tM cM QM AM ls hat kret
  obtain ⟨SM, hA, hK, hE, hP, hD, hS, hl⟩ := hat
  have hx := SM.1
  have hb := SM.2.1
  have hown : sM.vm.findClass RX2 = some mM.cls := SM.2.2.2.1
  have hts := SM.2.2.2.2
  have hinX2 : ∀ w ∈ u_ws RX2 TX2 4, w ∈ wsX2_drop := by decide +kernel
  have hlk21 : (Cond.fieldLink RX2 21 "DyckReachability$Edges" "size" "I").before _ sM = true := hts _ (by decide +kernel)
  have hlk9 : (Cond.fieldLink RX2 9 "DyckReachability$Edges" "sources" "[I").before _ sM = true := hts _ (by decide +kernel)
  have hlk15 : (Cond.fieldLink RX2 15 "DyckReachability$Edges" "targets" "[I").before _ sM = true := hts _ (by decide +kernel)
  have hlk18 : (Cond.fieldLink RX2 18 "DyckReachability$Edges" "labels" "[I").before _ sM = true := hts _ (by decide +kernel)
  have hl : lv_has ls 3 [(0, .ref e), (1, .int (nI j))] := hl
  refine lv_aload_n hx hb dX2_drop_0 rfl (lv_at hl 0 rfl) ?_
  refine lv_iload_n hx hb dX2_drop_1 rfl (lv_at hl 1 rfl) ?_
  refine zVi (W1 := [(e, .inr (1, [.ref a1, .ref a2, .ref a3, .int (nI k)])), zA G a1 cap s, zA G a2 cap t, zA G a3 cap lb]) (W2 := [(e, .inr (1, [.ref a1, .ref a2, .ref a3, .int (nI k)])), zA G a1 cap s, zA G a2 cap t, zA G a3 cap lb]) (wr := [zA G a1 cap s, zA G a2 cap t, zA G a3 cap lb]) (rest := []) SM (c_X2_holds_N l G e a1 a2 a3 k j (by first | assumption | omega) (by first | assumption | omega)) (cwV 1 hts gX2_drop_X2_holds rfl rfl rfl (by decide +kernel) ⟨Nat.le_of_ble_eq_true rfl, Nat.le_of_ble_eq_true rfl⟩) hK hE hA hP hD hS hl.1 [0] [1, 2, 3] [3, 0, 1, 2] rfl rfl rfl (by decide) (ci := 1) rfl rfl rfl rfl rfl (Nat.le_of_ble_eq_true rfl) ⟨Nat.zero_le _, Nat.zero_le _⟩ dX2_drop_2 (fun H locs hP hD hS => ?_)
  refine zb_ne (tgt := 9) hx hb dX2_drop_5 (by decide) (fun c_1 => ?_) (fun c_1 => ?_)
  · skip
    refine lv_iload_n hx hb dX2_drop_9 rfl (lv_at hl 1 rfl) ?_
    refine lv_iconst (v := nI 1) hx hb dX2_drop_10 (by decide) ?_
    refine zi_addk (n := j + 1) hx hb dX2_drop_11 (by omega) ?_
    refine lv_istore_n (lv' := [(2, .int (nI (j + 1))), (0, .ref e), (1, .int (nI j))]) hx hb dX2_drop_12 rfl hl (by decide) rfl (fun ls hl => ?_)
    have lp13 : ∀ (n9 : Nat), ∀ (q : Nat), (j + 1 ≤ q) → (q ≤ k) → (k - q) < n9 → ∀ (H : Heap) (locs : List Loc) (ls : Array Slot), va_P G.1 vwCl [(e, .inr (1, [.ref a1, .ref a2, .ref a3, .int (nI k)])), zA G a1 cap (zDr s j q), zA G a2 cap (zDr t j q), zA G a3 cap (zDr lb j q)] H → va_D AM [(e, .inr (1, [.ref a1, .ref a2, .ref a3, .int (nI k)])), zA G a1 cap (zDr s j q), zA G a2 cap (zDr t j q), zA G a3 cap (zDr lb j q)] → va_S AM sM.heap H locs → lv_has ls 3 [(0, .ref e), (1, .int (nI j)), (2, .int (nI q))] → W pM l eM ({ frames := 1, cells := 0, slots := 0, locals := 21 }) sM mM (([.ref e, .int (nI j)] : List Value).toArray) bM tM cM H locs 0 0 QM (F0 mM 13 ls []) := by
      intro n9
      induction n9 with
      | zero =>
        intro _ _ _ h9
        exact absurd h9 (Nat.not_lt_zero _)
      | succ n9 ih9 =>
        intro q h1 h2 hmu13 H locs ls hP hD hS hl
        have ih13 := ih9
        clear ih9
        refine lv_iload_n hx hb dX2_drop_13 rfl (lv_at hl 2 rfl) ?_
        refine lv_aload_n hx hb dX2_drop_14 rfl (lv_at hl 0 rfl) ?_
        refine va_get (D := G.1) (ci := 1) (v := .int (nI k)) (C := RX2) (T := TX2) (N := 4) hx hb hts hinX2 hown hK hP 0 rfl rfl 3 (by decide) hlk21 (fun _ h9 => h9) rfl dX2_drop_15 ?_
        refine zn_ge (tgt := 69) hx hb dX2_drop_18 (by decide) (by omega) (by omega) (fun c_2 => ?_) (fun c_2 => ?_)
        · skip
          refine lv_aload_n hx hb dX2_drop_69 rfl (lv_at hl 0 rfl) ?_
          refine lv_dup hx hb dX2_drop_70 rfl ?_
          refine va_get (D := G.1) (ci := 1) (v := .int (nI k)) (C := RX2) (T := TX2) (N := 4) hx hb hts hinX2 hown hK hP 0 rfl rfl 3 (by decide) hlk21 (fun _ h9 => h9) rfl dX2_drop_71 ?_
          refine lv_iconst (v := nI 1) hx hb dX2_drop_74 (by decide) ?_
          refine zi_sub hx hb dX2_drop_75 (by omega) ?_
          refine va_put (D := G.1) (ci := 1) (v := .int (nI (k - 1))) (ty := .int) (C := RX2) (T := TX2) (N := 4) hx hb hts hinX2 tyX2 tyX2_ok nmX2 hown hK hP hD hS 0 rfl rfl 3 (by decide) hlk21 (fun _ h9 => h9) rfl (by decide +kernel) rfl rfl (Nat.le_of_ble_eq_true rfl) dX2_drop_76 (fun H locs hP hD hS => ?_)
          have hP : va_P G.1 vwCl [(e, .inr (1, [.ref a1, .ref a2, .ref a3, .int (nI (k - 1))])), zA G a1 cap (zDr s j q), zA G a2 cap (zDr t j q), zA G a3 cap (zDr lb j q)] H := hP
          have hD : va_D AM [(e, .inr (1, [.ref a1, .ref a2, .ref a3, .int (nI (k - 1))])), zA G a1 cap (zDr s j q), zA G a2 cap (zDr t j q), zA G a3 cap (zDr lb j q)] := hD
          exact kret _ _ _ _ _ (by have hq9 : q = k := (by omega); subst hq9; rfl) hP hD hS dX2_drop_79
        · skip
          refine lv_aload_n hx hb dX2_drop_21 rfl (lv_at hl 0 rfl) ?_
          refine va_get (D := G.1) (ci := 1) (v := .ref a1) (C := RX2) (T := TX2) (N := 4) hx hb hts hinX2 hown hK hP 0 rfl rfl 0 (by decide) hlk9 (fun _ h9 => h9) rfl dX2_drop_22 ?_
          refine lv_iload_n hx hb dX2_drop_25 rfl (lv_at hl 2 rfl) ?_
          refine lv_iconst (v := nI 1) hx hb dX2_drop_26 (by decide) ?_
          refine zi_sub hx hb dX2_drop_27 (by omega) ?_
          refine lv_aload_n hx hb dX2_drop_28 rfl (lv_at hl 0 rfl) ?_
          refine va_get (D := G.1) (ci := 1) (v := .ref a1) (C := RX2) (T := TX2) (N := 4) hx hb hts hinX2 hown hK hP 0 rfl rfl 0 (by decide) hlk9 (fun _ h9 => h9) rfl dX2_drop_29 ?_
          refine lv_iload_n hx hb dX2_drop_32 rfl (lv_at hl 2 rfl) ?_
          refine zi_ald hx hb hK hP 1 rfl (by omega) (by omega) dX2_drop_33 ?_
          refine zi_ast hx hb hK hP hD hS 1 rfl (by omega) (by omega) dX2_drop_34 (fun H locs hP hD hS => ?_)
          have hP : va_P G.1 vwCl [(e, .inr (1, [.ref a1, .ref a2, .ref a3, .int (nI k)])), zA G a1 cap (zU (zDr s j q) (q - 1) ((zDr s j q) q)), zA G a2 cap (zDr t j q), zA G a3 cap (zDr lb j q)] H := hP
          have hD : va_D AM [(e, .inr (1, [.ref a1, .ref a2, .ref a3, .int (nI k)])), zA G a1 cap (zU (zDr s j q) (q - 1) ((zDr s j q) q)), zA G a2 cap (zDr t j q), zA G a3 cap (zDr lb j q)] := hD
          refine lv_aload_n hx hb dX2_drop_35 rfl (lv_at hl 0 rfl) ?_
          refine va_get (D := G.1) (ci := 1) (v := .ref a2) (C := RX2) (T := TX2) (N := 4) hx hb hts hinX2 hown hK hP 0 rfl rfl 1 (by decide) hlk15 (fun _ h9 => h9) rfl dX2_drop_36 ?_
          refine lv_iload_n hx hb dX2_drop_39 rfl (lv_at hl 2 rfl) ?_
          refine lv_iconst (v := nI 1) hx hb dX2_drop_40 (by decide) ?_
          refine zi_sub hx hb dX2_drop_41 (by omega) ?_
          refine lv_aload_n hx hb dX2_drop_42 rfl (lv_at hl 0 rfl) ?_
          refine va_get (D := G.1) (ci := 1) (v := .ref a2) (C := RX2) (T := TX2) (N := 4) hx hb hts hinX2 hown hK hP 0 rfl rfl 1 (by decide) hlk15 (fun _ h9 => h9) rfl dX2_drop_43 ?_
          refine lv_iload_n hx hb dX2_drop_46 rfl (lv_at hl 2 rfl) ?_
          refine zi_ald hx hb hK hP 2 rfl (by omega) (by omega) dX2_drop_47 ?_
          refine zi_ast hx hb hK hP hD hS 2 rfl (by omega) (by omega) dX2_drop_48 (fun H locs hP hD hS => ?_)
          have hP : va_P G.1 vwCl [(e, .inr (1, [.ref a1, .ref a2, .ref a3, .int (nI k)])), zA G a1 cap (zU (zDr s j q) (q - 1) ((zDr s j q) q)), zA G a2 cap (zU (zDr t j q) (q - 1) ((zDr t j q) q)), zA G a3 cap (zDr lb j q)] H := hP
          have hD : va_D AM [(e, .inr (1, [.ref a1, .ref a2, .ref a3, .int (nI k)])), zA G a1 cap (zU (zDr s j q) (q - 1) ((zDr s j q) q)), zA G a2 cap (zU (zDr t j q) (q - 1) ((zDr t j q) q)), zA G a3 cap (zDr lb j q)] := hD
          refine lv_aload_n hx hb dX2_drop_49 rfl (lv_at hl 0 rfl) ?_
          refine va_get (D := G.1) (ci := 1) (v := .ref a3) (C := RX2) (T := TX2) (N := 4) hx hb hts hinX2 hown hK hP 0 rfl rfl 2 (by decide) hlk18 (fun _ h9 => h9) rfl dX2_drop_50 ?_
          refine lv_iload_n hx hb dX2_drop_53 rfl (lv_at hl 2 rfl) ?_
          refine lv_iconst (v := nI 1) hx hb dX2_drop_54 (by decide) ?_
          refine zi_sub hx hb dX2_drop_55 (by omega) ?_
          refine lv_aload_n hx hb dX2_drop_56 rfl (lv_at hl 0 rfl) ?_
          refine va_get (D := G.1) (ci := 1) (v := .ref a3) (C := RX2) (T := TX2) (N := 4) hx hb hts hinX2 hown hK hP 0 rfl rfl 2 (by decide) hlk18 (fun _ h9 => h9) rfl dX2_drop_57 ?_
          refine lv_iload_n hx hb dX2_drop_60 rfl (lv_at hl 2 rfl) ?_
          refine zi_ald hx hb hK hP 3 rfl (by omega) (by omega) dX2_drop_61 ?_
          refine zi_ast hx hb hK hP hD hS 3 rfl (by omega) (by omega) dX2_drop_62 (fun H locs hP hD hS => ?_)
          have hP : va_P G.1 vwCl [(e, .inr (1, [.ref a1, .ref a2, .ref a3, .int (nI k)])), zA G a1 cap (zU (zDr s j q) (q - 1) ((zDr s j q) q)), zA G a2 cap (zU (zDr t j q) (q - 1) ((zDr t j q) q)), zA G a3 cap (zU (zDr lb j q) (q - 1) ((zDr lb j q) q))] H := hP
          have hD : va_D AM [(e, .inr (1, [.ref a1, .ref a2, .ref a3, .int (nI k)])), zA G a1 cap (zU (zDr s j q) (q - 1) ((zDr s j q) q)), zA G a2 cap (zU (zDr t j q) (q - 1) ((zDr t j q) q)), zA G a3 cap (zU (zDr lb j q) (q - 1) ((zDr lb j q) q))] := hD
          refine lv_iinc (v := nI (q + 1)) (lv' := [(2, .int (nI (q + 1))), (0, .ref e), (1, .int (nI j))]) hx hb dX2_drop_63 hl (k := 2) rfl (zinc q 1) (by decide) rfl (fun ls hl => ?_)
          refine lv_goto (tgt := 13) hx hb dX2_drop_66 (by decide) ?_
          have hP : va_P G.1 vwCl [(e, .inr (1, [.ref a1, .ref a2, .ref a3, .int (nI k)])), zA G a1 cap (zDr s j (q + 1)), zA G a2 cap (zDr t j (q + 1)), zA G a3 cap (zDr lb j (q + 1))] H := by (simp only [zDr_step h1]); exact hP
          have hD : va_D AM [(e, .inr (1, [.ref a1, .ref a2, .ref a3, .int (nI k)])), zA G a1 cap (zDr s j (q + 1)), zA G a2 cap (zDr t j (q + 1)), zA G a3 cap (zDr lb j (q + 1))] := by (simp only [zDr_step h1]); exact hD
          exact ih13 (q + 1) (by first | assumption | omega) (by first | assumption | omega) (by omega) _ _ _ hP hD hS (lv_sub hl [1, 2, 0] rfl)
    have hP : va_P G.1 vwCl [(e, .inr (1, [.ref a1, .ref a2, .ref a3, .int (nI k)])), zA G a1 cap (zDr s j (j + 1)), zA G a2 cap (zDr t j (j + 1)), zA G a3 cap (zDr lb j (j + 1))] H := by (simp only [zDr_0]); exact hP
    have hD : va_D AM [(e, .inr (1, [.ref a1, .ref a2, .ref a3, .int (nI k)])), zA G a1 cap (zDr s j (j + 1)), zA G a2 cap (zDr t j (j + 1)), zA G a3 cap (zDr lb j (j + 1))] := by (simp only [zDr_0]); exact hD
    exact lp13 (k - (j + 1) + 1) (j + 1) (by first | assumption | omega) (by first | assumption | omega) (Nat.lt_succ_self _) _ _ _ hP hD hS (lv_sub hl [1, 2, 0] rfl)
  · skip
    exfalso; omega
set_option maxHeartbeats 4000000 in
set_option maxRecDepth 100000 in
theorem c_X2_isEmptyLabelled (l : Launch) (G : zG) (e a1 a2 a3 : Nat) (cap : Nat) (lb : Nat → Nat) (k j : Nat) (hj : j < cap) (hc : cap < 2147483648) (hlb : ∀ i, lb i < 7) : MI l yX2_isEmptyLabelled wsX2_isEmptyLabelled ({ frames := 0, cells := 0, slots := 0, locals := 0 }) G [.ref e, .int (nI j)] [(e, .inr (1, [.ref a1, .ref a2, .ref a3, .int (nI k)])), zA G a3 cap lb] (bI (decide (lb j = 0))) [(e, .inr (1, [.ref a1, .ref a2, .ref a3, .int (nI k)])), zA G a3 cap lb] := by
  refine MI.enter (cc := cX2_isEmptyLabelled) (maxL := 2) (by decide) rfl (Nat.le_of_ble_eq_true rfl) (bI_nar _) ?_
  intro pM eM sM mM bM tM cM QM AM ls hat kret
  obtain ⟨SM, hA, hK, hE, hP, hD, hS, hl⟩ := hat
  have hx := SM.1
  have hb := SM.2.1
  have hown : sM.vm.findClass RX2 = some mM.cls := SM.2.2.2.1
  have hts := SM.2.2.2.2
  have hinX2 : ∀ w ∈ u_ws RX2 TX2 4, w ∈ wsX2_isEmptyLabelled := by decide +kernel
  have hlk18 : (Cond.fieldLink RX2 18 "DyckReachability$Edges" "labels" "[I").before _ sM = true := hts _ (by decide +kernel)
  have hl : lv_has ls 2 [(0, .ref e), (1, .int (nI j))] := hl
  refine lv_aload_n hx hb dX2_isEmptyLabelled_0 rfl (lv_at hl 0 rfl) ?_
  refine va_get (D := G.1) (ci := 1) (v := .ref a3) (C := RX2) (T := TX2) (N := 4) hx hb hts hinX2 hown hK hP 0 rfl rfl 2 (by decide) hlk18 (fun _ h9 => h9) rfl dX2_isEmptyLabelled_1 ?_
  refine lv_iload_n hx hb dX2_isEmptyLabelled_4 rfl (lv_at hl 1 rfl) ?_
  refine zi_ald hx hb hK hP 1 rfl (by omega) (by omega) dX2_isEmptyLabelled_5 ?_
  have hb_1 := hlb j
  refine zd_ne (a := (lb j : Nat)) (tgt := 13) hx hb dX2_isEmptyLabelled_6 (by decide) (zI (by omega)) (fun c_2 => ?_) (fun c_2 => ?_)
  · skip
    refine lv_iconst (v := nI 0) hx hb dX2_isEmptyLabelled_13 (by decide) ?_
    exact kret _ _ _ _ _ _ (bI_f (by omega)) rfl hP hD hS dX2_isEmptyLabelled_14
  · skip
    refine lv_iconst (v := nI 1) hx hb dX2_isEmptyLabelled_9 (by decide) ?_
    refine lv_goto (tgt := 14) hx hb dX2_isEmptyLabelled_10 (by decide) ?_
    exact kret _ _ _ _ _ _ (bI_t (by omega)) rfl hP hD hS dX2_isEmptyLabelled_14
set_option maxHeartbeats 4000000 in
set_option maxRecDepth 100000 in
theorem c_X2_opens (l : Launch) (G : zG) (e a1 a2 a3 : Nat) (cap : Nat) (lb : Nat → Nat) (k j : Nat) (hj : j < cap) (hc : cap < 2147483648) (hlb : ∀ i, lb i < 7) : MI l yX2_opens wsX2_opens ({ frames := 0, cells := 0, slots := 0, locals := 0 }) G [.ref e, .int (nI j)] [(e, .inr (1, [.ref a1, .ref a2, .ref a3, .int (nI k)])), zA G a3 cap lb] (bI (decide (1 ≤ lb j ∧ lb j ≤ 3))) [(e, .inr (1, [.ref a1, .ref a2, .ref a3, .int (nI k)])), zA G a3 cap lb] := by
  refine MI.enter (cc := cX2_opens) (maxL := 2) (by decide) rfl (Nat.le_of_ble_eq_true rfl) (bI_nar _) ?_
  intro pM eM sM mM bM tM cM QM AM ls hat kret
  obtain ⟨SM, hA, hK, hE, hP, hD, hS, hl⟩ := hat
  have hx := SM.1
  have hb := SM.2.1
  have hown : sM.vm.findClass RX2 = some mM.cls := SM.2.2.2.1
  have hts := SM.2.2.2.2
  have hinX2 : ∀ w ∈ u_ws RX2 TX2 4, w ∈ wsX2_opens := by decide +kernel
  have hlk18 : (Cond.fieldLink RX2 18 "DyckReachability$Edges" "labels" "[I").before _ sM = true := hts _ (by decide +kernel)
  have hl : lv_has ls 2 [(0, .ref e), (1, .int (nI j))] := hl
  refine lv_aload_n hx hb dX2_opens_0 rfl (lv_at hl 0 rfl) ?_
  refine va_get (D := G.1) (ci := 1) (v := .ref a3) (C := RX2) (T := TX2) (N := 4) hx hb hts hinX2 hown hK hP 0 rfl rfl 2 (by decide) hlk18 (fun _ h9 => h9) rfl dX2_opens_1 ?_
  refine lv_iload_n hx hb dX2_opens_4 rfl (lv_at hl 1 rfl) ?_
  refine zi_ald hx hb hK hP 1 rfl (by omega) (by omega) dX2_opens_5 ?_
  have hb_1 := hlb j
  refine lv_iconst (v := nI 1) hx hb dX2_opens_6 (by decide) ?_
  refine zn_lt (tgt := 24) hx hb dX2_opens_7 (by decide) (by omega) (by omega) (fun c_2 => ?_) (fun c_2 => ?_)
  · skip
    refine lv_iconst (v := nI 0) hx hb dX2_opens_24 (by decide) ?_
    exact kret _ _ _ _ _ _ (bI_f (by omega)) rfl hP hD hS dX2_opens_25
  · skip
    refine lv_aload_n hx hb dX2_opens_10 rfl (lv_at hl 0 rfl) ?_
    refine va_get (D := G.1) (ci := 1) (v := .ref a3) (C := RX2) (T := TX2) (N := 4) hx hb hts hinX2 hown hK hP 0 rfl rfl 2 (by decide) hlk18 (fun _ h9 => h9) rfl dX2_opens_11 ?_
    refine lv_iload_n hx hb dX2_opens_14 rfl (lv_at hl 1 rfl) ?_
    refine zi_ald hx hb hK hP 1 rfl (by omega) (by omega) dX2_opens_15 ?_
    have hb_3 := hlb j
    refine lv_iconst (v := nI 3) hx hb dX2_opens_16 (by decide) ?_
    refine zn_gt (tgt := 24) hx hb dX2_opens_17 (by decide) (by omega) (by omega) (fun c_4 => ?_) (fun c_4 => ?_)
    · skip
      refine lv_iconst (v := nI 0) hx hb dX2_opens_24 (by decide) ?_
      exact kret _ _ _ _ _ _ (bI_f (by omega)) rfl hP hD hS dX2_opens_25
    · skip
      refine lv_iconst (v := nI 1) hx hb dX2_opens_20 (by decide) ?_
      refine lv_goto (tgt := 25) hx hb dX2_opens_21 (by decide) ?_
      exact kret _ _ _ _ _ _ (bI_t (by omega)) rfl hP hD hS dX2_opens_25
set_option maxHeartbeats 4000000 in
set_option maxRecDepth 100000 in
theorem c_X2_closes (l : Launch) (G : zG) (e a1 a2 a3 : Nat) (cap : Nat) (lb : Nat → Nat) (k i j : Nat) (hi : i < cap) (hj : j < cap) (hc : cap < 2147483648) (hlb : ∀ i, lb i < 7) : MI l yX2_closes wsX2_closes ({ frames := 0, cells := 0, slots := 0, locals := 0 }) G [.ref e, .int (nI i), .int (nI j)] [(e, .inr (1, [.ref a1, .ref a2, .ref a3, .int (nI k)])), zA G a3 cap lb] (bI (decide (lb i = lb j + 3))) [(e, .inr (1, [.ref a1, .ref a2, .ref a3, .int (nI k)])), zA G a3 cap lb] := by
  refine MI.enter (cc := cX2_closes) (maxL := 3) (by decide) rfl (Nat.le_of_ble_eq_true rfl) (bI_nar _) ?_
  intro pM eM sM mM bM tM cM QM AM ls hat kret
  obtain ⟨SM, hA, hK, hE, hP, hD, hS, hl⟩ := hat
  have hx := SM.1
  have hb := SM.2.1
  have hown : sM.vm.findClass RX2 = some mM.cls := SM.2.2.2.1
  have hts := SM.2.2.2.2
  have hinX2 : ∀ w ∈ u_ws RX2 TX2 4, w ∈ wsX2_closes := by decide +kernel
  have hlk18 : (Cond.fieldLink RX2 18 "DyckReachability$Edges" "labels" "[I").before _ sM = true := hts _ (by decide +kernel)
  have hl : lv_has ls 3 [(0, .ref e), (1, .int (nI i)), (2, .int (nI j))] := hl
  refine lv_aload_n hx hb dX2_closes_0 rfl (lv_at hl 0 rfl) ?_
  refine va_get (D := G.1) (ci := 1) (v := .ref a3) (C := RX2) (T := TX2) (N := 4) hx hb hts hinX2 hown hK hP 0 rfl rfl 2 (by decide) hlk18 (fun _ h9 => h9) rfl dX2_closes_1 ?_
  refine lv_iload_n hx hb dX2_closes_4 rfl (lv_at hl 1 rfl) ?_
  refine zi_ald hx hb hK hP 1 rfl (by omega) (by omega) dX2_closes_5 ?_
  have hb_1 := hlb i
  refine lv_aload_n hx hb dX2_closes_6 rfl (lv_at hl 0 rfl) ?_
  refine va_get (D := G.1) (ci := 1) (v := .ref a3) (C := RX2) (T := TX2) (N := 4) hx hb hts hinX2 hown hK hP 0 rfl rfl 2 (by decide) hlk18 (fun _ h9 => h9) rfl dX2_closes_7 ?_
  refine lv_iload_n hx hb dX2_closes_10 rfl (lv_at hl 2 rfl) ?_
  refine zi_ald hx hb hK hP 1 rfl (by omega) (by omega) dX2_closes_11 ?_
  have hb_2 := hlb j
  refine lv_iconst (v := nI 3) hx hb dX2_closes_12 (by decide) ?_
  refine zi_addk (n := (lb j) + 3) hx hb dX2_closes_13 (by omega) ?_
  refine zn_ne (tgt := 21) hx hb dX2_closes_14 (by decide) (by omega) (by omega) (fun c_3 => ?_) (fun c_3 => ?_)
  · skip
    refine lv_iconst (v := nI 0) hx hb dX2_closes_21 (by decide) ?_
    exact kret _ _ _ _ _ _ (bI_f (by omega)) rfl hP hD hS dX2_closes_22
  · skip
    refine lv_iconst (v := nI 1) hx hb dX2_closes_17 (by decide) ?_
    refine lv_goto (tgt := 22) hx hb dX2_closes_18 (by decide) ?_
    exact kret _ _ _ _ _ _ (bI_t (by omega)) rfl hP hD hS dX2_closes_22
set_option maxHeartbeats 4000000 in
set_option maxRecDepth 100000 in
theorem c_X2_otherBracket (l : Launch) (G : zG) (z : Nat) (hz : z < 7) : MI l yX2_otherBracket wsX2_otherBracket ({ frames := 0, cells := 0, slots := 0, locals := 0 }) G [.int (nI z)] [] (nI (zOB z)) [] := by
  refine MI.enter (cc := cX2_otherBracket) (maxL := 1) (by decide) rfl (Nat.le_of_ble_eq_true rfl) rfl ?_
  intro pM eM sM mM bM tM cM QM AM ls hat kret
  obtain ⟨SM, hA, hK, hE, hP, hD, hS, hl⟩ := hat
  have hx := SM.1
  have hb := SM.2.1
  have hown : sM.vm.findClass RX2 = some mM.cls := SM.2.2.2.1
  have hts := SM.2.2.2.2
  have hl : lv_has ls 1 [(0, .int (nI z))] := hl
  refine lv_iload_n hx hb dX2_otherBracket_0 rfl (lv_at hl 0 rfl) ?_
  refine zd_ne (a := (z : Nat)) (tgt := 6) hx hb dX2_otherBracket_1 (by decide) (zI (by omega)) (fun c_1 => ?_) (fun c_1 => ?_)
  · skip
    refine lv_iload_n hx hb dX2_otherBracket_6 rfl (lv_at hl 0 rfl) ?_
    refine lv_iconst (v := nI 3) hx hb dX2_otherBracket_7 (by decide) ?_
    refine zn_gt (tgt := 17) hx hb dX2_otherBracket_8 (by decide) (by omega) (by omega) (fun c_2 => ?_) (fun c_2 => ?_)
    · skip
      refine lv_iload_n hx hb dX2_otherBracket_17 rfl (lv_at hl 0 rfl) ?_
      refine lv_iconst (v := nI 3) hx hb dX2_otherBracket_18 (by decide) ?_
      refine zi_sub hx hb dX2_otherBracket_19 (by omega) ?_
      exact kret _ _ _ _ _ _ (congrArg nI (by unfold zOB; split <;> (try split) <;> omega)) rfl hP hD hS dX2_otherBracket_20
    · skip
      refine lv_iload_n hx hb dX2_otherBracket_11 rfl (lv_at hl 0 rfl) ?_
      refine lv_iconst (v := nI 3) hx hb dX2_otherBracket_12 (by decide) ?_
      refine zi_addk (n := z + 3) hx hb dX2_otherBracket_13 (by omega) ?_
      refine lv_goto (tgt := 20) hx hb dX2_otherBracket_14 (by decide) ?_
      exact kret _ _ _ _ _ _ (congrArg nI (by unfold zOB; split <;> (try split) <;> omega)) rfl hP hD hS dX2_otherBracket_20
  · skip
    refine lv_iconst (v := nI 0) hx hb dX2_otherBracket_4 (by decide) ?_
    exact kret _ _ _ _ _ _ (congrArg nI (by unfold zOB; split <;> omega)) rfl hP hD hS dX2_otherBracket_5
set_option maxHeartbeats 4000000 in
set_option maxRecDepth 100000 in
theorem c_X2_take (l : Launch) (G : zG) (e a1 a2 a3 : Nat) (cap : Nat) (s t lb : Nat → Nat) (k : Nat) (e2 b1 b2 b3 : Nat) (cap2 : Nat) (s2 t2 l2 : Nat → Nat) (k2 : Nat) (hk2 : k2 ≤ cap2) (hk : k2 ≤ cap) (hc : cap < 2147483648) (hc2 : cap2 < 2147483648) : MV l yX2_take wsX2_take ({ frames := 2, cells := 0, slots := 0, locals := 43 }) G [.ref e, .ref e2] [(e, .inr (1, [.ref a1, .ref a2, .ref a3, .int (nI k)])), zA G a1 cap s, zA G a2 cap t, zA G a3 cap lb, (e2, .inr (1, [.ref b1, .ref b2, .ref b3, .int (nI k2)])), zA G b1 cap2 s2, zA G b2 cap2 t2, zA G b3 cap2 l2] [(e, .inr (1, [.ref a1, .ref a2, .ref a3, .int (nI k2)])), zA G a1 cap (zTk s s2 k2), zA G a2 cap (zTk t t2 k2), zA G a3 cap (zTk lb l2 k2), (e2, .inr (1, [.ref b1, .ref b2, .ref b3, .int (nI k2)])), zA G b1 cap2 s2, zA G b2 cap2 t2, zA G b3 cap2 l2] := by
  refine MV.enter (cc := cX2_take) (maxL := 3) (by decide) rfl (Nat.le_of_ble_eq_true rfl) ?_
  intro pM eM sM mM bM tM cM QM AM ls hat kret
  obtain ⟨SM, hA, hK, hE, hP, hD, hS, hl⟩ := hat
  have hx := SM.1
  have hb := SM.2.1
  have hown : sM.vm.findClass RX2 = some mM.cls := SM.2.2.2.1
  have hts := SM.2.2.2.2
  have hinX2 : ∀ w ∈ u_ws RX2 TX2 4, w ∈ wsX2_take := by decide +kernel
  have hlk21 : (Cond.fieldLink RX2 21 "DyckReachability$Edges" "size" "I").before _ sM = true := hts _ (by decide +kernel)
  have hlk9 : (Cond.fieldLink RX2 9 "DyckReachability$Edges" "sources" "[I").before _ sM = true := hts _ (by decide +kernel)
  have hlk15 : (Cond.fieldLink RX2 15 "DyckReachability$Edges" "targets" "[I").before _ sM = true := hts _ (by decide +kernel)
  have hlk18 : (Cond.fieldLink RX2 18 "DyckReachability$Edges" "labels" "[I").before _ sM = true := hts _ (by decide +kernel)
  have hl : lv_has ls 3 [(0, .ref e), (1, .ref e2)] := hl
  refine lv_aload_n hx hb dX2_take_0 rfl (lv_at hl 0 rfl) ?_
  refine lv_iconst (v := nI 0) hx hb dX2_take_1 (by decide) ?_
  refine va_put (D := G.1) (ci := 1) (v := .int (nI 0)) (ty := .int) (C := RX2) (T := TX2) (N := 4) hx hb hts hinX2 tyX2 tyX2_ok nmX2 hown hK hP hD hS 0 rfl rfl 3 (by decide) hlk21 (fun _ h9 => h9) rfl (by decide +kernel) rfl rfl (Nat.le_of_ble_eq_true rfl) dX2_take_2 (fun H locs hP hD hS => ?_)
  have hP : va_P G.1 vwCl [(e, .inr (1, [.ref a1, .ref a2, .ref a3, .int (nI 0)])), zA G a1 cap s, zA G a2 cap t, zA G a3 cap lb, (e2, .inr (1, [.ref b1, .ref b2, .ref b3, .int (nI k2)])), zA G b1 cap2 s2, zA G b2 cap2 t2, zA G b3 cap2 l2] H := hP
  have hD : va_D AM [(e, .inr (1, [.ref a1, .ref a2, .ref a3, .int (nI 0)])), zA G a1 cap s, zA G a2 cap t, zA G a3 cap lb, (e2, .inr (1, [.ref b1, .ref b2, .ref b3, .int (nI k2)])), zA G b1 cap2 s2, zA G b2 cap2 t2, zA G b3 cap2 l2] := hD
  refine lv_iconst (v := nI 0) hx hb dX2_take_5 (by decide) ?_
  refine lv_istore_n (lv' := [(2, .int (nI 0)), (0, .ref e), (1, .ref e2)]) hx hb dX2_take_6 rfl hl (by decide) rfl (fun ls hl => ?_)
  have lp7 : ∀ (n9 : Nat), ∀ (i : Nat), (i ≤ k2) → (k2 - i) < n9 → ∀ (H : Heap) (locs : List Loc) (ls : Array Slot), va_P G.1 vwCl [(e, .inr (1, [.ref a1, .ref a2, .ref a3, .int (nI i)])), zA G a1 cap (zTk s s2 i), zA G a2 cap (zTk t t2 i), zA G a3 cap (zTk lb l2 i), (e2, .inr (1, [.ref b1, .ref b2, .ref b3, .int (nI k2)])), zA G b1 cap2 s2, zA G b2 cap2 t2, zA G b3 cap2 l2] H → va_D AM [(e, .inr (1, [.ref a1, .ref a2, .ref a3, .int (nI i)])), zA G a1 cap (zTk s s2 i), zA G a2 cap (zTk t t2 i), zA G a3 cap (zTk lb l2 i), (e2, .inr (1, [.ref b1, .ref b2, .ref b3, .int (nI k2)])), zA G b1 cap2 s2, zA G b2 cap2 t2, zA G b3 cap2 l2] → va_S AM sM.heap H locs → lv_has ls 3 [(0, .ref e), (1, .ref e2), (2, .int (nI i))] → W pM l eM ({ frames := 2, cells := 0, slots := 0, locals := 43 }) sM mM (([.ref e, .ref e2] : List Value).toArray) bM tM cM H locs 0 0 QM (F0 mM 7 ls []) := by
    intro n9
    induction n9 with
    | zero =>
      intro _ _ h9
      exact absurd h9 (Nat.not_lt_zero _)
    | succ n9 ih9 =>
      intro i h1 hmu7 H locs ls hP hD hS hl
      have ih7 := ih9
      clear ih9
      refine lv_iload_n hx hb dX2_take_7 rfl (lv_at hl 2 rfl) ?_
      refine lv_aload_n hx hb dX2_take_8 rfl (lv_at hl 1 rfl) ?_
      refine va_get (D := G.1) (ci := 1) (v := .int (nI k2)) (C := RX2) (T := TX2) (N := 4) hx hb hts hinX2 hown hK hP 4 rfl rfl 3 (by decide) hlk21 (fun _ h9 => h9) rfl dX2_take_9 ?_
      refine zn_ge (tgt := 43) hx hb dX2_take_12 (by decide) (by omega) (by omega) (fun c_1 => ?_) (fun c_1 => ?_)
      · skip
        exact kret _ _ _ _ _ (by have hq9 : i = k2 := (by omega); subst hq9; rfl) hP hD hS dX2_take_43
      · skip
        refine lv_aload_n hx hb dX2_take_15 rfl (lv_at hl 0 rfl) ?_
        refine lv_aload_n hx hb dX2_take_16 rfl (lv_at hl 1 rfl) ?_
        refine va_get (D := G.1) (ci := 1) (v := .ref b1) (C := RX2) (T := TX2) (N := 4) hx hb hts hinX2 hown hK hP 4 rfl rfl 0 (by decide) hlk9 (fun _ h9 => h9) rfl dX2_take_17 ?_
        refine lv_iload_n hx hb dX2_take_20 rfl (lv_at hl 2 rfl) ?_
        refine zi_ald hx hb hK hP 5 rfl (by omega) (by omega) dX2_take_21 ?_
        refine lv_aload_n hx hb dX2_take_22 rfl (lv_at hl 1 rfl) ?_
        refine va_get (D := G.1) (ci := 1) (v := .ref b2) (C := RX2) (T := TX2) (N := 4) hx hb hts hinX2 hown hK hP 4 rfl rfl 1 (by decide) hlk15 (fun _ h9 => h9) rfl dX2_take_23 ?_
        refine lv_iload_n hx hb dX2_take_26 rfl (lv_at hl 2 rfl) ?_
        refine zi_ald hx hb hK hP 6 rfl (by omega) (by omega) dX2_take_27 ?_
        refine lv_aload_n hx hb dX2_take_28 rfl (lv_at hl 1 rfl) ?_
        refine va_get (D := G.1) (ci := 1) (v := .ref b3) (C := RX2) (T := TX2) (N := 4) hx hb hts hinX2 hown hK hP 4 rfl rfl 2 (by decide) hlk18 (fun _ h9 => h9) rfl dX2_take_29 ?_
        refine lv_iload_n hx hb dX2_take_32 rfl (lv_at hl 2 rfl) ?_
        refine zi_ald hx hb hK hP 7 rfl (by omega) (by omega) dX2_take_33 ?_
        refine zVv (W1 := [(e, .inr (1, [.ref a1, .ref a2, .ref a3, .int (nI i)])), zA G a1 cap (zTk s s2 i), zA G a2 cap (zTk t t2 i), zA G a3 cap (zTk lb l2 i), (e2, .inr (1, [.ref b1, .ref b2, .ref b3, .int (nI k2)])), zA G b1 cap2 s2, zA G b2 cap2 t2, zA G b3 cap2 l2]) (W2 := [(e, .inr (1, [.ref a1, .ref a2, .ref a3, .int (nI (i + 1))])), zA G a1 cap (zU (zTk s s2 i) i (s2 i)), zA G a2 cap (zU (zTk t t2 i) i (t2 i)), zA G a3 cap (zU (zTk lb l2 i) i (l2 i)), (e2, .inr (1, [.ref b1, .ref b2, .ref b3, .int (nI k2)])), zA G b1 cap2 s2, zA G b2 cap2 t2, zA G b3 cap2 l2]) (wr := [(e2, .inr (1, [.ref b1, .ref b2, .ref b3, .int (nI k2)])), zA G b1 cap2 s2, zA G b2 cap2 t2, zA G b3 cap2 l2]) (rest := []) SM (c_X2_put_N l G e a1 a2 a3 cap (zTk s s2 i) (zTk t t2 i) (zTk lb l2 i) i (s2 i) (t2 i) (l2 i) (by first | assumption | omega) (by first | assumption | omega)) (cwV 3 hts gX2_take_X2_put rfl rfl rfl (by decide +kernel) ⟨Nat.le_of_ble_eq_true rfl, Nat.le_of_ble_eq_true rfl⟩) hK hE hA hP hD hS hl.1 [0, 1, 2, 3] [4, 5, 6, 7] [4, 5, 6, 7, 0, 1, 2, 3] rfl rfl rfl (by decide) (ci := 1) rfl rfl rfl rfl rfl (Nat.le_of_ble_eq_true rfl) ⟨Nat.zero_le _, Nat.zero_le _⟩ dX2_take_34 (fun H locs hP hD hS => ?_)
        refine lv_iinc (v := nI (i + 1)) (lv' := [(2, .int (nI (i + 1))), (0, .ref e), (1, .ref e2)]) hx hb dX2_take_37 hl (k := 2) rfl (zinc i 1) (by decide) rfl (fun ls hl => ?_)
        refine lv_goto (tgt := 7) hx hb dX2_take_40 (by decide) ?_
        have hP : va_P G.1 vwCl [(e, .inr (1, [.ref a1, .ref a2, .ref a3, .int (nI (i + 1))])), zA G a1 cap (zTk s s2 (i + 1)), zA G a2 cap (zTk t t2 (i + 1)), zA G a3 cap (zTk lb l2 (i + 1)), (e2, .inr (1, [.ref b1, .ref b2, .ref b3, .int (nI k2)])), zA G b1 cap2 s2, zA G b2 cap2 t2, zA G b3 cap2 l2] H := by (simp only [zTk_step]); exact hP
        have hD : va_D AM [(e, .inr (1, [.ref a1, .ref a2, .ref a3, .int (nI (i + 1))])), zA G a1 cap (zTk s s2 (i + 1)), zA G a2 cap (zTk t t2 (i + 1)), zA G a3 cap (zTk lb l2 (i + 1)), (e2, .inr (1, [.ref b1, .ref b2, .ref b3, .int (nI k2)])), zA G b1 cap2 s2, zA G b2 cap2 t2, zA G b3 cap2 l2] := by (simp only [zTk_step]); exact hD
        exact ih7 (i + 1) (by first | assumption | omega) (by omega) _ _ _ hP hD hS (lv_sub hl [1, 2, 0] rfl)
  have hP : va_P G.1 vwCl [(e, .inr (1, [.ref a1, .ref a2, .ref a3, .int (nI 0)])), zA G a1 cap (zTk s s2 0), zA G a2 cap (zTk t t2 0), zA G a3 cap (zTk lb l2 0), (e2, .inr (1, [.ref b1, .ref b2, .ref b3, .int (nI k2)])), zA G b1 cap2 s2, zA G b2 cap2 t2, zA G b3 cap2 l2] H := by (simp only [zTk_0]); exact hP
  have hD : va_D AM [(e, .inr (1, [.ref a1, .ref a2, .ref a3, .int (nI 0)])), zA G a1 cap (zTk s s2 0), zA G a2 cap (zTk t t2 0), zA G a3 cap (zTk lb l2 0), (e2, .inr (1, [.ref b1, .ref b2, .ref b3, .int (nI k2)])), zA G b1 cap2 s2, zA G b2 cap2 t2, zA G b3 cap2 l2] := by (simp only [zTk_0]); exact hD
  exact lp7 (k2 - 0 + 1) 0 (by first | assumption | omega) (Nat.lt_succ_self _) _ _ _ hP hD hS (lv_sub hl [1, 2, 0] rfl)
set_option maxHeartbeats 4000000 in
set_option maxRecDepth 100000 in
theorem c_X2_takeSome (l : Launch) (G : zG) (e a1 a2 a3 : Nat) (cap : Nat) (s t lb : Nat → Nat) (k : Nat) (e2 b1 b2 b3 : Nat) (cap2 : Nat) (s2 t2 l2 : Nat → Nat) (k2 : Nat) (sub : Nat) (hk2 : k2 ≤ cap2) (hk : k2 ≤ cap) (hc : cap < 2147483648) (hc2 : cap2 < 2147483648) (hs : sub < 2147483648) (hk16 : k2 ≤ 16) : MV l yX2_takeSome wsX2_takeSome ({ frames := 2, cells := 0, slots := 0, locals := 43 }) G [.ref e, .ref e2, .int (nI sub)] [(e, .inr (1, [.ref a1, .ref a2, .ref a3, .int (nI k)])), zA G a1 cap s, zA G a2 cap t, zA G a3 cap lb, (e2, .inr (1, [.ref b1, .ref b2, .ref b3, .int (nI k2)])), zA G b1 cap2 s2, zA G b2 cap2 t2, zA G b3 cap2 l2] [(e, .inr (1, [.ref a1, .ref a2, .ref a3, .int (nI (zCt sub k2))])), zA G a1 cap (zSel sub s s2 k2), zA G a2 cap (zSel sub t t2 k2), zA G a3 cap (zSel sub lb l2 k2), (e2, .inr (1, [.ref b1, .ref b2, .ref b3, .int (nI k2)])), zA G b1 cap2 s2, zA G b2 cap2 t2, zA G b3 cap2 l2] := by
  refine MV.enter (cc := cX2_takeSome) (maxL := 4) (by decide) rfl (Nat.le_of_ble_eq_true rfl) ?_
  intro pM eM sM mM bM tM cM QM AM ls hat kret
  obtain ⟨SM, hA, hK, hE, hP, hD, hS, hl⟩ := hat
  have hx := SM.1
  have hb := SM.2.1
  have hown : sM.vm.findClass RX2 = some mM.cls := SM.2.2.2.1
  have hts := SM.2.2.2.2
  have hinX2 : ∀ w ∈ u_ws RX2 TX2 4, w ∈ wsX2_takeSome := by decide +kernel
  have hlk21 : (Cond.fieldLink RX2 21 "DyckReachability$Edges" "size" "I").before _ sM = true := hts _ (by decide +kernel)
  have hlk9 : (Cond.fieldLink RX2 9 "DyckReachability$Edges" "sources" "[I").before _ sM = true := hts _ (by decide +kernel)
  have hlk15 : (Cond.fieldLink RX2 15 "DyckReachability$Edges" "targets" "[I").before _ sM = true := hts _ (by decide +kernel)
  have hlk18 : (Cond.fieldLink RX2 18 "DyckReachability$Edges" "labels" "[I").before _ sM = true := hts _ (by decide +kernel)
  have hl : lv_has ls 4 [(0, .ref e), (1, .ref e2), (2, .int (nI sub))] := hl
  refine lv_aload_n hx hb dX2_takeSome_0 rfl (lv_at hl 0 rfl) ?_
  refine lv_iconst (v := nI 0) hx hb dX2_takeSome_1 (by decide) ?_
  refine va_put (D := G.1) (ci := 1) (v := .int (nI 0)) (ty := .int) (C := RX2) (T := TX2) (N := 4) hx hb hts hinX2 tyX2 tyX2_ok nmX2 hown hK hP hD hS 0 rfl rfl 3 (by decide) hlk21 (fun _ h9 => h9) rfl (by decide +kernel) rfl rfl (Nat.le_of_ble_eq_true rfl) dX2_takeSome_2 (fun H locs hP hD hS => ?_)
  have hP : va_P G.1 vwCl [(e, .inr (1, [.ref a1, .ref a2, .ref a3, .int (nI 0)])), zA G a1 cap s, zA G a2 cap t, zA G a3 cap lb, (e2, .inr (1, [.ref b1, .ref b2, .ref b3, .int (nI k2)])), zA G b1 cap2 s2, zA G b2 cap2 t2, zA G b3 cap2 l2] H := hP
  have hD : va_D AM [(e, .inr (1, [.ref a1, .ref a2, .ref a3, .int (nI 0)])), zA G a1 cap s, zA G a2 cap t, zA G a3 cap lb, (e2, .inr (1, [.ref b1, .ref b2, .ref b3, .int (nI k2)])), zA G b1 cap2 s2, zA G b2 cap2 t2, zA G b3 cap2 l2] := hD
  refine lv_iconst (v := nI 0) hx hb dX2_takeSome_5 (by decide) ?_
  refine lv_istore_n (lv' := [(3, .int (nI 0)), (0, .ref e), (1, .ref e2), (2, .int (nI sub))]) hx hb dX2_takeSome_6 rfl hl (by decide) rfl (fun ls hl => ?_)
  have lp7 : ∀ (n9 : Nat), ∀ (i : Nat), (i ≤ k2) → (k2 - i) < n9 → ∀ (H : Heap) (locs : List Loc) (ls : Array Slot), va_P G.1 vwCl [(e, .inr (1, [.ref a1, .ref a2, .ref a3, .int (nI (zCt sub i))])), zA G a1 cap (zSel sub s s2 i), zA G a2 cap (zSel sub t t2 i), zA G a3 cap (zSel sub lb l2 i), (e2, .inr (1, [.ref b1, .ref b2, .ref b3, .int (nI k2)])), zA G b1 cap2 s2, zA G b2 cap2 t2, zA G b3 cap2 l2] H → va_D AM [(e, .inr (1, [.ref a1, .ref a2, .ref a3, .int (nI (zCt sub i))])), zA G a1 cap (zSel sub s s2 i), zA G a2 cap (zSel sub t t2 i), zA G a3 cap (zSel sub lb l2 i), (e2, .inr (1, [.ref b1, .ref b2, .ref b3, .int (nI k2)])), zA G b1 cap2 s2, zA G b2 cap2 t2, zA G b3 cap2 l2] → va_S AM sM.heap H locs → lv_has ls 4 [(0, .ref e), (1, .ref e2), (2, .int (nI sub)), (3, .int (nI i))] → W pM l eM ({ frames := 2, cells := 0, slots := 0, locals := 43 }) sM mM (([.ref e, .ref e2, .int (nI sub)] : List Value).toArray) bM tM cM H locs 0 0 QM (F0 mM 7 ls []) := by
    intro n9
    induction n9 with
    | zero =>
      intro _ _ h9
      exact absurd h9 (Nat.not_lt_zero _)
    | succ n9 ih9 =>
      intro i h1 hmu7 H locs ls hP hD hS hl
      have ih7 := ih9
      clear ih9
      have hct := zCt_le sub i
      refine lv_iload_n hx hb dX2_takeSome_7 rfl (lv_at hl 3 rfl) ?_
      refine lv_aload_n hx hb dX2_takeSome_8 rfl (lv_at hl 1 rfl) ?_
      refine va_get (D := G.1) (ci := 1) (v := .int (nI k2)) (C := RX2) (T := TX2) (N := 4) hx hb hts hinX2 hown hK hP 4 rfl rfl 3 (by decide) hlk21 (fun _ h9 => h9) rfl dX2_takeSome_9 ?_
      refine zn_ge (tgt := 51) hx hb dX2_takeSome_12 (by decide) (by omega) (by omega) (fun c_1 => ?_) (fun c_1 => ?_)
      · skip
        exact kret _ _ _ _ _ (by have hq9 : i = k2 := (by omega); subst hq9; rfl) hP hD hS dX2_takeSome_51
      · skip
        refine lv_iload_n hx hb dX2_takeSome_15 rfl (lv_at hl 2 rfl) ?_
        refine lv_iload_n hx hb dX2_takeSome_16 rfl (lv_at hl 3 rfl) ?_
        refine zi_shr hx hb dX2_takeSome_17 (by omega) (by omega) ?_
        refine lv_iconst (v := nI 1) hx hb dX2_takeSome_18 (by decide) ?_
        refine zi_and1 hx hb dX2_takeSome_19 ?_
        refine zd_eq (a := ((sub / 2 ^ i) % 2 : Nat)) (tgt := 45) hx hb dX2_takeSome_20 (by decide) (zI (by omega)) (fun c_2 => ?_) (fun c_2 => ?_)
        · skip
          have hbit : (sub / 2 ^ i % 2) = 0 := by omega
          refine lv_iinc (v := nI (i + 1)) (lv' := [(3, .int (nI (i + 1))), (0, .ref e), (1, .ref e2), (2, .int (nI sub))]) hx hb dX2_takeSome_45 hl (k := 3) rfl (zinc i 1) (by decide) rfl (fun ls hl => ?_)
          refine lv_goto (tgt := 7) hx hb dX2_takeSome_48 (by decide) ?_
          have hP : va_P G.1 vwCl [(e, .inr (1, [.ref a1, .ref a2, .ref a3, .int (nI (zCt sub (i + 1)))])), zA G a1 cap (zSel sub s s2 (i + 1)), zA G a2 cap (zSel sub t t2 (i + 1)), zA G a3 cap (zSel sub lb l2 (i + 1)), (e2, .inr (1, [.ref b1, .ref b2, .ref b3, .int (nI k2)])), zA G b1 cap2 s2, zA G b2 cap2 t2, zA G b3 cap2 l2] H := by (first | (simp only [zSel_y ‹¬ (sub / 2 ^ i % 2) = 0›, zCt_y ‹¬ (sub / 2 ^ i % 2) = 0›]) | (simp only [zSel_n ‹(sub / 2 ^ i % 2) = 0›, zCt_n ‹(sub / 2 ^ i % 2) = 0›])); exact hP
          have hD : va_D AM [(e, .inr (1, [.ref a1, .ref a2, .ref a3, .int (nI (zCt sub (i + 1)))])), zA G a1 cap (zSel sub s s2 (i + 1)), zA G a2 cap (zSel sub t t2 (i + 1)), zA G a3 cap (zSel sub lb l2 (i + 1)), (e2, .inr (1, [.ref b1, .ref b2, .ref b3, .int (nI k2)])), zA G b1 cap2 s2, zA G b2 cap2 t2, zA G b3 cap2 l2] := by (first | (simp only [zSel_y ‹¬ (sub / 2 ^ i % 2) = 0›, zCt_y ‹¬ (sub / 2 ^ i % 2) = 0›]) | (simp only [zSel_n ‹(sub / 2 ^ i % 2) = 0›, zCt_n ‹(sub / 2 ^ i % 2) = 0›])); exact hD
          exact ih7 (i + 1) (by first | assumption | omega) (by omega) _ _ _ hP hD hS (lv_sub hl [1, 2, 3, 0] rfl)
        · skip
          have hbit : ¬ (sub / 2 ^ i % 2) = 0 := by omega
          refine lv_aload_n hx hb dX2_takeSome_23 rfl (lv_at hl 0 rfl) ?_
          refine lv_aload_n hx hb dX2_takeSome_24 rfl (lv_at hl 1 rfl) ?_
          refine va_get (D := G.1) (ci := 1) (v := .ref b1) (C := RX2) (T := TX2) (N := 4) hx hb hts hinX2 hown hK hP 4 rfl rfl 0 (by decide) hlk9 (fun _ h9 => h9) rfl dX2_takeSome_25 ?_
          refine lv_iload_n hx hb dX2_takeSome_28 rfl (lv_at hl 3 rfl) ?_
          refine zi_ald hx hb hK hP 5 rfl (by omega) (by omega) dX2_takeSome_29 ?_
          refine lv_aload_n hx hb dX2_takeSome_30 rfl (lv_at hl 1 rfl) ?_
          refine va_get (D := G.1) (ci := 1) (v := .ref b2) (C := RX2) (T := TX2) (N := 4) hx hb hts hinX2 hown hK hP 4 rfl rfl 1 (by decide) hlk15 (fun _ h9 => h9) rfl dX2_takeSome_31 ?_
          refine lv_iload_n hx hb dX2_takeSome_34 rfl (lv_at hl 3 rfl) ?_
          refine zi_ald hx hb hK hP 6 rfl (by omega) (by omega) dX2_takeSome_35 ?_
          refine lv_aload_n hx hb dX2_takeSome_36 rfl (lv_at hl 1 rfl) ?_
          refine va_get (D := G.1) (ci := 1) (v := .ref b3) (C := RX2) (T := TX2) (N := 4) hx hb hts hinX2 hown hK hP 4 rfl rfl 2 (by decide) hlk18 (fun _ h9 => h9) rfl dX2_takeSome_37 ?_
          refine lv_iload_n hx hb dX2_takeSome_40 rfl (lv_at hl 3 rfl) ?_
          refine zi_ald hx hb hK hP 7 rfl (by omega) (by omega) dX2_takeSome_41 ?_
          refine zVv (W1 := [(e, .inr (1, [.ref a1, .ref a2, .ref a3, .int (nI (zCt sub i))])), zA G a1 cap (zSel sub s s2 i), zA G a2 cap (zSel sub t t2 i), zA G a3 cap (zSel sub lb l2 i), (e2, .inr (1, [.ref b1, .ref b2, .ref b3, .int (nI k2)])), zA G b1 cap2 s2, zA G b2 cap2 t2, zA G b3 cap2 l2]) (W2 := [(e, .inr (1, [.ref a1, .ref a2, .ref a3, .int (nI ((zCt sub i) + 1))])), zA G a1 cap (zU (zSel sub s s2 i) (zCt sub i) (s2 i)), zA G a2 cap (zU (zSel sub t t2 i) (zCt sub i) (t2 i)), zA G a3 cap (zU (zSel sub lb l2 i) (zCt sub i) (l2 i)), (e2, .inr (1, [.ref b1, .ref b2, .ref b3, .int (nI k2)])), zA G b1 cap2 s2, zA G b2 cap2 t2, zA G b3 cap2 l2]) (wr := [(e2, .inr (1, [.ref b1, .ref b2, .ref b3, .int (nI k2)])), zA G b1 cap2 s2, zA G b2 cap2 t2, zA G b3 cap2 l2]) (rest := []) SM (c_X2_put_N l G e a1 a2 a3 cap (zSel sub s s2 i) (zSel sub t t2 i) (zSel sub lb l2 i) (zCt sub i) (s2 i) (t2 i) (l2 i) (by first | assumption | omega) (by first | assumption | omega)) (cwV 3 hts gX2_takeSome_X2_put rfl rfl rfl (by decide +kernel) ⟨Nat.le_of_ble_eq_true rfl, Nat.le_of_ble_eq_true rfl⟩) hK hE hA hP hD hS hl.1 [0, 1, 2, 3] [4, 5, 6, 7] [4, 5, 6, 7, 0, 1, 2, 3] rfl rfl rfl (by decide) (ci := 1) rfl rfl rfl rfl rfl (Nat.le_of_ble_eq_true rfl) ⟨Nat.zero_le _, Nat.zero_le _⟩ dX2_takeSome_42 (fun H locs hP hD hS => ?_)
          refine lv_iinc (v := nI (i + 1)) (lv' := [(3, .int (nI (i + 1))), (0, .ref e), (1, .ref e2), (2, .int (nI sub))]) hx hb dX2_takeSome_45 hl (k := 3) rfl (zinc i 1) (by decide) rfl (fun ls hl => ?_)
          refine lv_goto (tgt := 7) hx hb dX2_takeSome_48 (by decide) ?_
          have hP : va_P G.1 vwCl [(e, .inr (1, [.ref a1, .ref a2, .ref a3, .int (nI (zCt sub (i + 1)))])), zA G a1 cap (zSel sub s s2 (i + 1)), zA G a2 cap (zSel sub t t2 (i + 1)), zA G a3 cap (zSel sub lb l2 (i + 1)), (e2, .inr (1, [.ref b1, .ref b2, .ref b3, .int (nI k2)])), zA G b1 cap2 s2, zA G b2 cap2 t2, zA G b3 cap2 l2] H := by (first | (simp only [zSel_y ‹¬ (sub / 2 ^ i % 2) = 0›, zCt_y ‹¬ (sub / 2 ^ i % 2) = 0›]) | (simp only [zSel_n ‹(sub / 2 ^ i % 2) = 0›, zCt_n ‹(sub / 2 ^ i % 2) = 0›])); exact hP
          have hD : va_D AM [(e, .inr (1, [.ref a1, .ref a2, .ref a3, .int (nI (zCt sub (i + 1)))])), zA G a1 cap (zSel sub s s2 (i + 1)), zA G a2 cap (zSel sub t t2 (i + 1)), zA G a3 cap (zSel sub lb l2 (i + 1)), (e2, .inr (1, [.ref b1, .ref b2, .ref b3, .int (nI k2)])), zA G b1 cap2 s2, zA G b2 cap2 t2, zA G b3 cap2 l2] := by (first | (simp only [zSel_y ‹¬ (sub / 2 ^ i % 2) = 0›, zCt_y ‹¬ (sub / 2 ^ i % 2) = 0›]) | (simp only [zSel_n ‹(sub / 2 ^ i % 2) = 0›, zCt_n ‹(sub / 2 ^ i % 2) = 0›])); exact hD
          exact ih7 (i + 1) (by first | assumption | omega) (by omega) _ _ _ hP hD hS (lv_sub hl [1, 2, 3, 0] rfl)
  have hP : va_P G.1 vwCl [(e, .inr (1, [.ref a1, .ref a2, .ref a3, .int (nI (zCt sub 0))])), zA G a1 cap (zSel sub s s2 0), zA G a2 cap (zSel sub t t2 0), zA G a3 cap (zSel sub lb l2 0), (e2, .inr (1, [.ref b1, .ref b2, .ref b3, .int (nI k2)])), zA G b1 cap2 s2, zA G b2 cap2 t2, zA G b3 cap2 l2] H := by (simp only [zSel_0, zCt_0]); exact hP
  have hD : va_D AM [(e, .inr (1, [.ref a1, .ref a2, .ref a3, .int (nI (zCt sub 0))])), zA G a1 cap (zSel sub s s2 0), zA G a2 cap (zSel sub t t2 0), zA G a3 cap (zSel sub lb l2 0), (e2, .inr (1, [.ref b1, .ref b2, .ref b3, .int (nI k2)])), zA G b1 cap2 s2, zA G b2 cap2 t2, zA G b3 cap2 l2] := by (simp only [zSel_0, zCt_0]); exact hD
  exact lp7 (k2 - 0 + 1) 0 (by first | assumption | omega) (Nat.lt_succ_self _) _ _ _ hP hD hS (lv_sub hl [1, 2, 3, 0] rfl)
set_option maxHeartbeats 4000000 in
set_option maxRecDepth 100000 in
theorem c_X2_takeBothWays (l : Launch) (G : zG) (e a1 a2 a3 : Nat) (cap : Nat) (s t lb : Nat → Nat) (k : Nat) (e2 b1 b2 b3 : Nat) (cap2 : Nat) (s2 t2 l2 : Nat → Nat) (k2 : Nat) (hk2 : k2 ≤ cap2) (hk : k2 + k2 ≤ cap) (hc : cap < 2147483648) (hc2 : cap2 < 2147483648) (hl2 : ∀ i, l2 i < 7) : MV l yX2_takeBothWays wsX2_takeBothWays ({ frames := 3, cells := 0, slots := 0, locals := 65 }) G [.ref e, .ref e2] [(e, .inr (1, [.ref a1, .ref a2, .ref a3, .int (nI k)])), zA G a1 cap s, zA G a2 cap t, zA G a3 cap lb, (e2, .inr (1, [.ref b1, .ref b2, .ref b3, .int (nI k2)])), zA G b1 cap2 s2, zA G b2 cap2 t2, zA G b3 cap2 l2] [(e, .inr (1, [.ref a1, .ref a2, .ref a3, .int (nI (k2 + k2))])), zA G a1 cap (zBw s s2 t2 k2 k2), zA G a2 cap (zBw t t2 s2 k2 k2), zA G a3 cap (zBw lb l2 (zOBs l2) k2 k2), (e2, .inr (1, [.ref b1, .ref b2, .ref b3, .int (nI k2)])), zA G b1 cap2 s2, zA G b2 cap2 t2, zA G b3 cap2 l2] := by
  refine MV.enter (cc := cX2_takeBothWays) (maxL := 3) (by decide) rfl (Nat.le_of_ble_eq_true rfl) ?_
  intro pM eM sM mM bM tM cM QM AM ls hat kret
  obtain ⟨SM, hA, hK, hE, hP, hD, hS, hl⟩ := hat
  have hx := SM.1
  have hb := SM.2.1
  have hown : sM.vm.findClass RX2 = some mM.cls := SM.2.2.2.1
  have hts := SM.2.2.2.2
  have hinX2 : ∀ w ∈ u_ws RX2 TX2 4, w ∈ wsX2_takeBothWays := by decide +kernel
  have hlk21 : (Cond.fieldLink RX2 21 "DyckReachability$Edges" "size" "I").before _ sM = true := hts _ (by decide +kernel)
  have hlk15 : (Cond.fieldLink RX2 15 "DyckReachability$Edges" "targets" "[I").before _ sM = true := hts _ (by decide +kernel)
  have hlk9 : (Cond.fieldLink RX2 9 "DyckReachability$Edges" "sources" "[I").before _ sM = true := hts _ (by decide +kernel)
  have hlk18 : (Cond.fieldLink RX2 18 "DyckReachability$Edges" "labels" "[I").before _ sM = true := hts _ (by decide +kernel)
  have hl : lv_has ls 3 [(0, .ref e), (1, .ref e2)] := hl
  refine lv_aload_n hx hb dX2_takeBothWays_0 rfl (lv_at hl 0 rfl) ?_
  refine lv_aload_n hx hb dX2_takeBothWays_1 rfl (lv_at hl 1 rfl) ?_
  refine zVv (W1 := [(e, .inr (1, [.ref a1, .ref a2, .ref a3, .int (nI k)])), zA G a1 cap s, zA G a2 cap t, zA G a3 cap lb, (e2, .inr (1, [.ref b1, .ref b2, .ref b3, .int (nI k2)])), zA G b1 cap2 s2, zA G b2 cap2 t2, zA G b3 cap2 l2]) (W2 := [(e, .inr (1, [.ref a1, .ref a2, .ref a3, .int (nI k2)])), zA G a1 cap (zTk s s2 k2), zA G a2 cap (zTk t t2 k2), zA G a3 cap (zTk lb l2 k2), (e2, .inr (1, [.ref b1, .ref b2, .ref b3, .int (nI k2)])), zA G b1 cap2 s2, zA G b2 cap2 t2, zA G b3 cap2 l2]) (wr := []) (rest := []) SM (c_X2_take l G e a1 a2 a3 cap s t lb k e2 b1 b2 b3 cap2 s2 t2 l2 k2 (by first | assumption | omega) (by first | assumption | omega) (by first | assumption | omega) (by first | assumption | omega)) (cwV 1 hts gX2_takeBothWays_X2_take rfl rfl rfl (by decide +kernel) ⟨Nat.le_of_ble_eq_true rfl, Nat.le_of_ble_eq_true rfl⟩) hK hE hA hP hD hS hl.1 [0, 1, 2, 3, 4, 5, 6, 7] [] [0, 1, 2, 3, 4, 5, 6, 7] rfl rfl rfl (by decide) (ci := 1) rfl rfl rfl rfl rfl (Nat.le_of_ble_eq_true rfl) ⟨Nat.zero_le _, Nat.zero_le _⟩ dX2_takeBothWays_2 (fun H locs hP hD hS => ?_)
  refine lv_iconst (v := nI 0) hx hb dX2_takeBothWays_5 (by decide) ?_
  refine lv_istore_n (lv' := [(2, .int (nI 0)), (0, .ref e), (1, .ref e2)]) hx hb dX2_takeBothWays_6 rfl hl (by decide) rfl (fun ls hl => ?_)
  have lp7 : ∀ (n9 : Nat), ∀ (i : Nat), (i ≤ k2) → (k2 - i) < n9 → ∀ (H : Heap) (locs : List Loc) (ls : Array Slot), va_P G.1 vwCl [(e, .inr (1, [.ref a1, .ref a2, .ref a3, .int (nI (k2 + i))])), zA G a1 cap (zBw s s2 t2 k2 i), zA G a2 cap (zBw t t2 s2 k2 i), zA G a3 cap (zBw lb l2 (zOBs l2) k2 i), (e2, .inr (1, [.ref b1, .ref b2, .ref b3, .int (nI k2)])), zA G b1 cap2 s2, zA G b2 cap2 t2, zA G b3 cap2 l2] H → va_D AM [(e, .inr (1, [.ref a1, .ref a2, .ref a3, .int (nI (k2 + i))])), zA G a1 cap (zBw s s2 t2 k2 i), zA G a2 cap (zBw t t2 s2 k2 i), zA G a3 cap (zBw lb l2 (zOBs l2) k2 i), (e2, .inr (1, [.ref b1, .ref b2, .ref b3, .int (nI k2)])), zA G b1 cap2 s2, zA G b2 cap2 t2, zA G b3 cap2 l2] → va_S AM sM.heap H locs → lv_has ls 3 [(0, .ref e), (1, .ref e2), (2, .int (nI i))] → W pM l eM ({ frames := 3, cells := 0, slots := 0, locals := 65 }) sM mM (([.ref e, .ref e2] : List Value).toArray) bM tM cM H locs 0 0 QM (F0 mM 7 ls []) := by
    intro n9
    induction n9 with
    | zero =>
      intro _ _ h9
      exact absurd h9 (Nat.not_lt_zero _)
    | succ n9 ih9 =>
      intro i h1 hmu7 H locs ls hP hD hS hl
      have ih7 := ih9
      clear ih9
      refine lv_iload_n hx hb dX2_takeBothWays_7 rfl (lv_at hl 2 rfl) ?_
      refine lv_aload_n hx hb dX2_takeBothWays_8 rfl (lv_at hl 1 rfl) ?_
      refine va_get (D := G.1) (ci := 1) (v := .int (nI k2)) (C := RX2) (T := TX2) (N := 4) hx hb hts hinX2 hown hK hP 4 rfl rfl 3 (by decide) hlk21 (fun _ h9 => h9) rfl dX2_takeBothWays_9 ?_
      refine zn_ge (tgt := 46) hx hb dX2_takeBothWays_12 (by decide) (by omega) (by omega) (fun c_1 => ?_) (fun c_1 => ?_)
      · skip
        exact kret _ _ _ _ _ (by have hq9 : i = k2 := (by omega); subst hq9; rfl) hP hD hS dX2_takeBothWays_46
      · skip
        refine lv_aload_n hx hb dX2_takeBothWays_15 rfl (lv_at hl 0 rfl) ?_
        refine lv_aload_n hx hb dX2_takeBothWays_16 rfl (lv_at hl 1 rfl) ?_
        refine va_get (D := G.1) (ci := 1) (v := .ref b2) (C := RX2) (T := TX2) (N := 4) hx hb hts hinX2 hown hK hP 4 rfl rfl 1 (by decide) hlk15 (fun _ h9 => h9) rfl dX2_takeBothWays_17 ?_
        refine lv_iload_n hx hb dX2_takeBothWays_20 rfl (lv_at hl 2 rfl) ?_
        refine zi_ald hx hb hK hP 6 rfl (by omega) (by omega) dX2_takeBothWays_21 ?_
        refine lv_aload_n hx hb dX2_takeBothWays_22 rfl (lv_at hl 1 rfl) ?_
        refine va_get (D := G.1) (ci := 1) (v := .ref b1) (C := RX2) (T := TX2) (N := 4) hx hb hts hinX2 hown hK hP 4 rfl rfl 0 (by decide) hlk9 (fun _ h9 => h9) rfl dX2_takeBothWays_23 ?_
        refine lv_iload_n hx hb dX2_takeBothWays_26 rfl (lv_at hl 2 rfl) ?_
        refine zi_ald hx hb hK hP 5 rfl (by omega) (by omega) dX2_takeBothWays_27 ?_
        refine lv_aload_n hx hb dX2_takeBothWays_28 rfl (lv_at hl 1 rfl) ?_
        refine va_get (D := G.1) (ci := 1) (v := .ref b3) (C := RX2) (T := TX2) (N := 4) hx hb hts hinX2 hown hK hP 4 rfl rfl 2 (by decide) hlk18 (fun _ h9 => h9) rfl dX2_takeBothWays_29 ?_
        refine lv_iload_n hx hb dX2_takeBothWays_32 rfl (lv_at hl 2 rfl) ?_
        refine zi_ald hx hb hK hP 7 rfl (by omega) (by omega) dX2_takeBothWays_33 ?_
        have hb_2 := hl2 i
        refine zSi (W1 := [(e, .inr (1, [.ref a1, .ref a2, .ref a3, .int (nI (k2 + i))])), zA G a1 cap (zBw s s2 t2 k2 i), zA G a2 cap (zBw t t2 s2 k2 i), zA G a3 cap (zBw lb l2 (zOBs l2) k2 i), (e2, .inr (1, [.ref b1, .ref b2, .ref b3, .int (nI k2)])), zA G b1 cap2 s2, zA G b2 cap2 t2, zA G b3 cap2 l2]) (W2 := [(e, .inr (1, [.ref a1, .ref a2, .ref a3, .int (nI (k2 + i))])), zA G a1 cap (zBw s s2 t2 k2 i), zA G a2 cap (zBw t t2 s2 k2 i), zA G a3 cap (zBw lb l2 (zOBs l2) k2 i), (e2, .inr (1, [.ref b1, .ref b2, .ref b3, .int (nI k2)])), zA G b1 cap2 s2, zA G b2 cap2 t2, zA G b3 cap2 l2]) (wr := [(e, .inr (1, [.ref a1, .ref a2, .ref a3, .int (nI (k2 + i))])), zA G a1 cap (zBw s s2 t2 k2 i), zA G a2 cap (zBw t t2 s2 k2 i), zA G a3 cap (zBw lb l2 (zOBs l2) k2 i), (e2, .inr (1, [.ref b1, .ref b2, .ref b3, .int (nI k2)])), zA G b1 cap2 s2, zA G b2 cap2 t2, zA G b3 cap2 l2]) (rest := [.int (nI (s2 i)), .int (nI (t2 i)), .ref e]) SM (c_X2_otherBracket l G (l2 i) (by first | assumption | omega)) (va_cwS 1 hts gX2_takeBothWays_X2_otherBracket rfl rfl rfl (by decide +kernel) ⟨Nat.le_of_ble_eq_true rfl, Nat.le_of_ble_eq_true rfl⟩) hK hE hA hP hD hS hl.1 [] [0, 1, 2, 3, 4, 5, 6, 7] [0, 1, 2, 3, 4, 5, 6, 7] rfl rfl rfl (by decide) rfl rfl (Nat.le_of_ble_eq_true rfl) ⟨Nat.zero_le _, Nat.zero_le _⟩ dX2_takeBothWays_34 (fun H locs hP hD hS => ?_)
        refine zVv (W1 := [(e, .inr (1, [.ref a1, .ref a2, .ref a3, .int (nI (k2 + i))])), zA G a1 cap (zBw s s2 t2 k2 i), zA G a2 cap (zBw t t2 s2 k2 i), zA G a3 cap (zBw lb l2 (zOBs l2) k2 i), (e2, .inr (1, [.ref b1, .ref b2, .ref b3, .int (nI k2)])), zA G b1 cap2 s2, zA G b2 cap2 t2, zA G b3 cap2 l2]) (W2 := [(e, .inr (1, [.ref a1, .ref a2, .ref a3, .int (nI ((k2 + i) + 1))])), zA G a1 cap (zU (zBw s s2 t2 k2 i) (k2 + i) (t2 i)), zA G a2 cap (zU (zBw t t2 s2 k2 i) (k2 + i) (s2 i)), zA G a3 cap (zU (zBw lb l2 (zOBs l2) k2 i) (k2 + i) (zOB (l2 i))), (e2, .inr (1, [.ref b1, .ref b2, .ref b3, .int (nI k2)])), zA G b1 cap2 s2, zA G b2 cap2 t2, zA G b3 cap2 l2]) (wr := [(e2, .inr (1, [.ref b1, .ref b2, .ref b3, .int (nI k2)])), zA G b1 cap2 s2, zA G b2 cap2 t2, zA G b3 cap2 l2]) (rest := []) SM (c_X2_put_N l G e a1 a2 a3 cap (zBw s s2 t2 k2 i) (zBw t t2 s2 k2 i) (zBw lb l2 (zOBs l2) k2 i) (k2 + i) (t2 i) (s2 i) (zOB (l2 i)) (by first | assumption | omega) (by first | assumption | omega)) (cwV 3 hts gX2_takeBothWays_X2_put rfl rfl rfl (by decide +kernel) ⟨Nat.le_of_ble_eq_true rfl, Nat.le_of_ble_eq_true rfl⟩) hK hE hA hP hD hS hl.1 [0, 1, 2, 3] [4, 5, 6, 7] [4, 5, 6, 7, 0, 1, 2, 3] rfl rfl rfl (by decide) (ci := 1) rfl rfl rfl rfl rfl (Nat.le_of_ble_eq_true rfl) ⟨Nat.zero_le _, Nat.zero_le _⟩ dX2_takeBothWays_37 (fun H locs hP hD hS => ?_)
        refine lv_iinc (v := nI (i + 1)) (lv' := [(2, .int (nI (i + 1))), (0, .ref e), (1, .ref e2)]) hx hb dX2_takeBothWays_40 hl (k := 2) rfl (zinc i 1) (by decide) rfl (fun ls hl => ?_)
        refine lv_goto (tgt := 7) hx hb dX2_takeBothWays_43 (by decide) ?_
        have hP : va_P G.1 vwCl [(e, .inr (1, [.ref a1, .ref a2, .ref a3, .int (nI (k2 + (i + 1)))])), zA G a1 cap (zBw s s2 t2 k2 (i + 1)), zA G a2 cap (zBw t t2 s2 k2 (i + 1)), zA G a3 cap (zBw lb l2 (zOBs l2) k2 (i + 1)), (e2, .inr (1, [.ref b1, .ref b2, .ref b3, .int (nI k2)])), zA G b1 cap2 s2, zA G b2 cap2 t2, zA G b3 cap2 l2] H := by (simp only [zBw_step]); exact hP
        have hD : va_D AM [(e, .inr (1, [.ref a1, .ref a2, .ref a3, .int (nI (k2 + (i + 1)))])), zA G a1 cap (zBw s s2 t2 k2 (i + 1)), zA G a2 cap (zBw t t2 s2 k2 (i + 1)), zA G a3 cap (zBw lb l2 (zOBs l2) k2 (i + 1)), (e2, .inr (1, [.ref b1, .ref b2, .ref b3, .int (nI k2)])), zA G b1 cap2 s2, zA G b2 cap2 t2, zA G b3 cap2 l2] := by (simp only [zBw_step]); exact hD
        exact ih7 (i + 1) (by first | assumption | omega) (by omega) _ _ _ hP hD hS (lv_sub hl [1, 2, 0] rfl)
  have hP : va_P G.1 vwCl [(e, .inr (1, [.ref a1, .ref a2, .ref a3, .int (nI (k2 + 0))])), zA G a1 cap (zBw s s2 t2 k2 0), zA G a2 cap (zBw t t2 s2 k2 0), zA G a3 cap (zBw lb l2 (zOBs l2) k2 0), (e2, .inr (1, [.ref b1, .ref b2, .ref b3, .int (nI k2)])), zA G b1 cap2 s2, zA G b2 cap2 t2, zA G b3 cap2 l2] H := by (simp only [zBw_0]); exact hP
  have hD : va_D AM [(e, .inr (1, [.ref a1, .ref a2, .ref a3, .int (nI (k2 + 0))])), zA G a1 cap (zBw s s2 t2 k2 0), zA G a2 cap (zBw t t2 s2 k2 0), zA G a3 cap (zBw lb l2 (zOBs l2) k2 0), (e2, .inr (1, [.ref b1, .ref b2, .ref b3, .int (nI k2)])), zA G b1 cap2 s2, zA G b2 cap2 t2, zA G b3 cap2 l2] := by (simp only [zBw_0]); exact hD
  exact lp7 (k2 - 0 + 1) 0 (by first | assumption | omega) (Nat.lt_succ_self _) _ _ _ hP hD hS (lv_sub hl [1, 2, 0] rfl)
set_option maxHeartbeats 4000000 in
set_option maxRecDepth 100000 in
theorem c_X2_find (l : Launch) (G : zG) (e a1 a2 a3 : Nat) (cap : Nat) (s t lb : Nat → Nat) (k x y z : Nat) (hk : k ≤ cap) (hc : cap < 2147483648) (hx : x < 2147483648) (hy : y < 2147483648) (hz : z < 2147483648) (hbs : ∀ i, s i < 8) (hbt : ∀ i, t i < 8) (hlb : ∀ i, lb i < 7) : MI l yX2_find wsX2_find ({ frames := 0, cells := 0, slots := 0, locals := 0 }) G [.ref e, .int (nI x), .int (nI y), .int (nI z)] [(e, .inr (1, [.ref a1, .ref a2, .ref a3, .int (nI k)])), zA G a1 cap s, zA G a2 cap t, zA G a3 cap lb] (zFd s t lb x y z k) [(e, .inr (1, [.ref a1, .ref a2, .ref a3, .int (nI k)])), zA G a1 cap s, zA G a2 cap t, zA G a3 cap lb] := by
  refine MI.enter (cc := cX2_find) (maxL := 5) (by decide) rfl (Nat.le_of_ble_eq_true rfl) rfl ?_
  intro pM eM sM mM bM tM cM QM AM ls hat kret
  obtain ⟨SM, hA, hK, hE, hP, hD, hS, hl⟩ := hat
  have hx := SM.1
  have hb := SM.2.1
  have hown : sM.vm.findClass RX2 = some mM.cls := SM.2.2.2.1
  have hts := SM.2.2.2.2
  have hinX2 : ∀ w ∈ u_ws RX2 TX2 4, w ∈ wsX2_find := by decide +kernel
  have hlk21 : (Cond.fieldLink RX2 21 "DyckReachability$Edges" "size" "I").before _ sM = true := hts _ (by decide +kernel)
  have hlk9 : (Cond.fieldLink RX2 9 "DyckReachability$Edges" "sources" "[I").before _ sM = true := hts _ (by decide +kernel)
  have hlk15 : (Cond.fieldLink RX2 15 "DyckReachability$Edges" "targets" "[I").before _ sM = true := hts _ (by decide +kernel)
  have hlk18 : (Cond.fieldLink RX2 18 "DyckReachability$Edges" "labels" "[I").before _ sM = true := hts _ (by decide +kernel)
  have hl : lv_has ls 5 [(0, .ref e), (1, .int (nI x)), (2, .int (nI y)), (3, .int (nI z))] := hl
  refine lv_iconst (v := nI 0) hx hb dX2_find_0 (by decide) ?_
  refine lv_istore (lv' := [(4, .int (nI 0)), (0, .ref e), (1, .int (nI x)), (2, .int (nI y)), (3, .int (nI z))]) hx hb dX2_find_1 hl (by decide) rfl (fun ls hl => ?_)
  have lp3 : ∀ (n9 : Nat), ∀ (i : Nat), (i ≤ k) → (∀ j, j < i → zHit s t lb x y z j = false) → (k - i) < n9 → ∀ (H : Heap) (locs : List Loc) (ls : Array Slot), va_P G.1 vwCl [(e, .inr (1, [.ref a1, .ref a2, .ref a3, .int (nI k)])), zA G a1 cap s, zA G a2 cap t, zA G a3 cap lb] H → va_D AM [(e, .inr (1, [.ref a1, .ref a2, .ref a3, .int (nI k)])), zA G a1 cap s, zA G a2 cap t, zA G a3 cap lb] → va_S AM sM.heap H locs → lv_has ls 5 [(0, .ref e), (1, .int (nI x)), (2, .int (nI y)), (3, .int (nI z)), (4, .int (nI i))] → W pM l eM ({ frames := 0, cells := 0, slots := 0, locals := 0 }) sM mM (([.ref e, .int (nI x), .int (nI y), .int (nI z)] : List Value).toArray) bM tM cM H locs 0 0 QM (F0 mM 3 ls []) := by
    intro n9
    induction n9 with
    | zero =>
      intro _ _ _ h9
      exact absurd h9 (Nat.not_lt_zero _)
    | succ n9 ih9 =>
      intro i h1 h2 hmu3 H locs ls hP hD hS hl
      have ih3 := ih9
      clear ih9
      refine lv_iload hx hb dX2_find_3 (lv_at hl 4 rfl) ?_
      refine lv_aload_n hx hb dX2_find_5 rfl (lv_at hl 0 rfl) ?_
      refine va_get (D := G.1) (ci := 1) (v := .int (nI k)) (C := RX2) (T := TX2) (N := 4) hx hb hts hinX2 hown hK hP 0 rfl rfl 3 (by decide) hlk21 (fun _ h9 => h9) rfl dX2_find_6 ?_
      refine zn_ge (tgt := 54) hx hb dX2_find_9 (by decide) (by omega) (by omega) (fun c_1 => ?_) (fun c_1 => ?_)
      · skip
        refine lv_bipush (v := (-9)) hx hb dX2_find_54 (by decide) ?_
        exact kret _ _ _ _ _ _ (by have hq9 : i = k := (by omega); subst hq9; simp only [zFd, zFst_none h2]; rw [if_neg (Nat.lt_irrefl _)]) rfl hP hD hS dX2_find_56
      · skip
        refine lv_aload_n hx hb dX2_find_12 rfl (lv_at hl 0 rfl) ?_
        refine va_get (D := G.1) (ci := 1) (v := .ref a1) (C := RX2) (T := TX2) (N := 4) hx hb hts hinX2 hown hK hP 0 rfl rfl 0 (by decide) hlk9 (fun _ h9 => h9) rfl dX2_find_13 ?_
        refine lv_iload hx hb dX2_find_16 (lv_at hl 4 rfl) ?_
        refine zi_ald hx hb hK hP 1 rfl (by omega) (by omega) dX2_find_18 ?_
        have hb_2 := hbs i
        refine lv_iload_n hx hb dX2_find_19 rfl (lv_at hl 1 rfl) ?_
        refine zn_ne (tgt := 48) hx hb dX2_find_20 (by decide) (by omega) (by omega) (fun c_3 => ?_) (fun c_3 => ?_)
        · skip
          refine lv_iinc (v := nI (i + 1)) (lv' := [(4, .int (nI (i + 1))), (0, .ref e), (1, .int (nI x)), (2, .int (nI y)), (3, .int (nI z))]) hx hb dX2_find_48 hl (k := 4) rfl (zinc i 1) (by decide) rfl (fun ls hl => ?_)
          refine lv_goto (tgt := 3) hx hb dX2_find_51 (by decide) ?_
          exact ih3 (i + 1) (by first | assumption | omega) (lt_s h2 (by simp only [zHit]; simp; omega)) (by omega) _ _ _ hP hD hS (lv_sub hl [1, 2, 3, 4, 0] rfl)
        · skip
          refine lv_aload_n hx hb dX2_find_23 rfl (lv_at hl 0 rfl) ?_
          refine va_get (D := G.1) (ci := 1) (v := .ref a2) (C := RX2) (T := TX2) (N := 4) hx hb hts hinX2 hown hK hP 0 rfl rfl 1 (by decide) hlk15 (fun _ h9 => h9) rfl dX2_find_24 ?_
          refine lv_iload hx hb dX2_find_27 (lv_at hl 4 rfl) ?_
          refine zi_ald hx hb hK hP 2 rfl (by omega) (by omega) dX2_find_29 ?_
          have hb_4 := hbt i
          refine lv_iload_n hx hb dX2_find_30 rfl (lv_at hl 2 rfl) ?_
          refine zn_ne (tgt := 48) hx hb dX2_find_31 (by decide) (by omega) (by omega) (fun c_5 => ?_) (fun c_5 => ?_)
          · skip
            refine lv_iinc (v := nI (i + 1)) (lv' := [(4, .int (nI (i + 1))), (0, .ref e), (1, .int (nI x)), (2, .int (nI y)), (3, .int (nI z))]) hx hb dX2_find_48 hl (k := 4) rfl (zinc i 1) (by decide) rfl (fun ls hl => ?_)
            refine lv_goto (tgt := 3) hx hb dX2_find_51 (by decide) ?_
            exact ih3 (i + 1) (by first | assumption | omega) (lt_s h2 (by simp only [zHit]; simp; omega)) (by omega) _ _ _ hP hD hS (lv_sub hl [1, 2, 3, 4, 0] rfl)
          · skip
            refine lv_aload_n hx hb dX2_find_34 rfl (lv_at hl 0 rfl) ?_
            refine va_get (D := G.1) (ci := 1) (v := .ref a3) (C := RX2) (T := TX2) (N := 4) hx hb hts hinX2 hown hK hP 0 rfl rfl 2 (by decide) hlk18 (fun _ h9 => h9) rfl dX2_find_35 ?_
            refine lv_iload hx hb dX2_find_38 (lv_at hl 4 rfl) ?_
            refine zi_ald hx hb hK hP 3 rfl (by omega) (by omega) dX2_find_40 ?_
            have hb_6 := hlb i
            refine lv_iload_n hx hb dX2_find_41 rfl (lv_at hl 3 rfl) ?_
            refine zn_ne (tgt := 48) hx hb dX2_find_42 (by decide) (by omega) (by omega) (fun c_7 => ?_) (fun c_7 => ?_)
            · skip
              refine lv_iinc (v := nI (i + 1)) (lv' := [(4, .int (nI (i + 1))), (0, .ref e), (1, .int (nI x)), (2, .int (nI y)), (3, .int (nI z))]) hx hb dX2_find_48 hl (k := 4) rfl (zinc i 1) (by decide) rfl (fun ls hl => ?_)
              refine lv_goto (tgt := 3) hx hb dX2_find_51 (by decide) ?_
              exact ih3 (i + 1) (by first | assumption | omega) (lt_s h2 (by simp only [zHit]; simp; omega)) (by omega) _ _ _ hP hD hS (lv_sub hl [1, 2, 3, 4, 0] rfl)
            · skip
              refine lv_iload hx hb dX2_find_45 (lv_at hl 4 rfl) ?_
              exact kret _ _ _ _ _ _ (by have hf := zFst_at h2 (show zHit s t lb x y z i = true by simp [zHit]; omega) (n := k) (by omega); simp only [zFd, hf]; rw [if_pos (by omega)]) rfl hP hD hS dX2_find_47
  exact lp3 (k - 0 + 1) 0 (by first | assumption | omega) (fun j hj => absurd hj (Nat.not_lt_zero j)) (Nat.lt_succ_self _) _ _ _ hP hD hS (lv_sub hl [1, 2, 3, 4, 0] rfl)
end
section
theorem zz_last : True := trivial
end
