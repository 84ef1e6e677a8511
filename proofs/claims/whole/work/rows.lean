section
-- ===== PART A: goes FIRST, ahead of the names: the tables' words, and 'selects' of the private methods out of them =====
/-- a private method of a class that the tables say can be made, by its rows of tables_1 -/
def lw_okq (q : MethodName × Nat) : Prop := (q.1.cls ≠ "java/lang/invoke/MethodHandle" ∧ q.1.cls ≠ "java/lang/invoke/VarHandle") ∧ Cond.instantiable q.1.cls q.2 ∈ tables_1 ∧ Cond.privateMethod q.1 ∈ tables_1 ∧ Cond.instanceMethod q.1 ∈ tables_1
theorem lw_p0 : lw_okq (⟨"FewSigns", "forgetAnswers", "()V"⟩, 8) := ⟨⟨by decide +kernel, by decide +kernel⟩, List.mem_of_getElem? (i := 14) (by decide +kernel), List.mem_of_getElem? (i := 191) (by decide +kernel), List.mem_of_getElem? (i := 192) (by decide +kernel)⟩
theorem lw_p1 : lw_okq (⟨"FewSigns", "isBarred", "(I)Z"⟩, 8) := ⟨⟨by decide +kernel, by decide +kernel⟩, List.mem_of_getElem? (i := 14) (by decide +kernel), List.mem_of_getElem? (i := 292) (by decide +kernel), List.mem_of_getElem? (i := 293) (by decide +kernel)⟩
theorem lw_p2 : lw_okq (⟨"FewSigns", "reachOf", "(I)LFewSigns$Reach;"⟩, 8) := ⟨⟨by decide +kernel, by decide +kernel⟩, List.mem_of_getElem? (i := 14) (by decide +kernel), List.mem_of_getElem? (i := 300) (by decide +kernel), List.mem_of_getElem? (i := 301) (by decide +kernel)⟩
theorem lw_p3 : lw_okq (⟨"FewSigns$Reach", "begin", "(LFewSigns$Signs;)V"⟩, 9) := ⟨⟨by decide +kernel, by decide +kernel⟩, List.mem_of_getElem? (i := 77) (by decide +kernel), List.mem_of_getElem? (i := 308) (by decide +kernel), List.mem_of_getElem? (i := 309) (by decide +kernel)⟩
theorem lw_p4 : lw_okq (⟨"FewSigns$Reach", "offer", "(III)V"⟩, 9) := ⟨⟨by decide +kernel, by decide +kernel⟩, List.mem_of_getElem? (i := 77) (by decide +kernel), List.mem_of_getElem? (i := 317) (by decide +kernel), List.mem_of_getElem? (i := 318) (by decide +kernel)⟩
theorem lw_p5 : lw_okq (⟨"FewSigns$Reach", "cheapestOpen", "()I"⟩, 9) := ⟨⟨by decide +kernel, by decide +kernel⟩, List.mem_of_getElem? (i := 77) (by decide +kernel), List.mem_of_getElem? (i := 321) (by decide +kernel), List.mem_of_getElem? (i := 322) (by decide +kernel)⟩
theorem lw_p6 : lw_okq (⟨"FewSigns$Reach", "join", "(LFewSigns$Sign;II)V"⟩, 9) := ⟨⟨by decide +kernel, by decide +kernel⟩, List.mem_of_getElem? (i := 77) (by decide +kernel), List.mem_of_getElem? (i := 325) (by decide +kernel), List.mem_of_getElem? (i := 326) (by decide +kernel)⟩
theorem lw_p7 : lw_okq (⟨"FewSigns$Reach", "joinAt", "(LFewSigns$Sign;III)V"⟩, 9) := ⟨⟨by decide +kernel, by decide +kernel⟩, List.mem_of_getElem? (i := 77) (by decide +kernel), List.mem_of_getElem? (i := 335) (by decide +kernel), List.mem_of_getElem? (i := 336) (by decide +kernel)⟩
theorem lw_p8 : lw_okq (⟨"FewSigns$Reach", "joinLast", "(IIIII)V"⟩, 9) := ⟨⟨by decide +kernel, by decide +kernel⟩, List.mem_of_getElem? (i := 77) (by decide +kernel), List.mem_of_getElem? (i := 346) (by decide +kernel), List.mem_of_getElem? (i := 347) (by decide +kernel)⟩
theorem lw_p9 : lw_okq (⟨"FewSigns$Reach", "covers", "(I)Z"⟩, 9) := ⟨⟨by decide +kernel, by decide +kernel⟩, List.mem_of_getElem? (i := 77) (by decide +kernel), List.mem_of_getElem? (i := 358) (by decide +kernel), List.mem_of_getElem? (i := 359) (by decide +kernel)⟩
theorem lw_p10 : lw_okq (⟨"FewSigns$Reader", "tableOfNext", "(I)I"⟩, 7) := ⟨⟨by decide +kernel, by decide +kernel⟩, List.mem_of_getElem? (i := 134) (by decide +kernel), List.mem_of_getElem? (i := 522) (by decide +kernel), List.mem_of_getElem? (i := 523) (by decide +kernel)⟩
theorem lw_p11 : lw_okq (⟨"FewSigns$Reader", "tableOfParts", "(LFewSigns$Sign;I)I"⟩, 7) := ⟨⟨by decide +kernel, by decide +kernel⟩, List.mem_of_getElem? (i := 134) (by decide +kernel), List.mem_of_getElem? (i := 532) (by decide +kernel), List.mem_of_getElem? (i := 533) (by decide +kernel)⟩
theorem lw_p12 : lw_okq (⟨"FewSigns$Reader", "takes", "(C)Z"⟩, 7) := ⟨⟨by decide +kernel, by decide +kernel⟩, List.mem_of_getElem? (i := 134) (by decide +kernel), List.mem_of_getElem? (i := 536) (by decide +kernel), List.mem_of_getElem? (i := 537) (by decide +kernel)⟩
theorem lw_p13 : lw_okq (⟨"FewSignsModel", "empties", "()V"⟩, 21) := ⟨⟨by decide +kernel, by decide +kernel⟩, List.mem_of_getElem? (i := 572) (by decide +kernel), List.mem_of_getElem? (i := 578) (by decide +kernel), List.mem_of_getElem? (i := 579) (by decide +kernel)⟩
theorem lw_p14 : lw_okq (⟨"FewSignsModel", "refuses", "(I)I"⟩, 21) := ⟨⟨by decide +kernel, by decide +kernel⟩, List.mem_of_getElem? (i := 572) (by decide +kernel), List.mem_of_getElem? (i := 675) (by decide +kernel), List.mem_of_getElem? (i := 676) (by decide +kernel)⟩
theorem lw_p15 : lw_okq (⟨"FewSignsModel", "hasThree", "()Z"⟩, 21) := ⟨⟨by decide +kernel, by decide +kernel⟩, List.mem_of_getElem? (i := 572) (by decide +kernel), List.mem_of_getElem? (i := 679) (by decide +kernel), List.mem_of_getElem? (i := 680) (by decide +kernel)⟩
def lw_privs_1 : List (MethodName × Nat) := [(⟨"FewSigns", "forgetAnswers", "()V"⟩, 8), (⟨"FewSigns", "isBarred", "(I)Z"⟩, 8), (⟨"FewSigns", "reachOf", "(I)LFewSigns$Reach;"⟩, 8), (⟨"FewSigns$Reach", "begin", "(LFewSigns$Signs;)V"⟩, 9), (⟨"FewSigns$Reach", "offer", "(III)V"⟩, 9), (⟨"FewSigns$Reach", "cheapestOpen", "()I"⟩, 9), (⟨"FewSigns$Reach", "join", "(LFewSigns$Sign;II)V"⟩, 9), (⟨"FewSigns$Reach", "joinAt", "(LFewSigns$Sign;III)V"⟩, 9), (⟨"FewSigns$Reach", "joinLast", "(IIIII)V"⟩, 9), (⟨"FewSigns$Reach", "covers", "(I)Z"⟩, 9), (⟨"FewSigns$Reader", "tableOfNext", "(I)I"⟩, 7), (⟨"FewSigns$Reader", "tableOfParts", "(LFewSigns$Sign;I)I"⟩, 7), (⟨"FewSigns$Reader", "takes", "(C)Z"⟩, 7), (⟨"FewSignsModel", "empties", "()V"⟩, 21), (⟨"FewSignsModel", "refuses", "(I)I"⟩, 21), (⟨"FewSignsModel", "hasThree", "()Z"⟩, 21)]
theorem lw_r1 : ∀ q ∈ lw_privs_1, lw_okq q := List.forall_mem_cons.mpr ⟨lw_p0, List.forall_mem_cons.mpr ⟨lw_p1, List.forall_mem_cons.mpr ⟨lw_p2, List.forall_mem_cons.mpr ⟨lw_p3, List.forall_mem_cons.mpr ⟨lw_p4, List.forall_mem_cons.mpr ⟨lw_p5, List.forall_mem_cons.mpr ⟨lw_p6, List.forall_mem_cons.mpr ⟨lw_p7, List.forall_mem_cons.mpr ⟨lw_p8, List.forall_mem_cons.mpr ⟨lw_p9, List.forall_mem_cons.mpr ⟨lw_p10, List.forall_mem_cons.mpr ⟨lw_p11, List.forall_mem_cons.mpr ⟨lw_p12, List.forall_mem_cons.mpr ⟨lw_p13, List.forall_mem_cons.mpr ⟨lw_p14, List.forall_mem_cons.mpr ⟨lw_p15, fun _ h => absurd h List.not_mem_nil⟩⟩⟩⟩⟩⟩⟩⟩⟩⟩⟩⟩⟩⟩⟩⟩
theorem lw_p16 : lw_okq (⟨"FewSignsModel", "finds", "(I)V"⟩, 21) := ⟨⟨by decide +kernel, by decide +kernel⟩, List.mem_of_getElem? (i := 572) (by decide +kernel), List.mem_of_getElem? (i := 683) (by decide +kernel), List.mem_of_getElem? (i := 684) (by decide +kernel)⟩
theorem lw_p17 : lw_okq (⟨"FewSignsModel", "joined", "(IIIII)I"⟩, 21) := ⟨⟨by decide +kernel, by decide +kernel⟩, List.mem_of_getElem? (i := 572) (by decide +kernel), List.mem_of_getElem? (i := 690) (by decide +kernel), List.mem_of_getElem? (i := 691) (by decide +kernel)⟩
theorem lw_p18 : lw_okq (⟨"FewSignsModel", "isBy", "(III)Z"⟩, 21) := ⟨⟨by decide +kernel, by decide +kernel⟩, List.mem_of_getElem? (i := 572) (by decide +kernel), List.mem_of_getElem? (i := 702) (by decide +kernel), List.mem_of_getElem? (i := 703) (by decide +kernel)⟩
theorem lw_p19 : lw_okq (⟨"FewSignsModel", "isSet", "(I)Z"⟩, 21) := ⟨⟨by decide +kernel, by decide +kernel⟩, List.mem_of_getElem? (i := 572) (by decide +kernel), List.mem_of_getElem? (i := 718) (by decide +kernel), List.mem_of_getElem? (i := 719) (by decide +kernel)⟩
theorem lw_p20 : lw_okq (⟨"FewSignsModel", "lacksOf", "(I)I"⟩, 21) := ⟨⟨by decide +kernel, by decide +kernel⟩, List.mem_of_getElem? (i := 572) (by decide +kernel), List.mem_of_getElem? (i := 722) (by decide +kernel), List.mem_of_getElem? (i := 723) (by decide +kernel)⟩
theorem lw_p21 : lw_okq (⟨"FewSignsModel", "isLeastSet", "(I)Z"⟩, 21) := ⟨⟨by decide +kernel, by decide +kernel⟩, List.mem_of_getElem? (i := 572) (by decide +kernel), List.mem_of_getElem? (i := 734) (by decide +kernel), List.mem_of_getElem? (i := 735) (by decide +kernel)⟩
theorem lw_p22 : lw_okq (⟨"FewSignsModel", "isLet", "(III)Z"⟩, 21) := ⟨⟨by decide +kernel, by decide +kernel⟩, List.mem_of_getElem? (i := 572) (by decide +kernel), List.mem_of_getElem? (i := 749) (by decide +kernel), List.mem_of_getElem? (i := 750) (by decide +kernel)⟩
theorem lw_p23 : lw_okq (⟨"FewSignsModel", "lettingOf", "(II)I"⟩, 21) := ⟨⟨by decide +kernel, by decide +kernel⟩, List.mem_of_getElem? (i := 572) (by decide +kernel), List.mem_of_getElem? (i := 763) (by decide +kernel), List.mem_of_getElem? (i := 764) (by decide +kernel)⟩
theorem lw_p24 : lw_okq (⟨"FewSignsModel", "isFormula", "()Z"⟩, 21) := ⟨⟨by decide +kernel, by decide +kernel⟩, List.mem_of_getElem? (i := 572) (by decide +kernel), List.mem_of_getElem? (i := 792) (by decide +kernel), List.mem_of_getElem? (i := 793) (by decide +kernel)⟩
theorem lw_p25 : lw_okq (⟨"FewSignsModel", "tableOf", "(I)I"⟩, 21) := ⟨⟨by decide +kernel, by decide +kernel⟩, List.mem_of_getElem? (i := 572) (by decide +kernel), List.mem_of_getElem? (i := 800) (by decide +kernel), List.mem_of_getElem? (i := 801) (by decide +kernel)⟩
theorem lw_p26 : lw_okq (⟨"FewSignsModel", "judges", "(I)V"⟩, 21) := ⟨⟨by decide +kernel, by decide +kernel⟩, List.mem_of_getElem? (i := 572) (by decide +kernel), List.mem_of_getElem? (i := 804) (by decide +kernel), List.mem_of_getElem? (i := 805) (by decide +kernel)⟩
def lw_privs_2 : List (MethodName × Nat) := [(⟨"FewSignsModel", "finds", "(I)V"⟩, 21), (⟨"FewSignsModel", "joined", "(IIIII)I"⟩, 21), (⟨"FewSignsModel", "isBy", "(III)Z"⟩, 21), (⟨"FewSignsModel", "isSet", "(I)Z"⟩, 21), (⟨"FewSignsModel", "lacksOf", "(I)I"⟩, 21), (⟨"FewSignsModel", "isLeastSet", "(I)Z"⟩, 21), (⟨"FewSignsModel", "isLet", "(III)Z"⟩, 21), (⟨"FewSignsModel", "lettingOf", "(II)I"⟩, 21), (⟨"FewSignsModel", "isFormula", "()Z"⟩, 21), (⟨"FewSignsModel", "tableOf", "(I)I"⟩, 21), (⟨"FewSignsModel", "judges", "(I)V"⟩, 21)]
theorem lw_r2 : ∀ q ∈ lw_privs_2, lw_okq q := List.forall_mem_cons.mpr ⟨lw_p16, List.forall_mem_cons.mpr ⟨lw_p17, List.forall_mem_cons.mpr ⟨lw_p18, List.forall_mem_cons.mpr ⟨lw_p19, List.forall_mem_cons.mpr ⟨lw_p20, List.forall_mem_cons.mpr ⟨lw_p21, List.forall_mem_cons.mpr ⟨lw_p22, List.forall_mem_cons.mpr ⟨lw_p23, List.forall_mem_cons.mpr ⟨lw_p24, List.forall_mem_cons.mpr ⟨lw_p25, List.forall_mem_cons.mpr ⟨lw_p26, fun _ h => absurd h List.not_mem_nil⟩⟩⟩⟩⟩⟩⟩⟩⟩⟩⟩
def lw_privs : List (MethodName × Nat) := lw_privs_1 ++ (lw_privs_2)
def lw_tbl : List Cond := k2_sels lw_privs ++ tables_1
theorem lw_privs_ok : ∀ q ∈ lw_privs, lw_okq q := by
  show ∀ q ∈ lw_privs_1 ++ (lw_privs_2), lw_okq q
  exact List.forall_mem_append.mpr ⟨lw_r1, lw_r2⟩
end
section
def RX0 : String := "FewSigns$Formula"
def TX0 : u_T := fun k => match k with
  | 0 => ("FewSigns$Formula", "table", "I", false)
  | 1 => ("FewSigns$Formula", "cost", "I", false)
  | 2 => ("FewSigns$Formula", "depth", "I", false)
  | _ => ("FewSigns$Formula", "letters", "I", false)
def tyX0 : Nat → FieldType := fun k => match k with
  | 0 => .int
  | 1 => .int
  | 2 => .int
  | _ => .int
abbrev wsX00 : List Cond := u_ws RX0 TX0 4
theorem nmX0 : ∀ a, a < 4 → ∀ b, b < 4 → a ≠ b → (TX0 a).2.1 ≠ (TX0 b).2.1 := by decide +kernel
theorem tyX0_ok : ∀ k, k < 4 → parseFieldDescriptor (TX0 k).2.2.1 = some (tyX0 k) := by decide +kernel
abbrev cX0_init : ByteArray := prog_2_method_1_code
def yX0_init : MethodName := ⟨RX0, "<init>", "()V"⟩
abbrev cX0_becomeX : ByteArray := prog_2_method_2_code
def yX0_becomeX : MethodName := ⟨RX0, "becomeX", "()V"⟩
abbrev cX0_become : ByteArray := prog_2_method_3_code
def yX0_become : MethodName := ⟨RX0, "become", "(IIII)V"⟩
def RX1 : String := "FewSigns$Reach"
def TX1 : u_T := fun k => match k with
  | 0 => ("FewSigns$Reach", "places", "I", true)
  | 1 => ("FewSigns$Reach", "full", "I", true)
  | 2 => ("FewSigns$Reach", "cost", "[I", true)
  | 3 => ("FewSigns$Reach", "way", "[I", true)
  | 4 => ("FewSigns$Reach", "isSettled", "[Z", true)
  | 5 => ("FewSigns$Reach", "order", "[I", true)
  | 6 => ("FewSigns$Reach", "dearest", "I", false)
  | 7 => ("FewSigns$Reach", "settled", "I", false)
  | _ => ("FewSigns$Reach", "fresh", "Z", false)
def tyX1 : Nat → FieldType := fun k => match k with
  | 0 => .int
  | 1 => .int
  | 2 => .array .int
  | 3 => .array .int
  | 4 => .array .boolean
  | 5 => .array .int
  | 6 => .int
  | 7 => .int
  | _ => .boolean
abbrev wsX10 : List Cond := u_ws RX1 TX1 9
theorem nmX1 : ∀ a, a < 9 → ∀ b, b < 9 → a ≠ b → (TX1 a).2.1 ≠ (TX1 b).2.1 := by decide +kernel
theorem tyX1_ok : ∀ k, k < 9 → parseFieldDescriptor (TX1 k).2.2.1 = some (tyX1 k) := by decide +kernel
abbrev cX1_init : ByteArray := prog_3_method_1_code
def yX1_init : MethodName := ⟨RX1, "<init>", "(I)V"⟩
abbrev cX1_explore : ByteArray := prog_3_method_2_code
def yX1_explore : MethodName := ⟨RX1, "explore", "(LFewSigns$Signs;)V"⟩
abbrev cX1_begin : ByteArray := prog_3_method_3_code
def yX1_begin : MethodName := ⟨RX1, "begin", "(LFewSigns$Signs;)V"⟩
abbrev cX1_cheapestOpen : ByteArray := prog_3_method_4_code
def yX1_cheapestOpen : MethodName := ⟨RX1, "cheapestOpen", "()I"⟩
abbrev cX1_join : ByteArray := prog_3_method_5_code
def yX1_join : MethodName := ⟨RX1, "join", "(LFewSigns$Sign;II)V"⟩
abbrev cX1_joinAt : ByteArray := prog_3_method_6_code
def yX1_joinAt : MethodName := ⟨RX1, "joinAt", "(LFewSigns$Sign;III)V"⟩
abbrev cX1_joinLast : ByteArray := prog_3_method_7_code
def yX1_joinLast : MethodName := ⟨RX1, "joinLast", "(IIIII)V"⟩
abbrev cX1_leftOf : ByteArray := prog_3_method_8_code
def yX1_leftOf : MethodName := ⟨RX1, "leftOf", "(LFewSigns$Sign;III)I"⟩
abbrev cX1_offer : ByteArray := prog_3_method_9_code
def yX1_offer : MethodName := ⟨RX1, "offer", "(III)V"⟩
abbrev cX1_covers : ByteArray := prog_3_method_10_code
def yX1_covers : MethodName := ⟨RX1, "covers", "(I)Z"⟩
abbrev cX1_leastCost : ByteArray := prog_3_method_11_code
def yX1_leastCost : MethodName := ⟨RX1, "leastCost", "(I)I"⟩
abbrev cX1_wayTo : ByteArray := prog_3_method_12_code
def yX1_wayTo : MethodName := ⟨RX1, "wayTo", "(I)I"⟩
abbrev cX1_greatestCost : ByteArray := prog_3_method_13_code
def yX1_greatestCost : MethodName := ⟨RX1, "greatestCost", "()I"⟩
abbrev cX1_firstCosting : ByteArray := prog_3_method_14_code
def yX1_firstCosting : MethodName := ⟨RX1, "firstCosting", "(I)I"⟩
abbrev cX1_firstUnreached : ByteArray := prog_3_method_15_code
def yX1_firstUnreached : MethodName := ⟨RX1, "firstUnreached", "()I"⟩
abbrev cX1_howManyCost : ByteArray := prog_3_method_16_code
def yX1_howManyCost : MethodName := ⟨RX1, "howManyCost", "(I)I"⟩
def RX2 : String := "FewSigns$Reader"
def TX2 : u_T := fun k => match k with
  | 0 => ("FewSigns$Reader", "text", "LFewSigns$Text;", true)
  | 1 => ("FewSigns$Reader", "signs", "LFewSigns$Signs;", true)
  | 2 => ("FewSigns$Reader", "place", "I", false)
  | 3 => ("FewSigns$Reader", "table", "I", false)
  | 4 => ("FewSigns$Reader", "cost", "I", false)
  | 5 => ("FewSigns$Reader", "depth", "I", false)
  | _ => ("FewSigns$Reader", "letters", "I", false)
def tyX2 : Nat → FieldType := fun k => match k with
  | 0 => .object "FewSigns$Text"
  | 1 => .object "FewSigns$Signs"
  | 2 => .int
  | 3 => .int
  | 4 => .int
  | 5 => .int
  | _ => .int
abbrev wsX20 : List Cond := u_ws RX2 TX2 7
theorem nmX2 : ∀ a, a < 7 → ∀ b, b < 7 → a ≠ b → (TX2 a).2.1 ≠ (TX2 b).2.1 := by decide +kernel
theorem tyX2_ok : ∀ k, k < 7 → parseFieldDescriptor (TX2 k).2.2.1 = some (tyX2 k) := by decide +kernel
abbrev cX2_init : ByteArray := prog_4_method_1_code
def yX2_init : MethodName := ⟨RX2, "<init>", "(LFewSigns$Text;LFewSigns$Signs;)V"⟩
abbrev cX2_understands : ByteArray := prog_4_method_2_code
def yX2_understands : MethodName := ⟨RX2, "understands", "()Z"⟩
abbrev cX2_tableOfNext : ByteArray := prog_4_method_3_code
def yX2_tableOfNext : MethodName := ⟨RX2, "tableOfNext", "(I)I"⟩
abbrev cX2_tableOfParts : ByteArray := prog_4_method_4_code
def yX2_tableOfParts : MethodName := ⟨RX2, "tableOfParts", "(LFewSigns$Sign;I)I"⟩
abbrev cX2_takes : ByteArray := prog_4_method_5_code
def yX2_takes : MethodName := ⟨RX2, "takes", "(C)Z"⟩
def RX3 : String := "FewSigns$Sign"
def TX3 : u_T := fun k => match k with
  | 0 => ("FewSigns$Sign", "places", "I", false)
  | 1 => ("FewSigns$Sign", "table", "I", false)
  | 2 => ("FewSigns$Sign", "cost", "I", false)
  | 3 => ("FewSigns$Sign", "wide", "I", false)
  | _ => ("FewSigns$Sign", "keptBits", "I", false)
def tyX3 : Nat → FieldType := fun k => match k with
  | 0 => .int
  | 1 => .int
  | 2 => .int
  | 3 => .int
  | _ => .int
abbrev wsX30 : List Cond := u_ws RX3 TX3 5
theorem nmX3 : ∀ a, a < 5 → ∀ b, b < 5 → a ≠ b → (TX3 a).2.1 ≠ (TX3 b).2.1 := by decide +kernel
theorem tyX3_ok : ∀ k, k < 5 → parseFieldDescriptor (TX3 k).2.2.1 = some (tyX3 k) := by decide +kernel
abbrev cX3_init : ByteArray := prog_5_method_1_code
def yX3_init : MethodName := ⟨RX3, "<init>", "()V"⟩
abbrev cX3_become : ByteArray := prog_5_method_2_code
def yX3_become : MethodName := ⟨RX3, "become", "(III)V"⟩
abbrev cX3_preserves : ByteArray := prog_5_method_3_code
def yX3_preserves : MethodName := ⟨RX3, "preserves", "(II)Z"⟩
def RX4 : String := "FewSigns$Signs"
def TX4 : u_T := fun k => match k with
  | 0 => ("FewSigns$Signs", "list", "[LFewSigns$Sign;", true)
  | _ => ("FewSigns$Signs", "size", "I", false)
def tyX4 : Nat → FieldType := fun k => match k with
  | 0 => .array (.object "FewSigns$Sign")
  | _ => .int
abbrev wsX40 : List Cond := u_ws RX4 TX4 2
theorem nmX4 : ∀ a, a < 2 → ∀ b, b < 2 → a ≠ b → (TX4 a).2.1 ≠ (TX4 b).2.1 := by decide +kernel
theorem tyX4_ok : ∀ k, k < 2 → parseFieldDescriptor (TX4 k).2.2.1 = some (tyX4 k) := by decide +kernel
abbrev cX4_init : ByteArray := prog_6_method_1_code
def yX4_init : MethodName := ⟨RX4, "<init>", "()V"⟩
abbrev cX4_has : ByteArray := prog_6_method_2_code
def yX4_has : MethodName := ⟨RX4, "has", "(I)Z"⟩
abbrev cX4_hasAll : ByteArray := prog_6_method_3_code
def yX4_hasAll : MethodName := ⟨RX4, "hasAll", "(I)Z"⟩
abbrev cX4_append : ByteArray := prog_6_method_4_code
def yX4_append : MethodName := ⟨RX4, "append", "(III)I"⟩
abbrev cX4_ofThreePlaces : ByteArray := prog_6_method_5_code
def yX4_ofThreePlaces : MethodName := ⟨RX4, "ofThreePlaces", "()I"⟩
abbrev cX4_keptByAll : ByteArray := prog_6_method_6_code
def yX4_keptByAll : MethodName := ⟨RX4, "keptByAll", "(I)I"⟩
abbrev cX4_saysAll : ByteArray := prog_6_method_7_code
def yX4_saysAll : MethodName := ⟨RX4, "saysAll", "(I)Z"⟩
abbrev cX4_isLeastSet : ByteArray := prog_6_method_8_code
def yX4_isLeastSet : MethodName := ⟨RX4, "isLeastSet", "(I)Z"⟩
abbrev cX4_allPreserve : ByteArray := prog_6_method_9_code
def yX4_allPreserve : MethodName := ⟨RX4, "allPreserve", "(II)Z"⟩
abbrev cX4_preservedRelations : ByteArray := prog_6_method_10_code
def yX4_preservedRelations : MethodName := ⟨RX4, "preservedRelations", "(I)I"⟩
abbrev cX4_grown : ByteArray := prog_6_method_11_code
def yX4_grown : MethodName := ⟨RX4, "grown", "(II)I"⟩
def RX5 : String := "FewSigns$Tables"
def TX5 : u_T := fun k => match k with
  | _ => ("", "", "", false)
def tyX5 : Nat → FieldType := fun k => match k with
  | _ => .int
abbrev wsX50 : List Cond := u_ws RX5 TX5 0
theorem nmX5 : ∀ a, a < 0 → ∀ b, b < 0 → a ≠ b → (TX5 a).2.1 ≠ (TX5 b).2.1 := by decide +kernel
theorem tyX5_ok : ∀ k, k < 0 → parseFieldDescriptor (TX5 k).2.2.1 = some (tyX5 k) := by decide +kernel
abbrev cX5_fits : ByteArray := prog_7_method_2_code
def yX5_fits : MethodName := ⟨RX5, "fits", "(II)Z"⟩
abbrev cX5_full : ByteArray := prog_7_method_3_code
def yX5_full : MethodName := ⟨RX5, "full", "(I)I"⟩
abbrev cX5_ofPlace : ByteArray := prog_7_method_4_code
def yX5_ofPlace : MethodName := ⟨RX5, "ofPlace", "(I)I"⟩
abbrev cX5_bit : ByteArray := prog_7_method_5_code
def yX5_bit : MethodName := ⟨RX5, "bit", "(II)I"⟩
abbrev cX5_widened : ByteArray := prog_7_method_6_code
def yX5_widened : MethodName := ⟨RX5, "widened", "(II)I"⟩
abbrev cX5_pick : ByteArray := prog_7_method_7_code
def yX5_pick : MethodName := ⟨RX5, "pick", "(III)I"⟩
abbrev cX5_tellOfTwo : ByteArray := prog_7_method_8_code
def yX5_tellOfTwo : MethodName := ⟨RX5, "tellOfTwo", "(III)I"⟩
abbrev cX5_tell : ByteArray := prog_7_method_9_code
def yX5_tell : MethodName := ⟨RX5, "tell", "(IIII)I"⟩
abbrev cX5_toldRows : ByteArray := prog_7_method_10_code
def yX5_toldRows : MethodName := ⟨RX5, "toldRows", "(IIII)I"⟩
abbrev cX5_pickedRows : ByteArray := prog_7_method_11_code
def yX5_pickedRows : MethodName := ⟨RX5, "pickedRows", "(IIII)I"⟩
abbrev cX5_otherHalf : ByteArray := prog_7_method_12_code
def yX5_otherHalf : MethodName := ⟨RX5, "otherHalf", "(II)I"⟩
abbrev cX5_matteringPlaces : ByteArray := prog_7_method_13_code
def yX5_matteringPlaces : MethodName := ⟨RX5, "matteringPlaces", "(II)I"⟩
abbrev cX5_keptBits : ByteArray := prog_7_method_14_code
def yX5_keptBits : MethodName := ⟨RX5, "keptBits", "(II)I"⟩
abbrev cX5_isRising : ByteArray := prog_7_method_15_code
def yX5_isRising : MethodName := ⟨RX5, "isRising", "(II)Z"⟩
abbrev cX5_isSum : ByteArray := prog_7_method_16_code
def yX5_isSum : MethodName := ⟨RX5, "isSum", "(II)Z"⟩
def RX6 : String := "FewSigns$Text"
def TX6 : u_T := fun k => match k with
  | 0 => ("FewSigns$Text", "bytes", "[B", true)
  | _ => ("FewSigns$Text", "length", "I", false)
def tyX6 : Nat → FieldType := fun k => match k with
  | 0 => .array .byte
  | _ => .int
abbrev wsX60 : List Cond := u_ws RX6 TX6 2
theorem nmX6 : ∀ a, a < 2 → ∀ b, b < 2 → a ≠ b → (TX6 a).2.1 ≠ (TX6 b).2.1 := by decide +kernel
theorem tyX6_ok : ∀ k, k < 2 → parseFieldDescriptor (TX6 k).2.2.1 = some (tyX6 k) := by decide +kernel
abbrev cX6_init : ByteArray := prog_8_method_1_code
def yX6_init : MethodName := ⟨RX6, "<init>", "()V"⟩
abbrev cX6_hasRoom : ByteArray := prog_8_method_2_code
def yX6_hasRoom : MethodName := ⟨RX6, "hasRoom", "(I)Z"⟩
abbrev cX6_append : ByteArray := prog_8_method_3_code
def yX6_append : MethodName := ⟨RX6, "append", "(JI)V"⟩
abbrev cX6_byteAt : ByteArray := prog_8_method_4_code
def yX6_byteAt : MethodName := ⟨RX6, "byteAt", "(I)I"⟩
def RX7 : String := "FewSigns$Way"
def TX7 : u_T := fun k => match k with
  | _ => ("", "", "", false)
def tyX7 : Nat → FieldType := fun k => match k with
  | _ => .int
abbrev wsX70 : List Cond := u_ws RX7 TX7 0
theorem nmX7 : ∀ a, a < 0 → ∀ b, b < 0 → a ≠ b → (TX7 a).2.1 ≠ (TX7 b).2.1 := by decide +kernel
theorem tyX7_ok : ∀ k, k < 0 → parseFieldDescriptor (TX7 k).2.2.1 = some (tyX7 k) := by decide +kernel
abbrev cX7_begin : ByteArray := prog_9_method_2_code
def yX7_begin : MethodName := ⟨RX7, "begin", "(I)I"⟩
abbrev cX7_with : ByteArray := prog_9_method_3_code
def yX7_with : MethodName := ⟨RX7, "with", "(III)I"⟩
abbrev cX7_letter : ByteArray := prog_9_method_4_code
def yX7_letter : MethodName := ⟨RX7, "letter", "(I)I"⟩
abbrev cX7_part : ByteArray := prog_9_method_5_code
def yX7_part : MethodName := ⟨RX7, "part", "(II)I"⟩
abbrev cX7_shiftOf : ByteArray := prog_9_method_6_code
def yX7_shiftOf : MethodName := ⟨RX7, "shiftOf", "(I)I"⟩
def RX8 : String := "FewSigns"
def TX8 : u_T := fun k => match k with
  | 0 => ("FewSigns", "signs", "LFewSigns$Signs;", true)
  | 1 => ("FewSigns", "ofOne", "LFewSigns$Reach;", true)
  | 2 => ("FewSigns", "ofTwo", "LFewSigns$Reach;", true)
  | 3 => ("FewSigns", "ofThree", "LFewSigns$Reach;", true)
  | 4 => ("FewSigns", "text", "LFewSigns$Text;", true)
  | 5 => ("FewSigns", "reader", "LFewSigns$Reader;", true)
  | 6 => ("FewSigns", "formulas", "[LFewSigns$Formula;", true)
  | _ => ("FewSigns", "keptCounts", "[I", true)
def tyX8 : Nat → FieldType := fun k => match k with
  | 0 => .object "FewSigns$Signs"
  | 1 => .object "FewSigns$Reach"
  | 2 => .object "FewSigns$Reach"
  | 3 => .object "FewSigns$Reach"
  | 4 => .object "FewSigns$Text"
  | 5 => .object "FewSigns$Reader"
  | 6 => .array (.object "FewSigns$Formula")
  | _ => .array .int
abbrev wsX80 : List Cond := u_ws RX8 TX8 8
theorem nmX8 : ∀ a, a < 8 → ∀ b, b < 8 → a ≠ b → (TX8 a).2.1 ≠ (TX8 b).2.1 := by decide +kernel
theorem tyX8_ok : ∀ k, k < 8 → parseFieldDescriptor (TX8 k).2.2.1 = some (tyX8 k) := by decide +kernel
abbrev cX8_init : ByteArray := prog_1_method_1_code
def yX8_init : MethodName := ⟨RX8, "<init>", "()V"⟩
abbrev cX8_sign : ByteArray := prog_1_method_2_code
def yX8_sign : MethodName := ⟨RX8, "sign", "(III)I"⟩
abbrev cX8_drop : ByteArray := prog_1_method_3_code
def yX8_drop : MethodName := ⟨RX8, "drop", "()I"⟩
abbrev cX8_about : ByteArray := prog_1_method_4_code
def yX8_about : MethodName := ⟨RX8, "about", "(II)I"⟩
abbrev cX8_keeps : ByteArray := prog_1_method_5_code
def yX8_keeps : MethodName := ⟨RX8, "keeps", "(II)I"⟩
abbrev cX8_reached : ByteArray := prog_1_method_6_code
def yX8_reached : MethodName := ⟨RX8, "reached", "(I)I"⟩
abbrev cX8_least : ByteArray := prog_1_method_7_code
def yX8_least : MethodName := ⟨RX8, "least", "(II)I"⟩
abbrev cX8_by : ByteArray := prog_1_method_8_code
def yX8_by : MethodName := ⟨RX8, "by", "(III)I"⟩
abbrev cX8_farthest : ByteArray := prog_1_method_9_code
def yX8_farthest : MethodName := ⟨RX8, "farthest", "(II)I"⟩
abbrev cX8_costing : ByteArray := prog_1_method_10_code
def yX8_costing : MethodName := ⟨RX8, "costing", "(II)I"⟩
abbrev cX8_says : ByteArray := prog_1_method_11_code
def yX8_says : MethodName := ⟨RX8, "says", "(I)I"⟩
abbrev cX8_lacks : ByteArray := prog_1_method_12_code
def yX8_lacks : MethodName := ⟨RX8, "lacks", "(I)I"⟩
abbrev cX8_sets : ByteArray := prog_1_method_13_code
def yX8_sets : MethodName := ⟨RX8, "sets", "(I)I"⟩
abbrev cX8_alone : ByteArray := prog_1_method_14_code
def yX8_alone : MethodName := ⟨RX8, "alone", "(I)I"⟩
abbrev cX8_lets : ByteArray := prog_1_method_15_code
def yX8_lets : MethodName := ⟨RX8, "lets", "(III)I"⟩
abbrev cX8_letting : ByteArray := prog_1_method_16_code
def yX8_letting : MethodName := ⟨RX8, "letting", "(II)I"⟩
abbrev cX8_around : ByteArray := prog_1_method_17_code
def yX8_around : MethodName := ⟨RX8, "around", "(II)I"⟩
abbrev cX8_sorts : ByteArray := prog_1_method_18_code
def yX8_sorts : MethodName := ⟨RX8, "sorts", "(II)I"⟩
abbrev cX8_kept : ByteArray := prog_1_method_19_code
def yX8_kept : MethodName := ⟨RX8, "kept", "(I)I"⟩
abbrev cX8_type : ByteArray := prog_1_method_20_code
def yX8_type : MethodName := ⟨RX8, "type", "(JI)I"⟩
abbrev cX8_clear : ByteArray := prog_1_method_21_code
def yX8_clear : MethodName := ⟨RX8, "clear", "()I"⟩
abbrev cX8_read : ByteArray := prog_1_method_22_code
def yX8_read : MethodName := ⟨RX8, "read", "(I)I"⟩
abbrev cX8_formula : ByteArray := prog_1_method_23_code
def yX8_formula : MethodName := ⟨RX8, "formula", "(II)I"⟩
abbrev cX8_leastened : ByteArray := prog_1_method_24_code
def yX8_leastened : MethodName := ⟨RX8, "leastened", "(I)I"⟩
abbrev cX8_both : ByteArray := prog_1_method_25_code
def yX8_both : MethodName := ⟨RX8, "both", "(III)I"⟩
abbrev cX8_count : ByteArray := prog_1_method_26_code
def yX8_count : MethodName := ⟨RX8, "count", "(I)I"⟩
abbrev cX8_forgetAnswers : ByteArray := prog_1_method_27_code
def yX8_forgetAnswers : MethodName := ⟨RX8, "forgetAnswers", "()V"⟩
abbrev cX8_isCount : ByteArray := prog_1_method_28_code
def yX8_isCount : MethodName := ⟨RX8, "isCount", "(I)Z"⟩
abbrev cX8_isRelation : ByteArray := prog_1_method_29_code
def yX8_isRelation : MethodName := ⟨RX8, "isRelation", "(II)Z"⟩
abbrev cX8_isFormula : ByteArray := prog_1_method_30_code
def yX8_isFormula : MethodName := ⟨RX8, "isFormula", "(I)Z"⟩
abbrev cX8_isBarred : ByteArray := prog_1_method_31_code
def yX8_isBarred : MethodName := ⟨RX8, "isBarred", "(I)Z"⟩
abbrev cX8_reachOf : ByteArray := prog_1_method_32_code
def yX8_reachOf : MethodName := ⟨RX8, "reachOf", "(I)LFewSigns$Reach;"⟩
def RX9 : String := "FewSignsModel"
def TX9 : u_T := fun k => match k with
  | 0 => ("FewSignsModel", "thrown", "I", false)
  | 1 => ("FewSignsModel", "many", "I", false)
  | 2 => ("FewSignsModel", "places", "[I", true)
  | 3 => ("FewSignsModel", "table", "[I", true)
  | 4 => ("FewSignsModel", "cost", "[I", true)
  | 5 => ("FewSignsModel", "least", "[I", true)
  | 6 => ("FewSignsModel", "byFirst", "I", false)
  | 7 => ("FewSignsModel", "bySecond", "I", false)
  | 8 => ("FewSignsModel", "byThird", "I", false)
  | 9 => ("FewSignsModel", "text", "[I", true)
  | 10 => ("FewSignsModel", "typed", "I", false)
  | 11 => ("FewSignsModel", "letter", "[I", true)
  | 12 => ("FewSignsModel", "letters", "[I", true)
  | 13 => ("FewSignsModel", "draft", "[I", true)
  | 14 => ("FewSignsModel", "drafts", "I", false)
  | 15 => ("FewSignsModel", "fault", "I", false)
  | 16 => ("FewSignsModel", "open", "[I", true)
  | 17 => ("FewSignsModel", "got", "[I", true)
  | 18 => ("FewSignsModel", "values", "[I", true)
  | 19 => ("FewSignsModel", "costs", "[I", true)
  | _ => ("FewSignsModel", "depths", "[I", true)
def tyX9 : Nat → FieldType := fun k => match k with
  | 0 => .int
  | 1 => .int
  | 2 => .array .int
  | 3 => .array .int
  | 4 => .array .int
  | 5 => .array .int
  | 6 => .int
  | 7 => .int
  | 8 => .int
  | 9 => .array .int
  | 10 => .int
  | 11 => .array .int
  | 12 => .array .int
  | 13 => .array .int
  | 14 => .int
  | 15 => .int
  | 16 => .array .int
  | 17 => .array .int
  | 18 => .array .int
  | 19 => .array .int
  | _ => .array .int
abbrev wsX90 : List Cond := u_ws RX9 TX9 21
theorem nmX9 : ∀ a, a < 21 → ∀ b, b < 21 → a ≠ b → (TX9 a).2.1 ≠ (TX9 b).2.1 := by decide +kernel
theorem tyX9_ok : ∀ k, k < 21 → parseFieldDescriptor (TX9 k).2.2.1 = some (tyX9 k) := by decide +kernel
abbrev cX9_init : ByteArray := prog_11_method_1_code
def yX9_init : MethodName := ⟨RX9, "<init>", "()V"⟩
abbrev cX9_in : ByteArray := prog_11_method_3_code
def yX9_in : MethodName := ⟨RX9, "in", "(III)Z"⟩
abbrev cX9_empties : ByteArray := prog_11_method_4_code
def yX9_empties : MethodName := ⟨RX9, "empties", "()V"⟩
abbrev cX9_tables : ByteArray := prog_11_method_5_code
def yX9_tables : MethodName := ⟨RX9, "tables", "(I)I"⟩
abbrev cX9_sign : ByteArray := prog_11_method_6_code
def yX9_sign : MethodName := ⟨RX9, "sign", "(III)I"⟩
abbrev cX9_drop : ByteArray := prog_11_method_7_code
def yX9_drop : MethodName := ⟨RX9, "drop", "()I"⟩
abbrev cX9_keepsOf : ByteArray := prog_11_method_8_code
def yX9_keepsOf : MethodName := ⟨RX9, "keepsOf", "(II)I"⟩
abbrev cX9_about : ByteArray := prog_11_method_9_code
def yX9_about : MethodName := ⟨RX9, "about", "(II)I"⟩
abbrev cX9_keeps : ByteArray := prog_11_method_10_code
def yX9_keeps : MethodName := ⟨RX9, "keeps", "(II)I"⟩
abbrev cX9_hasThree : ByteArray := prog_11_method_11_code
def yX9_hasThree : MethodName := ⟨RX9, "hasThree", "()Z"⟩
abbrev cX9_joined : ByteArray := prog_11_method_12_code
def yX9_joined : MethodName := ⟨RX9, "joined", "(IIIII)I"⟩
abbrev cX9_place : ByteArray := prog_11_method_13_code
def yX9_place : MethodName := ⟨RX9, "place", "(II)I"⟩
abbrev cX9_finds : ByteArray := prog_11_method_14_code
def yX9_finds : MethodName := ⟨RX9, "finds", "(I)V"⟩
abbrev cX9_refuses : ByteArray := prog_11_method_15_code
def yX9_refuses : MethodName := ⟨RX9, "refuses", "(I)I"⟩
abbrev cX9_reached : ByteArray := prog_11_method_16_code
def yX9_reached : MethodName := ⟨RX9, "reached", "(I)I"⟩
abbrev cX9_least : ByteArray := prog_11_method_17_code
def yX9_least : MethodName := ⟨RX9, "least", "(II)I"⟩
abbrev cX9_isBy : ByteArray := prog_11_method_18_code
def yX9_isBy : MethodName := ⟨RX9, "isBy", "(III)Z"⟩
abbrev cX9_by : ByteArray := prog_11_method_19_code
def yX9_by : MethodName := ⟨RX9, "by", "(III)I"⟩
abbrev cX9_farthest : ByteArray := prog_11_method_20_code
def yX9_farthest : MethodName := ⟨RX9, "farthest", "(II)I"⟩
abbrev cX9_costing : ByteArray := prog_11_method_21_code
def yX9_costing : MethodName := ⟨RX9, "costing", "(II)I"⟩
abbrev cX9_isSet : ByteArray := prog_11_method_22_code
def yX9_isSet : MethodName := ⟨RX9, "isSet", "(I)Z"⟩
abbrev cX9_lacksOf : ByteArray := prog_11_method_23_code
def yX9_lacksOf : MethodName := ⟨RX9, "lacksOf", "(I)I"⟩
abbrev cX9_says : ByteArray := prog_11_method_24_code
def yX9_says : MethodName := ⟨RX9, "says", "(I)I"⟩
abbrev cX9_lacks : ByteArray := prog_11_method_25_code
def yX9_lacks : MethodName := ⟨RX9, "lacks", "(I)I"⟩
abbrev cX9_isLeastSet : ByteArray := prog_11_method_26_code
def yX9_isLeastSet : MethodName := ⟨RX9, "isLeastSet", "(I)Z"⟩
abbrev cX9_sets : ByteArray := prog_11_method_27_code
def yX9_sets : MethodName := ⟨RX9, "sets", "(I)I"⟩
abbrev cX9_alone : ByteArray := prog_11_method_28_code
def yX9_alone : MethodName := ⟨RX9, "alone", "(I)I"⟩
abbrev cX9_isRelation : ByteArray := prog_11_method_29_code
def yX9_isRelation : MethodName := ⟨RX9, "isRelation", "(II)Z"⟩
abbrev cX9_told : ByteArray := prog_11_method_30_code
def yX9_told : MethodName := ⟨RX9, "told", "(IIIII)I"⟩
abbrev cX9_makes : ByteArray := prog_11_method_31_code
def yX9_makes : MethodName := ⟨RX9, "makes", "(IIII)I"⟩
abbrev cX9_isLet : ByteArray := prog_11_method_32_code
def yX9_isLet : MethodName := ⟨RX9, "isLet", "(III)Z"⟩
abbrev cX9_lets : ByteArray := prog_11_method_33_code
def yX9_lets : MethodName := ⟨RX9, "lets", "(III)I"⟩
abbrev cX9_lettingOf : ByteArray := prog_11_method_34_code
def yX9_lettingOf : MethodName := ⟨RX9, "lettingOf", "(II)I"⟩
abbrev cX9_letting : ByteArray := prog_11_method_35_code
def yX9_letting : MethodName := ⟨RX9, "letting", "(II)I"⟩
abbrev cX9_around : ByteArray := prog_11_method_36_code
def yX9_around : MethodName := ⟨RX9, "around", "(II)I"⟩
abbrev cX9_sorts : ByteArray := prog_11_method_37_code
def yX9_sorts : MethodName := ⟨RX9, "sorts", "(II)I"⟩
abbrev cX9_kept : ByteArray := prog_11_method_38_code
def yX9_kept : MethodName := ⟨RX9, "kept", "(I)I"⟩
abbrev cX9_type : ByteArray := prog_11_method_39_code
def yX9_type : MethodName := ⟨RX9, "type", "(JI)I"⟩
abbrev cX9_clear : ByteArray := prog_11_method_40_code
def yX9_clear : MethodName := ⟨RX9, "clear", "()I"⟩
abbrev cX9_isFormula : ByteArray := prog_11_method_41_code
def yX9_isFormula : MethodName := ⟨RX9, "isFormula", "()Z"⟩
abbrev cX9_read : ByteArray := prog_11_method_42_code
def yX9_read : MethodName := ⟨RX9, "read", "(I)I"⟩
abbrev cX9_judges : ByteArray := prog_11_method_43_code
def yX9_judges : MethodName := ⟨RX9, "judges", "(I)V"⟩
abbrev cX9_otherHalf : ByteArray := prog_11_method_44_code
def yX9_otherHalf : MethodName := ⟨RX9, "otherHalf", "(I)I"⟩
abbrev cX9_matters : ByteArray := prog_11_method_45_code
def yX9_matters : MethodName := ⟨RX9, "matters", "(I)I"⟩
abbrev cX9_tableOf : ByteArray := prog_11_method_46_code
def yX9_tableOf : MethodName := ⟨RX9, "tableOf", "(I)I"⟩
abbrev cX9_formula : ByteArray := prog_11_method_47_code
def yX9_formula : MethodName := ⟨RX9, "formula", "(II)I"⟩
abbrev cX9_leastened : ByteArray := prog_11_method_48_code
def yX9_leastened : MethodName := ⟨RX9, "leastened", "(I)I"⟩
abbrev cX9_both : ByteArray := prog_11_method_49_code
def yX9_both : MethodName := ⟨RX9, "both", "(III)I"⟩
abbrev cX9_count : ByteArray := prog_11_method_50_code
def yX9_count : MethodName := ⟨RX9, "count", "(I)I"⟩
def RJ6 : String := "java/lang/Integer"
def TJ6 : u_T := fun k => match k with
  | _ => ("", "", "", false)
def tyJ6 : Nat → FieldType := fun k => match k with
  | _ => .int
abbrev wsJ60 : List Cond := u_ws RJ6 TJ6 0
theorem nmJ6 : ∀ a, a < 0 → ∀ b, b < 0 → a ≠ b → (TJ6 a).2.1 ≠ (TJ6 b).2.1 := by decide +kernel
theorem tyJ6_ok : ∀ k, k < 0 → parseFieldDescriptor (TJ6 k).2.2.1 = some (tyJ6 k) := by decide +kernel
abbrev cJ6_bitCount_0f7a4 : ByteArray := prog_12_method_49_code
def yJ6_bitCount_0f7a4 : MethodName := ⟨RJ6, "bitCount", "(I)I"⟩
def RJ9 : String := "java/lang/Math"
def TJ9 : u_T := fun k => match k with
  | _ => ("", "", "", false)
def tyJ9 : Nat → FieldType := fun k => match k with
  | _ => .int
abbrev wsJ90 : List Cond := u_ws RJ9 TJ9 0
theorem nmJ9 : ∀ a, a < 0 → ∀ b, b < 0 → a ≠ b → (TJ9 a).2.1 ≠ (TJ9 b).2.1 := by decide +kernel
theorem tyJ9_ok : ∀ k, k < 0 → parseFieldDescriptor (TJ9 k).2.2.1 = some (tyJ9 k) := by decide +kernel
abbrev cJ9_max_7cf53 : ByteArray := prog_13_method_65_code
def yJ9_max_7cf53 : MethodName := ⟨RJ9, "max", "(II)I"⟩
def RL : String := "FewSignsLaw"
abbrev cL_law : ByteArray := code
def yL_law : MethodName := ⟨RL, "law", "([I)Z"⟩
abbrev vwCl : List vw_C := [(RX0, TX0, 4), (RX1, TX1, 9), (RX2, TX2, 7), (RX3, TX3, 5), (RX4, TX4, 2), (RX6, TX6, 2), (RX8, TX8, 8), (RX9, TX9, 21)]
end
section
/-! THE PURE MACHINE: values are the machine's own, but a reference is the number of a cell (0 .. 46: what the class and the reference made; 100: the script; 101 .. 103: the static rows); a memory says what each cell's int slots hold; refs between cells never change. -/
abbrev zM : Type := Nat → Nat → Int32
def zup (M : zM) (k j : Nat) (x : Int32) : zM := fun a b => if a = k then (if b = j then x else M a b) else M a b
/-- an entry of the code: pc, instruction, its length, two resolved numbers, a place in lw_tbl -/
abbrev zE : Type := Nat × Instr × Nat × Nat × Nat × Nat
/-- a method: class name, method, bytes, locals, return, static, its class in vwCl, parameters, places in lw_tbl of: code, initialized, static or instanceMethod, selects -/
abbrev zI : Type := String × MethodName × ByteArray × Nat × Option FieldType × Bool × Nat × Nat × Nat × Nat × Nat × Nat
def zget {α : Type} : List α → Nat → Option α
  | [], _ => none
  | a :: _, 0 => some a
  | _ :: r, n + 1 => zget r n
def zfb {α : Type} : List (Nat × α) → Nat → Option α
  | [], _ => none
  | (a, x) :: r, n => bif Nat.beq a n then some x else zfb r n
/-- what a cell is: an object (its class in vwCl, its slots: a cell, or an int), or an array (length, type, the cells that it holds) -/
abbrev zLy : Type := (Nat × List (Option Nat)) ⊕ (Nat × FieldType × List Nat)
def zlyL : List zLy := [
  .inl (6, [some 1, some 9, some 14, some 19, some 24, some 26, some 27, some 32]),
  .inl (4, [some 2, none]),
  .inr (6, .object "FewSigns$Sign", [3, 4, 5, 6, 7, 8]),
  .inl (3, [none, none, none, none, none]), .inl (3, [none, none, none, none, none]), .inl (3, [none, none, none, none, none]),
  .inl (3, [none, none, none, none, none]), .inl (3, [none, none, none, none, none]), .inl (3, [none, none, none, none, none]),
  .inl (1, [none, none, some 10, some 11, some 12, some 13, none, none, none]),
  .inr (4, .int, []), .inr (4, .int, []), .inr (4, .boolean, []), .inr (4, .int, []),
  .inl (1, [none, none, some 15, some 16, some 17, some 18, none, none, none]),
  .inr (16, .int, []), .inr (16, .int, []), .inr (16, .boolean, []), .inr (16, .int, []),
  .inl (1, [none, none, some 20, some 21, some 22, some 23, none, none, none]),
  .inr (256, .int, []), .inr (256, .int, []), .inr (256, .boolean, []), .inr (256, .int, []),
  .inl (5, [some 25, none]),
  .inr (80, .byte, []),
  .inl (2, [some 24, some 1, none, none, none, none, none]),
  .inr (4, .object "FewSigns$Formula", [28, 29, 30, 31]),
  .inl (0, [none, none, none, none]), .inl (0, [none, none, none, none]), .inl (0, [none, none, none, none]), .inl (0, [none, none, none, none]),
  .inr (4, .int, []),
  .inl (7, [none, none, some 34, some 35, some 36, some 37, none, none, none, some 38, none, some 39, some 40, some 41, none, none, some 42, some 43, some 44, some 45, some 46]),
  .inr (6, .int, []), .inr (6, .int, []), .inr (6, .int, []), .inr (256, .int, []), .inr (80, .int, []), .inr (120, .int, []), .inr (4, .int, []),
  .inr (30, .int, []), .inr (8, .int, []), .inr (8, .int, []), .inr (32, .int, []), .inr (32, .int, []), .inr (32, .int, [])]
def zlay (NC k : Nat) : Option zLy := bif Nat.ble NC k then none else zget zlyL k
/-- the rows that nobody writes: the script sc, the static rows -/
def zro (sc : Nat × (Nat → Int32)) (r : Nat) : Nat × (Nat → Int32) :=
  bif Nat.beq r 101 then (4, fun j => match j with | 0 => 255 | 1 => 85 | 2 => 17 | _ => 1)
  else bif Nat.beq r 102 then (6, fun j => match j with | 0 => 0 | 1 => 0 | 2 => 2 | 3 => 2 | 4 => 3 | _ => 3)
  else bif Nat.beq r 103 then (6, fun j => match j with | 0 => 0 | 1 => 1 | 2 => 8 | 3 => 14 | 4 => 150 | _ => 232)
  else sc
/-- a local's store: it takes the place i, and a long that ended there is gone -/
def zsl : List Value → Nat → Value → List Value
  | [], _, _ => []
  | _ :: r, 0, v => v :: r
  | .long _ :: r, 1, v => .null :: zsl r 0 v
  | .double _ :: r, 1, v => .null :: zsl r 0 v
  | a :: r, n + 1, v => a :: zsl r n v
/-- the locals at a method's start -/
def zlo : List Value → List Value
  | [] => []
  | .long x :: r => .long x :: .null :: zlo r
  | .double x :: r => .double x :: .null :: zlo r
  | v :: r => v :: zlo r
def zpad : Nat → List Value → List Value
  | 0, l => l
  | n + 1, [] => .null :: zpad n []
  | n + 1, v :: l => v :: zpad n l
def zpop : Nat → List Value → List Value → Option (List Value × List Value)
  | 0, acc, st => some (acc, st)
  | _ + 1, _, [] => none
  | n + 1, acc, v :: st => zpop n (v :: acc) st
def zslots : List Value → Nat
  | [] => 0
  | v :: r => v.category + zslots r
def zcmp (c : ClassFile.Cond) (x y : Int32) : Prop := match c with
  | .eq => x = y | .ne => ¬ x = y | .lt => x < y | .ge => y ≤ x | .gt => y < x | .le => x ≤ y
def zb2 (f : Int32 → Int32 → Int32) (κ : List Value → Prop) (st : List Value) : Prop := match st with
  | .int y :: .int x :: r => κ (.int (f x y) :: r)
  | _ => False
def zl2 (f : Int64 → Int64 → Int64) (κ : List Value → Prop) (st : List Value) : Prop := match st with
  | .long y :: .long x :: r => κ (.long (f x y) :: r)
  | _ => False
def zls (f : Int64 → Int32 → Int64) (κ : List Value → Prop) (st : List Value) : Prop := match st with
  | .int y :: .long x :: r => κ (.long (f x y) :: r)
  | _ => False
def zu1 (f : Int32 → Int32) (κ : List Value → Prop) (st : List Value) : Prop := match st with
  | .int x :: r => κ (.int (f x) :: r)
  | _ => False
def zldI (L : List Value) (i : Nat) (κ : Value → Prop) : Prop := match zget L i with
  | some (.int x) => κ (.int x)
  | _ => False
def zldJ (L : List Value) (i : Nat) (κ : Value → Prop) : Prop := match zget L i with
  | some (.long x) => κ (.long x)
  | _ => False
def zldA (L : List Value) (i : Nat) (κ : Value → Prop) : Prop := match zget L i with
  | some (.ref x) => κ (.ref x)
  | _ => False
def zstI (L : List Value) (i : Nat) (st : List Value) (κ : List Value → List Value → Prop) : Prop := match st with
  | .int x :: r => i < L.length ∧ κ (zsl L i (.int x)) r
  | _ => False
def zstA (L : List Value) (i : Nat) (st : List Value) (κ : List Value → List Value → Prop) : Prop := match st with
  | .ref x :: r => i < L.length ∧ κ (zsl L i (.ref x)) r
  | _ => False
def zinc (L : List Value) (i : Nat) (n : Int) (κ : List Value → Prop) : Prop := match zget L i with
  | some (.int x) => i < L.length ∧ κ (zsl L i (.int (x + Int32.ofInt n)))
  | _ => False
def zjmp (pc : Nat) (off : Int) (J : Nat → Prop) : Prop := (pc : Int) + off = (((pc : Int) + off).toNat : Int) ∧ J ((pc : Int) + off).toNat
def zifc (c : ClassFile.Cond) (pc : Nat) (off : Int) (st : List Value) (J : Nat → List Value → Prop) (κ : List Value → Prop) : Prop := match st with
  | .int x :: r => (pc : Int) + off = (((pc : Int) + off).toNat : Int) ∧ (zcmp c x 0 → J ((pc : Int) + off).toNat r) ∧ (¬ zcmp c x 0 → κ r)
  | _ => False
def zicm (c : ClassFile.Cond) (pc : Nat) (off : Int) (st : List Value) (J : Nat → List Value → Prop) (κ : List Value → Prop) : Prop := match st with
  | .int y :: .int x :: r => (pc : Int) + off = (((pc : Int) + off).toNat : Int) ∧ (zcmp c x y → J ((pc : Int) + off).toNat r) ∧ (¬ zcmp c x y → κ r)
  | _ => False
def zrem (st : List Value) (κ : List Value → Prop) : Prop := match st with
  | .int y :: .int x :: r => ¬ y = 0 ∧ κ (.int (x - x / y * y) :: r)
  | _ => False
def zdup (st : List Value) (κ : List Value → Prop) : Prop := match st with
  | v :: r => v.category = 1 ∧ κ (v :: v :: r)
  | _ => False
def zdup2 (st : List Value) (κ : List Value → Prop) : Prop := match st with
  | v :: w :: r => v.category = 1 ∧ w.category = 1 ∧ κ (v :: w :: v :: w :: r)
  | _ => False
def zi2l (st : List Value) (κ : List Value → Prop) : Prop := match st with
  | .int x :: r => κ (.long x.toInt64 :: r)
  | _ => False
def zl2i (st : List Value) (κ : List Value → Prop) : Prop := match st with
  | .long x :: r => κ (.int x.toInt32 :: r)
  | _ => False
def zgf (NC ci j : Nat) (M : zM) (st : List Value) (κ : List Value → Prop) : Prop := match st with
  | .ref k :: r => match zlay NC k with
    | some (.inl (c, fs)) => c = ci ∧ match zget fs j with
      | some (some q) => κ (.ref q :: r)
      | some none => κ (.int (M k j) :: r)
      | none => False
    | _ => False
  | _ => False
def zpf (NC ci j : Nat) (M : zM) (st : List Value) (κ : List Value → zM → Prop) : Prop := match st with
  | .int x :: .ref k :: r => match zlay NC k with
    | some (.inl (c, fs)) => c = ci ∧ match zget fs j with
      | some none => (ci = 1 ∧ j = 8 → x = 0 ∨ x = 1) ∧ κ r (zup M k j x)
      | _ => False
    | _ => False
  | _ => False
def zald (NC : Nat) (sc : Nat × (Nat → Int32)) (M : zM) (st : List Value) (κ : List Value → Prop) : Prop := match st with
  | .int i :: .ref k :: r => match zlay NC k with
    | some (.inr (n, .int, _)) => vp_in i n ∧ κ (.int (M k i.toNatClampNeg) :: r)
    | none => 100 ≤ k ∧ k ≤ 103 ∧ vp_in i (zro sc k).1 ∧ κ (.int ((zro sc k).2 i.toNatClampNeg) :: r)
    | _ => False
  | _ => False
def zbld (NC : Nat) (M : zM) (st : List Value) (κ : List Value → Prop) : Prop := match st with
  | .int i :: .ref k :: r => match zlay NC k with
    | some (.inr (n, .byte, _)) => vp_in i n ∧ κ (.int (M k i.toNatClampNeg) :: r)
    | some (.inr (n, .boolean, _)) => vp_in i n ∧ κ (.int (M k i.toNatClampNeg) :: r)
    | _ => False
  | _ => False
def zast (NC : Nat) (M : zM) (st : List Value) (κ : List Value → zM → Prop) : Prop := match st with
  | .int x :: .int i :: .ref k :: r => match zlay NC k with
    | some (.inr (n, .int, _)) => vp_in i n ∧ κ r (zup M k i.toNatClampNeg x)
    | _ => False
  | _ => False
def zbst (NC : Nat) (M : zM) (st : List Value) (κ : List Value → zM → Prop) : Prop := match st with
  | .int x :: .int i :: .ref k :: r => match zlay NC k with
    | some (.inr (n, .byte, _)) => vp_in i n ∧ κ r (zup M k i.toNatClampNeg (vp_nar .byte x))
    | some (.inr (n, .boolean, _)) => vp_in i n ∧ κ r (zup M k i.toNatClampNeg (vp_nar .boolean x))
    | _ => False
  | _ => False
def zrld (NC : Nat) (st : List Value) (κ : List Value → Prop) : Prop := match st with
  | .int i :: .ref k :: r => match zlay NC k with
    | some (.inr (n, .object _, qs)) => vp_in i n ∧ (match zget qs i.toNatClampNeg with
      | some q => κ (.ref q :: r)
      | none => False)
    | _ => False
  | _ => False
def zlen (NC : Nat) (sc : Nat × (Nat → Int32)) (st : List Value) (κ : List Value → Prop) : Prop := match st with
  | .ref k :: r => match zlay NC k with
    | some (.inr (n, _, _)) => κ (.int (Int32.ofNat n) :: r)
    | none => 100 ≤ k ∧ k ≤ 103 ∧ κ (.int (Int32.ofNat (zro sc k).1) :: r)
    | _ => False
  | _ => False
def zts (pc : Nat) (d lo hi : Int) (offs : Array Int) (st : List Value) (J : Nat → List Value → Prop) : Prop := match st with
  | .int x :: r => (x.toInt < lo ∨ hi < x.toInt → zjmp pc d (fun t => J t r)) ∧ (¬ x.toInt < lo → ¬ hi < x.toInt → ∃ off, offs[(x.toInt - lo).toNat]? = some off ∧ zjmp pc off (fun t => J t r))
  | _ => False
def zlks (pc : Nat) (d : Int) (ps : Array (Int × Int)) (st : List Value) (J : Nat → List Value → Prop) : Prop := match st with
  | .int x :: r => (ps.toList.zip (ps.toList.drop 1)).all (fun (a, next) => a.1 < next.1) = true ∧ zjmp pc (Op.lookupswitch.offset ps.toList d x.toInt) (fun t => J t r)
  | _ => False
/-- Math.max -/
def zmx (st : List Value) (κ : List Value → Prop) : Prop := match st with
  | .int y :: .int x :: r => zslots r ≤ 8 ∧ κ (.int (if x < y then y else x) :: r)
  | _ => False
/-- a call: of the method a, with n parameters; the receiver's cell is of its class -/
def zcs (I : Nat → Option zI) (C : Nat → List Value → zM → Option Value → zM → Prop) (a : Nat) (st : List Value) (M : zM) (κ : List Value → zM → Prop) : Prop := match I a with
  | some i => i.2.2.2.2.2.1 = true ∧ (match zpop i.2.2.2.2.2.2.2.1 [] st with
    | some (as, r) => zslots r ≤ 8 ∧ ∃ v M', C a as M v M' ∧ κ (v.toList ++ r) M'
    | none => False)
  | none => False
def zcv (NC : Nat) (I : Nat → Option zI) (C : Nat → List Value → zM → Option Value → zM → Prop) (a : Nat) (st : List Value) (M : zM) (κ : List Value → zM → Prop) : Prop := match I a with
  | some i => i.2.2.2.2.2.1 = false ∧ (match zpop i.2.2.2.2.2.2.2.1 [] st with
    | some (as, .ref k :: r) => zslots r ≤ 8 ∧ (match zlay NC k with
      | some (.inl (c, _)) => c = i.2.2.2.2.2.2.1 ∧ ∃ v M', C a (.ref k :: as) M v M' ∧ κ (v.toList ++ r) M'
      | _ => False)
    | _ => False)
  | none => False
/-- one instruction -/
def zop (NC : Nat) (sc : Nat × (Nat → Int32)) (I : Nat → Option zI) (C : Nat → List Value → zM → Option Value → zM → Prop) (J : Nat → List Value → List Value → zM → Prop) (fin : Option Value → zM → Prop) (κ : List Value → List Value → zM → Prop) (e : zE) (L st : List Value) (M : zM) : Prop :=
  match e.2.1 with
  | .iconst n => κ L (.int (Int32.ofInt n) :: st) M
  | .bipush n => κ L (.int (Int8.ofInt n).toInt32 :: st) M
  | .sipush n => κ L (.int (Int16.ofInt n).toInt32 :: st) M
  | .ldc _ => κ L (.int (nI e.2.2.2.1) :: st) M
  | .ldc_w _ => κ L (.int (nI e.2.2.2.1) :: st) M
  | .ldc2_w _ => κ L (.long (Int64.ofNat e.2.2.2.1) :: st) M
  | .iload_n i => zldI L i (fun v => κ L (v :: st) M)
  | .iload i => zldI L i (fun v => κ L (v :: st) M)
  | .lload_n i => zldJ L i (fun v => κ L (v :: st) M)
  | .aload_n i => zldA L i (fun v => κ L (v :: st) M)
  | .aload i => zldA L i (fun v => κ L (v :: st) M)
  | .istore_n i => zstI L i st (fun L' r => κ L' r M)
  | .istore i => zstI L i st (fun L' r => κ L' r M)
  | .astore_n i => zstA L i st (fun L' r => κ L' r M)
  | .astore i => zstA L i st (fun L' r => κ L' r M)
  | .iinc i n => zinc L i n (fun L' => κ L' st M)
  | .iadd => zb2 (fun x y => x + y) (fun st' => κ L st' M) st
  | .isub => zb2 (fun x y => x - y) (fun st' => κ L st' M) st
  | .imul => zb2 (fun x y => x * y) (fun st' => κ L st' M) st
  | .iand => zb2 (fun x y => x &&& y) (fun st' => κ L st' M) st
  | .ior => zb2 (fun x y => x ||| y) (fun st' => κ L st' M) st
  | .ixor => zb2 (fun x y => x ^^^ y) (fun st' => κ L st' M) st
  | .ishl => zb2 (fun x y => x <<< (y &&& 31)) (fun st' => κ L st' M) st
  | .ishr => zb2 (fun x y => x >>> (y &&& 31)) (fun st' => κ L st' M) st
  | .iushr => zb2 (fun x y => (x.toUInt32 >>> (y.toUInt32 &&& Int32.toUInt32 31)).toInt32) (fun st' => κ L st' M) st
  | .irem => zrem st (fun st' => κ L st' M)
  | .ineg => zu1 (fun x => -x) (fun st' => κ L st' M) st
  | .i2b => zu1 (fun x => x.toInt8.toInt32) (fun st' => κ L st' M) st
  | .i2l => zi2l st (fun st' => κ L st' M)
  | .l2i => zl2i st (fun st' => κ L st' M)
  | .land => zl2 (fun x y => x &&& y) (fun st' => κ L st' M) st
  | .lor => zl2 (fun x y => x ||| y) (fun st' => κ L st' M) st
  | .lshl => zls (fun x y => x <<< (y.toInt64 &&& 63)) (fun st' => κ L st' M) st
  | .lshr => zls (fun x y => x >>> (y.toInt64 &&& 63)) (fun st' => κ L st' M) st
  | .lushr => zls (fun x y => (x.toUInt64 >>> (y.toInt64.toUInt64 &&& Int64.toUInt64 63)).toInt64) (fun st' => κ L st' M) st
  | .dup => zdup st (fun st' => κ L st' M)
  | .dup2 => zdup2 st (fun st' => κ L st' M)
  | .goto off => zjmp e.1 off (fun t => J t L st M)
  | .ifCond c off => zifc c e.1 off st (fun t r => J t L r M) (fun r => κ L r M)
  | .if_icmp c off => zicm c e.1 off st (fun t r => J t L r M) (fun r => κ L r M)
  | .tableswitch d lo hi offs => zts e.1 d lo hi offs st (fun t r => J t L r M)
  | .lookupswitch d ps => zlks e.1 d ps st (fun t r => J t L r M)
  | .getfield _ => zgf NC e.2.2.2.1 e.2.2.2.2.1 M st (fun r => κ L r M)
  | .putfield _ => zpf NC e.2.2.2.1 e.2.2.2.2.1 M st (fun r M' => κ L r M')
  | .getstatic _ => (101 ≤ e.2.2.2.1 ∧ e.2.2.2.1 ≤ 103) ∧ κ L (.ref e.2.2.2.1 :: st) M
  | .iaload => zald NC sc M st (fun r => κ L r M)
  | .baload => zbld NC M st (fun r => κ L r M)
  | .iastore => zast NC M st (fun r M' => κ L r M')
  | .bastore => zbst NC M st (fun r M' => κ L r M')
  | .aaload => zrld NC st (fun r => κ L r M)
  | .arraylength => zlen NC sc st (fun r => κ L r M)
  | .invokestatic _ => bif Nat.beq e.2.2.2.1 88 then zmx st (fun st' => κ L st' M) else zcs I C e.2.2.2.1 st M (fun r M' => κ L r M')
  | .invokevirtual _ => zcv NC I C e.2.2.2.1 st M (fun r M' => κ L r M')
  | .ireturn => (match st with
    | [.int v] => fin (some (.int v)) M
    | _ => False)
  | .areturn => (match st with
    | [.ref v] => fin (some (.ref v)) M
    | _ => False)
  | .return_ => (match st with
    | [] => fin none M
    | _ => False)
  | _ => False
/-- a block, then on at np -/
def zwp (NC : Nat) (sc : Nat × (Nat → Int32)) (I : Nat → Option zI) (C : Nat → List Value → zM → Option Value → zM → Prop) (J : Nat → List Value → List Value → zM → Prop) (fin : Option Value → zM → Prop) (np : Nat) : List zE → List Value → List Value → zM → Prop
  | [] => fun L st M => J np L st M
  | e :: es => fun L st M => zop NC sc I C J fin (fun L' st' M' => zwp NC sc I C J fin np es L' st' M') e L st M
end
section
/-- 0: FewSigns$Tables.fits(II)Z -/
def zc_0 : List (Nat × List zE × Nat) := [(0, [(0, .iload_n 0, 1, 0, 0, 0), (1, .ifCond .lt 24, 3, 0, 0, 0), (4, .iload_n 0, 1, 0, 0, 0), (5, .iconst 3, 1, 0, 0, 0), (6, .if_icmp .gt 19, 3, 0, 0, 0), (9, .iload_n 1, 1, 0, 0, 0), (10, .ifCond .lt 15, 3, 0, 0, 0), (13, .iload_n 1, 1, 0, 0, 0), (14, .iload_n 0, 1, 0, 0, 0), (15, .invokestatic 9, 3, 1, 0, 264), (18, .if_icmp .gt 7, 3, 0, 0, 0), (21, .iconst 1, 1, 0, 0, 0), (22, .goto 4, 3, 0, 0, 0)], 25),
  (25, [(25, .iconst 0, 1, 0, 0, 0)], 26),
  (26, [(26, .ireturn, 1, 0, 0, 0)], 27)]
/-- 1: FewSigns$Tables.full(I)I -/
def zc_1 : List (Nat × List zE × Nat) := [(0, [(0, .iconst 1, 1, 0, 0, 0), (1, .iconst 1, 1, 0, 0, 0), (2, .iload_n 0, 1, 0, 0, 0), (3, .ishl, 1, 0, 0, 0), (4, .ishl, 1, 0, 0, 0), (5, .iconst 1, 1, 0, 0, 0), (6, .isub, 1, 0, 0, 0), (7, .ireturn, 1, 0, 0, 0)], 8)]
/-- 2: FewSigns$Tables.ofPlace(I)I -/
def zc_2 : List (Nat × List zE × Nat) := [(0, [(0, .iload_n 0, 1, 0, 0, 0), (1, .ifCond .ne 9, 3, 0, 0, 0), (4, .sipush 170, 3, 0, 0, 0), (7, .goto 17, 3, 0, 0, 0)], 10),
  (10, [(10, .iload_n 0, 1, 0, 0, 0), (11, .iconst 1, 1, 0, 0, 0), (12, .if_icmp .ne 9, 3, 0, 0, 0), (15, .sipush 204, 3, 0, 0, 0), (18, .goto 6, 3, 0, 0, 0)], 21),
  (21, [(21, .sipush 240, 3, 0, 0, 0)], 24),
  (24, [(24, .ireturn, 1, 0, 0, 0)], 25)]
/-- 3: FewSigns$Tables.bit(II)I -/
def zc_3 : List (Nat × List zE × Nat) := [(0, [(0, .iload_n 0, 1, 0, 0, 0), (1, .iload_n 1, 1, 0, 0, 0), (2, .ishr, 1, 0, 0, 0), (3, .iconst 1, 1, 0, 0, 0), (4, .iand, 1, 0, 0, 0), (5, .ireturn, 1, 0, 0, 0)], 6)]
/-- 4: FewSigns$Tables.widened(II)I -/
def zc_4 : List (Nat × List zE × Nat) := [(0, [(0, .iload_n 0, 1, 0, 0, 0), (1, .ifCond .lt 18, 3, 0, 0, 0), (4, .iload_n 0, 1, 0, 0, 0), (5, .iconst 3, 1, 0, 0, 0), (6, .if_icmp .gt 13, 3, 0, 0, 0), (9, .iload_n 1, 1, 0, 0, 0), (10, .getstatic 15, 3, 101, 0, 276), (13, .iload_n 0, 1, 0, 0, 0), (14, .iaload, 1, 0, 0, 0), (15, .imul, 1, 0, 0, 0), (16, .goto 4, 3, 0, 0, 0)], 19),
  (19, [(19, .iload_n 1, 1, 0, 0, 0)], 20),
  (20, [(20, .ireturn, 1, 0, 0, 0)], 21)]
/-- 5: FewSigns$Tables.pick(III)I -/
def zc_5 : List (Nat × List zE × Nat) := [(0, [(0, .iload_n 0, 1, 0, 0, 0), (1, .iload_n 1, 1, 0, 0, 0), (2, .iand, 1, 0, 0, 0), (3, .iload_n 0, 1, 0, 0, 0), (4, .iconst (-1), 1, 0, 0, 0), (5, .ixor, 1, 0, 0, 0), (6, .iload_n 2, 1, 0, 0, 0), (7, .iand, 1, 0, 0, 0), (8, .ior, 1, 0, 0, 0), (9, .ireturn, 1, 0, 0, 0)], 10)]
/-- 6: FewSigns$Tables.tellOfTwo(III)I -/
def zc_6 : List (Nat × List zE × Nat) := [(0, [(0, .iload_n 1, 1, 0, 0, 0), (1, .iload_n 0, 1, 0, 0, 0), (2, .iconst 3, 1, 0, 0, 0), (3, .invokestatic 19, 3, 3, 0, 281), (6, .ineg, 1, 0, 0, 0), (7, .iload_n 0, 1, 0, 0, 0), (8, .iconst 2, 1, 0, 0, 0), (9, .invokestatic 19, 3, 3, 0, 281), (12, .ineg, 1, 0, 0, 0), (13, .invokestatic 23, 3, 5, 0, 480), (16, .istore_n 3, 1, 0, 0, 0), (17, .iload_n 1, 1, 0, 0, 0), (18, .iload_n 0, 1, 0, 0, 0), (19, .iconst 1, 1, 0, 0, 0), (20, .invokestatic 19, 3, 3, 0, 281), (23, .ineg, 1, 0, 0, 0), (24, .iload_n 0, 1, 0, 0, 0), (25, .iconst 0, 1, 0, 0, 0), (26, .invokestatic 19, 3, 3, 0, 281), (29, .ineg, 1, 0, 0, 0), (30, .invokestatic 23, 3, 5, 0, 480), (33, .istore 4, 2, 0, 0, 0), (35, .iload_n 2, 1, 0, 0, 0), (36, .iload_n 3, 1, 0, 0, 0), (37, .iload 4, 2, 0, 0, 0), (39, .invokestatic 23, 3, 5, 0, 480), (42, .ireturn, 1, 0, 0, 0)], 43)]
/-- 7: FewSigns$Tables.tell(IIII)I -/
def zc_7 : List (Nat × List zE × Nat) := [(0, [(0, .iload_n 3, 1, 0, 0, 0), (1, .iload_n 0, 1, 0, 0, 0), (2, .iconst 4, 1, 0, 0, 0), (3, .ishr, 1, 0, 0, 0), (4, .iload_n 1, 1, 0, 0, 0), (5, .iload_n 2, 1, 0, 0, 0), (6, .invokestatic 27, 3, 6, 0, 477), (9, .iload_n 0, 1, 0, 0, 0), (10, .iload_n 1, 1, 0, 0, 0), (11, .iload_n 2, 1, 0, 0, 0), (12, .invokestatic 27, 3, 6, 0, 477), (15, .invokestatic 23, 3, 5, 0, 480), (18, .ireturn, 1, 0, 0, 0)], 19)]
/-- 8: FewSigns$Tables.toldRows(IIII)I -/
def zc_8 : List (Nat × List zE × Nat) := [(0, [(0, .iconst 1, 1, 0, 0, 0), (1, .iload_n 2, 1, 0, 0, 0), (2, .ishl, 1, 0, 0, 0), (3, .iconst 1, 1, 0, 0, 0), (4, .isub, 1, 0, 0, 0), (5, .istore 4, 2, 0, 0, 0), (7, .iload_n 0, 1, 0, 0, 0), (8, .ifCond .le 7, 3, 0, 0, 0), (11, .iload_n 3, 1, 0, 0, 0), (12, .goto 4, 3, 0, 0, 0)], 15),
  (15, [(15, .iconst 1, 1, 0, 0, 0)], 16),
  (16, [(16, .istore 5, 2, 0, 0, 0), (18, .iload_n 0, 1, 0, 0, 0), (19, .iconst 1, 1, 0, 0, 0), (20, .if_icmp .le 7, 3, 0, 0, 0), (23, .iload_n 3, 1, 0, 0, 0), (24, .goto 4, 3, 0, 0, 0)], 27),
  (27, [(27, .iconst 1, 1, 0, 0, 0)], 28),
  (28, [(28, .istore 6, 2, 0, 0, 0), (30, .iload_n 0, 1, 0, 0, 0), (31, .iconst 2, 1, 0, 0, 0), (32, .if_icmp .le 7, 3, 0, 0, 0), (35, .iload_n 3, 1, 0, 0, 0), (36, .goto 4, 3, 0, 0, 0)], 39),
  (39, [(39, .iconst 1, 1, 0, 0, 0)], 40),
  (40, [(40, .istore 7, 2, 0, 0, 0), (42, .iconst 0, 1, 0, 0, 0), (43, .istore 8, 2, 0, 0, 0), (45, .iconst 0, 1, 0, 0, 0), (46, .istore 9, 2, 0, 0, 0)], 48),
  (48, [(48, .iload 9, 2, 0, 0, 0), (50, .iload 4, 2, 0, 0, 0), (52, .if_icmp .gt 85, 3, 0, 0, 0), (55, .iconst 0, 1, 0, 0, 0), (56, .istore 10, 2, 0, 0, 0)], 58),
  (58, [(58, .iload 10, 2, 0, 0, 0), (60, .iload 4, 2, 0, 0, 0), (62, .if_icmp .gt 69, 3, 0, 0, 0), (65, .iload 5, 2, 0, 0, 0), (67, .iload 9, 2, 0, 0, 0), (69, .invokestatic 19, 3, 3, 0, 281), (72, .iconst 1, 1, 0, 0, 0), (73, .if_icmp .ne 58, 3, 0, 0, 0), (76, .iload 6, 2, 0, 0, 0), (78, .iload 10, 2, 0, 0, 0), (80, .invokestatic 19, 3, 3, 0, 281), (83, .iconst 1, 1, 0, 0, 0), (84, .if_icmp .ne 41, 3, 0, 0, 0), (87, .iload_n 1, 1, 0, 0, 0), (88, .iconst 4, 1, 0, 0, 0), (89, .ishr, 1, 0, 0, 0), (90, .iload 9, 2, 0, 0, 0), (92, .iload 10, 2, 0, 0, 0), (94, .invokestatic 27, 3, 6, 0, 477), (97, .istore 11, 2, 0, 0, 0), (99, .iload_n 1, 1, 0, 0, 0), (100, .iload 9, 2, 0, 0, 0), (102, .iload 10, 2, 0, 0, 0), (104, .invokestatic 27, 3, 6, 0, 477), (107, .istore 12, 2, 0, 0, 0), (109, .iload 8, 2, 0, 0, 0), (111, .iload 11, 2, 0, 0, 0), (113, .iload 12, 2, 0, 0, 0), (115, .iload 4, 2, 0, 0, 0), (117, .iload 7, 2, 0, 0, 0), (119, .invokestatic 30, 3, 9, 0, 481), (122, .ior, 1, 0, 0, 0), (123, .istore 8, 2, 0, 0, 0)], 125),
  (125, [(125, .iinc 10 1, 3, 0, 0, 0), (128, .goto (-70), 3, 0, 0, 0)], 131),
  (131, [(131, .iinc 9 1, 3, 0, 0, 0), (134, .goto (-86), 3, 0, 0, 0)], 137),
  (137, [(137, .iload 8, 2, 0, 0, 0), (139, .ireturn, 1, 0, 0, 0)], 140)]
/-- 9: FewSigns$Tables.pickedRows(IIII)I -/
def zc_9 : List (Nat × List zE × Nat) := [(0, [(0, .iconst 0, 1, 0, 0, 0), (1, .istore 4, 2, 0, 0, 0), (3, .iconst 0, 1, 0, 0, 0), (4, .istore 5, 2, 0, 0, 0)], 6),
  (6, [(6, .iload 5, 2, 0, 0, 0), (8, .iload_n 2, 1, 0, 0, 0), (9, .if_icmp .gt 35, 3, 0, 0, 0), (12, .iload_n 3, 1, 0, 0, 0), (13, .iload 5, 2, 0, 0, 0), (15, .invokestatic 19, 3, 3, 0, 281), (18, .iconst 1, 1, 0, 0, 0), (19, .if_icmp .ne 19, 3, 0, 0, 0), (22, .iload 4, 2, 0, 0, 0), (24, .iconst 1, 1, 0, 0, 0), (25, .iload 5, 2, 0, 0, 0), (27, .iload_n 0, 1, 0, 0, 0), (28, .iload_n 1, 1, 0, 0, 0), (29, .invokestatic 23, 3, 5, 0, 480), (32, .iload_n 2, 1, 0, 0, 0), (33, .iand, 1, 0, 0, 0), (34, .ishl, 1, 0, 0, 0), (35, .ior, 1, 0, 0, 0), (36, .istore 4, 2, 0, 0, 0)], 38),
  (38, [(38, .iinc 5 1, 3, 0, 0, 0), (41, .goto (-35), 3, 0, 0, 0)], 44),
  (44, [(44, .iload 4, 2, 0, 0, 0), (46, .ireturn, 1, 0, 0, 0)], 47)]
/-- 10: FewSigns$Tables.otherHalf(II)I -/
def zc_10 : List (Nat × List zE × Nat) := [(0, [(0, .iconst 1, 1, 0, 0, 0), (1, .iload_n 0, 1, 0, 0, 0), (2, .ishl, 1, 0, 0, 0), (3, .iconst 1, 1, 0, 0, 0), (4, .isub, 1, 0, 0, 0), (5, .istore_n 2, 1, 0, 0, 0), (6, .iconst 0, 1, 0, 0, 0), (7, .istore_n 3, 1, 0, 0, 0), (8, .iconst 0, 1, 0, 0, 0), (9, .istore 4, 2, 0, 0, 0)], 11),
  (11, [(11, .iload 4, 2, 0, 0, 0), (13, .iload_n 2, 1, 0, 0, 0), (14, .if_icmp .gt 25, 3, 0, 0, 0), (17, .iload_n 3, 1, 0, 0, 0), (18, .iconst 1, 1, 0, 0, 0), (19, .iload_n 1, 1, 0, 0, 0), (20, .iload_n 2, 1, 0, 0, 0), (21, .iload 4, 2, 0, 0, 0), (23, .isub, 1, 0, 0, 0), (24, .invokestatic 19, 3, 3, 0, 281), (27, .isub, 1, 0, 0, 0), (28, .iload 4, 2, 0, 0, 0), (30, .ishl, 1, 0, 0, 0), (31, .ior, 1, 0, 0, 0), (32, .istore_n 3, 1, 0, 0, 0), (33, .iinc 4 1, 3, 0, 0, 0), (36, .goto (-25), 3, 0, 0, 0)], 39),
  (39, [(39, .iload_n 3, 1, 0, 0, 0), (40, .ireturn, 1, 0, 0, 0)], 41)]
/-- 11: FewSigns$Tables.matteringPlaces(II)I -/
def zc_11 : List (Nat × List zE × Nat) := [(0, [(0, .iconst 0, 1, 0, 0, 0), (1, .istore_n 2, 1, 0, 0, 0), (2, .iconst 0, 1, 0, 0, 0), (3, .istore_n 3, 1, 0, 0, 0)], 4),
  (4, [(4, .iload_n 3, 1, 0, 0, 0), (5, .iload_n 0, 1, 0, 0, 0), (6, .if_icmp .ge 51, 3, 0, 0, 0), (9, .iconst 0, 1, 0, 0, 0), (10, .istore 4, 2, 0, 0, 0)], 12),
  (12, [(12, .iload 4, 2, 0, 0, 0), (14, .iconst 1, 1, 0, 0, 0), (15, .iload_n 0, 1, 0, 0, 0), (16, .ishl, 1, 0, 0, 0), (17, .if_icmp .ge 34, 3, 0, 0, 0), (20, .iload_n 1, 1, 0, 0, 0), (21, .iload 4, 2, 0, 0, 0), (23, .invokestatic 19, 3, 3, 0, 281), (26, .iload_n 1, 1, 0, 0, 0), (27, .iload 4, 2, 0, 0, 0), (29, .iconst 1, 1, 0, 0, 0), (30, .iload_n 3, 1, 0, 0, 0), (31, .ishl, 1, 0, 0, 0), (32, .ixor, 1, 0, 0, 0), (33, .invokestatic 19, 3, 3, 0, 281), (36, .if_icmp .eq 9, 3, 0, 0, 0), (39, .iload_n 2, 1, 0, 0, 0), (40, .iconst 1, 1, 0, 0, 0), (41, .iload_n 3, 1, 0, 0, 0), (42, .ishl, 1, 0, 0, 0), (43, .ior, 1, 0, 0, 0), (44, .istore_n 2, 1, 0, 0, 0)], 45),
  (45, [(45, .iinc 4 1, 3, 0, 0, 0), (48, .goto (-36), 3, 0, 0, 0)], 51),
  (51, [(51, .iinc 3 1, 3, 0, 0, 0), (54, .goto (-50), 3, 0, 0, 0)], 57),
  (57, [(57, .iload_n 2, 1, 0, 0, 0), (58, .ireturn, 1, 0, 0, 0)], 59)]
/-- 12: FewSigns$Tables.keptBits(II)I -/
def zc_12 : List (Nat × List zE × Nat) := [(0, [(0, .iconst 0, 1, 0, 0, 0), (1, .istore_n 2, 1, 0, 0, 0), (2, .iload_n 1, 1, 0, 0, 0), (3, .iconst 0, 1, 0, 0, 0), (4, .invokestatic 19, 3, 3, 0, 281), (7, .ifCond .ne 7, 3, 0, 0, 0), (10, .iload_n 2, 1, 0, 0, 0), (11, .iconst 1, 1, 0, 0, 0), (12, .ior, 1, 0, 0, 0), (13, .istore_n 2, 1, 0, 0, 0)], 14),
  (14, [(14, .iload_n 1, 1, 0, 0, 0), (15, .iconst 1, 1, 0, 0, 0), (16, .iload_n 0, 1, 0, 0, 0), (17, .ishl, 1, 0, 0, 0), (18, .iconst 1, 1, 0, 0, 0), (19, .isub, 1, 0, 0, 0), (20, .invokestatic 19, 3, 3, 0, 281), (23, .iconst 1, 1, 0, 0, 0), (24, .if_icmp .ne 7, 3, 0, 0, 0), (27, .iload_n 2, 1, 0, 0, 0), (28, .iconst 2, 1, 0, 0, 0), (29, .ior, 1, 0, 0, 0), (30, .istore_n 2, 1, 0, 0, 0)], 31),
  (31, [(31, .iload_n 0, 1, 0, 0, 0), (32, .iload_n 1, 1, 0, 0, 0), (33, .invokestatic 34, 3, 10, 0, 284), (36, .iload_n 1, 1, 0, 0, 0), (37, .if_icmp .ne 7, 3, 0, 0, 0), (40, .iload_n 2, 1, 0, 0, 0), (41, .iconst 4, 1, 0, 0, 0), (42, .ior, 1, 0, 0, 0), (43, .istore_n 2, 1, 0, 0, 0)], 44),
  (44, [(44, .iload_n 0, 1, 0, 0, 0), (45, .iload_n 1, 1, 0, 0, 0), (46, .invokestatic 37, 3, 13, 0, 287), (49, .ifCond .eq 8, 3, 0, 0, 0), (52, .iload_n 2, 1, 0, 0, 0), (53, .bipush 8, 2, 0, 0, 0), (55, .ior, 1, 0, 0, 0), (56, .istore_n 2, 1, 0, 0, 0)], 57),
  (57, [(57, .iload_n 0, 1, 0, 0, 0), (58, .iload_n 1, 1, 0, 0, 0), (59, .invokestatic 41, 3, 14, 0, 290), (62, .ifCond .eq 8, 3, 0, 0, 0), (65, .iload_n 2, 1, 0, 0, 0), (66, .bipush 16, 2, 0, 0, 0), (68, .ior, 1, 0, 0, 0), (69, .istore_n 2, 1, 0, 0, 0)], 70),
  (70, [(70, .iload_n 2, 1, 0, 0, 0), (71, .ireturn, 1, 0, 0, 0)], 72)]
/-- 13: FewSigns$Tables.isRising(II)Z -/
def zc_13 : List (Nat × List zE × Nat) := [(0, [(0, .iconst 0, 1, 0, 0, 0), (1, .istore_n 2, 1, 0, 0, 0)], 2),
  (2, [(2, .iload_n 2, 1, 0, 0, 0), (3, .iload_n 0, 1, 0, 0, 0), (4, .if_icmp .ge 43, 3, 0, 0, 0), (7, .iconst 0, 1, 0, 0, 0), (8, .istore_n 3, 1, 0, 0, 0)], 9),
  (9, [(9, .iload_n 3, 1, 0, 0, 0), (10, .iconst 1, 1, 0, 0, 0), (11, .iload_n 0, 1, 0, 0, 0), (12, .ishl, 1, 0, 0, 0), (13, .if_icmp .ge 28, 3, 0, 0, 0), (16, .iload_n 1, 1, 0, 0, 0), (17, .iload_n 3, 1, 0, 0, 0), (18, .invokestatic 19, 3, 3, 0, 281), (21, .iload_n 1, 1, 0, 0, 0), (22, .iload_n 3, 1, 0, 0, 0), (23, .iconst 1, 1, 0, 0, 0), (24, .iload_n 2, 1, 0, 0, 0), (25, .ishl, 1, 0, 0, 0), (26, .ior, 1, 0, 0, 0), (27, .invokestatic 19, 3, 3, 0, 281), (30, .if_icmp .le 5, 3, 0, 0, 0), (33, .iconst 0, 1, 0, 0, 0), (34, .ireturn, 1, 0, 0, 0)], 35),
  (35, [(35, .iinc 3 1, 3, 0, 0, 0), (38, .goto (-29), 3, 0, 0, 0)], 41),
  (41, [(41, .iinc 2 1, 3, 0, 0, 0), (44, .goto (-42), 3, 0, 0, 0)], 47),
  (47, [(47, .iconst 1, 1, 0, 0, 0), (48, .ireturn, 1, 0, 0, 0)], 49)]
/-- 14: FewSigns$Tables.isSum(II)Z -/
def zc_14 : List (Nat × List zE × Nat) := [(0, [(0, .iload_n 1, 1, 0, 0, 0), (1, .iconst 0, 1, 0, 0, 0), (2, .invokestatic 19, 3, 3, 0, 281), (5, .istore_n 2, 1, 0, 0, 0), (6, .iload_n 2, 1, 0, 0, 0), (7, .iconst 1, 1, 0, 0, 0), (8, .if_icmp .ne 10, 3, 0, 0, 0), (11, .iload_n 0, 1, 0, 0, 0), (12, .invokestatic 9, 3, 1, 0, 264), (15, .goto 4, 3, 0, 0, 0)], 18),
  (18, [(18, .iconst 0, 1, 0, 0, 0)], 19),
  (19, [(19, .istore_n 3, 1, 0, 0, 0), (20, .iconst 0, 1, 0, 0, 0), (21, .istore 4, 2, 0, 0, 0)], 23),
  (23, [(23, .iload 4, 2, 0, 0, 0), (25, .iload_n 0, 1, 0, 0, 0), (26, .if_icmp .ge 34, 3, 0, 0, 0), (29, .iload_n 1, 1, 0, 0, 0), (30, .iconst 1, 1, 0, 0, 0), (31, .iload 4, 2, 0, 0, 0), (33, .ishl, 1, 0, 0, 0), (34, .invokestatic 19, 3, 3, 0, 281), (37, .iload_n 2, 1, 0, 0, 0), (38, .if_icmp .eq 16, 3, 0, 0, 0), (41, .iload_n 3, 1, 0, 0, 0), (42, .iload 4, 2, 0, 0, 0), (44, .invokestatic 44, 3, 2, 0, 293), (47, .iload_n 0, 1, 0, 0, 0), (48, .invokestatic 9, 3, 1, 0, 264), (51, .iand, 1, 0, 0, 0), (52, .ixor, 1, 0, 0, 0), (53, .istore_n 3, 1, 0, 0, 0)], 54),
  (54, [(54, .iinc 4 1, 3, 0, 0, 0), (57, .goto (-34), 3, 0, 0, 0)], 60),
  (60, [(60, .iload_n 3, 1, 0, 0, 0), (61, .iload_n 1, 1, 0, 0, 0), (62, .if_icmp .ne 7, 3, 0, 0, 0), (65, .iconst 1, 1, 0, 0, 0), (66, .goto 4, 3, 0, 0, 0)], 69),
  (69, [(69, .iconst 0, 1, 0, 0, 0)], 70),
  (70, [(70, .ireturn, 1, 0, 0, 0)], 71)]
/-- 15: FewSigns$Way.begin(I)I -/
def zc_15 : List (Nat × List zE × Nat) := [(0, [(0, .iload_n 0, 1, 0, 0, 0), (1, .bipush 24, 2, 0, 0, 0), (3, .ishl, 1, 0, 0, 0), (4, .ireturn, 1, 0, 0, 0)], 5)]
/-- 16: FewSigns$Way.with(III)I -/
def zc_16 : List (Nat × List zE × Nat) := [(0, [(0, .iload_n 0, 1, 0, 0, 0), (1, .iload_n 2, 1, 0, 0, 0), (2, .iload_n 1, 1, 0, 0, 0), (3, .invokestatic 11, 3, 19, 0, 358), (6, .ishl, 1, 0, 0, 0), (7, .ior, 1, 0, 0, 0), (8, .ireturn, 1, 0, 0, 0)], 9)]
/-- 17: FewSigns$Way.letter(I)I -/
def zc_17 : List (Nat × List zE × Nat) := [(0, [(0, .iload_n 0, 1, 0, 0, 0), (1, .bipush 24, 2, 0, 0, 0), (3, .ishr, 1, 0, 0, 0), (4, .ireturn, 1, 0, 0, 0)], 5)]
/-- 18: FewSigns$Way.part(II)I -/
def zc_18 : List (Nat × List zE × Nat) := [(0, [(0, .iload_n 0, 1, 0, 0, 0), (1, .iload_n 1, 1, 0, 0, 0), (2, .invokestatic 11, 3, 19, 0, 358), (5, .ishr, 1, 0, 0, 0), (6, .sipush 255, 3, 0, 0, 0), (9, .iand, 1, 0, 0, 0), (10, .ireturn, 1, 0, 0, 0)], 11)]
/-- 19: FewSigns$Way.shiftOf(I)I -/
def zc_19 : List (Nat × List zE × Nat) := [(0, [(0, .bipush 8, 2, 0, 0, 0), (2, .iconst 2, 1, 0, 0, 0), (3, .iload_n 0, 1, 0, 0, 0), (4, .isub, 1, 0, 0, 0), (5, .imul, 1, 0, 0, 0), (6, .ireturn, 1, 0, 0, 0)], 7)]
/-- 20: FewSigns$Formula.becomeX()V -/
def zc_20 : List (Nat × List zE × Nat) := [(0, [(0, .aload_n 0, 1, 0, 0, 0), (1, .iconst 0, 1, 0, 0, 0), (2, .invokestatic 7, 3, 2, 0, 225), (5, .iconst 0, 1, 0, 0, 0), (6, .iconst 0, 1, 0, 0, 0), (7, .iconst 1, 1, 0, 0, 0), (8, .invokevirtual 13, 3, 21, 0, 228), (11, .return_, 1, 0, 0, 0)], 12)]
/-- 21: FewSigns$Formula.become(IIII)V -/
def zc_21 : List (Nat × List zE × Nat) := [(0, [(0, .aload_n 0, 1, 0, 0, 0), (1, .iload_n 1, 1, 0, 0, 0), (2, .putfield 19, 3, 0, 0, 200), (5, .aload_n 0, 1, 0, 0, 0), (6, .iload_n 2, 1, 0, 0, 0), (7, .putfield 23, 3, 0, 1, 202), (10, .aload_n 0, 1, 0, 0, 0), (11, .iload_n 3, 1, 0, 0, 0), (12, .putfield 26, 3, 0, 2, 204), (15, .aload_n 0, 1, 0, 0, 0), (16, .iload 4, 2, 0, 0, 0), (18, .putfield 29, 3, 0, 3, 206), (21, .return_, 1, 0, 0, 0)], 22)]
/-- 22: FewSigns$Sign.become(III)V -/
def zc_22 : List (Nat × List zE × Nat) := [(0, [(0, .aload_n 0, 1, 0, 0, 0), (1, .iload_n 1, 1, 0, 0, 0), (2, .putfield 7, 3, 3, 0, 61), (5, .aload_n 0, 1, 0, 0, 0), (6, .iload_n 2, 1, 0, 0, 0), (7, .putfield 13, 3, 3, 1, 66), (10, .aload_n 0, 1, 0, 0, 0), (11, .iload_n 3, 1, 0, 0, 0), (12, .putfield 16, 3, 3, 2, 69), (15, .aload_n 0, 1, 0, 0, 0), (16, .iload_n 1, 1, 0, 0, 0), (17, .iload_n 2, 1, 0, 0, 0), (18, .invokestatic 19, 3, 4, 0, 273), (21, .putfield 25, 3, 3, 3, 73), (24, .aload_n 0, 1, 0, 0, 0), (25, .iload_n 1, 1, 0, 0, 0), (26, .iload_n 2, 1, 0, 0, 0), (27, .invokestatic 28, 3, 12, 0, 278), (30, .putfield 31, 3, 3, 4, 77), (33, .return_, 1, 0, 0, 0)], 34)]
/-- 23: FewSigns$Sign.preserves(II)Z -/
def zc_23 : List (Nat × List zE × Nat) := [(0, [(0, .aload_n 0, 1, 0, 0, 0), (1, .getfield 7, 3, 3, 0, 61), (4, .aload_n 0, 1, 0, 0, 0), (5, .getfield 25, 3, 3, 3, 73), (8, .iload_n 1, 1, 0, 0, 0), (9, .iload_n 2, 1, 0, 0, 0), (10, .invokestatic 33, 3, 8, 0, 474), (13, .iload_n 2, 1, 0, 0, 0), (14, .iconst (-1), 1, 0, 0, 0), (15, .ixor, 1, 0, 0, 0), (16, .iand, 1, 0, 0, 0), (17, .ifCond .ne 7, 3, 0, 0, 0), (20, .iconst 1, 1, 0, 0, 0), (21, .goto 4, 3, 0, 0, 0)], 24),
  (24, [(24, .iconst 0, 1, 0, 0, 0)], 25),
  (25, [(25, .ireturn, 1, 0, 0, 0)], 26)]
/-- 24: FewSigns$Signs.has(I)Z -/
def zc_24 : List (Nat × List zE × Nat) := [(0, [(0, .iload_n 1, 1, 0, 0, 0), (1, .ifCond .lt 15, 3, 0, 0, 0), (4, .iload_n 1, 1, 0, 0, 0), (5, .aload_n 0, 1, 0, 0, 0), (6, .getfield 18, 3, 4, 1, 95), (9, .if_icmp .ge 7, 3, 0, 0, 0), (12, .iconst 1, 1, 0, 0, 0), (13, .goto 4, 3, 0, 0, 0)], 16),
  (16, [(16, .iconst 0, 1, 0, 0, 0)], 17),
  (17, [(17, .ireturn, 1, 0, 0, 0)], 18)]
/-- 25: FewSigns$Signs.hasAll(I)Z -/
def zc_25 : List (Nat × List zE × Nat) := [(0, [(0, .iload_n 1, 1, 0, 0, 0), (1, .ifCond .lt 17, 3, 0, 0, 0), (4, .iload_n 1, 1, 0, 0, 0), (5, .iconst 1, 1, 0, 0, 0), (6, .aload_n 0, 1, 0, 0, 0), (7, .getfield 18, 3, 4, 1, 95), (10, .ishl, 1, 0, 0, 0), (11, .if_icmp .ge 7, 3, 0, 0, 0), (14, .iconst 1, 1, 0, 0, 0), (15, .goto 4, 3, 0, 0, 0)], 18),
  (18, [(18, .iconst 0, 1, 0, 0, 0)], 19),
  (19, [(19, .ireturn, 1, 0, 0, 0)], 20)]
/-- 26: FewSigns$Signs.append(III)I -/
def zc_26 : List (Nat × List zE × Nat) := [(0, [(0, .aload_n 0, 1, 0, 0, 0), (1, .getfield 18, 3, 4, 1, 95), (4, .istore 4, 2, 0, 0, 0), (6, .iload 4, 2, 0, 0, 0), (8, .ifCond .lt 33, 3, 0, 0, 0), (11, .iload 4, 2, 0, 0, 0), (13, .bipush 6, 2, 0, 0, 0), (15, .if_icmp .ge 26, 3, 0, 0, 0), (18, .aload_n 0, 1, 0, 0, 0), (19, .getfield 11, 3, 4, 0, 91), (22, .iload 4, 2, 0, 0, 0), (24, .aaload, 1, 0, 0, 0), (25, .iload_n 1, 1, 0, 0, 0), (26, .iload_n 2, 1, 0, 0, 0), (27, .iload_n 3, 1, 0, 0, 0), (28, .invokevirtual 22, 3, 22, 0, 269), (31, .aload_n 0, 1, 0, 0, 0), (32, .dup, 1, 0, 0, 0), (33, .getfield 18, 3, 4, 1, 95), (36, .iconst 1, 1, 0, 0, 0), (37, .iadd, 1, 0, 0, 0), (38, .putfield 18, 3, 4, 1, 95)], 41),
  (41, [(41, .iload 4, 2, 0, 0, 0), (43, .ireturn, 1, 0, 0, 0)], 44)]
/-- 27: FewSigns$Signs.ofThreePlaces()I -/
def zc_27 : List (Nat × List zE × Nat) := [(0, [(0, .iconst 0, 1, 0, 0, 0), (1, .istore_n 1, 1, 0, 0, 0), (2, .iconst 0, 1, 0, 0, 0), (3, .istore_n 2, 1, 0, 0, 0)], 4),
  (4, [(4, .iload_n 2, 1, 0, 0, 0), (5, .aload_n 0, 1, 0, 0, 0), (6, .getfield 18, 3, 4, 1, 95), (9, .if_icmp .ge 25, 3, 0, 0, 0), (12, .aload_n 0, 1, 0, 0, 0), (13, .getfield 11, 3, 4, 0, 91), (16, .iload_n 2, 1, 0, 0, 0), (17, .aaload, 1, 0, 0, 0), (18, .getfield 26, 3, 3, 0, 65), (21, .iconst 3, 1, 0, 0, 0), (22, .if_icmp .ne 6, 3, 0, 0, 0), (25, .iinc 1 1, 3, 0, 0, 0)], 28),
  (28, [(28, .iinc 2 1, 3, 0, 0, 0), (31, .goto (-27), 3, 0, 0, 0)], 34),
  (34, [(34, .iload_n 1, 1, 0, 0, 0), (35, .ireturn, 1, 0, 0, 0)], 36)]
/-- 28: FewSigns$Signs.keptByAll(I)I -/
def zc_28 : List (Nat × List zE × Nat) := [(0, [(0, .bipush 31, 2, 0, 0, 0), (2, .istore_n 2, 1, 0, 0, 0), (3, .iconst 0, 1, 0, 0, 0), (4, .istore_n 3, 1, 0, 0, 0)], 5),
  (5, [(5, .iload_n 3, 1, 0, 0, 0), (6, .aload_n 0, 1, 0, 0, 0), (7, .getfield 18, 3, 4, 1, 95), (10, .if_icmp .ge 30, 3, 0, 0, 0), (13, .iload_n 1, 1, 0, 0, 0), (14, .iload_n 3, 1, 0, 0, 0), (15, .ishr, 1, 0, 0, 0), (16, .iconst 1, 1, 0, 0, 0), (17, .iand, 1, 0, 0, 0), (18, .iconst 1, 1, 0, 0, 0), (19, .if_icmp .ne 15, 3, 0, 0, 0), (22, .iload_n 2, 1, 0, 0, 0), (23, .aload_n 0, 1, 0, 0, 0), (24, .getfield 11, 3, 4, 0, 91), (27, .iload_n 3, 1, 0, 0, 0), (28, .aaload, 1, 0, 0, 0), (29, .getfield 31, 3, 3, 4, 79), (32, .iand, 1, 0, 0, 0), (33, .istore_n 2, 1, 0, 0, 0)], 34),
  (34, [(34, .iinc 3 1, 3, 0, 0, 0), (37, .goto (-32), 3, 0, 0, 0)], 40),
  (40, [(40, .iload_n 2, 1, 0, 0, 0), (41, .ireturn, 1, 0, 0, 0)], 42)]
/-- 29: FewSigns$Signs.saysAll(I)Z -/
def zc_29 : List (Nat × List zE × Nat) := [(0, [(0, .aload_n 0, 1, 0, 0, 0), (1, .iload_n 1, 1, 0, 0, 0), (2, .invokevirtual 34, 3, 28, 0, 441), (5, .ifCond .ne 7, 3, 0, 0, 0), (8, .iconst 1, 1, 0, 0, 0), (9, .goto 4, 3, 0, 0, 0)], 12),
  (12, [(12, .iconst 0, 1, 0, 0, 0)], 13),
  (13, [(13, .ireturn, 1, 0, 0, 0)], 14)]
/-- 30: FewSigns$Signs.isLeastSet(I)Z -/
def zc_30 : List (Nat × List zE × Nat) := [(0, [(0, .aload_n 0, 1, 0, 0, 0), (1, .iload_n 1, 1, 0, 0, 0), (2, .invokevirtual 38, 3, 29, 0, 458), (5, .ifCond .ne 5, 3, 0, 0, 0), (8, .iconst 0, 1, 0, 0, 0), (9, .ireturn, 1, 0, 0, 0)], 10),
  (10, [(10, .iconst 0, 1, 0, 0, 0), (11, .istore_n 2, 1, 0, 0, 0)], 12),
  (12, [(12, .iload_n 2, 1, 0, 0, 0), (13, .aload_n 0, 1, 0, 0, 0), (14, .getfield 18, 3, 4, 1, 95), (17, .if_icmp .ge 32, 3, 0, 0, 0), (20, .iload_n 1, 1, 0, 0, 0), (21, .iload_n 2, 1, 0, 0, 0), (22, .ishr, 1, 0, 0, 0), (23, .iconst 1, 1, 0, 0, 0), (24, .iand, 1, 0, 0, 0), (25, .iconst 1, 1, 0, 0, 0), (26, .if_icmp .ne 17, 3, 0, 0, 0), (29, .aload_n 0, 1, 0, 0, 0), (30, .iload_n 1, 1, 0, 0, 0), (31, .iconst 1, 1, 0, 0, 0), (32, .iload_n 2, 1, 0, 0, 0), (33, .ishl, 1, 0, 0, 0), (34, .ixor, 1, 0, 0, 0), (35, .invokevirtual 38, 3, 29, 0, 458), (38, .ifCond .eq 5, 3, 0, 0, 0), (41, .iconst 0, 1, 0, 0, 0), (42, .ireturn, 1, 0, 0, 0)], 43),
  (43, [(43, .iinc 2 1, 3, 0, 0, 0), (46, .goto (-34), 3, 0, 0, 0)], 49),
  (49, [(49, .iconst 1, 1, 0, 0, 0), (50, .ireturn, 1, 0, 0, 0)], 51)]
/-- 31: FewSigns$Signs.allPreserve(II)Z -/
def zc_31 : List (Nat × List zE × Nat) := [(0, [(0, .iconst 0, 1, 0, 0, 0), (1, .istore_n 3, 1, 0, 0, 0)], 2),
  (2, [(2, .iload_n 3, 1, 0, 0, 0), (3, .aload_n 0, 1, 0, 0, 0), (4, .getfield 18, 3, 4, 1, 95), (7, .if_icmp .ge 25, 3, 0, 0, 0), (10, .aload_n 0, 1, 0, 0, 0), (11, .getfield 11, 3, 4, 0, 91), (14, .iload_n 3, 1, 0, 0, 0), (15, .aaload, 1, 0, 0, 0), (16, .iload_n 1, 1, 0, 0, 0), (17, .iload_n 2, 1, 0, 0, 0), (18, .invokevirtual 42, 3, 23, 0, 520), (21, .ifCond .ne 5, 3, 0, 0, 0), (24, .iconst 0, 1, 0, 0, 0), (25, .ireturn, 1, 0, 0, 0)], 26),
  (26, [(26, .iinc 3 1, 3, 0, 0, 0), (29, .goto (-27), 3, 0, 0, 0)], 32),
  (32, [(32, .iconst 1, 1, 0, 0, 0), (33, .ireturn, 1, 0, 0, 0)], 34)]
/-- 32: FewSigns$Signs.preservedRelations(I)I -/
def zc_32 : List (Nat × List zE × Nat) := [(0, [(0, .iconst 0, 1, 0, 0, 0), (1, .istore_n 2, 1, 0, 0, 0), (2, .iconst 0, 1, 0, 0, 0), (3, .istore_n 3, 1, 0, 0, 0)], 4),
  (4, [(4, .iload_n 3, 1, 0, 0, 0), (5, .iload_n 1, 1, 0, 0, 0), (6, .invokestatic 46, 3, 1, 0, 515), (9, .if_icmp .gt 21, 3, 0, 0, 0), (12, .aload_n 0, 1, 0, 0, 0), (13, .iload_n 1, 1, 0, 0, 0), (14, .iload_n 3, 1, 0, 0, 0), (15, .invokevirtual 49, 3, 31, 0, 516), (18, .ifCond .eq 6, 3, 0, 0, 0), (21, .iinc 2 1, 3, 0, 0, 0)], 24),
  (24, [(24, .iinc 3 1, 3, 0, 0, 0), (27, .goto (-23), 3, 0, 0, 0)], 30),
  (30, [(30, .iload_n 2, 1, 0, 0, 0), (31, .ireturn, 1, 0, 0, 0)], 32)]
/-- 33: FewSigns$Signs.grown(II)I -/
def zc_33 : List (Nat × List zE × Nat) := [(0, [(0, .iload_n 2, 1, 0, 0, 0), (1, .istore_n 3, 1, 0, 0, 0), (2, .iconst 0, 1, 0, 0, 0), (3, .istore 4, 2, 0, 0, 0)], 5),
  (5, [(5, .iload 4, 2, 0, 0, 0), (7, .iconst 1, 1, 0, 0, 0), (8, .iload_n 1, 1, 0, 0, 0), (9, .ishl, 1, 0, 0, 0), (10, .if_icmp .ge 67, 3, 0, 0, 0), (13, .iload_n 3, 1, 0, 0, 0), (14, .istore 5, 2, 0, 0, 0), (16, .iconst 0, 1, 0, 0, 0), (17, .istore 6, 2, 0, 0, 0)], 19),
  (19, [(19, .iload 6, 2, 0, 0, 0), (21, .aload_n 0, 1, 0, 0, 0), (22, .getfield 18, 3, 4, 1, 95), (25, .if_icmp .ge 37, 3, 0, 0, 0), (28, .iload_n 3, 1, 0, 0, 0), (29, .aload_n 0, 1, 0, 0, 0), (30, .getfield 11, 3, 4, 0, 91), (33, .iload 6, 2, 0, 0, 0), (35, .aaload, 1, 0, 0, 0), (36, .getfield 26, 3, 3, 0, 65), (39, .aload_n 0, 1, 0, 0, 0), (40, .getfield 11, 3, 4, 0, 91), (43, .iload 6, 2, 0, 0, 0), (45, .aaload, 1, 0, 0, 0), (46, .getfield 52, 3, 3, 3, 76), (49, .iload_n 1, 1, 0, 0, 0), (50, .iload_n 3, 1, 0, 0, 0), (51, .invokestatic 55, 3, 8, 0, 496), (54, .ior, 1, 0, 0, 0), (55, .istore_n 3, 1, 0, 0, 0), (56, .iinc 6 1, 3, 0, 0, 0), (59, .goto (-40), 3, 0, 0, 0)], 62),
  (62, [(62, .iload_n 3, 1, 0, 0, 0), (63, .iload 5, 2, 0, 0, 0), (65, .if_icmp .ne 6, 3, 0, 0, 0), (68, .goto 9, 3, 0, 0, 0)], 71),
  (71, [(71, .iinc 4 1, 3, 0, 0, 0), (74, .goto (-69), 3, 0, 0, 0)], 77),
  (77, [(77, .iload_n 3, 1, 0, 0, 0), (78, .ireturn, 1, 0, 0, 0)], 79)]
/-- 34: FewSigns$Text.hasRoom(I)Z -/
def zc_34 : List (Nat × List zE × Nat) := [(0, [(0, .aload_n 0, 1, 0, 0, 0), (1, .getfield 13, 3, 5, 1, 151), (4, .iload_n 1, 1, 0, 0, 0), (5, .iadd, 1, 0, 0, 0), (6, .bipush 80, 2, 0, 0, 0), (8, .if_icmp .gt 7, 3, 0, 0, 0), (11, .iconst 1, 1, 0, 0, 0), (12, .goto 4, 3, 0, 0, 0)], 15),
  (15, [(15, .iconst 0, 1, 0, 0, 0)], 16),
  (16, [(16, .ireturn, 1, 0, 0, 0)], 17)]
/-- 35: FewSigns$Text.append(JI)V -/
def zc_35 : List (Nat × List zE × Nat) := [(0, [(0, .iload_n 3, 1, 0, 0, 0), (1, .iconst 1, 1, 0, 0, 0), (2, .isub, 1, 0, 0, 0), (3, .istore 4, 2, 0, 0, 0)], 5),
  (5, [(5, .iload 4, 2, 0, 0, 0), (7, .ifCond .lt 46, 3, 0, 0, 0), (10, .aload_n 0, 1, 0, 0, 0), (11, .getfield 13, 3, 5, 1, 151), (14, .bipush 80, 2, 0, 0, 0), (16, .if_icmp .ge 37, 3, 0, 0, 0), (19, .aload_n 0, 1, 0, 0, 0), (20, .getfield 9, 3, 5, 0, 150), (23, .aload_n 0, 1, 0, 0, 0), (24, .getfield 13, 3, 5, 1, 151), (27, .lload_n 1, 1, 0, 0, 0), (28, .bipush 8, 2, 0, 0, 0), (30, .iload 4, 2, 0, 0, 0), (32, .imul, 1, 0, 0, 0), (33, .lushr, 1, 0, 0, 0), (34, .l2i, 1, 0, 0, 0), (35, .i2b, 1, 0, 0, 0), (36, .bastore, 1, 0, 0, 0), (37, .aload_n 0, 1, 0, 0, 0), (38, .dup, 1, 0, 0, 0), (39, .getfield 13, 3, 5, 1, 151), (42, .iconst 1, 1, 0, 0, 0), (43, .iadd, 1, 0, 0, 0), (44, .putfield 13, 3, 5, 1, 151), (47, .iinc 4 (-1), 3, 0, 0, 0), (50, .goto (-45), 3, 0, 0, 0)], 53),
  (53, [(53, .return_, 1, 0, 0, 0)], 54)]
/-- 36: FewSigns$Text.byteAt(I)I -/
def zc_36 : List (Nat × List zE × Nat) := [(0, [(0, .iload_n 1, 1, 0, 0, 0), (1, .ifCond .lt 30, 3, 0, 0, 0), (4, .iload_n 1, 1, 0, 0, 0), (5, .aload_n 0, 1, 0, 0, 0), (6, .getfield 13, 3, 5, 1, 151), (9, .if_icmp .ge 22, 3, 0, 0, 0), (12, .iload_n 1, 1, 0, 0, 0), (13, .bipush 80, 2, 0, 0, 0), (15, .if_icmp .ge 16, 3, 0, 0, 0), (18, .aload_n 0, 1, 0, 0, 0), (19, .getfield 9, 3, 5, 0, 150), (22, .iload_n 1, 1, 0, 0, 0), (23, .baload, 1, 0, 0, 0), (24, .sipush 255, 3, 0, 0, 0), (27, .iand, 1, 0, 0, 0), (28, .goto 4, 3, 0, 0, 0)], 31),
  (31, [(31, .iconst (-1), 1, 0, 0, 0)], 32),
  (32, [(32, .ireturn, 1, 0, 0, 0)], 33)]
/-- 37: FewSigns$Reader.understands()Z -/
def zc_37 : List (Nat × List zE × Nat) := [(0, [(0, .aload_n 0, 1, 0, 0, 0), (1, .iconst 0, 1, 0, 0, 0), (2, .putfield 19, 3, 2, 2, 168), (5, .aload_n 0, 1, 0, 0, 0), (6, .iconst 0, 1, 0, 0, 0), (7, .putfield 23, 3, 2, 4, 172), (10, .aload_n 0, 1, 0, 0, 0), (11, .iconst 0, 1, 0, 0, 0), (12, .putfield 26, 3, 2, 5, 174), (15, .aload_n 0, 1, 0, 0, 0), (16, .iconst 0, 1, 0, 0, 0), (17, .putfield 29, 3, 2, 6, 176), (20, .aload_n 0, 1, 0, 0, 0), (21, .aload_n 0, 1, 0, 0, 0), (22, .iconst 0, 1, 0, 0, 0), (23, .invokevirtual 32, 3, 38, 0, 548), (26, .putfield 36, 3, 2, 3, 170), (29, .aload_n 0, 1, 0, 0, 0), (30, .getfield 36, 3, 2, 3, 170), (33, .iconst (-1), 1, 0, 0, 0), (34, .if_icmp .eq 21, 3, 0, 0, 0), (37, .aload_n 0, 1, 0, 0, 0), (38, .getfield 19, 3, 2, 2, 168), (41, .aload_n 0, 1, 0, 0, 0), (42, .getfield 9, 3, 2, 0, 166), (45, .getfield 39, 3, 5, 1, 152), (48, .if_icmp .ne 7, 3, 0, 0, 0), (51, .iconst 1, 1, 0, 0, 0), (52, .goto 4, 3, 0, 0, 0)], 55),
  (55, [(55, .iconst 0, 1, 0, 0, 0)], 56),
  (56, [(56, .ireturn, 1, 0, 0, 0)], 57)]
/-- 38: FewSigns$Reader.tableOfNext(I)I -/
def zc_38 : List (Nat × List zE × Nat) := [(0, [(0, .aload_n 0, 1, 0, 0, 0), (1, .getfield 9, 3, 2, 0, 166), (4, .aload_n 0, 1, 0, 0, 0), (5, .getfield 19, 3, 2, 2, 168), (8, .invokevirtual 44, 3, 36, 0, 552), (11, .istore_n 2, 1, 0, 0, 0), (12, .iload_n 2, 1, 0, 0, 0), (13, .bipush 120, 2, 0, 0, 0), (15, .if_icmp .lt 13, 3, 0, 0, 0), (18, .iload_n 2, 1, 0, 0, 0), (19, .bipush 122, 2, 0, 0, 0), (21, .if_icmp .gt 7, 3, 0, 0, 0), (24, .iconst 1, 1, 0, 0, 0), (25, .goto 4, 3, 0, 0, 0)], 28),
  (28, [(28, .iconst 0, 1, 0, 0, 0)], 29),
  (29, [(29, .istore_n 3, 1, 0, 0, 0), (30, .aload_n 0, 1, 0, 0, 0), (31, .getfield 29, 3, 2, 6, 176), (34, .bipush 30, 2, 0, 0, 0), (36, .if_icmp .ge 21, 3, 0, 0, 0), (39, .iload_n 3, 1, 0, 0, 0), (40, .ifCond .ne 19, 3, 0, 0, 0), (43, .aload_n 0, 1, 0, 0, 0), (44, .getfield 15, 3, 2, 1, 167), (47, .iload_n 2, 1, 0, 0, 0), (48, .bipush 112, 2, 0, 0, 0), (50, .isub, 1, 0, 0, 0), (51, .invokevirtual 47, 3, 24, 0, 556), (54, .ifCond .ne 5, 3, 0, 0, 0)], 57),
  (57, [(57, .iconst (-1), 1, 0, 0, 0), (58, .ireturn, 1, 0, 0, 0)], 59),
  (59, [(59, .aload_n 0, 1, 0, 0, 0), (60, .dup, 1, 0, 0, 0), (61, .getfield 19, 3, 2, 2, 168), (64, .iconst 1, 1, 0, 0, 0), (65, .iadd, 1, 0, 0, 0), (66, .putfield 19, 3, 2, 2, 168), (69, .aload_n 0, 1, 0, 0, 0), (70, .dup, 1, 0, 0, 0), (71, .getfield 29, 3, 2, 6, 176), (74, .iconst 1, 1, 0, 0, 0), (75, .iadd, 1, 0, 0, 0), (76, .putfield 29, 3, 2, 6, 176), (79, .iload_n 3, 1, 0, 0, 0), (80, .ifCond .eq 16, 3, 0, 0, 0), (83, .aload_n 0, 1, 0, 0, 0), (84, .iconst 0, 1, 0, 0, 0), (85, .putfield 26, 3, 2, 5, 174), (88, .iload_n 2, 1, 0, 0, 0), (89, .bipush 120, 2, 0, 0, 0), (91, .isub, 1, 0, 0, 0), (92, .invokestatic 53, 3, 2, 0, 557), (95, .ireturn, 1, 0, 0, 0)], 96),
  (96, [(96, .aload_n 0, 1, 0, 0, 0), (97, .getfield 15, 3, 2, 1, 167), (100, .getfield 58, 3, 4, 0, 93), (103, .iload_n 2, 1, 0, 0, 0), (104, .bipush 112, 2, 0, 0, 0), (106, .isub, 1, 0, 0, 0), (107, .aaload, 1, 0, 0, 0), (108, .astore 4, 2, 0, 0, 0), (110, .aload_n 0, 1, 0, 0, 0), (111, .dup, 1, 0, 0, 0), (112, .getfield 23, 3, 2, 4, 172), (115, .aload 4, 2, 0, 0, 0), (117, .getfield 62, 3, 3, 2, 71), (120, .iadd, 1, 0, 0, 0), (121, .putfield 23, 3, 2, 4, 172), (124, .aload 4, 2, 0, 0, 0), (126, .getfield 65, 3, 3, 0, 63), (129, .ifCond .ne 14, 3, 0, 0, 0), (132, .aload_n 0, 1, 0, 0, 0), (133, .iconst 1, 1, 0, 0, 0), (134, .putfield 26, 3, 2, 5, 174), (137, .aload 4, 2, 0, 0, 0), (139, .getfield 68, 3, 3, 3, 74), (142, .ireturn, 1, 0, 0, 0)], 143),
  (143, [(143, .aload_n 0, 1, 0, 0, 0), (144, .aload 4, 2, 0, 0, 0), (146, .iload_n 1, 1, 0, 0, 0), (147, .invokevirtual 71, 3, 39, 0, 558), (150, .ireturn, 1, 0, 0, 0)], 151)]
/-- 39: FewSigns$Reader.tableOfParts(LFewSigns$Sign;I)I -/
def zc_39 : List (Nat × List zE × Nat) := [(0, [(0, .iload_n 2, 1, 0, 0, 0), (1, .bipush 8, 2, 0, 0, 0), (3, .if_icmp .ge 12, 3, 0, 0, 0), (6, .aload_n 0, 1, 0, 0, 0), (7, .bipush 40, 2, 0, 0, 0), (9, .invokevirtual 75, 3, 40, 0, 562), (12, .ifCond .ne 5, 3, 0, 0, 0)], 15),
  (15, [(15, .iconst (-1), 1, 0, 0, 0), (16, .ireturn, 1, 0, 0, 0)], 17),
  (17, [(17, .iconst 0, 1, 0, 0, 0), (18, .istore_n 3, 1, 0, 0, 0), (19, .iconst 0, 1, 0, 0, 0), (20, .istore 4, 2, 0, 0, 0), (22, .iconst 0, 1, 0, 0, 0), (23, .istore 5, 2, 0, 0, 0), (25, .iconst 0, 1, 0, 0, 0), (26, .istore 6, 2, 0, 0, 0), (28, .iconst 0, 1, 0, 0, 0), (29, .istore 7, 2, 0, 0, 0)], 31),
  (31, [(31, .iload 7, 2, 0, 0, 0), (33, .aload_n 1, 1, 0, 0, 0), (34, .getfield 65, 3, 3, 0, 63), (37, .if_icmp .ge 98, 3, 0, 0, 0), (40, .iload 7, 2, 0, 0, 0), (42, .ifCond .le 14, 3, 0, 0, 0), (45, .aload_n 0, 1, 0, 0, 0), (46, .bipush 44, 2, 0, 0, 0), (48, .invokevirtual 75, 3, 40, 0, 562), (51, .ifCond .ne 5, 3, 0, 0, 0), (54, .iconst (-1), 1, 0, 0, 0), (55, .ireturn, 1, 0, 0, 0)], 56),
  (56, [(56, .aload_n 0, 1, 0, 0, 0), (57, .iload_n 2, 1, 0, 0, 0), (58, .iconst 1, 1, 0, 0, 0), (59, .iadd, 1, 0, 0, 0), (60, .invokevirtual 32, 3, 38, 0, 548), (63, .istore 8, 2, 0, 0, 0), (65, .iload 8, 2, 0, 0, 0), (67, .iconst (-1), 1, 0, 0, 0), (68, .if_icmp .ne 5, 3, 0, 0, 0), (71, .iconst (-1), 1, 0, 0, 0), (72, .ireturn, 1, 0, 0, 0)], 73),
  (73, [(73, .iload 6, 2, 0, 0, 0), (75, .aload_n 0, 1, 0, 0, 0), (76, .getfield 26, 3, 2, 5, 174), (79, .invokestatic 79, 3, 88, 0, 566), (82, .istore 6, 2, 0, 0, 0), (84, .iload 7, 2, 0, 0, 0), (86, .lookupswitch 39 #[(0, 26), (1, 32)], 26, 0, 0, 0)], 112),
  (112, [(112, .iload 8, 2, 0, 0, 0), (114, .istore_n 3, 1, 0, 0, 0), (115, .goto 14, 3, 0, 0, 0)], 118),
  (118, [(118, .iload 8, 2, 0, 0, 0), (120, .istore 4, 2, 0, 0, 0), (122, .goto 7, 3, 0, 0, 0)], 125),
  (125, [(125, .iload 8, 2, 0, 0, 0), (127, .istore 5, 2, 0, 0, 0)], 129),
  (129, [(129, .iinc 7 1, 3, 0, 0, 0), (132, .goto (-101), 3, 0, 0, 0)], 135),
  (135, [(135, .aload_n 0, 1, 0, 0, 0), (136, .bipush 41, 2, 0, 0, 0), (138, .invokevirtual 75, 3, 40, 0, 562), (141, .ifCond .ne 5, 3, 0, 0, 0), (144, .iconst (-1), 1, 0, 0, 0), (145, .ireturn, 1, 0, 0, 0)], 146),
  (146, [(146, .aload_n 0, 1, 0, 0, 0), (147, .iload 6, 2, 0, 0, 0), (149, .iconst 1, 1, 0, 0, 0), (150, .iadd, 1, 0, 0, 0), (151, .putfield 26, 3, 2, 5, 174), (154, .aload_n 1, 1, 0, 0, 0), (155, .getfield 68, 3, 3, 3, 74), (158, .iload_n 3, 1, 0, 0, 0), (159, .iload 4, 2, 0, 0, 0), (161, .iload 5, 2, 0, 0, 0), (163, .invokestatic 85, 3, 7, 0, 567), (166, .iconst 3, 1, 0, 0, 0), (167, .invokestatic 89, 3, 1, 0, 570), (170, .iand, 1, 0, 0, 0), (171, .ireturn, 1, 0, 0, 0)], 172)]
/-- 40: FewSigns$Reader.takes(C)Z -/
def zc_40 : List (Nat × List zE × Nat) := [(0, [(0, .aload_n 0, 1, 0, 0, 0), (1, .getfield 9, 3, 2, 0, 166), (4, .aload_n 0, 1, 0, 0, 0), (5, .getfield 19, 3, 2, 2, 168), (8, .invokevirtual 44, 3, 36, 0, 552), (11, .iload_n 1, 1, 0, 0, 0), (12, .if_icmp .eq 5, 3, 0, 0, 0), (15, .iconst 0, 1, 0, 0, 0), (16, .ireturn, 1, 0, 0, 0)], 17),
  (17, [(17, .aload_n 0, 1, 0, 0, 0), (18, .dup, 1, 0, 0, 0), (19, .getfield 19, 3, 2, 2, 168), (22, .iconst 1, 1, 0, 0, 0), (23, .iadd, 1, 0, 0, 0), (24, .putfield 19, 3, 2, 2, 168), (27, .iconst 1, 1, 0, 0, 0), (28, .ireturn, 1, 0, 0, 0)], 29)]
/-- 41: FewSigns$Reach.explore(LFewSigns$Signs;)V -/
def zc_41 : List (Nat × List zE × Nat) := [(0, [(0, .aload_n 0, 1, 0, 0, 0), (1, .aload_n 1, 1, 0, 0, 0), (2, .invokevirtual 37, 3, 42, 0, 334), (5, .iconst 0, 1, 0, 0, 0), (6, .istore_n 2, 1, 0, 0, 0)], 7),
  (7, [(7, .iload_n 2, 1, 0, 0, 0), (8, .aload_n 0, 1, 0, 0, 0), (9, .getfield 21, 3, 1, 1, 113), (12, .if_icmp .gt 80, 3, 0, 0, 0), (15, .aload_n 0, 1, 0, 0, 0), (16, .invokevirtual 41, 3, 43, 0, 347), (19, .istore_n 3, 1, 0, 0, 0), (20, .iload_n 3, 1, 0, 0, 0), (21, .ifCond .ge 6, 3, 0, 0, 0), (24, .goto 68, 3, 0, 0, 0)], 27),
  (27, [(27, .aload_n 0, 1, 0, 0, 0), (28, .getfield 30, 3, 1, 4, 116), (31, .iload_n 3, 1, 0, 0, 0), (32, .iconst 1, 1, 0, 0, 0), (33, .bastore, 1, 0, 0, 0), (34, .aload_n 0, 1, 0, 0, 0), (35, .getfield 34, 3, 1, 5, 117), (38, .aload_n 0, 1, 0, 0, 0), (39, .getfield 45, 3, 1, 7, 119), (42, .iload_n 3, 1, 0, 0, 0), (43, .iastore, 1, 0, 0, 0), (44, .aload_n 0, 1, 0, 0, 0), (45, .dup, 1, 0, 0, 0), (46, .getfield 45, 3, 1, 7, 119), (49, .iconst 1, 1, 0, 0, 0), (50, .iadd, 1, 0, 0, 0), (51, .putfield 45, 3, 1, 7, 119), (54, .iconst 0, 1, 0, 0, 0), (55, .istore 4, 2, 0, 0, 0)], 57),
  (57, [(57, .iload 4, 2, 0, 0, 0), (59, .aload_n 1, 1, 0, 0, 0), (60, .getfield 48, 3, 4, 1, 97), (63, .if_icmp .ge 23, 3, 0, 0, 0), (66, .aload_n 0, 1, 0, 0, 0), (67, .aload_n 1, 1, 0, 0, 0), (68, .getfield 53, 3, 4, 0, 92), (71, .iload 4, 2, 0, 0, 0), (73, .aaload, 1, 0, 0, 0), (74, .iload 4, 2, 0, 0, 0), (76, .iload_n 3, 1, 0, 0, 0), (77, .invokevirtual 57, 3, 44, 0, 351), (80, .iinc 4 1, 3, 0, 0, 0), (83, .goto (-26), 3, 0, 0, 0)], 86),
  (86, [(86, .iinc 2 1, 3, 0, 0, 0), (89, .goto (-82), 3, 0, 0, 0)], 92),
  (92, [(92, .aload_n 0, 1, 0, 0, 0), (93, .iconst 1, 1, 0, 0, 0), (94, .putfield 61, 3, 1, 8, 121), (97, .return_, 1, 0, 0, 0)], 98)]
/-- 42: FewSigns$Reach.begin(LFewSigns$Signs;)V -/
def zc_42 : List (Nat × List zE × Nat) := [(0, [(0, .aload_n 0, 1, 0, 0, 0), (1, .iconst 0, 1, 0, 0, 0), (2, .putfield 45, 3, 1, 7, 119), (5, .iconst 0, 1, 0, 0, 0), (6, .istore_n 2, 1, 0, 0, 0)], 7),
  (7, [(7, .iload_n 2, 1, 0, 0, 0), (8, .aload_n 0, 1, 0, 0, 0), (9, .getfield 21, 3, 1, 1, 113), (12, .if_icmp .gt 31, 3, 0, 0, 0), (15, .aload_n 0, 1, 0, 0, 0), (16, .getfield 23, 3, 1, 2, 114), (19, .iload_n 2, 1, 0, 0, 0), (20, .ldc 65, 2, 1073741824, 0, 338), (22, .iastore, 1, 0, 0, 0), (23, .aload_n 0, 1, 0, 0, 0), (24, .getfield 27, 3, 1, 3, 115), (27, .iload_n 2, 1, 0, 0, 0), (28, .iconst (-1), 1, 0, 0, 0), (29, .iastore, 1, 0, 0, 0), (30, .aload_n 0, 1, 0, 0, 0), (31, .getfield 30, 3, 1, 4, 116), (34, .iload_n 2, 1, 0, 0, 0), (35, .iconst 0, 1, 0, 0, 0), (36, .bastore, 1, 0, 0, 0), (37, .iinc 2 1, 3, 0, 0, 0), (40, .goto (-33), 3, 0, 0, 0)], 43),
  (43, [(43, .iconst 0, 1, 0, 0, 0), (44, .istore_n 2, 1, 0, 0, 0)], 45),
  (45, [(45, .iload_n 2, 1, 0, 0, 0), (46, .aload_n 0, 1, 0, 0, 0), (47, .getfield 9, 3, 1, 0, 112), (50, .if_icmp .ge 24, 3, 0, 0, 0), (53, .aload_n 0, 1, 0, 0, 0), (54, .getfield 23, 3, 1, 2, 114), (57, .iload_n 2, 1, 0, 0, 0), (58, .invokestatic 68, 3, 2, 0, 339), (61, .aload_n 0, 1, 0, 0, 0), (62, .getfield 21, 3, 1, 1, 113), (65, .iand, 1, 0, 0, 0), (66, .iconst 0, 1, 0, 0, 0), (67, .iastore, 1, 0, 0, 0), (68, .iinc 2 1, 3, 0, 0, 0), (71, .goto (-26), 3, 0, 0, 0)], 74),
  (74, [(74, .iconst 0, 1, 0, 0, 0), (75, .istore_n 2, 1, 0, 0, 0)], 76),
  (76, [(76, .iload_n 2, 1, 0, 0, 0), (77, .aload_n 1, 1, 0, 0, 0), (78, .getfield 48, 3, 4, 1, 97), (81, .if_icmp .ge 40, 3, 0, 0, 0), (84, .aload_n 1, 1, 0, 0, 0), (85, .getfield 53, 3, 4, 0, 92), (88, .iload_n 2, 1, 0, 0, 0), (89, .aaload, 1, 0, 0, 0), (90, .astore_n 3, 1, 0, 0, 0), (91, .aload_n 3, 1, 0, 0, 0), (92, .getfield 71, 3, 3, 0, 62), (95, .ifCond .ne 20, 3, 0, 0, 0), (98, .aload_n 0, 1, 0, 0, 0), (99, .aload_n 3, 1, 0, 0, 0), (100, .getfield 74, 3, 3, 1, 67), (103, .ineg, 1, 0, 0, 0), (104, .aload_n 3, 1, 0, 0, 0), (105, .getfield 77, 3, 3, 2, 70), (108, .iload_n 2, 1, 0, 0, 0), (109, .invokestatic 79, 3, 15, 0, 340), (112, .invokevirtual 81, 3, 48, 0, 343)], 115),
  (115, [(115, .iinc 2 1, 3, 0, 0, 0), (118, .goto (-42), 3, 0, 0, 0)], 121),
  (121, [(121, .return_, 1, 0, 0, 0)], 122)]
/-- 43: FewSigns$Reach.cheapestOpen()I -/
def zc_43 : List (Nat × List zE × Nat) := [(0, [(0, .iconst (-1), 1, 0, 0, 0), (1, .istore_n 1, 1, 0, 0, 0), (2, .aload_n 0, 1, 0, 0, 0), (3, .iconst 0, 1, 0, 0, 0), (4, .putfield 85, 3, 1, 6, 118), (7, .iconst 0, 1, 0, 0, 0), (8, .istore_n 2, 1, 0, 0, 0)], 9),
  (9, [(9, .iload_n 2, 1, 0, 0, 0), (10, .aload_n 0, 1, 0, 0, 0), (11, .getfield 21, 3, 1, 1, 113), (14, .if_icmp .gt 60, 3, 0, 0, 0), (17, .aload_n 0, 1, 0, 0, 0), (18, .getfield 23, 3, 1, 2, 114), (21, .iload_n 2, 1, 0, 0, 0), (22, .iaload, 1, 0, 0, 0), (23, .istore_n 3, 1, 0, 0, 0), (24, .iload_n 3, 1, 0, 0, 0), (25, .aload_n 0, 1, 0, 0, 0), (26, .getfield 85, 3, 1, 6, 118), (29, .if_icmp .le 8, 3, 0, 0, 0), (32, .aload_n 0, 1, 0, 0, 0), (33, .iload_n 3, 1, 0, 0, 0), (34, .putfield 85, 3, 1, 6, 118)], 37),
  (37, [(37, .iload_n 3, 1, 0, 0, 0), (38, .ldc 65, 2, 1073741824, 0, 338), (40, .if_icmp .eq 28, 3, 0, 0, 0), (43, .aload_n 0, 1, 0, 0, 0), (44, .getfield 30, 3, 1, 4, 116), (47, .iload_n 2, 1, 0, 0, 0), (48, .baload, 1, 0, 0, 0), (49, .ifCond .ne 19, 3, 0, 0, 0), (52, .iload_n 1, 1, 0, 0, 0), (53, .ifCond .lt 13, 3, 0, 0, 0), (56, .iload_n 3, 1, 0, 0, 0), (57, .aload_n 0, 1, 0, 0, 0), (58, .getfield 23, 3, 1, 2, 114), (61, .iload_n 1, 1, 0, 0, 0), (62, .iaload, 1, 0, 0, 0), (63, .if_icmp .ge 5, 3, 0, 0, 0)], 66),
  (66, [(66, .iload_n 2, 1, 0, 0, 0), (67, .istore_n 1, 1, 0, 0, 0)], 68),
  (68, [(68, .iinc 2 1, 3, 0, 0, 0), (71, .goto (-62), 3, 0, 0, 0)], 74),
  (74, [(74, .iload_n 1, 1, 0, 0, 0), (75, .ireturn, 1, 0, 0, 0)], 76)]
/-- 44: FewSigns$Reach.join(LFewSigns$Sign;II)V -/
def zc_44 : List (Nat × List zE × Nat) := [(0, [(0, .iconst 0, 1, 0, 0, 0), (1, .istore 4, 2, 0, 0, 0)], 3),
  (3, [(3, .iload 4, 2, 0, 0, 0), (5, .aload_n 1, 1, 0, 0, 0), (6, .getfield 71, 3, 3, 0, 62), (9, .if_icmp .ge 27, 3, 0, 0, 0), (12, .aload_n 0, 1, 0, 0, 0), (13, .aload_n 1, 1, 0, 0, 0), (14, .iload_n 2, 1, 0, 0, 0), (15, .invokestatic 79, 3, 15, 0, 340), (18, .iload 4, 2, 0, 0, 0), (20, .iload_n 3, 1, 0, 0, 0), (21, .invokestatic 88, 3, 16, 0, 355), (24, .iload_n 3, 1, 0, 0, 0), (25, .iload 4, 2, 0, 0, 0), (27, .invokevirtual 92, 3, 45, 0, 361), (30, .iinc 4 1, 3, 0, 0, 0), (33, .goto (-30), 3, 0, 0, 0)], 36),
  (36, [(36, .return_, 1, 0, 0, 0)], 37)]
/-- 45: FewSigns$Reach.joinAt(LFewSigns$Sign;III)V -/
def zc_45 : List (Nat × List zE × Nat) := [(0, [(0, .iload 4, 2, 0, 0, 0), (2, .ifCond .ne 7, 3, 0, 0, 0), (5, .iconst 1, 1, 0, 0, 0), (6, .goto 4, 3, 0, 0, 0)], 9),
  (9, [(9, .iconst 0, 1, 0, 0, 0)], 10),
  (10, [(10, .istore 5, 2, 0, 0, 0), (12, .iload 4, 2, 0, 0, 0), (14, .iconst 2, 1, 0, 0, 0), (15, .if_icmp .ne 7, 3, 0, 0, 0), (18, .iconst 1, 1, 0, 0, 0), (19, .goto 4, 3, 0, 0, 0)], 22),
  (22, [(22, .iconst 2, 1, 0, 0, 0)], 23),
  (23, [(23, .istore 6, 2, 0, 0, 0), (25, .aload_n 1, 1, 0, 0, 0), (26, .iload_n 3, 1, 0, 0, 0), (27, .iload 4, 2, 0, 0, 0), (29, .iconst 0, 1, 0, 0, 0), (30, .invokestatic 96, 3, 47, 0, 365), (33, .istore 7, 2, 0, 0, 0), (35, .aload_n 1, 1, 0, 0, 0), (36, .iload_n 3, 1, 0, 0, 0), (37, .iload 4, 2, 0, 0, 0), (39, .iconst 1, 1, 0, 0, 0), (40, .iload 5, 2, 0, 0, 0), (42, .ishl, 1, 0, 0, 0), (43, .invokestatic 96, 3, 47, 0, 365), (46, .istore 8, 2, 0, 0, 0), (48, .aload_n 1, 1, 0, 0, 0), (49, .iload_n 3, 1, 0, 0, 0), (50, .iload 4, 2, 0, 0, 0), (52, .iconst 1, 1, 0, 0, 0), (53, .iload 6, 2, 0, 0, 0), (55, .ishl, 1, 0, 0, 0), (56, .invokestatic 96, 3, 47, 0, 365), (59, .istore 9, 2, 0, 0, 0), (61, .aload_n 1, 1, 0, 0, 0), (62, .iload_n 3, 1, 0, 0, 0), (63, .iload 4, 2, 0, 0, 0), (65, .iconst 1, 1, 0, 0, 0), (66, .iload 5, 2, 0, 0, 0), (68, .ishl, 1, 0, 0, 0), (69, .iconst 1, 1, 0, 0, 0), (70, .iload 6, 2, 0, 0, 0), (72, .ishl, 1, 0, 0, 0), (73, .ior, 1, 0, 0, 0), (74, .invokestatic 96, 3, 47, 0, 365), (77, .istore 10, 2, 0, 0, 0), (79, .aload_n 1, 1, 0, 0, 0), (80, .getfield 77, 3, 3, 2, 70), (83, .aload_n 0, 1, 0, 0, 0), (84, .getfield 23, 3, 1, 2, 114), (87, .iload_n 3, 1, 0, 0, 0), (88, .iaload, 1, 0, 0, 0), (89, .iadd, 1, 0, 0, 0), (90, .istore 11, 2, 0, 0, 0), (92, .aload_n 1, 1, 0, 0, 0), (93, .getfield 71, 3, 3, 0, 62), (96, .iconst 2, 1, 0, 0, 0), (97, .if_icmp .ge 13, 3, 0, 0, 0), (100, .aload_n 0, 1, 0, 0, 0), (101, .iload 7, 2, 0, 0, 0), (103, .iload 11, 2, 0, 0, 0), (105, .iload_n 2, 1, 0, 0, 0), (106, .invokevirtual 81, 3, 48, 0, 343), (109, .return_, 1, 0, 0, 0)], 110),
  (110, [(110, .iconst 0, 1, 0, 0, 0), (111, .istore 12, 2, 0, 0, 0)], 113),
  (113, [(113, .iload 12, 2, 0, 0, 0), (115, .aload_n 0, 1, 0, 0, 0), (116, .getfield 45, 3, 1, 7, 119), (119, .if_icmp .ge 105, 3, 0, 0, 0), (122, .aload_n 0, 1, 0, 0, 0), (123, .getfield 34, 3, 1, 5, 117), (126, .iload 12, 2, 0, 0, 0), (128, .iaload, 1, 0, 0, 0), (129, .istore 13, 2, 0, 0, 0), (131, .iload 11, 2, 0, 0, 0), (133, .aload_n 0, 1, 0, 0, 0), (134, .getfield 23, 3, 1, 2, 114), (137, .iload 13, 2, 0, 0, 0), (139, .iaload, 1, 0, 0, 0), (140, .iadd, 1, 0, 0, 0), (141, .istore 14, 2, 0, 0, 0), (143, .iload 14, 2, 0, 0, 0), (145, .aload_n 0, 1, 0, 0, 0), (146, .getfield 85, 3, 1, 6, 118), (149, .if_icmp .le 6, 3, 0, 0, 0), (152, .goto 72, 3, 0, 0, 0)], 155),
  (155, [(155, .iload 13, 2, 0, 0, 0), (157, .iload 8, 2, 0, 0, 0), (159, .iload 7, 2, 0, 0, 0), (161, .invokestatic 100, 3, 5, 0, 369), (164, .istore 15, 2, 0, 0, 0), (166, .iload_n 2, 1, 0, 0, 0), (167, .iload 5, 2, 0, 0, 0), (169, .iload 13, 2, 0, 0, 0), (171, .invokestatic 88, 3, 16, 0, 355), (174, .istore 16, 2, 0, 0, 0), (176, .aload_n 1, 1, 0, 0, 0), (177, .getfield 71, 3, 3, 0, 62), (180, .iconst 3, 1, 0, 0, 0), (181, .if_icmp .ge 16, 3, 0, 0, 0), (184, .aload_n 0, 1, 0, 0, 0), (185, .iload 15, 2, 0, 0, 0), (187, .iload 14, 2, 0, 0, 0), (189, .iload 16, 2, 0, 0, 0), (191, .invokevirtual 81, 3, 48, 0, 343), (194, .goto 24, 3, 0, 0, 0)], 197),
  (197, [(197, .aload_n 0, 1, 0, 0, 0), (198, .iload 13, 2, 0, 0, 0), (200, .iload 10, 2, 0, 0, 0), (202, .iload 9, 2, 0, 0, 0), (204, .invokestatic 100, 3, 5, 0, 369), (207, .iload 15, 2, 0, 0, 0), (209, .iload 14, 2, 0, 0, 0), (211, .iload 16, 2, 0, 0, 0), (213, .iload 6, 2, 0, 0, 0), (215, .invokevirtual 103, 3, 46, 0, 372)], 218),
  (218, [(218, .iinc 12 1, 3, 0, 0, 0), (221, .goto (-108), 3, 0, 0, 0)], 224),
  (224, [(224, .return_, 1, 0, 0, 0)], 225)]
/-- 46: FewSigns$Reach.joinLast(IIIII)V -/
def zc_46 : List (Nat × List zE × Nat) := [(0, [(0, .iconst 0, 1, 0, 0, 0), (1, .istore 6, 2, 0, 0, 0)], 3),
  (3, [(3, .iload 6, 2, 0, 0, 0), (5, .aload_n 0, 1, 0, 0, 0), (6, .getfield 45, 3, 1, 7, 119), (9, .if_icmp .ge 63, 3, 0, 0, 0), (12, .aload_n 0, 1, 0, 0, 0), (13, .getfield 34, 3, 1, 5, 117), (16, .iload 6, 2, 0, 0, 0), (18, .iaload, 1, 0, 0, 0), (19, .istore 7, 2, 0, 0, 0), (21, .iload_n 3, 1, 0, 0, 0), (22, .aload_n 0, 1, 0, 0, 0), (23, .getfield 23, 3, 1, 2, 114), (26, .iload 7, 2, 0, 0, 0), (28, .iaload, 1, 0, 0, 0), (29, .iadd, 1, 0, 0, 0), (30, .istore 8, 2, 0, 0, 0), (32, .iload 8, 2, 0, 0, 0), (34, .aload_n 0, 1, 0, 0, 0), (35, .getfield 85, 3, 1, 6, 118), (38, .if_icmp .le 6, 3, 0, 0, 0), (41, .goto 31, 3, 0, 0, 0)], 44),
  (44, [(44, .aload_n 0, 1, 0, 0, 0), (45, .iload 7, 2, 0, 0, 0), (47, .iload_n 1, 1, 0, 0, 0), (48, .iload_n 2, 1, 0, 0, 0), (49, .invokestatic 100, 3, 5, 0, 369), (52, .iload 8, 2, 0, 0, 0), (54, .iload 4, 2, 0, 0, 0), (56, .iload 5, 2, 0, 0, 0), (58, .iload 7, 2, 0, 0, 0), (60, .invokestatic 88, 3, 16, 0, 355), (63, .invokevirtual 81, 3, 48, 0, 343), (66, .iinc 6 1, 3, 0, 0, 0), (69, .goto (-66), 3, 0, 0, 0)], 72),
  (72, [(72, .return_, 1, 0, 0, 0)], 73)]
/-- 47: FewSigns$Reach.leftOf(LFewSigns$Sign;III)I -/
def zc_47 : List (Nat × List zE × Nat) := [(0, [(0, .aload_n 0, 1, 0, 0, 0), (1, .getfield 107, 3, 3, 3, 75), (4, .iload_n 3, 1, 0, 0, 0), (5, .iconst 1, 1, 0, 0, 0), (6, .iload_n 2, 1, 0, 0, 0), (7, .ishl, 1, 0, 0, 0), (8, .ior, 1, 0, 0, 0), (9, .invokestatic 110, 3, 3, 0, 368), (12, .ineg, 1, 0, 0, 0), (13, .istore 4, 2, 0, 0, 0), (15, .aload_n 0, 1, 0, 0, 0), (16, .getfield 107, 3, 3, 3, 75), (19, .iload_n 3, 1, 0, 0, 0), (20, .invokestatic 110, 3, 3, 0, 368), (23, .ineg, 1, 0, 0, 0), (24, .istore 5, 2, 0, 0, 0), (26, .iload_n 1, 1, 0, 0, 0), (27, .iload 4, 2, 0, 0, 0), (29, .iload 5, 2, 0, 0, 0), (31, .invokestatic 100, 3, 5, 0, 369), (34, .ireturn, 1, 0, 0, 0)], 35)]
/-- 48: FewSigns$Reach.offer(III)V -/
def zc_48 : List (Nat × List zE × Nat) := [(0, [(0, .iload_n 1, 1, 0, 0, 0), (1, .aload_n 0, 1, 0, 0, 0), (2, .getfield 21, 3, 1, 1, 113), (5, .iand, 1, 0, 0, 0), (6, .istore 4, 2, 0, 0, 0), (8, .iload_n 2, 1, 0, 0, 0), (9, .aload_n 0, 1, 0, 0, 0), (10, .getfield 23, 3, 1, 2, 114), (13, .iload 4, 2, 0, 0, 0), (15, .iaload, 1, 0, 0, 0), (16, .if_icmp .lt 25, 3, 0, 0, 0), (19, .iload_n 2, 1, 0, 0, 0), (20, .aload_n 0, 1, 0, 0, 0), (21, .getfield 23, 3, 1, 2, 114), (24, .iload 4, 2, 0, 0, 0), (26, .iaload, 1, 0, 0, 0), (27, .if_icmp .ne 30, 3, 0, 0, 0), (30, .iload_n 3, 1, 0, 0, 0), (31, .aload_n 0, 1, 0, 0, 0), (32, .getfield 27, 3, 1, 3, 115), (35, .iload 4, 2, 0, 0, 0), (37, .iaload, 1, 0, 0, 0), (38, .if_icmp .ge 19, 3, 0, 0, 0)], 41),
  (41, [(41, .aload_n 0, 1, 0, 0, 0), (42, .getfield 23, 3, 1, 2, 114), (45, .iload 4, 2, 0, 0, 0), (47, .iload_n 2, 1, 0, 0, 0), (48, .iastore, 1, 0, 0, 0), (49, .aload_n 0, 1, 0, 0, 0), (50, .getfield 27, 3, 1, 3, 115), (53, .iload 4, 2, 0, 0, 0), (55, .iload_n 3, 1, 0, 0, 0), (56, .iastore, 1, 0, 0, 0)], 57),
  (57, [(57, .return_, 1, 0, 0, 0)], 58)]
/-- 49: FewSigns$Reach.covers(I)Z -/
def zc_49 : List (Nat × List zE × Nat) := [(0, [(0, .iload_n 1, 1, 0, 0, 0), (1, .ifCond .lt 26, 3, 0, 0, 0), (4, .iload_n 1, 1, 0, 0, 0), (5, .aload_n 0, 1, 0, 0, 0), (6, .getfield 21, 3, 1, 1, 113), (9, .if_icmp .gt 18, 3, 0, 0, 0), (12, .aload_n 0, 1, 0, 0, 0), (13, .getfield 23, 3, 1, 2, 114), (16, .iload_n 1, 1, 0, 0, 0), (17, .iaload, 1, 0, 0, 0), (18, .ldc 65, 2, 1073741824, 0, 338), (20, .if_icmp .eq 7, 3, 0, 0, 0), (23, .iconst 1, 1, 0, 0, 0), (24, .goto 4, 3, 0, 0, 0)], 27),
  (27, [(27, .iconst 0, 1, 0, 0, 0)], 28),
  (28, [(28, .ireturn, 1, 0, 0, 0)], 29)]
/-- 50: FewSigns$Reach.leastCost(I)I -/
def zc_50 : List (Nat × List zE × Nat) := [(0, [(0, .aload_n 0, 1, 0, 0, 0), (1, .iload_n 1, 1, 0, 0, 0), (2, .invokevirtual 114, 3, 49, 0, 384), (5, .ifCond .eq 12, 3, 0, 0, 0), (8, .aload_n 0, 1, 0, 0, 0), (9, .getfield 23, 3, 1, 2, 114), (12, .iload_n 1, 1, 0, 0, 0), (13, .iaload, 1, 0, 0, 0), (14, .goto 5, 3, 0, 0, 0)], 17),
  (17, [(17, .bipush (-9), 2, 0, 0, 0)], 19),
  (19, [(19, .ireturn, 1, 0, 0, 0)], 20)]
/-- 51: FewSigns$Reach.wayTo(I)I -/
def zc_51 : List (Nat × List zE × Nat) := [(0, [(0, .aload_n 0, 1, 0, 0, 0), (1, .iload_n 1, 1, 0, 0, 0), (2, .invokevirtual 114, 3, 49, 0, 384), (5, .ifCond .eq 12, 3, 0, 0, 0), (8, .aload_n 0, 1, 0, 0, 0), (9, .getfield 27, 3, 1, 3, 115), (12, .iload_n 1, 1, 0, 0, 0), (13, .iaload, 1, 0, 0, 0), (14, .goto 4, 3, 0, 0, 0)], 17),
  (17, [(17, .iconst (-1), 1, 0, 0, 0)], 18),
  (18, [(18, .ireturn, 1, 0, 0, 0)], 19)]
/-- 52: FewSigns$Reach.greatestCost()I -/
def zc_52 : List (Nat × List zE × Nat) := [(0, [(0, .iconst 0, 1, 0, 0, 0), (1, .istore_n 1, 1, 0, 0, 0), (2, .iconst 0, 1, 0, 0, 0), (3, .istore_n 2, 1, 0, 0, 0)], 4),
  (4, [(4, .iload_n 2, 1, 0, 0, 0), (5, .aload_n 0, 1, 0, 0, 0), (6, .getfield 21, 3, 1, 1, 113), (9, .if_icmp .gt 28, 3, 0, 0, 0), (12, .aload_n 0, 1, 0, 0, 0), (13, .iload_n 2, 1, 0, 0, 0), (14, .invokevirtual 114, 3, 49, 0, 384), (17, .ifCond .eq 14, 3, 0, 0, 0), (20, .iload_n 1, 1, 0, 0, 0), (21, .aload_n 0, 1, 0, 0, 0), (22, .getfield 23, 3, 1, 2, 114), (25, .iload_n 2, 1, 0, 0, 0), (26, .iaload, 1, 0, 0, 0), (27, .invokestatic 118, 3, 88, 0, 410), (30, .istore_n 1, 1, 0, 0, 0)], 31),
  (31, [(31, .iinc 2 1, 3, 0, 0, 0), (34, .goto (-30), 3, 0, 0, 0)], 37),
  (37, [(37, .iload_n 1, 1, 0, 0, 0), (38, .ireturn, 1, 0, 0, 0)], 39)]
/-- 53: FewSigns$Reach.firstCosting(I)I -/
def zc_53 : List (Nat × List zE × Nat) := [(0, [(0, .iconst 0, 1, 0, 0, 0), (1, .istore_n 2, 1, 0, 0, 0)], 2),
  (2, [(2, .iload_n 2, 1, 0, 0, 0), (3, .aload_n 0, 1, 0, 0, 0), (4, .getfield 21, 3, 1, 1, 113), (7, .if_icmp .gt 29, 3, 0, 0, 0), (10, .aload_n 0, 1, 0, 0, 0), (11, .iload_n 2, 1, 0, 0, 0), (12, .invokevirtual 114, 3, 49, 0, 384), (15, .ifCond .eq 15, 3, 0, 0, 0), (18, .aload_n 0, 1, 0, 0, 0), (19, .getfield 23, 3, 1, 2, 114), (22, .iload_n 2, 1, 0, 0, 0), (23, .iaload, 1, 0, 0, 0), (24, .iload_n 1, 1, 0, 0, 0), (25, .if_icmp .ne 5, 3, 0, 0, 0), (28, .iload_n 2, 1, 0, 0, 0), (29, .ireturn, 1, 0, 0, 0)], 30),
  (30, [(30, .iinc 2 1, 3, 0, 0, 0), (33, .goto (-31), 3, 0, 0, 0)], 36),
  (36, [(36, .bipush (-9), 2, 0, 0, 0), (38, .ireturn, 1, 0, 0, 0)], 39)]
/-- 54: FewSigns$Reach.firstUnreached()I -/
def zc_54 : List (Nat × List zE × Nat) := [(0, [(0, .iconst 0, 1, 0, 0, 0), (1, .istore_n 1, 1, 0, 0, 0)], 2),
  (2, [(2, .iload_n 1, 1, 0, 0, 0), (3, .aload_n 0, 1, 0, 0, 0), (4, .getfield 21, 3, 1, 1, 113), (7, .if_icmp .gt 19, 3, 0, 0, 0), (10, .aload_n 0, 1, 0, 0, 0), (11, .iload_n 1, 1, 0, 0, 0), (12, .invokevirtual 114, 3, 49, 0, 384), (15, .ifCond .ne 5, 3, 0, 0, 0), (18, .iload_n 1, 1, 0, 0, 0), (19, .ireturn, 1, 0, 0, 0)], 20),
  (20, [(20, .iinc 1 1, 3, 0, 0, 0), (23, .goto (-21), 3, 0, 0, 0)], 26),
  (26, [(26, .bipush (-9), 2, 0, 0, 0), (28, .ireturn, 1, 0, 0, 0)], 29)]
/-- 55: FewSigns$Reach.howManyCost(I)I -/
def zc_55 : List (Nat × List zE × Nat) := [(0, [(0, .iconst 0, 1, 0, 0, 0), (1, .istore_n 2, 1, 0, 0, 0), (2, .iconst 0, 1, 0, 0, 0), (3, .istore_n 3, 1, 0, 0, 0)], 4),
  (4, [(4, .iload_n 3, 1, 0, 0, 0), (5, .aload_n 0, 1, 0, 0, 0), (6, .getfield 21, 3, 1, 1, 113), (9, .if_icmp .gt 30, 3, 0, 0, 0), (12, .aload_n 0, 1, 0, 0, 0), (13, .iload_n 3, 1, 0, 0, 0), (14, .invokevirtual 114, 3, 49, 0, 384), (17, .ifCond .eq 16, 3, 0, 0, 0), (20, .aload_n 0, 1, 0, 0, 0), (21, .getfield 23, 3, 1, 2, 114), (24, .iload_n 3, 1, 0, 0, 0), (25, .iaload, 1, 0, 0, 0), (26, .iload_n 1, 1, 0, 0, 0), (27, .if_icmp .ne 6, 3, 0, 0, 0), (30, .iinc 2 1, 3, 0, 0, 0)], 33),
  (33, [(33, .iinc 3 1, 3, 0, 0, 0), (36, .goto (-32), 3, 0, 0, 0)], 39),
  (39, [(39, .iload_n 2, 1, 0, 0, 0), (40, .ireturn, 1, 0, 0, 0)], 41)]
/-- 56: FewSigns.sign(III)I -/
def zc_56 : List (Nat × List zE × Nat) := [(0, [(0, .iload_n 1, 1, 0, 0, 0), (1, .iload_n 2, 1, 0, 0, 0), (2, .invokestatic 61, 3, 0, 0, 261), (5, .ifCond .eq 14, 3, 0, 0, 0), (8, .iload_n 3, 1, 0, 0, 0), (9, .iconst 1, 1, 0, 0, 0), (10, .if_icmp .lt 9, 3, 0, 0, 0), (13, .iload_n 3, 1, 0, 0, 0), (14, .bipush 9, 2, 0, 0, 0), (16, .if_icmp .le 5, 3, 0, 0, 0)], 19),
  (19, [(19, .iconst (-1), 1, 0, 0, 0), (20, .ireturn, 1, 0, 0, 0)], 21),
  (21, [(21, .aload_n 0, 1, 0, 0, 0), (22, .getfield 10, 3, 6, 0, 232), (25, .getfield 67, 3, 4, 1, 96), (28, .bipush 6, 2, 0, 0, 0), (30, .if_icmp .lt 6, 3, 0, 0, 0), (33, .bipush (-3), 2, 0, 0, 0), (35, .ireturn, 1, 0, 0, 0)], 36),
  (36, [(36, .aload_n 0, 1, 0, 0, 0), (37, .getfield 10, 3, 6, 0, 232), (40, .iload_n 1, 1, 0, 0, 0), (41, .iload_n 2, 1, 0, 0, 0), (42, .iload_n 3, 1, 0, 0, 0), (43, .invokevirtual 71, 3, 26, 0, 265), (46, .istore 4, 2, 0, 0, 0), (48, .aload_n 0, 1, 0, 0, 0), (49, .invokevirtual 58, 3, 81, 0, 217), (52, .iload 4, 2, 0, 0, 0), (54, .ireturn, 1, 0, 0, 0)], 55)]
/-- 57: FewSigns.drop()I -/
def zc_57 : List (Nat × List zE × Nat) := [(0, [(0, .aload_n 0, 1, 0, 0, 0), (1, .getfield 10, 3, 6, 0, 232), (4, .getfield 67, 3, 4, 1, 96), (7, .iconst 1, 1, 0, 0, 0), (8, .if_icmp .ge 5, 3, 0, 0, 0), (11, .iconst (-1), 1, 0, 0, 0), (12, .ireturn, 1, 0, 0, 0)], 13),
  (13, [(13, .aload_n 0, 1, 0, 0, 0), (14, .getfield 10, 3, 6, 0, 232), (17, .dup, 1, 0, 0, 0), (18, .getfield 67, 3, 4, 1, 96), (21, .iconst 1, 1, 0, 0, 0), (22, .isub, 1, 0, 0, 0), (23, .putfield 67, 3, 4, 1, 96), (26, .aload_n 0, 1, 0, 0, 0), (27, .invokevirtual 58, 3, 81, 0, 217), (30, .aload_n 0, 1, 0, 0, 0), (31, .getfield 10, 3, 6, 0, 232), (34, .getfield 67, 3, 4, 1, 96), (37, .ireturn, 1, 0, 0, 0)], 38)]
/-- 58: FewSigns.about(II)I -/
def zc_58 : List (Nat × List zE × Nat) := [(0, [(0, .aload_n 0, 1, 0, 0, 0), (1, .getfield 10, 3, 6, 0, 232), (4, .iload_n 1, 1, 0, 0, 0), (5, .invokevirtual 75, 3, 24, 0, 302), (8, .ifCond .ne 5, 3, 0, 0, 0), (11, .iconst (-1), 1, 0, 0, 0), (12, .ireturn, 1, 0, 0, 0)], 13),
  (13, [(13, .aload_n 0, 1, 0, 0, 0), (14, .getfield 10, 3, 6, 0, 232), (17, .getfield 79, 3, 4, 0, 94), (20, .iload_n 1, 1, 0, 0, 0), (21, .aaload, 1, 0, 0, 0), (22, .astore_n 3, 1, 0, 0, 0), (23, .iload_n 2, 1, 0, 0, 0), (24, .tableswitch 52 0 3 #[32, 37, 42, 47], 32, 0, 0, 0)], 56),
  (56, [(56, .aload_n 3, 1, 0, 0, 0), (57, .getfield 83, 3, 3, 0, 64), (60, .ireturn, 1, 0, 0, 0)], 61),
  (61, [(61, .aload_n 3, 1, 0, 0, 0), (62, .getfield 88, 3, 3, 1, 68), (65, .ireturn, 1, 0, 0, 0)], 66),
  (66, [(66, .aload_n 3, 1, 0, 0, 0), (67, .getfield 91, 3, 3, 2, 72), (70, .ireturn, 1, 0, 0, 0)], 71),
  (71, [(71, .aload_n 3, 1, 0, 0, 0), (72, .getfield 94, 3, 3, 4, 78), (75, .ireturn, 1, 0, 0, 0)], 76),
  (76, [(76, .iconst (-1), 1, 0, 0, 0), (77, .ireturn, 1, 0, 0, 0)], 78)]
/-- 59: FewSigns.keeps(II)I -/
def zc_59 : List (Nat × List zE × Nat) := [(0, [(0, .iload_n 1, 1, 0, 0, 0), (1, .iload_n 2, 1, 0, 0, 0), (2, .invokestatic 61, 3, 0, 0, 261), (5, .ifCond .eq 11, 3, 0, 0, 0), (8, .iload_n 1, 1, 0, 0, 0), (9, .iload_n 2, 1, 0, 0, 0), (10, .invokestatic 97, 3, 12, 0, 310), (13, .goto 4, 3, 0, 0, 0)], 16),
  (16, [(16, .iconst (-1), 1, 0, 0, 0)], 17),
  (17, [(17, .ireturn, 1, 0, 0, 0)], 18)]
/-- 60: FewSigns.reached(I)I -/
def zc_60 : List (Nat × List zE × Nat) := [(0, [(0, .iload_n 1, 1, 0, 0, 0), (1, .invokestatic 100, 3, 82, 0, 315), (4, .ifCond .ne 5, 3, 0, 0, 0), (7, .iconst (-1), 1, 0, 0, 0), (8, .ireturn, 1, 0, 0, 0)], 9),
  (9, [(9, .aload_n 0, 1, 0, 0, 0), (10, .iload_n 1, 1, 0, 0, 0), (11, .invokevirtual 103, 3, 85, 0, 318), (14, .ifCond .eq 8, 3, 0, 0, 0), (17, .bipush (-2), 2, 0, 0, 0), (19, .goto 11, 3, 0, 0, 0)], 22),
  (22, [(22, .aload_n 0, 1, 0, 0, 0), (23, .iload_n 1, 1, 0, 0, 0), (24, .invokevirtual 106, 3, 86, 0, 326), (27, .getfield 110, 3, 1, 7, 120)], 30),
  (30, [(30, .ireturn, 1, 0, 0, 0)], 31)]
/-- 61: FewSigns.least(II)I -/
def zc_61 : List (Nat × List zE × Nat) := [(0, [(0, .iload_n 1, 1, 0, 0, 0), (1, .invokestatic 100, 3, 82, 0, 315), (4, .ifCond .eq 11, 3, 0, 0, 0), (7, .iload_n 1, 1, 0, 0, 0), (8, .iload_n 2, 1, 0, 0, 0), (9, .invokestatic 61, 3, 0, 0, 261), (12, .ifCond .ne 5, 3, 0, 0, 0)], 15),
  (15, [(15, .iconst (-1), 1, 0, 0, 0), (16, .ireturn, 1, 0, 0, 0)], 17),
  (17, [(17, .aload_n 0, 1, 0, 0, 0), (18, .iload_n 1, 1, 0, 0, 0), (19, .invokevirtual 103, 3, 85, 0, 318), (22, .ifCond .eq 8, 3, 0, 0, 0), (25, .bipush (-2), 2, 0, 0, 0), (27, .goto 12, 3, 0, 0, 0)], 30),
  (30, [(30, .aload_n 0, 1, 0, 0, 0), (31, .iload_n 1, 1, 0, 0, 0), (32, .invokevirtual 106, 3, 86, 0, 326), (35, .iload_n 2, 1, 0, 0, 0), (36, .invokevirtual 113, 3, 50, 0, 380)], 39),
  (39, [(39, .ireturn, 1, 0, 0, 0)], 40)]
/-- 62: FewSigns.by(III)I -/
def zc_62 : List (Nat × List zE × Nat) := [(0, [(0, .iload_n 1, 1, 0, 0, 0), (1, .invokestatic 100, 3, 82, 0, 315), (4, .ifCond .eq 21, 3, 0, 0, 0), (7, .iload_n 1, 1, 0, 0, 0), (8, .iload_n 2, 1, 0, 0, 0), (9, .invokestatic 61, 3, 0, 0, 261), (12, .ifCond .eq 13, 3, 0, 0, 0), (15, .iload_n 3, 1, 0, 0, 0), (16, .iconst (-1), 1, 0, 0, 0), (17, .if_icmp .lt 8, 3, 0, 0, 0), (20, .iload_n 3, 1, 0, 0, 0), (21, .iconst 3, 1, 0, 0, 0), (22, .if_icmp .lt 5, 3, 0, 0, 0)], 25),
  (25, [(25, .iconst (-1), 1, 0, 0, 0), (26, .ireturn, 1, 0, 0, 0)], 27),
  (27, [(27, .aload_n 0, 1, 0, 0, 0), (28, .iload_n 1, 1, 0, 0, 0), (29, .invokevirtual 103, 3, 85, 0, 318), (32, .ifCond .eq 6, 3, 0, 0, 0), (35, .bipush (-2), 2, 0, 0, 0), (37, .ireturn, 1, 0, 0, 0)], 38),
  (38, [(38, .aload_n 0, 1, 0, 0, 0), (39, .iload_n 1, 1, 0, 0, 0), (40, .invokevirtual 106, 3, 86, 0, 326), (43, .iload_n 2, 1, 0, 0, 0), (44, .invokevirtual 117, 3, 51, 0, 392), (47, .istore 4, 2, 0, 0, 0), (49, .iload 4, 2, 0, 0, 0), (51, .ifCond .ge 6, 3, 0, 0, 0), (54, .bipush (-9), 2, 0, 0, 0), (56, .ireturn, 1, 0, 0, 0)], 57),
  (57, [(57, .iload 4, 2, 0, 0, 0), (59, .invokestatic 120, 3, 17, 0, 396), (62, .istore 5, 2, 0, 0, 0), (64, .iload_n 3, 1, 0, 0, 0), (65, .iconst (-1), 1, 0, 0, 0), (66, .if_icmp .ne 6, 3, 0, 0, 0), (69, .iload 5, 2, 0, 0, 0), (71, .ireturn, 1, 0, 0, 0)], 72),
  (72, [(72, .aload_n 0, 1, 0, 0, 0), (73, .getfield 10, 3, 6, 0, 232), (76, .iload 5, 2, 0, 0, 0), (78, .invokevirtual 75, 3, 24, 0, 302), (81, .ifCond .eq 29, 3, 0, 0, 0), (84, .iload_n 3, 1, 0, 0, 0), (85, .aload_n 0, 1, 0, 0, 0), (86, .getfield 10, 3, 6, 0, 232), (89, .getfield 79, 3, 4, 0, 94), (92, .iload 5, 2, 0, 0, 0), (94, .aaload, 1, 0, 0, 0), (95, .getfield 83, 3, 3, 0, 64), (98, .if_icmp .ge 12, 3, 0, 0, 0), (101, .iload 4, 2, 0, 0, 0), (103, .iload_n 3, 1, 0, 0, 0), (104, .invokestatic 125, 3, 18, 0, 399), (107, .goto 5, 3, 0, 0, 0)], 110),
  (110, [(110, .bipush (-9), 2, 0, 0, 0)], 112),
  (112, [(112, .ireturn, 1, 0, 0, 0)], 113)]
/-- 63: FewSigns.farthest(II)I -/
def zc_63 : List (Nat × List zE × Nat) := [(0, [(0, .iload_n 1, 1, 0, 0, 0), (1, .invokestatic 100, 3, 82, 0, 315), (4, .ifCond .eq 12, 3, 0, 0, 0), (7, .iload_n 2, 1, 0, 0, 0), (8, .ifCond .lt 8, 3, 0, 0, 0), (11, .iload_n 2, 1, 0, 0, 0), (12, .iconst 2, 1, 0, 0, 0), (13, .if_icmp .le 5, 3, 0, 0, 0)], 16),
  (16, [(16, .iconst (-1), 1, 0, 0, 0), (17, .ireturn, 1, 0, 0, 0)], 18),
  (18, [(18, .aload_n 0, 1, 0, 0, 0), (19, .iload_n 1, 1, 0, 0, 0), (20, .invokevirtual 103, 3, 85, 0, 318), (23, .ifCond .eq 6, 3, 0, 0, 0), (26, .bipush (-2), 2, 0, 0, 0), (28, .ireturn, 1, 0, 0, 0)], 29),
  (29, [(29, .aload_n 0, 1, 0, 0, 0), (30, .iload_n 1, 1, 0, 0, 0), (31, .invokevirtual 106, 3, 86, 0, 326), (34, .astore_n 3, 1, 0, 0, 0), (35, .iload_n 2, 1, 0, 0, 0), (36, .lookupswitch 42 #[(0, 28), (1, 33)], 28, 0, 0, 0)], 64),
  (64, [(64, .aload_n 3, 1, 0, 0, 0), (65, .invokevirtual 128, 3, 52, 0, 406), (68, .ireturn, 1, 0, 0, 0)], 69),
  (69, [(69, .aload_n 3, 1, 0, 0, 0), (70, .aload_n 3, 1, 0, 0, 0), (71, .invokevirtual 128, 3, 52, 0, 406), (74, .invokevirtual 132, 3, 53, 0, 413), (77, .ireturn, 1, 0, 0, 0)], 78),
  (78, [(78, .aload_n 3, 1, 0, 0, 0), (79, .invokevirtual 135, 3, 54, 0, 417), (82, .ireturn, 1, 0, 0, 0)], 83)]
/-- 64: FewSigns.costing(II)I -/
def zc_64 : List (Nat × List zE × Nat) := [(0, [(0, .iload_n 1, 1, 0, 0, 0), (1, .invokestatic 100, 3, 82, 0, 315), (4, .ifCond .eq 7, 3, 0, 0, 0), (7, .iload_n 2, 1, 0, 0, 0), (8, .ifCond .ge 5, 3, 0, 0, 0)], 11),
  (11, [(11, .iconst (-1), 1, 0, 0, 0), (12, .ireturn, 1, 0, 0, 0)], 13),
  (13, [(13, .aload_n 0, 1, 0, 0, 0), (14, .iload_n 1, 1, 0, 0, 0), (15, .invokevirtual 103, 3, 85, 0, 318), (18, .ifCond .eq 8, 3, 0, 0, 0), (21, .bipush (-2), 2, 0, 0, 0), (23, .goto 12, 3, 0, 0, 0)], 26),
  (26, [(26, .aload_n 0, 1, 0, 0, 0), (27, .iload_n 1, 1, 0, 0, 0), (28, .invokevirtual 106, 3, 86, 0, 326), (31, .iload_n 2, 1, 0, 0, 0), (32, .invokevirtual 138, 3, 55, 0, 425)], 35),
  (35, [(35, .ireturn, 1, 0, 0, 0)], 36)]
/-- 65: FewSigns.says(I)I -/
def zc_65 : List (Nat × List zE × Nat) := [(0, [(0, .aload_n 0, 1, 0, 0, 0), (1, .getfield 10, 3, 6, 0, 232), (4, .iload_n 1, 1, 0, 0, 0), (5, .invokevirtual 141, 3, 25, 0, 433), (8, .ifCond .ne 5, 3, 0, 0, 0), (11, .iconst (-1), 1, 0, 0, 0), (12, .ireturn, 1, 0, 0, 0)], 13),
  (13, [(13, .aload_n 0, 1, 0, 0, 0), (14, .getfield 10, 3, 6, 0, 232), (17, .iload_n 1, 1, 0, 0, 0), (18, .invokevirtual 144, 3, 29, 0, 437), (21, .ifCond .eq 7, 3, 0, 0, 0), (24, .iconst 1, 1, 0, 0, 0), (25, .goto 4, 3, 0, 0, 0)], 28),
  (28, [(28, .iconst 0, 1, 0, 0, 0)], 29),
  (29, [(29, .ireturn, 1, 0, 0, 0)], 30)]
/-- 66: FewSigns.lacks(I)I -/
def zc_66 : List (Nat × List zE × Nat) := [(0, [(0, .aload_n 0, 1, 0, 0, 0), (1, .getfield 10, 3, 6, 0, 232), (4, .iload_n 1, 1, 0, 0, 0), (5, .invokevirtual 141, 3, 25, 0, 433), (8, .ifCond .eq 14, 3, 0, 0, 0), (11, .aload_n 0, 1, 0, 0, 0), (12, .getfield 10, 3, 6, 0, 232), (15, .iload_n 1, 1, 0, 0, 0), (16, .invokevirtual 147, 3, 28, 0, 449), (19, .goto 4, 3, 0, 0, 0)], 22),
  (22, [(22, .iconst (-1), 1, 0, 0, 0)], 23),
  (23, [(23, .ireturn, 1, 0, 0, 0)], 24)]
/-- 67: FewSigns.sets(I)I -/
def zc_67 : List (Nat × List zE × Nat) := [(0, [(0, .iload_n 1, 1, 0, 0, 0), (1, .iconst (-1), 1, 0, 0, 0), (2, .if_icmp .ge 5, 3, 0, 0, 0), (5, .iconst (-1), 1, 0, 0, 0), (6, .ireturn, 1, 0, 0, 0)], 7),
  (7, [(7, .iconst 0, 1, 0, 0, 0), (8, .istore_n 2, 1, 0, 0, 0), (9, .iconst 0, 1, 0, 0, 0), (10, .istore_n 3, 1, 0, 0, 0)], 11),
  (11, [(11, .iload_n 3, 1, 0, 0, 0), (12, .iconst 1, 1, 0, 0, 0), (13, .aload_n 0, 1, 0, 0, 0), (14, .getfield 10, 3, 6, 0, 232), (17, .getfield 67, 3, 4, 1, 96), (20, .ishl, 1, 0, 0, 0), (21, .if_icmp .ge 30, 3, 0, 0, 0), (24, .aload_n 0, 1, 0, 0, 0), (25, .getfield 10, 3, 6, 0, 232), (28, .iload_n 3, 1, 0, 0, 0), (29, .invokevirtual 150, 3, 30, 0, 454), (32, .ifCond .eq 13, 3, 0, 0, 0), (35, .iload_n 2, 1, 0, 0, 0), (36, .iload_n 1, 1, 0, 0, 0), (37, .if_icmp .ne 5, 3, 0, 0, 0), (40, .iload_n 3, 1, 0, 0, 0), (41, .ireturn, 1, 0, 0, 0)], 42),
  (42, [(42, .iinc 2 1, 3, 0, 0, 0)], 45),
  (45, [(45, .iinc 3 1, 3, 0, 0, 0), (48, .goto (-37), 3, 0, 0, 0)], 51),
  (51, [(51, .iload_n 1, 1, 0, 0, 0), (52, .iconst (-1), 1, 0, 0, 0), (53, .if_icmp .ne 7, 3, 0, 0, 0), (56, .iload_n 2, 1, 0, 0, 0), (57, .goto 5, 3, 0, 0, 0)], 60),
  (60, [(60, .bipush (-9), 2, 0, 0, 0)], 62),
  (62, [(62, .ireturn, 1, 0, 0, 0)], 63)]
/-- 68: FewSigns.alone(I)I -/
def zc_68 : List (Nat × List zE × Nat) := [(0, [(0, .iload_n 1, 1, 0, 0, 0), (1, .iconst (-1), 1, 0, 0, 0), (2, .if_icmp .ge 5, 3, 0, 0, 0), (5, .iconst (-1), 1, 0, 0, 0), (6, .ireturn, 1, 0, 0, 0)], 7),
  (7, [(7, .iconst 0, 1, 0, 0, 0), (8, .istore_n 2, 1, 0, 0, 0), (9, .iconst 0, 1, 0, 0, 0), (10, .istore_n 3, 1, 0, 0, 0)], 11),
  (11, [(11, .iload_n 3, 1, 0, 0, 0), (12, .bipush 16, 2, 0, 0, 0), (14, .if_icmp .ge 27, 3, 0, 0, 0), (17, .iconst 2, 1, 0, 0, 0), (18, .iload_n 3, 1, 0, 0, 0), (19, .invokestatic 97, 3, 12, 0, 310), (22, .ifCond .ne 13, 3, 0, 0, 0), (25, .iload_n 2, 1, 0, 0, 0), (26, .iload_n 1, 1, 0, 0, 0), (27, .if_icmp .ne 5, 3, 0, 0, 0), (30, .iload_n 3, 1, 0, 0, 0), (31, .ireturn, 1, 0, 0, 0)], 32),
  (32, [(32, .iinc 2 1, 3, 0, 0, 0)], 35),
  (35, [(35, .iinc 3 1, 3, 0, 0, 0), (38, .goto (-27), 3, 0, 0, 0)], 41),
  (41, [(41, .iload_n 1, 1, 0, 0, 0), (42, .iconst (-1), 1, 0, 0, 0), (43, .if_icmp .ne 7, 3, 0, 0, 0), (46, .iload_n 2, 1, 0, 0, 0), (47, .goto 5, 3, 0, 0, 0)], 50),
  (50, [(50, .bipush (-9), 2, 0, 0, 0)], 52),
  (52, [(52, .ireturn, 1, 0, 0, 0)], 53)]
/-- 69: FewSigns.lets(III)I -/
def zc_69 : List (Nat × List zE × Nat) := [(0, [(0, .aload_n 0, 1, 0, 0, 0), (1, .getfield 10, 3, 6, 0, 232), (4, .iload_n 1, 1, 0, 0, 0), (5, .invokevirtual 75, 3, 24, 0, 302), (8, .ifCond .eq 11, 3, 0, 0, 0), (11, .iload_n 2, 1, 0, 0, 0), (12, .iload_n 3, 1, 0, 0, 0), (13, .invokestatic 153, 3, 83, 0, 467), (16, .ifCond .ne 5, 3, 0, 0, 0)], 19),
  (19, [(19, .iconst (-1), 1, 0, 0, 0), (20, .ireturn, 1, 0, 0, 0)], 21),
  (21, [(21, .aload_n 0, 1, 0, 0, 0), (22, .getfield 10, 3, 6, 0, 232), (25, .getfield 79, 3, 4, 0, 94), (28, .iload_n 1, 1, 0, 0, 0), (29, .aaload, 1, 0, 0, 0), (30, .iload_n 2, 1, 0, 0, 0), (31, .iload_n 3, 1, 0, 0, 0), (32, .invokevirtual 156, 3, 23, 0, 470), (35, .ifCond .eq 7, 3, 0, 0, 0), (38, .iconst 1, 1, 0, 0, 0), (39, .goto 4, 3, 0, 0, 0)], 42),
  (42, [(42, .iconst 0, 1, 0, 0, 0)], 43),
  (43, [(43, .ireturn, 1, 0, 0, 0)], 44)]
/-- 70: FewSigns.letting(II)I -/
def zc_70 : List (Nat × List zE × Nat) := [(0, [(0, .iload_n 1, 1, 0, 0, 0), (1, .iload_n 2, 1, 0, 0, 0), (2, .invokestatic 153, 3, 83, 0, 467), (5, .ifCond .ne 5, 3, 0, 0, 0), (8, .iconst (-1), 1, 0, 0, 0), (9, .ireturn, 1, 0, 0, 0)], 10),
  (10, [(10, .iconst 0, 1, 0, 0, 0), (11, .istore_n 3, 1, 0, 0, 0), (12, .iconst 0, 1, 0, 0, 0), (13, .istore 4, 2, 0, 0, 0)], 15),
  (15, [(15, .iload 4, 2, 0, 0, 0), (17, .aload_n 0, 1, 0, 0, 0), (18, .getfield 10, 3, 6, 0, 232), (21, .getfield 67, 3, 4, 1, 96), (24, .if_icmp .ge 34, 3, 0, 0, 0), (27, .aload_n 0, 1, 0, 0, 0), (28, .getfield 10, 3, 6, 0, 232), (31, .getfield 79, 3, 4, 0, 94), (34, .iload 4, 2, 0, 0, 0), (36, .aaload, 1, 0, 0, 0), (37, .iload_n 1, 1, 0, 0, 0), (38, .iload_n 2, 1, 0, 0, 0), (39, .invokevirtual 156, 3, 23, 0, 470), (42, .ifCond .eq 10, 3, 0, 0, 0), (45, .iload_n 3, 1, 0, 0, 0), (46, .iconst 1, 1, 0, 0, 0), (47, .iload 4, 2, 0, 0, 0), (49, .ishl, 1, 0, 0, 0), (50, .ior, 1, 0, 0, 0), (51, .istore_n 3, 1, 0, 0, 0)], 52),
  (52, [(52, .iinc 4 1, 3, 0, 0, 0), (55, .goto (-40), 3, 0, 0, 0)], 58),
  (58, [(58, .iload_n 3, 1, 0, 0, 0), (59, .ireturn, 1, 0, 0, 0)], 60)]
/-- 71: FewSigns.around(II)I -/
def zc_71 : List (Nat × List zE × Nat) := [(0, [(0, .iload_n 1, 1, 0, 0, 0), (1, .iload_n 2, 1, 0, 0, 0), (2, .invokestatic 153, 3, 83, 0, 467), (5, .ifCond .eq 15, 3, 0, 0, 0), (8, .aload_n 0, 1, 0, 0, 0), (9, .getfield 10, 3, 6, 0, 232), (12, .iload_n 1, 1, 0, 0, 0), (13, .iload_n 2, 1, 0, 0, 0), (14, .invokevirtual 159, 3, 33, 0, 492), (17, .goto 4, 3, 0, 0, 0)], 20),
  (20, [(20, .iconst (-1), 1, 0, 0, 0)], 21),
  (21, [(21, .ireturn, 1, 0, 0, 0)], 22)]
/-- 72: FewSigns.sorts(II)I -/
def zc_72 : List (Nat × List zE × Nat) := [(0, [(0, .iload_n 1, 1, 0, 0, 0), (1, .iload_n 2, 1, 0, 0, 0), (2, .invokestatic 153, 3, 83, 0, 467), (5, .ifCond .ne 5, 3, 0, 0, 0), (8, .iconst (-1), 1, 0, 0, 0), (9, .ireturn, 1, 0, 0, 0)], 10),
  (10, [(10, .iconst 0, 1, 0, 0, 0), (11, .istore_n 3, 1, 0, 0, 0), (12, .iconst 0, 1, 0, 0, 0), (13, .istore 4, 2, 0, 0, 0)], 15),
  (15, [(15, .iload 4, 2, 0, 0, 0), (17, .getstatic 162, 3, 103, 0, 501), (20, .arraylength, 1, 0, 0, 0), (21, .if_icmp .ge 53, 3, 0, 0, 0), (24, .getstatic 165, 3, 102, 0, 503), (27, .iload 4, 2, 0, 0, 0), (29, .iaload, 1, 0, 0, 0), (30, .istore 5, 2, 0, 0, 0), (32, .iload 5, 2, 0, 0, 0), (34, .getstatic 162, 3, 103, 0, 501), (37, .iload 4, 2, 0, 0, 0), (39, .iaload, 1, 0, 0, 0), (40, .invokestatic 168, 3, 4, 0, 505), (43, .istore 6, 2, 0, 0, 0), (45, .iload 5, 2, 0, 0, 0), (47, .iload 6, 2, 0, 0, 0), (49, .iload_n 1, 1, 0, 0, 0), (50, .iload_n 2, 1, 0, 0, 0), (51, .invokestatic 171, 3, 8, 0, 506), (54, .iload_n 2, 1, 0, 0, 0), (55, .iconst (-1), 1, 0, 0, 0), (56, .ixor, 1, 0, 0, 0), (57, .iand, 1, 0, 0, 0), (58, .ifCond .ne 10, 3, 0, 0, 0), (61, .iload_n 3, 1, 0, 0, 0), (62, .iconst 1, 1, 0, 0, 0), (63, .iload 4, 2, 0, 0, 0), (65, .ishl, 1, 0, 0, 0), (66, .ior, 1, 0, 0, 0), (67, .istore_n 3, 1, 0, 0, 0)], 68),
  (68, [(68, .iinc 4 1, 3, 0, 0, 0), (71, .goto (-56), 3, 0, 0, 0)], 74),
  (74, [(74, .iload_n 3, 1, 0, 0, 0), (75, .ireturn, 1, 0, 0, 0)], 76)]
/-- 73: FewSigns.kept(I)I -/
def zc_73 : List (Nat × List zE × Nat) := [(0, [(0, .iload_n 1, 1, 0, 0, 0), (1, .invokestatic 100, 3, 82, 0, 315), (4, .ifCond .ne 5, 3, 0, 0, 0), (7, .iconst (-1), 1, 0, 0, 0), (8, .ireturn, 1, 0, 0, 0)], 9),
  (9, [(9, .aload_n 0, 1, 0, 0, 0), (10, .getfield 54, 3, 6, 7, 239), (13, .iload_n 1, 1, 0, 0, 0), (14, .iaload, 1, 0, 0, 0), (15, .iconst (-1), 1, 0, 0, 0), (16, .if_icmp .ne 17, 3, 0, 0, 0), (19, .aload_n 0, 1, 0, 0, 0), (20, .getfield 54, 3, 6, 7, 239), (23, .iload_n 1, 1, 0, 0, 0), (24, .aload_n 0, 1, 0, 0, 0), (25, .getfield 10, 3, 6, 0, 232), (28, .iload_n 1, 1, 0, 0, 0), (29, .invokevirtual 175, 3, 32, 0, 511), (32, .iastore, 1, 0, 0, 0)], 33),
  (33, [(33, .aload_n 0, 1, 0, 0, 0), (34, .getfield 54, 3, 6, 7, 239), (37, .iload_n 1, 1, 0, 0, 0), (38, .iaload, 1, 0, 0, 0), (39, .ireturn, 1, 0, 0, 0)], 40)]
/-- 74: FewSigns.type(JI)I -/
def zc_74 : List (Nat × List zE × Nat) := [(0, [(0, .iload_n 3, 1, 0, 0, 0), (1, .iconst 1, 1, 0, 0, 0), (2, .if_icmp .lt 9, 3, 0, 0, 0), (5, .iload_n 3, 1, 0, 0, 0), (6, .bipush 8, 2, 0, 0, 0), (8, .if_icmp .le 5, 3, 0, 0, 0)], 11),
  (11, [(11, .iconst (-1), 1, 0, 0, 0), (12, .ireturn, 1, 0, 0, 0)], 13),
  (13, [(13, .aload_n 0, 1, 0, 0, 0), (14, .getfield 34, 3, 6, 4, 236), (17, .iload_n 3, 1, 0, 0, 0), (18, .invokevirtual 178, 3, 34, 0, 525), (21, .ifCond .ne 6, 3, 0, 0, 0), (24, .bipush (-3), 2, 0, 0, 0), (26, .ireturn, 1, 0, 0, 0)], 27),
  (27, [(27, .aload_n 0, 1, 0, 0, 0), (28, .getfield 34, 3, 6, 4, 236), (31, .lload_n 1, 1, 0, 0, 0), (32, .iload_n 3, 1, 0, 0, 0), (33, .invokevirtual 181, 3, 35, 0, 529), (36, .aload_n 0, 1, 0, 0, 0), (37, .getfield 34, 3, 6, 4, 236), (40, .getfield 184, 3, 5, 1, 153), (43, .ireturn, 1, 0, 0, 0)], 44)]
/-- 75: FewSigns.clear()I -/
def zc_75 : List (Nat × List zE × Nat) := [(0, [(0, .aload_n 0, 1, 0, 0, 0), (1, .getfield 34, 3, 6, 4, 236), (4, .getfield 184, 3, 5, 1, 153), (7, .istore_n 1, 1, 0, 0, 0), (8, .aload_n 0, 1, 0, 0, 0), (9, .getfield 34, 3, 6, 4, 236), (12, .iconst 0, 1, 0, 0, 0), (13, .putfield 184, 3, 5, 1, 153), (16, .iload_n 1, 1, 0, 0, 0), (17, .ireturn, 1, 0, 0, 0)], 18)]
/-- 76: FewSigns.read(I)I -/
def zc_76 : List (Nat × List zE × Nat) := [(0, [(0, .iload_n 1, 1, 0, 0, 0), (1, .invokestatic 187, 3, 84, 0, 541), (4, .ifCond .ne 5, 3, 0, 0, 0), (7, .iconst (-1), 1, 0, 0, 0), (8, .ireturn, 1, 0, 0, 0)], 9),
  (9, [(9, .aload_n 0, 1, 0, 0, 0), (10, .getfield 43, 3, 6, 5, 237), (13, .invokevirtual 190, 3, 37, 0, 544), (16, .ifCond .ne 14, 3, 0, 0, 0), (19, .bipush (-10), 2, 0, 0, 0), (21, .aload_n 0, 1, 0, 0, 0), (22, .getfield 43, 3, 6, 5, 237), (25, .getfield 194, 3, 2, 2, 169), (28, .isub, 1, 0, 0, 0), (29, .ireturn, 1, 0, 0, 0)], 30),
  (30, [(30, .aload_n 0, 1, 0, 0, 0), (31, .getfield 49, 3, 6, 6, 238), (34, .iload_n 1, 1, 0, 0, 0), (35, .aaload, 1, 0, 0, 0), (36, .astore_n 2, 1, 0, 0, 0), (37, .aload_n 2, 1, 0, 0, 0), (38, .aload_n 0, 1, 0, 0, 0), (39, .getfield 43, 3, 6, 5, 237), (42, .getfield 197, 3, 2, 3, 171), (45, .aload_n 0, 1, 0, 0, 0), (46, .getfield 43, 3, 6, 5, 237), (49, .getfield 198, 3, 2, 4, 173), (52, .aload_n 0, 1, 0, 0, 0), (53, .getfield 43, 3, 6, 5, 237), (56, .getfield 199, 3, 2, 5, 175), (59, .aload_n 0, 1, 0, 0, 0), (60, .getfield 43, 3, 6, 5, 237), (63, .getfield 202, 3, 2, 6, 177), (66, .invokevirtual 205, 3, 21, 0, 571), (69, .aload_n 0, 1, 0, 0, 0), (70, .getfield 34, 3, 6, 4, 236), (73, .iconst 0, 1, 0, 0, 0), (74, .putfield 184, 3, 5, 1, 153), (77, .aload_n 2, 1, 0, 0, 0), (78, .getfield 209, 3, 0, 3, 207), (81, .ireturn, 1, 0, 0, 0)], 82)]
/-- 77: FewSigns.formula(II)I -/
def zc_77 : List (Nat × List zE × Nat) := [(0, [(0, .iload_n 1, 1, 0, 0, 0), (1, .invokestatic 187, 3, 84, 0, 541), (4, .ifCond .ne 5, 3, 0, 0, 0), (7, .iconst (-1), 1, 0, 0, 0), (8, .ireturn, 1, 0, 0, 0)], 9),
  (9, [(9, .aload_n 0, 1, 0, 0, 0), (10, .getfield 49, 3, 6, 6, 238), (13, .iload_n 1, 1, 0, 0, 0), (14, .aaload, 1, 0, 0, 0), (15, .astore_n 3, 1, 0, 0, 0), (16, .iload_n 2, 1, 0, 0, 0), (17, .tableswitch 102 0 7 #[47, 52, 57, 62, 67, 76, 85, 93], 47, 0, 0, 0)], 64),
  (64, [(64, .aload_n 3, 1, 0, 0, 0), (65, .getfield 210, 3, 0, 0, 201), (68, .ireturn, 1, 0, 0, 0)], 69),
  (69, [(69, .aload_n 3, 1, 0, 0, 0), (70, .getfield 211, 3, 0, 1, 203), (73, .ireturn, 1, 0, 0, 0)], 74),
  (74, [(74, .aload_n 3, 1, 0, 0, 0), (75, .getfield 212, 3, 0, 2, 205), (78, .ireturn, 1, 0, 0, 0)], 79),
  (79, [(79, .aload_n 3, 1, 0, 0, 0), (80, .getfield 209, 3, 0, 3, 207), (83, .ireturn, 1, 0, 0, 0)], 84),
  (84, [(84, .iconst 3, 1, 0, 0, 0), (85, .aload_n 3, 1, 0, 0, 0), (86, .getfield 210, 3, 0, 0, 201), (89, .invokestatic 213, 3, 11, 0, 576), (92, .ireturn, 1, 0, 0, 0)], 93),
  (93, [(93, .iconst 3, 1, 0, 0, 0), (94, .aload_n 3, 1, 0, 0, 0), (95, .getfield 210, 3, 0, 0, 201), (98, .invokestatic 216, 3, 10, 0, 579), (101, .ireturn, 1, 0, 0, 0)], 102),
  (102, [(102, .aload_n 3, 1, 0, 0, 0), (103, .getfield 210, 3, 0, 0, 201), (106, .invokestatic 219, 3, 87, 0, 580), (109, .ireturn, 1, 0, 0, 0)], 110),
  (110, [(110, .iconst 3, 1, 0, 0, 0), (111, .aload_n 3, 1, 0, 0, 0), (112, .getfield 210, 3, 0, 0, 201), (115, .invokestatic 97, 3, 12, 0, 310), (118, .ireturn, 1, 0, 0, 0)], 119),
  (119, [(119, .iconst (-1), 1, 0, 0, 0), (120, .ireturn, 1, 0, 0, 0)], 121)]
/-- 78: FewSigns.leastened(I)I -/
def zc_78 : List (Nat × List zE × Nat) := [(0, [(0, .iload_n 1, 1, 0, 0, 0), (1, .invokestatic 187, 3, 84, 0, 541), (4, .ifCond .ne 5, 3, 0, 0, 0), (7, .iconst (-1), 1, 0, 0, 0), (8, .ireturn, 1, 0, 0, 0)], 9),
  (9, [(9, .aload_n 0, 1, 0, 0, 0), (10, .iconst 3, 1, 0, 0, 0), (11, .invokevirtual 103, 3, 85, 0, 318), (14, .ifCond .eq 8, 3, 0, 0, 0), (17, .bipush (-2), 2, 0, 0, 0), (19, .goto 20, 3, 0, 0, 0)], 22),
  (22, [(22, .aload_n 0, 1, 0, 0, 0), (23, .iconst 3, 1, 0, 0, 0), (24, .invokevirtual 106, 3, 86, 0, 326), (27, .aload_n 0, 1, 0, 0, 0), (28, .getfield 49, 3, 6, 6, 238), (31, .iload_n 1, 1, 0, 0, 0), (32, .aaload, 1, 0, 0, 0), (33, .getfield 210, 3, 0, 0, 201), (36, .invokevirtual 113, 3, 50, 0, 380)], 39),
  (39, [(39, .ireturn, 1, 0, 0, 0)], 40)]
/-- 79: FewSigns.both(III)I -/
def zc_79 : List (Nat × List zE × Nat) := [(0, [(0, .iload_n 1, 1, 0, 0, 0), (1, .invokestatic 187, 3, 84, 0, 541), (4, .ifCond .eq 19, 3, 0, 0, 0), (7, .iload_n 2, 1, 0, 0, 0), (8, .invokestatic 187, 3, 84, 0, 541), (11, .ifCond .eq 12, 3, 0, 0, 0), (14, .iload_n 3, 1, 0, 0, 0), (15, .ifCond .lt 8, 3, 0, 0, 0), (18, .iload_n 3, 1, 0, 0, 0), (19, .iconst 2, 1, 0, 0, 0), (20, .if_icmp .le 5, 3, 0, 0, 0)], 23),
  (23, [(23, .iconst (-1), 1, 0, 0, 0), (24, .ireturn, 1, 0, 0, 0)], 25),
  (25, [(25, .aload_n 0, 1, 0, 0, 0), (26, .getfield 49, 3, 6, 6, 238), (29, .iload_n 1, 1, 0, 0, 0), (30, .aaload, 1, 0, 0, 0), (31, .getfield 210, 3, 0, 0, 201), (34, .istore 4, 2, 0, 0, 0), (36, .aload_n 0, 1, 0, 0, 0), (37, .getfield 49, 3, 6, 6, 238), (40, .iload_n 2, 1, 0, 0, 0), (41, .aaload, 1, 0, 0, 0), (42, .getfield 210, 3, 0, 0, 201), (45, .istore 5, 2, 0, 0, 0), (47, .iload_n 3, 1, 0, 0, 0), (48, .lookupswitch 65 #[(0, 28), (1, 45)], 28, 0, 0, 0)], 76),
  (76, [(76, .iload 4, 2, 0, 0, 0), (78, .iload 5, 2, 0, 0, 0), (80, .if_icmp .ne 7, 3, 0, 0, 0), (83, .iconst 1, 1, 0, 0, 0), (84, .goto 4, 3, 0, 0, 0)], 87),
  (87, [(87, .iconst 0, 1, 0, 0, 0)], 88),
  (88, [(88, .istore 6, 2, 0, 0, 0), (90, .goto 41, 3, 0, 0, 0)], 93),
  (93, [(93, .iload 4, 2, 0, 0, 0), (95, .iload 5, 2, 0, 0, 0), (97, .iconst (-1), 1, 0, 0, 0), (98, .ixor, 1, 0, 0, 0), (99, .iand, 1, 0, 0, 0), (100, .ifCond .ne 7, 3, 0, 0, 0), (103, .iconst 1, 1, 0, 0, 0), (104, .goto 4, 3, 0, 0, 0)], 107),
  (107, [(107, .iconst 0, 1, 0, 0, 0)], 108),
  (108, [(108, .istore 6, 2, 0, 0, 0), (110, .goto 21, 3, 0, 0, 0)], 113),
  (113, [(113, .iconst 3, 1, 0, 0, 0), (114, .iload 4, 2, 0, 0, 0), (116, .invokestatic 216, 3, 10, 0, 579), (119, .iload 5, 2, 0, 0, 0), (121, .if_icmp .ne 7, 3, 0, 0, 0), (124, .iconst 1, 1, 0, 0, 0), (125, .goto 4, 3, 0, 0, 0)], 128),
  (128, [(128, .iconst 0, 1, 0, 0, 0)], 129),
  (129, [(129, .istore 6, 2, 0, 0, 0)], 131),
  (131, [(131, .iload 6, 2, 0, 0, 0), (133, .ifCond .eq 7, 3, 0, 0, 0), (136, .iconst 1, 1, 0, 0, 0), (137, .goto 4, 3, 0, 0, 0)], 140),
  (140, [(140, .iconst 0, 1, 0, 0, 0)], 141),
  (141, [(141, .ireturn, 1, 0, 0, 0)], 142)]
/-- 80: FewSigns.count(I)I -/
def zc_80 : List (Nat × List zE × Nat) := [(0, [(0, .iload_n 1, 1, 0, 0, 0), (1, .tableswitch 51 0 2 #[27, 35, 43], 27, 0, 0, 0)], 28),
  (28, [(28, .aload_n 0, 1, 0, 0, 0), (29, .getfield 10, 3, 6, 0, 232), (32, .getfield 67, 3, 4, 1, 96), (35, .ireturn, 1, 0, 0, 0)], 36),
  (36, [(36, .aload_n 0, 1, 0, 0, 0), (37, .getfield 10, 3, 6, 0, 232), (40, .invokevirtual 224, 3, 27, 0, 322), (43, .ireturn, 1, 0, 0, 0)], 44),
  (44, [(44, .aload_n 0, 1, 0, 0, 0), (45, .getfield 34, 3, 6, 4, 236), (48, .getfield 184, 3, 5, 1, 153), (51, .ireturn, 1, 0, 0, 0)], 52),
  (52, [(52, .iconst (-1), 1, 0, 0, 0), (53, .ireturn, 1, 0, 0, 0)], 54)]
/-- 81: FewSigns.forgetAnswers()V -/
def zc_81 : List (Nat × List zE × Nat) := [(0, [(0, .aload_n 0, 1, 0, 0, 0), (1, .getfield 21, 3, 6, 1, 233), (4, .iconst 0, 1, 0, 0, 0), (5, .putfield 227, 3, 1, 8, 122), (8, .aload_n 0, 1, 0, 0, 0), (9, .getfield 25, 3, 6, 2, 234), (12, .iconst 0, 1, 0, 0, 0), (13, .putfield 227, 3, 1, 8, 122), (16, .aload_n 0, 1, 0, 0, 0), (17, .getfield 28, 3, 6, 3, 235), (20, .iconst 0, 1, 0, 0, 0), (21, .putfield 227, 3, 1, 8, 122), (24, .iconst 0, 1, 0, 0, 0), (25, .istore_n 1, 1, 0, 0, 0)], 26),
  (26, [(26, .iload_n 1, 1, 0, 0, 0), (27, .aload_n 0, 1, 0, 0, 0), (28, .getfield 54, 3, 6, 7, 239), (31, .arraylength, 1, 0, 0, 0), (32, .if_icmp .ge 16, 3, 0, 0, 0), (35, .aload_n 0, 1, 0, 0, 0), (36, .getfield 54, 3, 6, 7, 239), (39, .iload_n 1, 1, 0, 0, 0), (40, .iconst (-1), 1, 0, 0, 0), (41, .iastore, 1, 0, 0, 0), (42, .iinc 1 1, 3, 0, 0, 0), (45, .goto (-19), 3, 0, 0, 0)], 48),
  (48, [(48, .iconst 0, 1, 0, 0, 0), (49, .istore_n 1, 1, 0, 0, 0)], 50),
  (50, [(50, .iload_n 1, 1, 0, 0, 0), (51, .aload_n 0, 1, 0, 0, 0), (52, .getfield 49, 3, 6, 6, 238), (55, .arraylength, 1, 0, 0, 0), (56, .if_icmp .ge 18, 3, 0, 0, 0), (59, .aload_n 0, 1, 0, 0, 0), (60, .getfield 49, 3, 6, 6, 238), (63, .iload_n 1, 1, 0, 0, 0), (64, .aaload, 1, 0, 0, 0), (65, .invokevirtual 231, 3, 20, 0, 221), (68, .iinc 1 1, 3, 0, 0, 0), (71, .goto (-21), 3, 0, 0, 0)], 74),
  (74, [(74, .return_, 1, 0, 0, 0)], 75)]
/-- 82: FewSigns.isCount(I)Z -/
def zc_82 : List (Nat × List zE × Nat) := [(0, [(0, .iload_n 0, 1, 0, 0, 0), (1, .iconst 1, 1, 0, 0, 0), (2, .if_icmp .lt 12, 3, 0, 0, 0), (5, .iload_n 0, 1, 0, 0, 0), (6, .iconst 3, 1, 0, 0, 0), (7, .if_icmp .gt 7, 3, 0, 0, 0), (10, .iconst 1, 1, 0, 0, 0), (11, .goto 4, 3, 0, 0, 0)], 14),
  (14, [(14, .iconst 0, 1, 0, 0, 0)], 15),
  (15, [(15, .ireturn, 1, 0, 0, 0)], 16)]
/-- 83: FewSigns.isRelation(II)Z -/
def zc_83 : List (Nat × List zE × Nat) := [(0, [(0, .iload_n 0, 1, 0, 0, 0), (1, .invokestatic 100, 3, 82, 0, 315), (4, .ifCond .eq 15, 3, 0, 0, 0), (7, .iload_n 0, 1, 0, 0, 0), (8, .iload_n 1, 1, 0, 0, 0), (9, .invokestatic 61, 3, 0, 0, 261), (12, .ifCond .eq 7, 3, 0, 0, 0), (15, .iconst 1, 1, 0, 0, 0), (16, .goto 4, 3, 0, 0, 0)], 19),
  (19, [(19, .iconst 0, 1, 0, 0, 0)], 20),
  (20, [(20, .ireturn, 1, 0, 0, 0)], 21)]
/-- 84: FewSigns.isFormula(I)Z -/
def zc_84 : List (Nat × List zE × Nat) := [(0, [(0, .iload_n 0, 1, 0, 0, 0), (1, .ifCond .lt 12, 3, 0, 0, 0), (4, .iload_n 0, 1, 0, 0, 0), (5, .iconst 4, 1, 0, 0, 0), (6, .if_icmp .ge 7, 3, 0, 0, 0), (9, .iconst 1, 1, 0, 0, 0), (10, .goto 4, 3, 0, 0, 0)], 13),
  (13, [(13, .iconst 0, 1, 0, 0, 0)], 14),
  (14, [(14, .ireturn, 1, 0, 0, 0)], 15)]
/-- 85: FewSigns.isBarred(I)Z -/
def zc_85 : List (Nat × List zE × Nat) := [(0, [(0, .iload_n 1, 1, 0, 0, 0), (1, .iconst 3, 1, 0, 0, 0), (2, .if_icmp .ne 17, 3, 0, 0, 0), (5, .aload_n 0, 1, 0, 0, 0), (6, .getfield 10, 3, 6, 0, 232), (9, .invokevirtual 224, 3, 27, 0, 322), (12, .ifCond .le 7, 3, 0, 0, 0), (15, .iconst 1, 1, 0, 0, 0), (16, .goto 4, 3, 0, 0, 0)], 19),
  (19, [(19, .iconst 0, 1, 0, 0, 0)], 20),
  (20, [(20, .ireturn, 1, 0, 0, 0)], 21)]
/-- 86: FewSigns.reachOf(I)LFewSigns$Reach; -/
def zc_86 : List (Nat × List zE × Nat) := [(0, [(0, .iload_n 1, 1, 0, 0, 0), (1, .iconst 1, 1, 0, 0, 0), (2, .if_icmp .ne 10, 3, 0, 0, 0), (5, .aload_n 0, 1, 0, 0, 0), (6, .getfield 21, 3, 6, 1, 233), (9, .goto 19, 3, 0, 0, 0)], 12),
  (12, [(12, .iload_n 1, 1, 0, 0, 0), (13, .iconst 2, 1, 0, 0, 0), (14, .if_icmp .ne 10, 3, 0, 0, 0), (17, .aload_n 0, 1, 0, 0, 0), (18, .getfield 25, 3, 6, 2, 234), (21, .goto 7, 3, 0, 0, 0)], 24),
  (24, [(24, .aload_n 0, 1, 0, 0, 0), (25, .getfield 28, 3, 6, 3, 235)], 28),
  (28, [(28, .astore_n 2, 1, 0, 0, 0), (29, .aload_n 2, 1, 0, 0, 0), (30, .getfield 227, 3, 1, 8, 122), (33, .ifCond .ne 11, 3, 0, 0, 0), (36, .aload_n 2, 1, 0, 0, 0), (37, .aload_n 0, 1, 0, 0, 0), (38, .getfield 10, 3, 6, 0, 232), (41, .invokevirtual 234, 3, 41, 0, 330)], 44),
  (44, [(44, .aload_n 2, 1, 0, 0, 0), (45, .areturn, 1, 0, 0, 0)], 46)]
/-- 87: java/lang/Integer.bitCount(I)I -/
def zc_87 : List (Nat × List zE × Nat) := [(0, [(0, .iload_n 0, 1, 0, 0, 0), (1, .iload_n 0, 1, 0, 0, 0), (2, .iconst 1, 1, 0, 0, 0), (3, .iushr, 1, 0, 0, 0), (4, .ldc_w 265, 3, 1431655765, 0, 583), (7, .iand, 1, 0, 0, 0), (8, .isub, 1, 0, 0, 0), (9, .istore_n 0, 1, 0, 0, 0), (10, .iload_n 0, 1, 0, 0, 0), (11, .ldc_w 266, 3, 858993459, 0, 584), (14, .iand, 1, 0, 0, 0), (15, .iload_n 0, 1, 0, 0, 0), (16, .iconst 2, 1, 0, 0, 0), (17, .iushr, 1, 0, 0, 0), (18, .ldc_w 266, 3, 858993459, 0, 584), (21, .iand, 1, 0, 0, 0), (22, .iadd, 1, 0, 0, 0), (23, .istore_n 0, 1, 0, 0, 0), (24, .iload_n 0, 1, 0, 0, 0), (25, .iload_n 0, 1, 0, 0, 0), (26, .iconst 4, 1, 0, 0, 0), (27, .iushr, 1, 0, 0, 0), (28, .iadd, 1, 0, 0, 0), (29, .ldc_w 267, 3, 252645135, 0, 585), (32, .iand, 1, 0, 0, 0), (33, .istore_n 0, 1, 0, 0, 0), (34, .iload_n 0, 1, 0, 0, 0), (35, .iload_n 0, 1, 0, 0, 0), (36, .bipush 8, 2, 0, 0, 0), (38, .iushr, 1, 0, 0, 0), (39, .iadd, 1, 0, 0, 0), (40, .istore_n 0, 1, 0, 0, 0), (41, .iload_n 0, 1, 0, 0, 0), (42, .iload_n 0, 1, 0, 0, 0), (43, .bipush 16, 2, 0, 0, 0), (45, .iushr, 1, 0, 0, 0), (46, .iadd, 1, 0, 0, 0), (47, .istore_n 0, 1, 0, 0, 0), (48, .iload_n 0, 1, 0, 0, 0), (49, .bipush 63, 2, 0, 0, 0), (51, .iand, 1, 0, 0, 0), (52, .ireturn, 1, 0, 0, 0)], 53)]
/-- 88: java/lang/Math.max(II)I -/
def zc_88 : List (Nat × List zE × Nat) := [(0, [(0, .iload_n 0, 1, 0, 0, 0), (1, .iload_n 1, 1, 0, 0, 0), (2, .if_icmp .lt 7, 3, 0, 0, 0), (5, .iload_n 0, 1, 0, 0, 0), (6, .goto 4, 3, 0, 0, 0)], 9),
  (9, [(9, .iload_n 1, 1, 0, 0, 0)], 10),
  (10, [(10, .ireturn, 1, 0, 0, 0)], 11)]
/-- 89: FewSignsModel.in(III)Z -/
def zc_89 : List (Nat × List zE × Nat) := [(0, [(0, .iload_n 0, 1, 0, 0, 0), (1, .iload_n 1, 1, 0, 0, 0), (2, .if_icmp .lt 12, 3, 0, 0, 0), (5, .iload_n 0, 1, 0, 0, 0), (6, .iload_n 2, 1, 0, 0, 0), (7, .if_icmp .gt 7, 3, 0, 0, 0), (10, .iconst 1, 1, 0, 0, 0), (11, .goto 4, 3, 0, 0, 0)], 14),
  (14, [(14, .iconst 0, 1, 0, 0, 0)], 15),
  (15, [(15, .ireturn, 1, 0, 0, 0)], 16)]
/-- 90: FewSignsModel.empties()V -/
def zc_90 : List (Nat × List zE × Nat) := [(0, [(0, .iconst 0, 1, 0, 0, 0), (1, .istore_n 1, 1, 0, 0, 0)], 2),
  (2, [(2, .iload_n 1, 1, 0, 0, 0), (3, .iconst 4, 1, 0, 0, 0), (4, .if_icmp .ge 27, 3, 0, 0, 0), (7, .aload_n 0, 1, 0, 0, 0), (8, .getfield 25, 3, 7, 11, 619), (11, .bipush 30, 2, 0, 0, 0), (13, .iload_n 1, 1, 0, 0, 0), (14, .imul, 1, 0, 0, 0), (15, .bipush 120, 2, 0, 0, 0), (17, .iastore, 1, 0, 0, 0), (18, .aload_n 0, 1, 0, 0, 0), (19, .getfield 28, 3, 7, 12, 620), (22, .iload_n 1, 1, 0, 0, 0), (23, .iconst 1, 1, 0, 0, 0), (24, .iastore, 1, 0, 0, 0), (25, .iinc 1 1, 3, 0, 0, 0), (28, .goto (-26), 3, 0, 0, 0)], 31),
  (31, [(31, .return_, 1, 0, 0, 0)], 32)]
/-- 91: FewSignsModel.tables(I)I -/
def zc_91 : List (Nat × List zE × Nat) := [(0, [(0, .iconst 1, 1, 0, 0, 0), (1, .iconst 1, 1, 0, 0, 0), (2, .iload_n 0, 1, 0, 0, 0), (3, .ishl, 1, 0, 0, 0), (4, .ishl, 1, 0, 0, 0), (5, .ireturn, 1, 0, 0, 0)], 6)]
/-- 92: FewSignsModel.sign(III)I -/
def zc_92 : List (Nat × List zE × Nat) := [(0, [(0, .aload_n 0, 1, 0, 0, 0), (1, .iconst 0, 1, 0, 0, 0), (2, .putfield 52, 3, 7, 0, 608), (5, .iload_n 1, 1, 0, 0, 0), (6, .iconst 0, 1, 0, 0, 0), (7, .iconst 3, 1, 0, 0, 0), (8, .invokestatic 56, 3, 89, 0, 676), (11, .ifCond .eq 27, 3, 0, 0, 0), (14, .iload_n 2, 1, 0, 0, 0), (15, .iconst 0, 1, 0, 0, 0), (16, .iload_n 1, 1, 0, 0, 0), (17, .invokestatic 60, 3, 91, 0, 679), (20, .iconst 1, 1, 0, 0, 0), (21, .isub, 1, 0, 0, 0), (22, .invokestatic 56, 3, 89, 0, 676), (25, .ifCond .eq 13, 3, 0, 0, 0), (28, .iload_n 3, 1, 0, 0, 0), (29, .iconst 1, 1, 0, 0, 0), (30, .bipush 9, 2, 0, 0, 0), (32, .invokestatic 56, 3, 89, 0, 676), (35, .ifCond .ne 5, 3, 0, 0, 0)], 38),
  (38, [(38, .iconst (-1), 1, 0, 0, 0), (39, .ireturn, 1, 0, 0, 0)], 40),
  (40, [(40, .aload_n 0, 1, 0, 0, 0), (41, .getfield 64, 3, 7, 1, 609), (44, .bipush 6, 2, 0, 0, 0), (46, .if_icmp .ne 6, 3, 0, 0, 0), (49, .bipush (-3), 2, 0, 0, 0), (51, .ireturn, 1, 0, 0, 0)], 52),
  (52, [(52, .aload_n 0, 1, 0, 0, 0), (53, .getfield 7, 3, 7, 2, 610), (56, .aload_n 0, 1, 0, 0, 0), (57, .getfield 64, 3, 7, 1, 609), (60, .iload_n 1, 1, 0, 0, 0), (61, .iastore, 1, 0, 0, 0), (62, .aload_n 0, 1, 0, 0, 0), (63, .getfield 13, 3, 7, 3, 611), (66, .aload_n 0, 1, 0, 0, 0), (67, .getfield 64, 3, 7, 1, 609), (70, .iload_n 2, 1, 0, 0, 0), (71, .iastore, 1, 0, 0, 0), (72, .aload_n 0, 1, 0, 0, 0), (73, .getfield 16, 3, 7, 4, 612), (76, .aload_n 0, 1, 0, 0, 0), (77, .getfield 64, 3, 7, 1, 609), (80, .iload_n 3, 1, 0, 0, 0), (81, .iastore, 1, 0, 0, 0), (82, .aload_n 0, 1, 0, 0, 0), (83, .dup, 1, 0, 0, 0), (84, .getfield 64, 3, 7, 1, 609), (87, .iconst 1, 1, 0, 0, 0), (88, .iadd, 1, 0, 0, 0), (89, .putfield 64, 3, 7, 1, 609), (92, .aload_n 0, 1, 0, 0, 0), (93, .invokevirtual 49, 3, 90, 0, 604), (96, .aload_n 0, 1, 0, 0, 0), (97, .getfield 64, 3, 7, 1, 609), (100, .iconst 1, 1, 0, 0, 0), (101, .isub, 1, 0, 0, 0), (102, .ireturn, 1, 0, 0, 0)], 103)]
/-- 93: FewSignsModel.drop()I -/
def zc_93 : List (Nat × List zE × Nat) := [(0, [(0, .aload_n 0, 1, 0, 0, 0), (1, .iconst 0, 1, 0, 0, 0), (2, .putfield 52, 3, 7, 0, 608), (5, .aload_n 0, 1, 0, 0, 0), (6, .getfield 64, 3, 7, 1, 609), (9, .ifCond .ne 5, 3, 0, 0, 0), (12, .iconst (-1), 1, 0, 0, 0), (13, .ireturn, 1, 0, 0, 0)], 14),
  (14, [(14, .aload_n 0, 1, 0, 0, 0), (15, .dup, 1, 0, 0, 0), (16, .getfield 64, 3, 7, 1, 609), (19, .iconst 1, 1, 0, 0, 0), (20, .isub, 1, 0, 0, 0), (21, .putfield 64, 3, 7, 1, 609), (24, .aload_n 0, 1, 0, 0, 0), (25, .invokevirtual 49, 3, 90, 0, 604), (28, .aload_n 0, 1, 0, 0, 0), (29, .getfield 64, 3, 7, 1, 609), (32, .ireturn, 1, 0, 0, 0)], 33)]
/-- 94: FewSignsModel.keepsOf(II)I -/
def zc_94 : List (Nat × List zE × Nat) := [(0, [(0, .iconst 1, 1, 0, 0, 0), (1, .iload_n 0, 1, 0, 0, 0), (2, .ishl, 1, 0, 0, 0), (3, .istore_n 2, 1, 0, 0, 0), (4, .iload_n 2, 1, 0, 0, 0), (5, .iconst 1, 1, 0, 0, 0), (6, .isub, 1, 0, 0, 0), (7, .istore_n 3, 1, 0, 0, 0), (8, .iconst 1, 1, 0, 0, 0), (9, .istore 4, 2, 0, 0, 0), (11, .iconst 1, 1, 0, 0, 0), (12, .istore 5, 2, 0, 0, 0), (14, .iconst 0, 1, 0, 0, 0), (15, .istore 6, 2, 0, 0, 0), (17, .iconst 0, 1, 0, 0, 0), (18, .istore 7, 2, 0, 0, 0)], 20),
  (20, [(20, .iload 7, 2, 0, 0, 0), (22, .iload_n 2, 1, 0, 0, 0), (23, .if_icmp .ge 81, 3, 0, 0, 0), (26, .iload_n 1, 1, 0, 0, 0), (27, .iload 7, 2, 0, 0, 0), (29, .ishr, 1, 0, 0, 0), (30, .iconst 1, 1, 0, 0, 0), (31, .iand, 1, 0, 0, 0), (32, .istore 8, 2, 0, 0, 0), (34, .iload 4, 2, 0, 0, 0), (36, .iload_n 1, 1, 0, 0, 0), (37, .iload_n 3, 1, 0, 0, 0), (38, .iload 7, 2, 0, 0, 0), (40, .isub, 1, 0, 0, 0), (41, .ishr, 1, 0, 0, 0), (42, .iconst 1, 1, 0, 0, 0), (43, .iand, 1, 0, 0, 0), (44, .iload 8, 2, 0, 0, 0), (46, .if_icmp .eq 7, 3, 0, 0, 0), (49, .iconst 1, 1, 0, 0, 0), (50, .goto 4, 3, 0, 0, 0)], 53),
  (53, [(53, .iconst 0, 1, 0, 0, 0)], 54),
  (54, [(54, .iand, 1, 0, 0, 0), (55, .istore 4, 2, 0, 0, 0), (57, .iconst 0, 1, 0, 0, 0), (58, .istore 9, 2, 0, 0, 0)], 60),
  (60, [(60, .iload 9, 2, 0, 0, 0), (62, .iload_n 0, 1, 0, 0, 0), (63, .if_icmp .ge 35, 3, 0, 0, 0), (66, .iload 5, 2, 0, 0, 0), (68, .iload 8, 2, 0, 0, 0), (70, .iload_n 1, 1, 0, 0, 0), (71, .iload 7, 2, 0, 0, 0), (73, .iconst 1, 1, 0, 0, 0), (74, .iload 9, 2, 0, 0, 0), (76, .ishl, 1, 0, 0, 0), (77, .ior, 1, 0, 0, 0), (78, .ishr, 1, 0, 0, 0), (79, .iconst 1, 1, 0, 0, 0), (80, .iand, 1, 0, 0, 0), (81, .if_icmp .gt 7, 3, 0, 0, 0), (84, .iconst 1, 1, 0, 0, 0), (85, .goto 4, 3, 0, 0, 0)], 88),
  (88, [(88, .iconst 0, 1, 0, 0, 0)], 89),
  (89, [(89, .iand, 1, 0, 0, 0), (90, .istore 5, 2, 0, 0, 0), (92, .iinc 9 1, 3, 0, 0, 0), (95, .goto (-35), 3, 0, 0, 0)], 98),
  (98, [(98, .iinc 7 1, 3, 0, 0, 0), (101, .goto (-81), 3, 0, 0, 0)], 104),
  (104, [(104, .iconst 0, 1, 0, 0, 0), (105, .istore 7, 2, 0, 0, 0)], 107),
  (107, [(107, .iload 7, 2, 0, 0, 0), (109, .iload_n 2, 1, 0, 0, 0), (110, .if_icmp .ge 106, 3, 0, 0, 0), (113, .iconst 0, 1, 0, 0, 0), (114, .istore 8, 2, 0, 0, 0)], 116),
  (116, [(116, .iload 8, 2, 0, 0, 0), (118, .iconst 2, 1, 0, 0, 0), (119, .if_icmp .ge 91, 3, 0, 0, 0), (122, .iconst 1, 1, 0, 0, 0), (123, .istore 9, 2, 0, 0, 0), (125, .iconst 0, 1, 0, 0, 0), (126, .istore 10, 2, 0, 0, 0)], 128),
  (128, [(128, .iload 10, 2, 0, 0, 0), (130, .iload_n 2, 1, 0, 0, 0), (131, .if_icmp .ge 66, 3, 0, 0, 0), (134, .iload 8, 2, 0, 0, 0), (136, .istore 11, 2, 0, 0, 0), (138, .iconst 0, 1, 0, 0, 0), (139, .istore 12, 2, 0, 0, 0)], 141),
  (141, [(141, .iload 12, 2, 0, 0, 0), (143, .iload_n 0, 1, 0, 0, 0), (144, .if_icmp .ge 24, 3, 0, 0, 0), (147, .iload 11, 2, 0, 0, 0), (149, .iload 7, 2, 0, 0, 0), (151, .iload 10, 2, 0, 0, 0), (153, .iand, 1, 0, 0, 0), (154, .iload 12, 2, 0, 0, 0), (156, .ishr, 1, 0, 0, 0), (157, .iconst 1, 1, 0, 0, 0), (158, .iand, 1, 0, 0, 0), (159, .iadd, 1, 0, 0, 0), (160, .istore 11, 2, 0, 0, 0), (162, .iinc 12 1, 3, 0, 0, 0), (165, .goto (-24), 3, 0, 0, 0)], 168),
  (168, [(168, .iload 9, 2, 0, 0, 0), (170, .iload 11, 2, 0, 0, 0), (172, .iconst 2, 1, 0, 0, 0), (173, .irem, 1, 0, 0, 0), (174, .iload_n 1, 1, 0, 0, 0), (175, .iload 10, 2, 0, 0, 0), (177, .ishr, 1, 0, 0, 0), (178, .iconst 1, 1, 0, 0, 0), (179, .iand, 1, 0, 0, 0), (180, .if_icmp .ne 7, 3, 0, 0, 0), (183, .iconst 1, 1, 0, 0, 0), (184, .goto 4, 3, 0, 0, 0)], 187),
  (187, [(187, .iconst 0, 1, 0, 0, 0)], 188),
  (188, [(188, .iand, 1, 0, 0, 0), (189, .istore 9, 2, 0, 0, 0), (191, .iinc 10 1, 3, 0, 0, 0), (194, .goto (-66), 3, 0, 0, 0)], 197),
  (197, [(197, .iload 6, 2, 0, 0, 0), (199, .iload 9, 2, 0, 0, 0), (201, .ior, 1, 0, 0, 0), (202, .istore 6, 2, 0, 0, 0), (204, .iinc 8 1, 3, 0, 0, 0), (207, .goto (-91), 3, 0, 0, 0)], 210),
  (210, [(210, .iinc 7 1, 3, 0, 0, 0), (213, .goto (-106), 3, 0, 0, 0)], 216),
  (216, [(216, .iload_n 1, 1, 0, 0, 0), (217, .iconst 1, 1, 0, 0, 0), (218, .iand, 1, 0, 0, 0), (219, .ifCond .ne 7, 3, 0, 0, 0), (222, .iconst 1, 1, 0, 0, 0), (223, .goto 4, 3, 0, 0, 0)], 226),
  (226, [(226, .iconst 0, 1, 0, 0, 0)], 227),
  (227, [(227, .iload_n 1, 1, 0, 0, 0), (228, .iload_n 3, 1, 0, 0, 0), (229, .ishr, 1, 0, 0, 0), (230, .iconst 1, 1, 0, 0, 0), (231, .iand, 1, 0, 0, 0), (232, .iconst 1, 1, 0, 0, 0), (233, .if_icmp .ne 7, 3, 0, 0, 0), (236, .iconst 2, 1, 0, 0, 0), (237, .goto 4, 3, 0, 0, 0)], 240),
  (240, [(240, .iconst 0, 1, 0, 0, 0)], 241),
  (241, [(241, .iadd, 1, 0, 0, 0), (242, .iload 4, 2, 0, 0, 0), (244, .ifCond .eq 7, 3, 0, 0, 0), (247, .iconst 4, 1, 0, 0, 0), (248, .goto 4, 3, 0, 0, 0)], 251),
  (251, [(251, .iconst 0, 1, 0, 0, 0)], 252),
  (252, [(252, .iadd, 1, 0, 0, 0), (253, .iload 5, 2, 0, 0, 0), (255, .ifCond .eq 8, 3, 0, 0, 0), (258, .bipush 8, 2, 0, 0, 0), (260, .goto 4, 3, 0, 0, 0)], 263),
  (263, [(263, .iconst 0, 1, 0, 0, 0)], 264),
  (264, [(264, .iadd, 1, 0, 0, 0), (265, .iload 6, 2, 0, 0, 0), (267, .ifCond .eq 8, 3, 0, 0, 0), (270, .bipush 16, 2, 0, 0, 0), (272, .goto 4, 3, 0, 0, 0)], 275),
  (275, [(275, .iconst 0, 1, 0, 0, 0)], 276),
  (276, [(276, .iadd, 1, 0, 0, 0), (277, .ireturn, 1, 0, 0, 0)], 278)]
/-- 95: FewSignsModel.about(II)I -/
def zc_95 : List (Nat × List zE × Nat) := [(0, [(0, .aload_n 0, 1, 0, 0, 0), (1, .iconst 0, 1, 0, 0, 0), (2, .putfield 52, 3, 7, 0, 608), (5, .iload_n 1, 1, 0, 0, 0), (6, .iconst 0, 1, 0, 0, 0), (7, .aload_n 0, 1, 0, 0, 0), (8, .getfield 64, 3, 7, 1, 609), (11, .iconst 1, 1, 0, 0, 0), (12, .isub, 1, 0, 0, 0), (13, .invokestatic 56, 3, 89, 0, 676), (16, .ifCond .eq 12, 3, 0, 0, 0), (19, .iload_n 2, 1, 0, 0, 0), (20, .iconst 0, 1, 0, 0, 0), (21, .iconst 3, 1, 0, 0, 0), (22, .invokestatic 56, 3, 89, 0, 676), (25, .ifCond .ne 5, 3, 0, 0, 0)], 28),
  (28, [(28, .iconst (-1), 1, 0, 0, 0), (29, .ireturn, 1, 0, 0, 0)], 30),
  (30, [(30, .iload_n 2, 1, 0, 0, 0), (31, .ifCond .ne 12, 3, 0, 0, 0), (34, .aload_n 0, 1, 0, 0, 0), (35, .getfield 7, 3, 7, 2, 610), (38, .iload_n 1, 1, 0, 0, 0), (39, .iaload, 1, 0, 0, 0), (40, .goto 46, 3, 0, 0, 0)], 43),
  (43, [(43, .iload_n 2, 1, 0, 0, 0), (44, .iconst 1, 1, 0, 0, 0), (45, .if_icmp .ne 12, 3, 0, 0, 0), (48, .aload_n 0, 1, 0, 0, 0), (49, .getfield 13, 3, 7, 3, 611), (52, .iload_n 1, 1, 0, 0, 0), (53, .iaload, 1, 0, 0, 0), (54, .goto 32, 3, 0, 0, 0)], 57),
  (57, [(57, .iload_n 2, 1, 0, 0, 0), (58, .iconst 2, 1, 0, 0, 0), (59, .if_icmp .ne 12, 3, 0, 0, 0), (62, .aload_n 0, 1, 0, 0, 0), (63, .getfield 16, 3, 7, 4, 612), (66, .iload_n 1, 1, 0, 0, 0), (67, .iaload, 1, 0, 0, 0), (68, .goto 18, 3, 0, 0, 0)], 71),
  (71, [(71, .aload_n 0, 1, 0, 0, 0), (72, .getfield 7, 3, 7, 2, 610), (75, .iload_n 1, 1, 0, 0, 0), (76, .iaload, 1, 0, 0, 0), (77, .aload_n 0, 1, 0, 0, 0), (78, .getfield 13, 3, 7, 3, 611), (81, .iload_n 1, 1, 0, 0, 0), (82, .iaload, 1, 0, 0, 0), (83, .invokestatic 67, 3, 94, 0, 690)], 86),
  (86, [(86, .ireturn, 1, 0, 0, 0)], 87)]
/-- 96: FewSignsModel.keeps(II)I -/
def zc_96 : List (Nat × List zE × Nat) := [(0, [(0, .aload_n 0, 1, 0, 0, 0), (1, .iconst 0, 1, 0, 0, 0), (2, .putfield 52, 3, 7, 0, 608), (5, .iload_n 1, 1, 0, 0, 0), (6, .iconst 0, 1, 0, 0, 0), (7, .iconst 3, 1, 0, 0, 0), (8, .invokestatic 56, 3, 89, 0, 676), (11, .ifCond .eq 25, 3, 0, 0, 0), (14, .iload_n 2, 1, 0, 0, 0), (15, .iconst 0, 1, 0, 0, 0), (16, .iload_n 1, 1, 0, 0, 0), (17, .invokestatic 60, 3, 91, 0, 679), (20, .iconst 1, 1, 0, 0, 0), (21, .isub, 1, 0, 0, 0), (22, .invokestatic 56, 3, 89, 0, 676), (25, .ifCond .eq 11, 3, 0, 0, 0), (28, .iload_n 1, 1, 0, 0, 0), (29, .iload_n 2, 1, 0, 0, 0), (30, .invokestatic 67, 3, 94, 0, 690), (33, .goto 4, 3, 0, 0, 0)], 36),
  (36, [(36, .iconst (-1), 1, 0, 0, 0)], 37),
  (37, [(37, .ireturn, 1, 0, 0, 0)], 38)]
/-- 97: FewSignsModel.hasThree()Z -/
def zc_97 : List (Nat × List zE × Nat) := [(0, [(0, .iconst 0, 1, 0, 0, 0), (1, .istore_n 1, 1, 0, 0, 0), (2, .iconst 0, 1, 0, 0, 0), (3, .istore_n 2, 1, 0, 0, 0)], 4),
  (4, [(4, .iload_n 2, 1, 0, 0, 0), (5, .aload_n 0, 1, 0, 0, 0), (6, .getfield 64, 3, 7, 1, 609), (9, .if_icmp .ge 27, 3, 0, 0, 0), (12, .iload_n 1, 1, 0, 0, 0), (13, .aload_n 0, 1, 0, 0, 0), (14, .getfield 7, 3, 7, 2, 610), (17, .iload_n 2, 1, 0, 0, 0), (18, .iaload, 1, 0, 0, 0), (19, .iconst 3, 1, 0, 0, 0), (20, .if_icmp .ne 7, 3, 0, 0, 0), (23, .iconst 1, 1, 0, 0, 0), (24, .goto 4, 3, 0, 0, 0)], 27),
  (27, [(27, .iconst 0, 1, 0, 0, 0)], 28),
  (28, [(28, .ior, 1, 0, 0, 0), (29, .istore_n 1, 1, 0, 0, 0), (30, .iinc 2 1, 3, 0, 0, 0), (33, .goto (-29), 3, 0, 0, 0)], 36),
  (36, [(36, .iload_n 1, 1, 0, 0, 0), (37, .ireturn, 1, 0, 0, 0)], 38)]
/-- 98: FewSignsModel.joined(IIIII)I -/
def zc_98 : List (Nat × List zE × Nat) := [(0, [(0, .iconst 0, 1, 0, 0, 0), (1, .istore 6, 2, 0, 0, 0), (3, .iconst 0, 1, 0, 0, 0), (4, .istore 7, 2, 0, 0, 0)], 6),
  (6, [(6, .iload 7, 2, 0, 0, 0), (8, .iconst 1, 1, 0, 0, 0), (9, .iload_n 2, 1, 0, 0, 0), (10, .ishl, 1, 0, 0, 0), (11, .if_icmp .ge 56, 3, 0, 0, 0), (14, .iload_n 3, 1, 0, 0, 0), (15, .iload 7, 2, 0, 0, 0), (17, .ishr, 1, 0, 0, 0), (18, .iconst 1, 1, 0, 0, 0), (19, .iand, 1, 0, 0, 0), (20, .iconst 2, 1, 0, 0, 0), (21, .iload 4, 2, 0, 0, 0), (23, .iload 7, 2, 0, 0, 0), (25, .ishr, 1, 0, 0, 0), (26, .iconst 1, 1, 0, 0, 0), (27, .iand, 1, 0, 0, 0), (28, .imul, 1, 0, 0, 0), (29, .iadd, 1, 0, 0, 0), (30, .iconst 4, 1, 0, 0, 0), (31, .iload 5, 2, 0, 0, 0), (33, .iload 7, 2, 0, 0, 0), (35, .ishr, 1, 0, 0, 0), (36, .iconst 1, 1, 0, 0, 0), (37, .iand, 1, 0, 0, 0), (38, .imul, 1, 0, 0, 0), (39, .iadd, 1, 0, 0, 0), (40, .istore 8, 2, 0, 0, 0), (42, .iload 6, 2, 0, 0, 0), (44, .aload_n 0, 1, 0, 0, 0), (45, .getfield 13, 3, 7, 3, 611), (48, .iload_n 1, 1, 0, 0, 0), (49, .iaload, 1, 0, 0, 0), (50, .iload 8, 2, 0, 0, 0), (52, .ishr, 1, 0, 0, 0), (53, .iconst 1, 1, 0, 0, 0), (54, .iand, 1, 0, 0, 0), (55, .iload 7, 2, 0, 0, 0), (57, .ishl, 1, 0, 0, 0), (58, .ior, 1, 0, 0, 0), (59, .istore 6, 2, 0, 0, 0), (61, .iinc 7 1, 3, 0, 0, 0), (64, .goto (-58), 3, 0, 0, 0)], 67),
  (67, [(67, .iload 6, 2, 0, 0, 0), (69, .ireturn, 1, 0, 0, 0)], 70)]
/-- 99: FewSignsModel.place(II)I -/
def zc_99 : List (Nat × List zE × Nat) := [(0, [(0, .iconst 0, 1, 0, 0, 0), (1, .istore_n 2, 1, 0, 0, 0), (2, .iconst 0, 1, 0, 0, 0), (3, .istore_n 3, 1, 0, 0, 0)], 4),
  (4, [(4, .iload_n 3, 1, 0, 0, 0), (5, .iconst 1, 1, 0, 0, 0), (6, .iload_n 0, 1, 0, 0, 0), (7, .ishl, 1, 0, 0, 0), (8, .if_icmp .ge 19, 3, 0, 0, 0), (11, .iload_n 2, 1, 0, 0, 0), (12, .iload_n 3, 1, 0, 0, 0), (13, .iload_n 1, 1, 0, 0, 0), (14, .ishr, 1, 0, 0, 0), (15, .iconst 1, 1, 0, 0, 0), (16, .iand, 1, 0, 0, 0), (17, .iload_n 3, 1, 0, 0, 0), (18, .ishl, 1, 0, 0, 0), (19, .ior, 1, 0, 0, 0), (20, .istore_n 2, 1, 0, 0, 0), (21, .iinc 3 1, 3, 0, 0, 0), (24, .goto (-20), 3, 0, 0, 0)], 27),
  (27, [(27, .iload_n 2, 1, 0, 0, 0), (28, .ireturn, 1, 0, 0, 0)], 29)]
/-- 100: FewSignsModel.finds(I)V -/
def zc_100 : List (Nat × List zE × Nat) := [(0, [(0, .iload_n 1, 1, 0, 0, 0), (1, .invokestatic 60, 3, 91, 0, 679), (4, .istore_n 2, 1, 0, 0, 0), (5, .iconst 0, 1, 0, 0, 0), (6, .istore_n 3, 1, 0, 0, 0)], 7),
  (7, [(7, .iload_n 3, 1, 0, 0, 0), (8, .iload_n 2, 1, 0, 0, 0), (9, .if_icmp .ge 17, 3, 0, 0, 0), (12, .aload_n 0, 1, 0, 0, 0), (13, .getfield 19, 3, 7, 5, 613), (16, .iload_n 3, 1, 0, 0, 0), (17, .bipush (-9), 2, 0, 0, 0), (19, .iastore, 1, 0, 0, 0), (20, .iinc 3 1, 3, 0, 0, 0), (23, .goto (-16), 3, 0, 0, 0)], 26),
  (26, [(26, .iconst 0, 1, 0, 0, 0), (27, .istore_n 3, 1, 0, 0, 0)], 28),
  (28, [(28, .iload_n 3, 1, 0, 0, 0), (29, .iload_n 1, 1, 0, 0, 0), (30, .if_icmp .ge 20, 3, 0, 0, 0), (33, .aload_n 0, 1, 0, 0, 0), (34, .getfield 19, 3, 7, 5, 613), (37, .iload_n 1, 1, 0, 0, 0), (38, .iload_n 3, 1, 0, 0, 0), (39, .invokestatic 71, 3, 99, 0, 713), (42, .iconst 0, 1, 0, 0, 0), (43, .iastore, 1, 0, 0, 0), (44, .iinc 3 1, 3, 0, 0, 0), (47, .goto (-19), 3, 0, 0, 0)], 50),
  (50, [(50, .iconst 1, 1, 0, 0, 0), (51, .istore_n 3, 1, 0, 0, 0)], 52),
  (52, [(52, .iload_n 3, 1, 0, 0, 0), (53, .ifCond .eq 287, 3, 0, 0, 0), (56, .iconst 0, 1, 0, 0, 0), (57, .istore_n 3, 1, 0, 0, 0), (58, .iconst 0, 1, 0, 0, 0), (59, .istore 4, 2, 0, 0, 0)], 61),
  (61, [(61, .iload 4, 2, 0, 0, 0), (63, .aload_n 0, 1, 0, 0, 0), (64, .getfield 64, 3, 7, 1, 609), (67, .if_icmp .ge 270, 3, 0, 0, 0), (70, .aload_n 0, 1, 0, 0, 0), (71, .getfield 7, 3, 7, 2, 610), (74, .iload 4, 2, 0, 0, 0), (76, .iaload, 1, 0, 0, 0), (77, .ifCond .le 7, 3, 0, 0, 0), (80, .iload_n 2, 1, 0, 0, 0), (81, .goto 4, 3, 0, 0, 0)], 84),
  (84, [(84, .iconst 1, 1, 0, 0, 0)], 85),
  (85, [(85, .istore 5, 2, 0, 0, 0), (87, .aload_n 0, 1, 0, 0, 0), (88, .getfield 7, 3, 7, 2, 610), (91, .iload 4, 2, 0, 0, 0), (93, .iaload, 1, 0, 0, 0), (94, .iconst 1, 1, 0, 0, 0), (95, .if_icmp .le 7, 3, 0, 0, 0), (98, .iload_n 2, 1, 0, 0, 0), (99, .goto 4, 3, 0, 0, 0)], 102),
  (102, [(102, .iconst 1, 1, 0, 0, 0)], 103),
  (103, [(103, .istore 6, 2, 0, 0, 0), (105, .aload_n 0, 1, 0, 0, 0), (106, .getfield 7, 3, 7, 2, 610), (109, .iload 4, 2, 0, 0, 0), (111, .iaload, 1, 0, 0, 0), (112, .iconst 2, 1, 0, 0, 0), (113, .if_icmp .le 7, 3, 0, 0, 0), (116, .iload_n 2, 1, 0, 0, 0), (117, .goto 4, 3, 0, 0, 0)], 120),
  (120, [(120, .iconst 1, 1, 0, 0, 0)], 121),
  (121, [(121, .istore 7, 2, 0, 0, 0), (123, .iconst 0, 1, 0, 0, 0), (124, .istore 8, 2, 0, 0, 0)], 126),
  (126, [(126, .iload 8, 2, 0, 0, 0), (128, .iload 5, 2, 0, 0, 0), (130, .if_icmp .ge 201, 3, 0, 0, 0), (133, .aload_n 0, 1, 0, 0, 0), (134, .getfield 7, 3, 7, 2, 610), (137, .iload 4, 2, 0, 0, 0), (139, .iaload, 1, 0, 0, 0), (140, .ifCond .le 13, 3, 0, 0, 0), (143, .aload_n 0, 1, 0, 0, 0), (144, .getfield 19, 3, 7, 5, 613), (147, .iload 8, 2, 0, 0, 0), (149, .iaload, 1, 0, 0, 0), (150, .goto 4, 3, 0, 0, 0)], 153),
  (153, [(153, .iconst 0, 1, 0, 0, 0)], 154),
  (154, [(154, .istore 9, 2, 0, 0, 0), (156, .iconst 0, 1, 0, 0, 0), (157, .istore 10, 2, 0, 0, 0)], 159),
  (159, [(159, .iload 10, 2, 0, 0, 0), (161, .iload 6, 2, 0, 0, 0), (163, .if_icmp .ge 162, 3, 0, 0, 0), (166, .iload 9, 2, 0, 0, 0), (168, .bipush (-9), 2, 0, 0, 0), (170, .if_icmp .eq 155, 3, 0, 0, 0), (173, .aload_n 0, 1, 0, 0, 0), (174, .getfield 7, 3, 7, 2, 610), (177, .iload 4, 2, 0, 0, 0), (179, .iaload, 1, 0, 0, 0), (180, .iconst 1, 1, 0, 0, 0), (181, .if_icmp .le 13, 3, 0, 0, 0), (184, .aload_n 0, 1, 0, 0, 0), (185, .getfield 19, 3, 7, 5, 613), (188, .iload 10, 2, 0, 0, 0), (190, .iaload, 1, 0, 0, 0), (191, .goto 4, 3, 0, 0, 0)], 194),
  (194, [(194, .iconst 0, 1, 0, 0, 0)], 195),
  (195, [(195, .istore 11, 2, 0, 0, 0), (197, .iconst 0, 1, 0, 0, 0), (198, .istore 12, 2, 0, 0, 0)], 200),
  (200, [(200, .iload 12, 2, 0, 0, 0), (202, .iload 7, 2, 0, 0, 0), (204, .if_icmp .ge 115, 3, 0, 0, 0), (207, .iload 11, 2, 0, 0, 0), (209, .bipush (-9), 2, 0, 0, 0), (211, .if_icmp .eq 108, 3, 0, 0, 0), (214, .aload_n 0, 1, 0, 0, 0), (215, .getfield 7, 3, 7, 2, 610), (218, .iload 4, 2, 0, 0, 0), (220, .iaload, 1, 0, 0, 0), (221, .iconst 2, 1, 0, 0, 0), (222, .if_icmp .le 13, 3, 0, 0, 0), (225, .aload_n 0, 1, 0, 0, 0), (226, .getfield 19, 3, 7, 5, 613), (229, .iload 12, 2, 0, 0, 0), (231, .iaload, 1, 0, 0, 0), (232, .goto 4, 3, 0, 0, 0)], 235),
  (235, [(235, .iconst 0, 1, 0, 0, 0)], 236),
  (236, [(236, .istore 13, 2, 0, 0, 0), (238, .iload 13, 2, 0, 0, 0), (240, .bipush (-9), 2, 0, 0, 0), (242, .if_icmp .eq 71, 3, 0, 0, 0), (245, .aload_n 0, 1, 0, 0, 0), (246, .iload 4, 2, 0, 0, 0), (248, .iload_n 1, 1, 0, 0, 0), (249, .iload 8, 2, 0, 0, 0), (251, .iload 10, 2, 0, 0, 0), (253, .iload 12, 2, 0, 0, 0), (255, .invokevirtual 74, 3, 98, 0, 716), (258, .istore 14, 2, 0, 0, 0), (260, .aload_n 0, 1, 0, 0, 0), (261, .getfield 16, 3, 7, 4, 612), (264, .iload 4, 2, 0, 0, 0), (266, .iaload, 1, 0, 0, 0), (267, .iload 9, 2, 0, 0, 0), (269, .iadd, 1, 0, 0, 0), (270, .iload 11, 2, 0, 0, 0), (272, .iadd, 1, 0, 0, 0), (273, .iload 13, 2, 0, 0, 0), (275, .iadd, 1, 0, 0, 0), (276, .istore 15, 2, 0, 0, 0), (278, .aload_n 0, 1, 0, 0, 0), (279, .getfield 19, 3, 7, 5, 613), (282, .iload 14, 2, 0, 0, 0), (284, .iaload, 1, 0, 0, 0), (285, .bipush (-9), 2, 0, 0, 0), (287, .if_icmp .eq 15, 3, 0, 0, 0), (290, .iload 15, 2, 0, 0, 0), (292, .aload_n 0, 1, 0, 0, 0), (293, .getfield 19, 3, 7, 5, 613), (296, .iload 14, 2, 0, 0, 0), (298, .iaload, 1, 0, 0, 0), (299, .if_icmp .ge 14, 3, 0, 0, 0)], 302),
  (302, [(302, .aload_n 0, 1, 0, 0, 0), (303, .getfield 19, 3, 7, 5, 613), (306, .iload 14, 2, 0, 0, 0), (308, .iload 15, 2, 0, 0, 0), (310, .iastore, 1, 0, 0, 0), (311, .iconst 1, 1, 0, 0, 0), (312, .istore_n 3, 1, 0, 0, 0)], 313),
  (313, [(313, .iinc 12 1, 3, 0, 0, 0), (316, .goto (-116), 3, 0, 0, 0)], 319),
  (319, [(319, .iinc 10 1, 3, 0, 0, 0), (322, .goto (-163), 3, 0, 0, 0)], 325),
  (325, [(325, .iinc 8 1, 3, 0, 0, 0), (328, .goto (-202), 3, 0, 0, 0)], 331),
  (331, [(331, .iinc 4 1, 3, 0, 0, 0), (334, .goto (-273), 3, 0, 0, 0)], 337),
  (337, [(337, .goto (-285), 3, 0, 0, 0)], 340),
  (340, [(340, .return_, 1, 0, 0, 0)], 341)]
/-- 101: FewSignsModel.refuses(I)I -/
def zc_101 : List (Nat × List zE × Nat) := [(0, [(0, .iload_n 1, 1, 0, 0, 0), (1, .iconst 1, 1, 0, 0, 0), (2, .iconst 3, 1, 0, 0, 0), (3, .invokestatic 56, 3, 89, 0, 676), (6, .ifCond .ne 7, 3, 0, 0, 0), (9, .iconst (-1), 1, 0, 0, 0), (10, .goto 21, 3, 0, 0, 0)], 13),
  (13, [(13, .iload_n 1, 1, 0, 0, 0), (14, .iconst 3, 1, 0, 0, 0), (15, .if_icmp .ne 15, 3, 0, 0, 0), (18, .aload_n 0, 1, 0, 0, 0), (19, .invokevirtual 78, 3, 97, 0, 705), (22, .ifCond .eq 8, 3, 0, 0, 0), (25, .bipush (-2), 2, 0, 0, 0), (27, .goto 4, 3, 0, 0, 0)], 30),
  (30, [(30, .iconst 0, 1, 0, 0, 0)], 31),
  (31, [(31, .ireturn, 1, 0, 0, 0)], 32)]
/-- 102: FewSignsModel.reached(I)I -/
def zc_102 : List (Nat × List zE × Nat) := [(0, [(0, .aload_n 0, 1, 0, 0, 0), (1, .iconst 0, 1, 0, 0, 0), (2, .putfield 52, 3, 7, 0, 608), (5, .aload_n 0, 1, 0, 0, 0), (6, .iload_n 1, 1, 0, 0, 0), (7, .invokevirtual 82, 3, 101, 0, 701), (10, .istore_n 2, 1, 0, 0, 0), (11, .iload_n 2, 1, 0, 0, 0), (12, .ifCond .ge 5, 3, 0, 0, 0), (15, .iload_n 2, 1, 0, 0, 0), (16, .ireturn, 1, 0, 0, 0)], 17),
  (17, [(17, .aload_n 0, 1, 0, 0, 0), (18, .iload_n 1, 1, 0, 0, 0), (19, .invokevirtual 85, 3, 100, 0, 709), (22, .iconst 0, 1, 0, 0, 0), (23, .istore_n 3, 1, 0, 0, 0), (24, .iconst 0, 1, 0, 0, 0), (25, .istore 4, 2, 0, 0, 0)], 27),
  (27, [(27, .iload 4, 2, 0, 0, 0), (29, .iload_n 1, 1, 0, 0, 0), (30, .invokestatic 60, 3, 91, 0, 679), (33, .if_icmp .ge 29, 3, 0, 0, 0), (36, .iload_n 3, 1, 0, 0, 0), (37, .aload_n 0, 1, 0, 0, 0), (38, .getfield 19, 3, 7, 5, 613), (41, .iload 4, 2, 0, 0, 0), (43, .iaload, 1, 0, 0, 0), (44, .bipush (-9), 2, 0, 0, 0), (46, .if_icmp .ne 7, 3, 0, 0, 0), (49, .iconst 0, 1, 0, 0, 0), (50, .goto 4, 3, 0, 0, 0)], 53),
  (53, [(53, .iconst 1, 1, 0, 0, 0)], 54),
  (54, [(54, .iadd, 1, 0, 0, 0), (55, .istore_n 3, 1, 0, 0, 0), (56, .iinc 4 1, 3, 0, 0, 0), (59, .goto (-32), 3, 0, 0, 0)], 62),
  (62, [(62, .iload_n 3, 1, 0, 0, 0), (63, .ireturn, 1, 0, 0, 0)], 64)]
/-- 103: FewSignsModel.least(II)I -/
def zc_103 : List (Nat × List zE × Nat) := [(0, [(0, .aload_n 0, 1, 0, 0, 0), (1, .iconst 0, 1, 0, 0, 0), (2, .putfield 52, 3, 7, 0, 608), (5, .iload_n 1, 1, 0, 0, 0), (6, .iconst 1, 1, 0, 0, 0), (7, .iconst 3, 1, 0, 0, 0), (8, .invokestatic 56, 3, 89, 0, 676), (11, .ifCond .eq 17, 3, 0, 0, 0), (14, .iload_n 2, 1, 0, 0, 0), (15, .iconst 0, 1, 0, 0, 0), (16, .iload_n 1, 1, 0, 0, 0), (17, .invokestatic 60, 3, 91, 0, 679), (20, .iconst 1, 1, 0, 0, 0), (21, .isub, 1, 0, 0, 0), (22, .invokestatic 56, 3, 89, 0, 676), (25, .ifCond .ne 5, 3, 0, 0, 0)], 28),
  (28, [(28, .iconst (-1), 1, 0, 0, 0), (29, .ireturn, 1, 0, 0, 0)], 30),
  (30, [(30, .aload_n 0, 1, 0, 0, 0), (31, .iload_n 1, 1, 0, 0, 0), (32, .invokevirtual 82, 3, 101, 0, 701), (35, .ifCond .ge 6, 3, 0, 0, 0), (38, .bipush (-2), 2, 0, 0, 0), (40, .ireturn, 1, 0, 0, 0)], 41),
  (41, [(41, .aload_n 0, 1, 0, 0, 0), (42, .iload_n 1, 1, 0, 0, 0), (43, .invokevirtual 85, 3, 100, 0, 709), (46, .aload_n 0, 1, 0, 0, 0), (47, .getfield 19, 3, 7, 5, 613), (50, .iload_n 2, 1, 0, 0, 0), (51, .iaload, 1, 0, 0, 0), (52, .ireturn, 1, 0, 0, 0)], 53)]
/-- 104: FewSignsModel.isBy(III)Z -/
def zc_104 : List (Nat × List zE × Nat) := [(0, [(0, .iload_n 2, 1, 0, 0, 0), (1, .invokestatic 60, 3, 91, 0, 679), (4, .istore 4, 2, 0, 0, 0), (6, .aload_n 0, 1, 0, 0, 0), (7, .bipush (-9), 2, 0, 0, 0), (9, .putfield 89, 3, 7, 6, 614), (12, .aload_n 0, 1, 0, 0, 0), (13, .bipush (-9), 2, 0, 0, 0), (15, .putfield 92, 3, 7, 7, 615), (18, .aload_n 0, 1, 0, 0, 0), (19, .bipush (-9), 2, 0, 0, 0), (21, .putfield 95, 3, 7, 8, 616), (24, .aload_n 0, 1, 0, 0, 0), (25, .getfield 7, 3, 7, 2, 610), (28, .iload_n 1, 1, 0, 0, 0), (29, .iaload, 1, 0, 0, 0), (30, .ifCond .le 8, 3, 0, 0, 0), (33, .iload 4, 2, 0, 0, 0), (35, .goto 4, 3, 0, 0, 0)], 38),
  (38, [(38, .iconst 1, 1, 0, 0, 0)], 39),
  (39, [(39, .istore 5, 2, 0, 0, 0), (41, .aload_n 0, 1, 0, 0, 0), (42, .getfield 7, 3, 7, 2, 610), (45, .iload_n 1, 1, 0, 0, 0), (46, .iaload, 1, 0, 0, 0), (47, .iconst 1, 1, 0, 0, 0), (48, .if_icmp .le 8, 3, 0, 0, 0), (51, .iload 4, 2, 0, 0, 0), (53, .goto 4, 3, 0, 0, 0)], 56),
  (56, [(56, .iconst 1, 1, 0, 0, 0)], 57),
  (57, [(57, .istore 6, 2, 0, 0, 0), (59, .aload_n 0, 1, 0, 0, 0), (60, .getfield 7, 3, 7, 2, 610), (63, .iload_n 1, 1, 0, 0, 0), (64, .iaload, 1, 0, 0, 0), (65, .iconst 2, 1, 0, 0, 0), (66, .if_icmp .le 8, 3, 0, 0, 0), (69, .iload 4, 2, 0, 0, 0), (71, .goto 4, 3, 0, 0, 0)], 74),
  (74, [(74, .iconst 1, 1, 0, 0, 0)], 75),
  (75, [(75, .istore 7, 2, 0, 0, 0), (77, .aload_n 0, 1, 0, 0, 0), (78, .getfield 19, 3, 7, 5, 613), (81, .iload_n 3, 1, 0, 0, 0), (82, .iaload, 1, 0, 0, 0), (83, .aload_n 0, 1, 0, 0, 0), (84, .getfield 16, 3, 7, 4, 612), (87, .iload_n 1, 1, 0, 0, 0), (88, .iaload, 1, 0, 0, 0), (89, .isub, 1, 0, 0, 0), (90, .istore 8, 2, 0, 0, 0), (92, .iconst 0, 1, 0, 0, 0), (93, .istore 9, 2, 0, 0, 0)], 95),
  (95, [(95, .iload 9, 2, 0, 0, 0), (97, .iload 5, 2, 0, 0, 0), (99, .if_icmp .ge 240, 3, 0, 0, 0), (102, .aload_n 0, 1, 0, 0, 0), (103, .getfield 7, 3, 7, 2, 610), (106, .iload_n 1, 1, 0, 0, 0), (107, .iaload, 1, 0, 0, 0), (108, .ifCond .le 13, 3, 0, 0, 0), (111, .aload_n 0, 1, 0, 0, 0), (112, .getfield 19, 3, 7, 5, 613), (115, .iload 9, 2, 0, 0, 0), (117, .iaload, 1, 0, 0, 0), (118, .goto 4, 3, 0, 0, 0)], 121),
  (121, [(121, .iconst 0, 1, 0, 0, 0)], 122),
  (122, [(122, .istore 10, 2, 0, 0, 0), (124, .iconst 0, 1, 0, 0, 0), (125, .istore 11, 2, 0, 0, 0)], 127),
  (127, [(127, .iload 11, 2, 0, 0, 0), (129, .iload 6, 2, 0, 0, 0), (131, .if_icmp .ge 202, 3, 0, 0, 0), (134, .iload 10, 2, 0, 0, 0), (136, .bipush (-9), 2, 0, 0, 0), (138, .if_icmp .eq 195, 3, 0, 0, 0), (141, .iload 10, 2, 0, 0, 0), (143, .iload 8, 2, 0, 0, 0), (145, .if_icmp .gt 188, 3, 0, 0, 0), (148, .aload_n 0, 1, 0, 0, 0), (149, .getfield 7, 3, 7, 2, 610), (152, .iload_n 1, 1, 0, 0, 0), (153, .iaload, 1, 0, 0, 0), (154, .iconst 1, 1, 0, 0, 0), (155, .if_icmp .le 13, 3, 0, 0, 0), (158, .aload_n 0, 1, 0, 0, 0), (159, .getfield 19, 3, 7, 5, 613), (162, .iload 11, 2, 0, 0, 0), (164, .iaload, 1, 0, 0, 0), (165, .goto 4, 3, 0, 0, 0)], 168),
  (168, [(168, .iconst 0, 1, 0, 0, 0)], 169),
  (169, [(169, .istore 12, 2, 0, 0, 0), (171, .iconst 0, 1, 0, 0, 0), (172, .istore 13, 2, 0, 0, 0)], 174),
  (174, [(174, .iload 13, 2, 0, 0, 0), (176, .iload 7, 2, 0, 0, 0), (178, .if_icmp .ge 149, 3, 0, 0, 0), (181, .iload 12, 2, 0, 0, 0), (183, .bipush (-9), 2, 0, 0, 0), (185, .if_icmp .eq 142, 3, 0, 0, 0), (188, .iload 10, 2, 0, 0, 0), (190, .iload 12, 2, 0, 0, 0), (192, .iadd, 1, 0, 0, 0), (193, .iload 8, 2, 0, 0, 0), (195, .if_icmp .gt 132, 3, 0, 0, 0), (198, .aload_n 0, 1, 0, 0, 0), (199, .getfield 7, 3, 7, 2, 610), (202, .iload_n 1, 1, 0, 0, 0), (203, .iaload, 1, 0, 0, 0), (204, .iconst 2, 1, 0, 0, 0), (205, .if_icmp .le 13, 3, 0, 0, 0), (208, .aload_n 0, 1, 0, 0, 0), (209, .getfield 19, 3, 7, 5, 613), (212, .iload 13, 2, 0, 0, 0), (214, .iaload, 1, 0, 0, 0), (215, .goto 4, 3, 0, 0, 0)], 218),
  (218, [(218, .iconst 0, 1, 0, 0, 0)], 219),
  (219, [(219, .istore 14, 2, 0, 0, 0), (221, .iload 14, 2, 0, 0, 0), (223, .bipush (-9), 2, 0, 0, 0), (225, .if_icmp .eq 96, 3, 0, 0, 0), (228, .iload 10, 2, 0, 0, 0), (230, .iload 12, 2, 0, 0, 0), (232, .iadd, 1, 0, 0, 0), (233, .iload 14, 2, 0, 0, 0), (235, .iadd, 1, 0, 0, 0), (236, .iload 8, 2, 0, 0, 0), (238, .if_icmp .ne 83, 3, 0, 0, 0), (241, .aload_n 0, 1, 0, 0, 0), (242, .iload_n 1, 1, 0, 0, 0), (243, .iload_n 2, 1, 0, 0, 0), (244, .iload 9, 2, 0, 0, 0), (246, .iload 11, 2, 0, 0, 0), (248, .iload 13, 2, 0, 0, 0), (250, .invokevirtual 74, 3, 98, 0, 716), (253, .iload_n 3, 1, 0, 0, 0), (254, .if_icmp .ne 67, 3, 0, 0, 0), (257, .aload_n 0, 1, 0, 0, 0), (258, .aload_n 0, 1, 0, 0, 0), (259, .getfield 7, 3, 7, 2, 610), (262, .iload_n 1, 1, 0, 0, 0), (263, .iaload, 1, 0, 0, 0), (264, .ifCond .le 8, 3, 0, 0, 0), (267, .iload 9, 2, 0, 0, 0), (269, .goto 5, 3, 0, 0, 0)], 272),
  (272, [(272, .bipush (-9), 2, 0, 0, 0)], 274),
  (274, [(274, .putfield 89, 3, 7, 6, 614), (277, .aload_n 0, 1, 0, 0, 0), (278, .aload_n 0, 1, 0, 0, 0), (279, .getfield 7, 3, 7, 2, 610), (282, .iload_n 1, 1, 0, 0, 0), (283, .iaload, 1, 0, 0, 0), (284, .iconst 1, 1, 0, 0, 0), (285, .if_icmp .le 8, 3, 0, 0, 0), (288, .iload 11, 2, 0, 0, 0), (290, .goto 5, 3, 0, 0, 0)], 293),
  (293, [(293, .bipush (-9), 2, 0, 0, 0)], 295),
  (295, [(295, .putfield 92, 3, 7, 7, 615), (298, .aload_n 0, 1, 0, 0, 0), (299, .aload_n 0, 1, 0, 0, 0), (300, .getfield 7, 3, 7, 2, 610), (303, .iload_n 1, 1, 0, 0, 0), (304, .iaload, 1, 0, 0, 0), (305, .iconst 2, 1, 0, 0, 0), (306, .if_icmp .le 8, 3, 0, 0, 0), (309, .iload 13, 2, 0, 0, 0), (311, .goto 5, 3, 0, 0, 0)], 314),
  (314, [(314, .bipush (-9), 2, 0, 0, 0)], 316),
  (316, [(316, .putfield 95, 3, 7, 8, 616), (319, .iconst 1, 1, 0, 0, 0), (320, .ireturn, 1, 0, 0, 0)], 321),
  (321, [(321, .iinc 13 1, 3, 0, 0, 0), (324, .goto (-150), 3, 0, 0, 0)], 327),
  (327, [(327, .iinc 11 1, 3, 0, 0, 0), (330, .goto (-203), 3, 0, 0, 0)], 333),
  (333, [(333, .iinc 9 1, 3, 0, 0, 0), (336, .goto (-241), 3, 0, 0, 0)], 339),
  (339, [(339, .iconst 0, 1, 0, 0, 0), (340, .ireturn, 1, 0, 0, 0)], 341)]
/-- 105: FewSignsModel.by(III)I -/
def zc_105 : List (Nat × List zE × Nat) := [(0, [(0, .aload_n 0, 1, 0, 0, 0), (1, .iconst 0, 1, 0, 0, 0), (2, .putfield 52, 3, 7, 0, 608), (5, .iload_n 1, 1, 0, 0, 0), (6, .iconst 1, 1, 0, 0, 0), (7, .iconst 3, 1, 0, 0, 0), (8, .invokestatic 56, 3, 89, 0, 676), (11, .ifCond .eq 26, 3, 0, 0, 0), (14, .iload_n 2, 1, 0, 0, 0), (15, .iconst 0, 1, 0, 0, 0), (16, .iload_n 1, 1, 0, 0, 0), (17, .invokestatic 60, 3, 91, 0, 679), (20, .iconst 1, 1, 0, 0, 0), (21, .isub, 1, 0, 0, 0), (22, .invokestatic 56, 3, 89, 0, 676), (25, .ifCond .eq 12, 3, 0, 0, 0), (28, .iload_n 3, 1, 0, 0, 0), (29, .iconst (-1), 1, 0, 0, 0), (30, .iconst 2, 1, 0, 0, 0), (31, .invokestatic 56, 3, 89, 0, 676), (34, .ifCond .ne 5, 3, 0, 0, 0)], 37),
  (37, [(37, .iconst (-1), 1, 0, 0, 0), (38, .ireturn, 1, 0, 0, 0)], 39),
  (39, [(39, .aload_n 0, 1, 0, 0, 0), (40, .iload_n 1, 1, 0, 0, 0), (41, .invokevirtual 82, 3, 101, 0, 701), (44, .ifCond .ge 6, 3, 0, 0, 0), (47, .bipush (-2), 2, 0, 0, 0), (49, .ireturn, 1, 0, 0, 0)], 50),
  (50, [(50, .aload_n 0, 1, 0, 0, 0), (51, .iload_n 1, 1, 0, 0, 0), (52, .invokevirtual 85, 3, 100, 0, 709), (55, .aload_n 0, 1, 0, 0, 0), (56, .getfield 19, 3, 7, 5, 613), (59, .iload_n 2, 1, 0, 0, 0), (60, .iaload, 1, 0, 0, 0), (61, .bipush (-9), 2, 0, 0, 0), (63, .if_icmp .eq 12, 3, 0, 0, 0), (66, .aload_n 0, 1, 0, 0, 0), (67, .getfield 19, 3, 7, 5, 613), (70, .iload_n 2, 1, 0, 0, 0), (71, .iaload, 1, 0, 0, 0), (72, .ifCond .ne 6, 3, 0, 0, 0)], 75),
  (75, [(75, .bipush (-9), 2, 0, 0, 0), (77, .ireturn, 1, 0, 0, 0)], 78),
  (78, [(78, .iconst 0, 1, 0, 0, 0), (79, .istore 4, 2, 0, 0, 0)], 81),
  (81, [(81, .aload_n 0, 1, 0, 0, 0), (82, .iload 4, 2, 0, 0, 0), (84, .iload_n 1, 1, 0, 0, 0), (85, .iload_n 2, 1, 0, 0, 0), (86, .invokevirtual 98, 3, 104, 0, 728), (89, .ifCond .ne 9, 3, 0, 0, 0), (92, .iinc 4 1, 3, 0, 0, 0), (95, .goto (-14), 3, 0, 0, 0)], 98),
  (98, [(98, .iload_n 3, 1, 0, 0, 0), (99, .ifCond .ge 8, 3, 0, 0, 0), (102, .iload 4, 2, 0, 0, 0), (104, .goto 30, 3, 0, 0, 0)], 107),
  (107, [(107, .iload_n 3, 1, 0, 0, 0), (108, .ifCond .ne 10, 3, 0, 0, 0), (111, .aload_n 0, 1, 0, 0, 0), (112, .getfield 89, 3, 7, 6, 614), (115, .goto 19, 3, 0, 0, 0)], 118),
  (118, [(118, .iload_n 3, 1, 0, 0, 0), (119, .iconst 1, 1, 0, 0, 0), (120, .if_icmp .ne 10, 3, 0, 0, 0), (123, .aload_n 0, 1, 0, 0, 0), (124, .getfield 92, 3, 7, 7, 615), (127, .goto 7, 3, 0, 0, 0)], 130),
  (130, [(130, .aload_n 0, 1, 0, 0, 0), (131, .getfield 95, 3, 7, 8, 616)], 134),
  (134, [(134, .ireturn, 1, 0, 0, 0)], 135)]
/-- 106: FewSignsModel.farthest(II)I -/
def zc_106 : List (Nat × List zE × Nat) := [(0, [(0, .aload_n 0, 1, 0, 0, 0), (1, .iconst 0, 1, 0, 0, 0), (2, .putfield 52, 3, 7, 0, 608), (5, .iload_n 1, 1, 0, 0, 0), (6, .iconst 1, 1, 0, 0, 0), (7, .iconst 3, 1, 0, 0, 0), (8, .invokestatic 56, 3, 89, 0, 676), (11, .ifCond .eq 12, 3, 0, 0, 0), (14, .iload_n 2, 1, 0, 0, 0), (15, .iconst 0, 1, 0, 0, 0), (16, .iconst 2, 1, 0, 0, 0), (17, .invokestatic 56, 3, 89, 0, 676), (20, .ifCond .ne 5, 3, 0, 0, 0)], 23),
  (23, [(23, .iconst (-1), 1, 0, 0, 0), (24, .ireturn, 1, 0, 0, 0)], 25),
  (25, [(25, .aload_n 0, 1, 0, 0, 0), (26, .iload_n 1, 1, 0, 0, 0), (27, .invokevirtual 82, 3, 101, 0, 701), (30, .ifCond .ge 6, 3, 0, 0, 0), (33, .bipush (-2), 2, 0, 0, 0), (35, .ireturn, 1, 0, 0, 0)], 36),
  (36, [(36, .aload_n 0, 1, 0, 0, 0), (37, .iload_n 1, 1, 0, 0, 0), (38, .invokevirtual 85, 3, 100, 0, 709), (41, .iconst 0, 1, 0, 0, 0), (42, .istore_n 3, 1, 0, 0, 0), (43, .bipush (-9), 2, 0, 0, 0), (45, .istore 4, 2, 0, 0, 0), (47, .bipush (-9), 2, 0, 0, 0), (49, .istore 5, 2, 0, 0, 0), (51, .iconst 0, 1, 0, 0, 0), (52, .istore 6, 2, 0, 0, 0)], 54),
  (54, [(54, .iload 6, 2, 0, 0, 0), (56, .iload_n 1, 1, 0, 0, 0), (57, .invokestatic 60, 3, 91, 0, 679), (60, .if_icmp .ge 70, 3, 0, 0, 0), (63, .aload_n 0, 1, 0, 0, 0), (64, .getfield 19, 3, 7, 5, 613), (67, .iload 6, 2, 0, 0, 0), (69, .iaload, 1, 0, 0, 0), (70, .bipush (-9), 2, 0, 0, 0), (72, .if_icmp .ne 22, 3, 0, 0, 0), (75, .iload 5, 2, 0, 0, 0), (77, .bipush (-9), 2, 0, 0, 0), (79, .if_icmp .ne 8, 3, 0, 0, 0), (82, .iload 6, 2, 0, 0, 0), (84, .goto 5, 3, 0, 0, 0)], 87),
  (87, [(87, .iload 5, 2, 0, 0, 0)], 89),
  (89, [(89, .istore 5, 2, 0, 0, 0), (91, .goto 33, 3, 0, 0, 0)], 94),
  (94, [(94, .iload 4, 2, 0, 0, 0), (96, .bipush (-9), 2, 0, 0, 0), (98, .if_icmp .eq 14, 3, 0, 0, 0), (101, .aload_n 0, 1, 0, 0, 0), (102, .getfield 19, 3, 7, 5, 613), (105, .iload 6, 2, 0, 0, 0), (107, .iaload, 1, 0, 0, 0), (108, .iload_n 3, 1, 0, 0, 0), (109, .if_icmp .le 15, 3, 0, 0, 0)], 112),
  (112, [(112, .iload 6, 2, 0, 0, 0), (114, .istore 4, 2, 0, 0, 0), (116, .aload_n 0, 1, 0, 0, 0), (117, .getfield 19, 3, 7, 5, 613), (120, .iload 6, 2, 0, 0, 0), (122, .iaload, 1, 0, 0, 0), (123, .istore_n 3, 1, 0, 0, 0)], 124),
  (124, [(124, .iinc 6 1, 3, 0, 0, 0), (127, .goto (-73), 3, 0, 0, 0)], 130),
  (130, [(130, .iload_n 2, 1, 0, 0, 0), (131, .ifCond .ne 7, 3, 0, 0, 0), (134, .iload_n 3, 1, 0, 0, 0), (135, .goto 15, 3, 0, 0, 0)], 138),
  (138, [(138, .iload_n 2, 1, 0, 0, 0), (139, .iconst 1, 1, 0, 0, 0), (140, .if_icmp .ne 8, 3, 0, 0, 0), (143, .iload 4, 2, 0, 0, 0), (145, .goto 5, 3, 0, 0, 0)], 148),
  (148, [(148, .iload 5, 2, 0, 0, 0)], 150),
  (150, [(150, .ireturn, 1, 0, 0, 0)], 151)]
/-- 107: FewSignsModel.costing(II)I -/
def zc_107 : List (Nat × List zE × Nat) := [(0, [(0, .aload_n 0, 1, 0, 0, 0), (1, .iconst 0, 1, 0, 0, 0), (2, .putfield 52, 3, 7, 0, 608), (5, .iload_n 1, 1, 0, 0, 0), (6, .iconst 1, 1, 0, 0, 0), (7, .iconst 3, 1, 0, 0, 0), (8, .invokestatic 56, 3, 89, 0, 676), (11, .ifCond .eq 7, 3, 0, 0, 0), (14, .iload_n 2, 1, 0, 0, 0), (15, .ifCond .ge 5, 3, 0, 0, 0)], 18),
  (18, [(18, .iconst (-1), 1, 0, 0, 0), (19, .ireturn, 1, 0, 0, 0)], 20),
  (20, [(20, .aload_n 0, 1, 0, 0, 0), (21, .iload_n 1, 1, 0, 0, 0), (22, .invokevirtual 82, 3, 101, 0, 701), (25, .ifCond .ge 6, 3, 0, 0, 0), (28, .bipush (-2), 2, 0, 0, 0), (30, .ireturn, 1, 0, 0, 0)], 31),
  (31, [(31, .aload_n 0, 1, 0, 0, 0), (32, .iload_n 1, 1, 0, 0, 0), (33, .invokevirtual 85, 3, 100, 0, 709), (36, .iconst 0, 1, 0, 0, 0), (37, .istore_n 3, 1, 0, 0, 0), (38, .iconst 0, 1, 0, 0, 0), (39, .istore 4, 2, 0, 0, 0)], 41),
  (41, [(41, .iload 4, 2, 0, 0, 0), (43, .iload_n 1, 1, 0, 0, 0), (44, .invokestatic 60, 3, 91, 0, 679), (47, .if_icmp .ge 28, 3, 0, 0, 0), (50, .iload_n 3, 1, 0, 0, 0), (51, .aload_n 0, 1, 0, 0, 0), (52, .getfield 19, 3, 7, 5, 613), (55, .iload 4, 2, 0, 0, 0), (57, .iaload, 1, 0, 0, 0), (58, .iload_n 2, 1, 0, 0, 0), (59, .if_icmp .ne 7, 3, 0, 0, 0), (62, .iconst 1, 1, 0, 0, 0), (63, .goto 4, 3, 0, 0, 0)], 66),
  (66, [(66, .iconst 0, 1, 0, 0, 0)], 67),
  (67, [(67, .iadd, 1, 0, 0, 0), (68, .istore_n 3, 1, 0, 0, 0), (69, .iinc 4 1, 3, 0, 0, 0), (72, .goto (-31), 3, 0, 0, 0)], 75),
  (75, [(75, .iload_n 3, 1, 0, 0, 0), (76, .ireturn, 1, 0, 0, 0)], 77)]
/-- 108: FewSignsModel.isSet(I)Z -/
def zc_108 : List (Nat × List zE × Nat) := [(0, [(0, .iload_n 1, 1, 0, 0, 0), (1, .iconst 0, 1, 0, 0, 0), (2, .iconst 1, 1, 0, 0, 0), (3, .aload_n 0, 1, 0, 0, 0), (4, .getfield 64, 3, 7, 1, 609), (7, .ishl, 1, 0, 0, 0), (8, .iconst 1, 1, 0, 0, 0), (9, .isub, 1, 0, 0, 0), (10, .invokestatic 56, 3, 89, 0, 676), (13, .ireturn, 1, 0, 0, 0)], 14)]
/-- 109: FewSignsModel.lacksOf(I)I -/
def zc_109 : List (Nat × List zE × Nat) := [(0, [(0, .bipush 31, 2, 0, 0, 0), (2, .istore_n 2, 1, 0, 0, 0), (3, .iconst 0, 1, 0, 0, 0), (4, .istore_n 3, 1, 0, 0, 0)], 5),
  (5, [(5, .iload_n 3, 1, 0, 0, 0), (6, .aload_n 0, 1, 0, 0, 0), (7, .getfield 64, 3, 7, 1, 609), (10, .if_icmp .ge 41, 3, 0, 0, 0), (13, .iload_n 2, 1, 0, 0, 0), (14, .iload_n 1, 1, 0, 0, 0), (15, .iload_n 3, 1, 0, 0, 0), (16, .ishr, 1, 0, 0, 0), (17, .iconst 1, 1, 0, 0, 0), (18, .iand, 1, 0, 0, 0), (19, .iconst 1, 1, 0, 0, 0), (20, .if_icmp .ne 21, 3, 0, 0, 0), (23, .aload_n 0, 1, 0, 0, 0), (24, .getfield 7, 3, 7, 2, 610), (27, .iload_n 3, 1, 0, 0, 0), (28, .iaload, 1, 0, 0, 0), (29, .aload_n 0, 1, 0, 0, 0), (30, .getfield 13, 3, 7, 3, 611), (33, .iload_n 3, 1, 0, 0, 0), (34, .iaload, 1, 0, 0, 0), (35, .invokestatic 67, 3, 94, 0, 690), (38, .goto 5, 3, 0, 0, 0)], 41),
  (41, [(41, .bipush 31, 2, 0, 0, 0)], 43),
  (43, [(43, .iand, 1, 0, 0, 0), (44, .istore_n 2, 1, 0, 0, 0), (45, .iinc 3 1, 3, 0, 0, 0), (48, .goto (-43), 3, 0, 0, 0)], 51),
  (51, [(51, .iload_n 2, 1, 0, 0, 0), (52, .ireturn, 1, 0, 0, 0)], 53)]
/-- 110: FewSignsModel.says(I)I -/
def zc_110 : List (Nat × List zE × Nat) := [(0, [(0, .aload_n 0, 1, 0, 0, 0), (1, .iconst 0, 1, 0, 0, 0), (2, .putfield 52, 3, 7, 0, 608), (5, .aload_n 0, 1, 0, 0, 0), (6, .iload_n 1, 1, 0, 0, 0), (7, .invokevirtual 101, 3, 108, 0, 744), (10, .ifCond .ne 7, 3, 0, 0, 0), (13, .iconst (-1), 1, 0, 0, 0), (14, .goto 16, 3, 0, 0, 0)], 17),
  (17, [(17, .aload_n 0, 1, 0, 0, 0), (18, .iload_n 1, 1, 0, 0, 0), (19, .invokevirtual 105, 3, 109, 0, 748), (22, .ifCond .ne 7, 3, 0, 0, 0), (25, .iconst 1, 1, 0, 0, 0), (26, .goto 4, 3, 0, 0, 0)], 29),
  (29, [(29, .iconst 0, 1, 0, 0, 0)], 30),
  (30, [(30, .ireturn, 1, 0, 0, 0)], 31)]
/-- 111: FewSignsModel.lacks(I)I -/
def zc_111 : List (Nat × List zE × Nat) := [(0, [(0, .aload_n 0, 1, 0, 0, 0), (1, .iconst 0, 1, 0, 0, 0), (2, .putfield 52, 3, 7, 0, 608), (5, .aload_n 0, 1, 0, 0, 0), (6, .iload_n 1, 1, 0, 0, 0), (7, .invokevirtual 101, 3, 108, 0, 744), (10, .ifCond .eq 11, 3, 0, 0, 0), (13, .aload_n 0, 1, 0, 0, 0), (14, .iload_n 1, 1, 0, 0, 0), (15, .invokevirtual 105, 3, 109, 0, 748), (18, .goto 4, 3, 0, 0, 0)], 21),
  (21, [(21, .iconst (-1), 1, 0, 0, 0)], 22),
  (22, [(22, .ireturn, 1, 0, 0, 0)], 23)]
/-- 112: FewSignsModel.isLeastSet(I)Z -/
def zc_112 : List (Nat × List zE × Nat) := [(0, [(0, .aload_n 0, 1, 0, 0, 0), (1, .iload_n 1, 1, 0, 0, 0), (2, .invokevirtual 105, 3, 109, 0, 748), (5, .ifCond .ne 7, 3, 0, 0, 0), (8, .iconst 1, 1, 0, 0, 0), (9, .goto 4, 3, 0, 0, 0)], 12),
  (12, [(12, .iconst 0, 1, 0, 0, 0)], 13),
  (13, [(13, .istore_n 2, 1, 0, 0, 0), (14, .iconst 0, 1, 0, 0, 0), (15, .istore_n 3, 1, 0, 0, 0)], 16),
  (16, [(16, .iload_n 3, 1, 0, 0, 0), (17, .aload_n 0, 1, 0, 0, 0), (18, .getfield 64, 3, 7, 1, 609), (21, .if_icmp .ge 41, 3, 0, 0, 0), (24, .iload_n 2, 1, 0, 0, 0), (25, .ifCond .eq 37, 3, 0, 0, 0), (28, .iload_n 1, 1, 0, 0, 0), (29, .iload_n 3, 1, 0, 0, 0), (30, .ishr, 1, 0, 0, 0), (31, .iconst 1, 1, 0, 0, 0), (32, .iand, 1, 0, 0, 0), (33, .ifCond .eq 17, 3, 0, 0, 0), (36, .aload_n 0, 1, 0, 0, 0), (37, .iload_n 1, 1, 0, 0, 0), (38, .iconst 1, 1, 0, 0, 0), (39, .iload_n 3, 1, 0, 0, 0), (40, .ishl, 1, 0, 0, 0), (41, .iconst (-1), 1, 0, 0, 0), (42, .ixor, 1, 0, 0, 0), (43, .iand, 1, 0, 0, 0), (44, .invokevirtual 105, 3, 109, 0, 748), (47, .ifCond .eq 7, 3, 0, 0, 0)], 50),
  (50, [(50, .iconst 1, 1, 0, 0, 0), (51, .goto 4, 3, 0, 0, 0)], 54),
  (54, [(54, .iconst 0, 1, 0, 0, 0)], 55),
  (55, [(55, .istore_n 2, 1, 0, 0, 0), (56, .iinc 3 1, 3, 0, 0, 0), (59, .goto (-43), 3, 0, 0, 0)], 62),
  (62, [(62, .iload_n 2, 1, 0, 0, 0), (63, .ireturn, 1, 0, 0, 0)], 64)]
/-- 113: FewSignsModel.sets(I)I -/
def zc_113 : List (Nat × List zE × Nat) := [(0, [(0, .aload_n 0, 1, 0, 0, 0), (1, .iconst 0, 1, 0, 0, 0), (2, .putfield 52, 3, 7, 0, 608), (5, .iload_n 1, 1, 0, 0, 0), (6, .iconst (-1), 1, 0, 0, 0), (7, .if_icmp .ge 5, 3, 0, 0, 0), (10, .iconst (-1), 1, 0, 0, 0), (11, .ireturn, 1, 0, 0, 0)], 12),
  (12, [(12, .iconst 0, 1, 0, 0, 0), (13, .istore_n 2, 1, 0, 0, 0), (14, .iconst 0, 1, 0, 0, 0), (15, .istore_n 3, 1, 0, 0, 0)], 16),
  (16, [(16, .iload_n 3, 1, 0, 0, 0), (17, .iconst 1, 1, 0, 0, 0), (18, .aload_n 0, 1, 0, 0, 0), (19, .getfield 64, 3, 7, 1, 609), (22, .ishl, 1, 0, 0, 0), (23, .if_icmp .ge 27, 3, 0, 0, 0), (26, .aload_n 0, 1, 0, 0, 0), (27, .iload_n 3, 1, 0, 0, 0), (28, .invokevirtual 108, 3, 112, 0, 760), (31, .ifCond .eq 13, 3, 0, 0, 0), (34, .iload_n 2, 1, 0, 0, 0), (35, .iload_n 1, 1, 0, 0, 0), (36, .if_icmp .ne 5, 3, 0, 0, 0), (39, .iload_n 3, 1, 0, 0, 0), (40, .ireturn, 1, 0, 0, 0)], 41),
  (41, [(41, .iinc 2 1, 3, 0, 0, 0)], 44),
  (44, [(44, .iinc 3 1, 3, 0, 0, 0), (47, .goto (-31), 3, 0, 0, 0)], 50),
  (50, [(50, .iload_n 1, 1, 0, 0, 0), (51, .ifCond .ge 7, 3, 0, 0, 0), (54, .iload_n 2, 1, 0, 0, 0), (55, .goto 5, 3, 0, 0, 0)], 58),
  (58, [(58, .bipush (-9), 2, 0, 0, 0)], 60),
  (60, [(60, .ireturn, 1, 0, 0, 0)], 61)]
/-- 114: FewSignsModel.alone(I)I -/
def zc_114 : List (Nat × List zE × Nat) := [(0, [(0, .aload_n 0, 1, 0, 0, 0), (1, .iconst 0, 1, 0, 0, 0), (2, .putfield 52, 3, 7, 0, 608), (5, .iload_n 1, 1, 0, 0, 0), (6, .iconst (-1), 1, 0, 0, 0), (7, .if_icmp .ge 5, 3, 0, 0, 0), (10, .iconst (-1), 1, 0, 0, 0), (11, .ireturn, 1, 0, 0, 0)], 12),
  (12, [(12, .iconst 0, 1, 0, 0, 0), (13, .istore_n 2, 1, 0, 0, 0), (14, .iconst 0, 1, 0, 0, 0), (15, .istore_n 3, 1, 0, 0, 0)], 16),
  (16, [(16, .iload_n 3, 1, 0, 0, 0), (17, .bipush 16, 2, 0, 0, 0), (19, .if_icmp .ge 27, 3, 0, 0, 0), (22, .iconst 2, 1, 0, 0, 0), (23, .iload_n 3, 1, 0, 0, 0), (24, .invokestatic 67, 3, 94, 0, 690), (27, .ifCond .ne 13, 3, 0, 0, 0), (30, .iload_n 2, 1, 0, 0, 0), (31, .iload_n 1, 1, 0, 0, 0), (32, .if_icmp .ne 5, 3, 0, 0, 0), (35, .iload_n 3, 1, 0, 0, 0), (36, .ireturn, 1, 0, 0, 0)], 37),
  (37, [(37, .iinc 2 1, 3, 0, 0, 0)], 40),
  (40, [(40, .iinc 3 1, 3, 0, 0, 0), (43, .goto (-27), 3, 0, 0, 0)], 46),
  (46, [(46, .iload_n 1, 1, 0, 0, 0), (47, .ifCond .ge 7, 3, 0, 0, 0), (50, .iload_n 2, 1, 0, 0, 0), (51, .goto 5, 3, 0, 0, 0)], 54),
  (54, [(54, .bipush (-9), 2, 0, 0, 0)], 56),
  (56, [(56, .ireturn, 1, 0, 0, 0)], 57)]
/-- 115: FewSignsModel.isRelation(II)Z -/
def zc_115 : List (Nat × List zE × Nat) := [(0, [(0, .iload_n 0, 1, 0, 0, 0), (1, .iconst 1, 1, 0, 0, 0), (2, .iconst 3, 1, 0, 0, 0), (3, .invokestatic 56, 3, 89, 0, 676), (6, .ifCond .eq 21, 3, 0, 0, 0), (9, .iload_n 1, 1, 0, 0, 0), (10, .iconst 0, 1, 0, 0, 0), (11, .iload_n 0, 1, 0, 0, 0), (12, .invokestatic 60, 3, 91, 0, 679), (15, .iconst 1, 1, 0, 0, 0), (16, .isub, 1, 0, 0, 0), (17, .invokestatic 56, 3, 89, 0, 676), (20, .ifCond .eq 7, 3, 0, 0, 0), (23, .iconst 1, 1, 0, 0, 0), (24, .goto 4, 3, 0, 0, 0)], 27),
  (27, [(27, .iconst 0, 1, 0, 0, 0)], 28),
  (28, [(28, .ireturn, 1, 0, 0, 0)], 29)]
/-- 116: FewSignsModel.told(IIIII)I -/
def zc_116 : List (Nat × List zE × Nat) := [(0, [(0, .iconst 0, 1, 0, 0, 0), (1, .istore 5, 2, 0, 0, 0), (3, .iconst 0, 1, 0, 0, 0), (4, .istore 6, 2, 0, 0, 0)], 6),
  (6, [(6, .iload 6, 2, 0, 0, 0), (8, .iload_n 1, 1, 0, 0, 0), (9, .if_icmp .ge 50, 3, 0, 0, 0), (12, .iload_n 2, 1, 0, 0, 0), (13, .iload 6, 2, 0, 0, 0), (15, .ishr, 1, 0, 0, 0), (16, .iconst 1, 1, 0, 0, 0), (17, .iand, 1, 0, 0, 0), (18, .iconst 2, 1, 0, 0, 0), (19, .iload_n 3, 1, 0, 0, 0), (20, .iload 6, 2, 0, 0, 0), (22, .ishr, 1, 0, 0, 0), (23, .iconst 1, 1, 0, 0, 0), (24, .iand, 1, 0, 0, 0), (25, .imul, 1, 0, 0, 0), (26, .iadd, 1, 0, 0, 0), (27, .iconst 4, 1, 0, 0, 0), (28, .iload 4, 2, 0, 0, 0), (30, .iload 6, 2, 0, 0, 0), (32, .ishr, 1, 0, 0, 0), (33, .iconst 1, 1, 0, 0, 0), (34, .iand, 1, 0, 0, 0), (35, .imul, 1, 0, 0, 0), (36, .iadd, 1, 0, 0, 0), (37, .istore 7, 2, 0, 0, 0), (39, .iload 5, 2, 0, 0, 0), (41, .iload_n 0, 1, 0, 0, 0), (42, .iload 7, 2, 0, 0, 0), (44, .ishr, 1, 0, 0, 0), (45, .iconst 1, 1, 0, 0, 0), (46, .iand, 1, 0, 0, 0), (47, .iload 6, 2, 0, 0, 0), (49, .ishl, 1, 0, 0, 0), (50, .ior, 1, 0, 0, 0), (51, .istore 5, 2, 0, 0, 0), (53, .iinc 6 1, 3, 0, 0, 0), (56, .goto (-50), 3, 0, 0, 0)], 59),
  (59, [(59, .iload 5, 2, 0, 0, 0), (61, .ireturn, 1, 0, 0, 0)], 62)]
/-- 117: FewSignsModel.makes(IIII)I -/
def zc_117 : List (Nat × List zE × Nat) := [(0, [(0, .iconst 0, 1, 0, 0, 0), (1, .istore 4, 2, 0, 0, 0), (3, .iconst 1, 1, 0, 0, 0), (4, .iload_n 2, 1, 0, 0, 0), (5, .ishl, 1, 0, 0, 0), (6, .istore 5, 2, 0, 0, 0), (8, .iconst 0, 1, 0, 0, 0), (9, .istore 6, 2, 0, 0, 0)], 11),
  (11, [(11, .iload 6, 2, 0, 0, 0), (13, .iload_n 0, 1, 0, 0, 0), (14, .ifCond .le 8, 3, 0, 0, 0), (17, .iload 5, 2, 0, 0, 0), (19, .goto 4, 3, 0, 0, 0)], 22),
  (22, [(22, .iconst 1, 1, 0, 0, 0)], 23),
  (23, [(23, .if_icmp .ge 138, 3, 0, 0, 0), (26, .iconst 0, 1, 0, 0, 0), (27, .istore 7, 2, 0, 0, 0)], 29),
  (29, [(29, .iload 7, 2, 0, 0, 0), (31, .iload_n 0, 1, 0, 0, 0), (32, .iconst 1, 1, 0, 0, 0), (33, .if_icmp .le 8, 3, 0, 0, 0), (36, .iload 5, 2, 0, 0, 0), (38, .goto 4, 3, 0, 0, 0)], 41),
  (41, [(41, .iconst 1, 1, 0, 0, 0)], 42),
  (42, [(42, .if_icmp .ge 113, 3, 0, 0, 0), (45, .iconst 0, 1, 0, 0, 0), (46, .istore 8, 2, 0, 0, 0)], 48),
  (48, [(48, .iload 8, 2, 0, 0, 0), (50, .iload_n 0, 1, 0, 0, 0), (51, .iconst 2, 1, 0, 0, 0), (52, .if_icmp .le 8, 3, 0, 0, 0), (55, .iload 5, 2, 0, 0, 0), (57, .goto 4, 3, 0, 0, 0)], 60),
  (60, [(60, .iconst 1, 1, 0, 0, 0)], 61),
  (61, [(61, .if_icmp .ge 88, 3, 0, 0, 0), (64, .iload_n 0, 1, 0, 0, 0), (65, .iconst 1, 1, 0, 0, 0), (66, .if_icmp .lt 13, 3, 0, 0, 0), (69, .iload_n 3, 1, 0, 0, 0), (70, .iload 6, 2, 0, 0, 0), (72, .ishr, 1, 0, 0, 0), (73, .iconst 1, 1, 0, 0, 0), (74, .iand, 1, 0, 0, 0), (75, .iconst 1, 1, 0, 0, 0), (76, .if_icmp .ne 37, 3, 0, 0, 0)], 79),
  (79, [(79, .iload_n 0, 1, 0, 0, 0), (80, .iconst 2, 1, 0, 0, 0), (81, .if_icmp .lt 13, 3, 0, 0, 0), (84, .iload_n 3, 1, 0, 0, 0), (85, .iload 7, 2, 0, 0, 0), (87, .ishr, 1, 0, 0, 0), (88, .iconst 1, 1, 0, 0, 0), (89, .iand, 1, 0, 0, 0), (90, .iconst 1, 1, 0, 0, 0), (91, .if_icmp .ne 22, 3, 0, 0, 0)], 94),
  (94, [(94, .iload_n 0, 1, 0, 0, 0), (95, .iconst 3, 1, 0, 0, 0), (96, .if_icmp .lt 13, 3, 0, 0, 0), (99, .iload_n 3, 1, 0, 0, 0), (100, .iload 8, 2, 0, 0, 0), (102, .ishr, 1, 0, 0, 0), (103, .iconst 1, 1, 0, 0, 0), (104, .iand, 1, 0, 0, 0), (105, .iconst 1, 1, 0, 0, 0), (106, .if_icmp .ne 7, 3, 0, 0, 0)], 109),
  (109, [(109, .iconst 1, 1, 0, 0, 0), (110, .goto 4, 3, 0, 0, 0)], 113),
  (113, [(113, .iconst 0, 1, 0, 0, 0)], 114),
  (114, [(114, .istore 9, 2, 0, 0, 0), (116, .iload 4, 2, 0, 0, 0), (118, .iload 9, 2, 0, 0, 0), (120, .ifCond .eq 19, 3, 0, 0, 0), (123, .iconst 1, 1, 0, 0, 0), (124, .iload_n 1, 1, 0, 0, 0), (125, .iload_n 2, 1, 0, 0, 0), (126, .iload 6, 2, 0, 0, 0), (128, .iload 7, 2, 0, 0, 0), (130, .iload 8, 2, 0, 0, 0), (132, .invokestatic 111, 3, 116, 0, 782), (135, .ishl, 1, 0, 0, 0), (136, .goto 4, 3, 0, 0, 0)], 139),
  (139, [(139, .iconst 0, 1, 0, 0, 0)], 140),
  (140, [(140, .ior, 1, 0, 0, 0), (141, .istore 4, 2, 0, 0, 0), (143, .iinc 8 1, 3, 0, 0, 0), (146, .goto (-98), 3, 0, 0, 0)], 149),
  (149, [(149, .iinc 7 1, 3, 0, 0, 0), (152, .goto (-123), 3, 0, 0, 0)], 155),
  (155, [(155, .iinc 6 1, 3, 0, 0, 0), (158, .goto (-147), 3, 0, 0, 0)], 161),
  (161, [(161, .iload 4, 2, 0, 0, 0), (163, .ireturn, 1, 0, 0, 0)], 164)]
/-- 118: FewSignsModel.isLet(III)Z -/
def zc_118 : List (Nat × List zE × Nat) := [(0, [(0, .aload_n 0, 1, 0, 0, 0), (1, .getfield 7, 3, 7, 2, 610), (4, .iload_n 1, 1, 0, 0, 0), (5, .iaload, 1, 0, 0, 0), (6, .aload_n 0, 1, 0, 0, 0), (7, .getfield 13, 3, 7, 3, 611), (10, .iload_n 1, 1, 0, 0, 0), (11, .iaload, 1, 0, 0, 0), (12, .iload_n 2, 1, 0, 0, 0), (13, .iload_n 3, 1, 0, 0, 0), (14, .invokestatic 114, 3, 117, 0, 779), (17, .iload_n 3, 1, 0, 0, 0), (18, .iconst (-1), 1, 0, 0, 0), (19, .ixor, 1, 0, 0, 0), (20, .iand, 1, 0, 0, 0), (21, .ifCond .ne 7, 3, 0, 0, 0), (24, .iconst 1, 1, 0, 0, 0), (25, .goto 4, 3, 0, 0, 0)], 28),
  (28, [(28, .iconst 0, 1, 0, 0, 0)], 29),
  (29, [(29, .ireturn, 1, 0, 0, 0)], 30)]
/-- 119: FewSignsModel.lets(III)I -/
def zc_119 : List (Nat × List zE × Nat) := [(0, [(0, .aload_n 0, 1, 0, 0, 0), (1, .iconst 0, 1, 0, 0, 0), (2, .putfield 52, 3, 7, 0, 608), (5, .iload_n 1, 1, 0, 0, 0), (6, .iconst 0, 1, 0, 0, 0), (7, .aload_n 0, 1, 0, 0, 0), (8, .getfield 64, 3, 7, 1, 609), (11, .iconst 1, 1, 0, 0, 0), (12, .isub, 1, 0, 0, 0), (13, .invokestatic 56, 3, 89, 0, 676), (16, .ifCond .eq 11, 3, 0, 0, 0), (19, .iload_n 2, 1, 0, 0, 0), (20, .iload_n 3, 1, 0, 0, 0), (21, .invokestatic 118, 3, 115, 0, 772), (24, .ifCond .ne 7, 3, 0, 0, 0)], 27),
  (27, [(27, .iconst (-1), 1, 0, 0, 0), (28, .goto 18, 3, 0, 0, 0)], 31),
  (31, [(31, .aload_n 0, 1, 0, 0, 0), (32, .iload_n 1, 1, 0, 0, 0), (33, .iload_n 2, 1, 0, 0, 0), (34, .iload_n 3, 1, 0, 0, 0), (35, .invokevirtual 122, 3, 118, 0, 775), (38, .ifCond .eq 7, 3, 0, 0, 0), (41, .iconst 1, 1, 0, 0, 0), (42, .goto 4, 3, 0, 0, 0)], 45),
  (45, [(45, .iconst 0, 1, 0, 0, 0)], 46),
  (46, [(46, .ireturn, 1, 0, 0, 0)], 47)]
/-- 120: FewSignsModel.lettingOf(II)I -/
def zc_120 : List (Nat × List zE × Nat) := [(0, [(0, .iconst 0, 1, 0, 0, 0), (1, .istore_n 3, 1, 0, 0, 0), (2, .iconst 0, 1, 0, 0, 0), (3, .istore 4, 2, 0, 0, 0)], 5),
  (5, [(5, .iload 4, 2, 0, 0, 0), (7, .aload_n 0, 1, 0, 0, 0), (8, .getfield 64, 3, 7, 1, 609), (11, .if_icmp .ge 31, 3, 0, 0, 0), (14, .iload_n 3, 1, 0, 0, 0), (15, .aload_n 0, 1, 0, 0, 0), (16, .iload 4, 2, 0, 0, 0), (18, .iload_n 1, 1, 0, 0, 0), (19, .iload_n 2, 1, 0, 0, 0), (20, .invokevirtual 122, 3, 118, 0, 775), (23, .ifCond .eq 10, 3, 0, 0, 0), (26, .iconst 1, 1, 0, 0, 0), (27, .iload 4, 2, 0, 0, 0), (29, .ishl, 1, 0, 0, 0), (30, .goto 4, 3, 0, 0, 0)], 33),
  (33, [(33, .iconst 0, 1, 0, 0, 0)], 34),
  (34, [(34, .ior, 1, 0, 0, 0), (35, .istore_n 3, 1, 0, 0, 0), (36, .iinc 4 1, 3, 0, 0, 0), (39, .goto (-34), 3, 0, 0, 0)], 42),
  (42, [(42, .iload_n 3, 1, 0, 0, 0), (43, .ireturn, 1, 0, 0, 0)], 44)]
/-- 121: FewSignsModel.letting(II)I -/
def zc_121 : List (Nat × List zE × Nat) := [(0, [(0, .aload_n 0, 1, 0, 0, 0), (1, .iconst 0, 1, 0, 0, 0), (2, .putfield 52, 3, 7, 0, 608), (5, .iload_n 1, 1, 0, 0, 0), (6, .iload_n 2, 1, 0, 0, 0), (7, .invokestatic 118, 3, 115, 0, 772), (10, .ifCond .eq 12, 3, 0, 0, 0), (13, .aload_n 0, 1, 0, 0, 0), (14, .iload_n 1, 1, 0, 0, 0), (15, .iload_n 2, 1, 0, 0, 0), (16, .invokevirtual 125, 3, 120, 0, 789), (19, .goto 4, 3, 0, 0, 0)], 22),
  (22, [(22, .iconst (-1), 1, 0, 0, 0)], 23),
  (23, [(23, .ireturn, 1, 0, 0, 0)], 24)]
/-- 122: FewSignsModel.around(II)I -/
def zc_122 : List (Nat × List zE × Nat) := [(0, [(0, .aload_n 0, 1, 0, 0, 0), (1, .iconst 0, 1, 0, 0, 0), (2, .putfield 52, 3, 7, 0, 608), (5, .iload_n 1, 1, 0, 0, 0), (6, .iload_n 2, 1, 0, 0, 0), (7, .invokestatic 118, 3, 115, 0, 772), (10, .ifCond .ne 5, 3, 0, 0, 0), (13, .iconst (-1), 1, 0, 0, 0), (14, .ireturn, 1, 0, 0, 0)], 15),
  (15, [(15, .iload_n 2, 1, 0, 0, 0), (16, .istore_n 3, 1, 0, 0, 0), (17, .iconst (-1), 1, 0, 0, 0), (18, .istore 4, 2, 0, 0, 0)], 20),
  (20, [(20, .iload_n 3, 1, 0, 0, 0), (21, .iload 4, 2, 0, 0, 0), (23, .if_icmp .eq 49, 3, 0, 0, 0), (26, .iload_n 3, 1, 0, 0, 0), (27, .istore 4, 2, 0, 0, 0), (29, .iconst 0, 1, 0, 0, 0), (30, .istore 5, 2, 0, 0, 0)], 32),
  (32, [(32, .iload 5, 2, 0, 0, 0), (34, .aload_n 0, 1, 0, 0, 0), (35, .getfield 64, 3, 7, 1, 609), (38, .if_icmp .ge 31, 3, 0, 0, 0), (41, .iload_n 3, 1, 0, 0, 0), (42, .aload_n 0, 1, 0, 0, 0), (43, .getfield 7, 3, 7, 2, 610), (46, .iload 5, 2, 0, 0, 0), (48, .iaload, 1, 0, 0, 0), (49, .aload_n 0, 1, 0, 0, 0), (50, .getfield 13, 3, 7, 3, 611), (53, .iload 5, 2, 0, 0, 0), (55, .iaload, 1, 0, 0, 0), (56, .iload_n 1, 1, 0, 0, 0), (57, .iload_n 3, 1, 0, 0, 0), (58, .invokestatic 114, 3, 117, 0, 779), (61, .ior, 1, 0, 0, 0), (62, .istore_n 3, 1, 0, 0, 0), (63, .iinc 5 1, 3, 0, 0, 0), (66, .goto (-34), 3, 0, 0, 0)], 69),
  (69, [(69, .goto (-49), 3, 0, 0, 0)], 72),
  (72, [(72, .iload_n 3, 1, 0, 0, 0), (73, .ireturn, 1, 0, 0, 0)], 74)]
/-- 123: FewSignsModel.sorts(II)I -/
def zc_123 : List (Nat × List zE × Nat) := [(0, [(0, .aload_n 0, 1, 0, 0, 0), (1, .iconst 0, 1, 0, 0, 0), (2, .putfield 52, 3, 7, 0, 608), (5, .iload_n 1, 1, 0, 0, 0), (6, .iload_n 2, 1, 0, 0, 0), (7, .invokestatic 118, 3, 115, 0, 772), (10, .ifCond .ne 5, 3, 0, 0, 0), (13, .iconst (-1), 1, 0, 0, 0), (14, .ireturn, 1, 0, 0, 0)], 15),
  (15, [(15, .iload_n 2, 1, 0, 0, 0), (16, .iconst 1, 1, 0, 0, 0), (17, .iand, 1, 0, 0, 0), (18, .iload_n 2, 1, 0, 0, 0), (19, .iconst 1, 1, 0, 0, 0), (20, .iload_n 1, 1, 0, 0, 0), (21, .ishl, 1, 0, 0, 0), (22, .iconst 1, 1, 0, 0, 0), (23, .isub, 1, 0, 0, 0), (24, .ishr, 1, 0, 0, 0), (25, .iconst 1, 1, 0, 0, 0), (26, .iand, 1, 0, 0, 0), (27, .iconst 1, 1, 0, 0, 0), (28, .if_icmp .ne 7, 3, 0, 0, 0), (31, .iconst 2, 1, 0, 0, 0), (32, .goto 4, 3, 0, 0, 0)], 35),
  (35, [(35, .iconst 0, 1, 0, 0, 0)], 36),
  (36, [(36, .iadd, 1, 0, 0, 0), (37, .istore_n 3, 1, 0, 0, 0), (38, .iload_n 3, 1, 0, 0, 0), (39, .iconst 2, 1, 0, 0, 0), (40, .bipush 8, 2, 0, 0, 0), (42, .iload_n 1, 1, 0, 0, 0), (43, .iload_n 2, 1, 0, 0, 0), (44, .invokestatic 114, 3, 117, 0, 779), (47, .iload_n 2, 1, 0, 0, 0), (48, .iconst (-1), 1, 0, 0, 0), (49, .ixor, 1, 0, 0, 0), (50, .iand, 1, 0, 0, 0), (51, .ifCond .ne 7, 3, 0, 0, 0), (54, .iconst 4, 1, 0, 0, 0), (55, .goto 4, 3, 0, 0, 0)], 58),
  (58, [(58, .iconst 0, 1, 0, 0, 0)], 59),
  (59, [(59, .iadd, 1, 0, 0, 0), (60, .istore_n 3, 1, 0, 0, 0), (61, .iload_n 3, 1, 0, 0, 0), (62, .iconst 2, 1, 0, 0, 0), (63, .bipush 14, 2, 0, 0, 0), (65, .iload_n 1, 1, 0, 0, 0), (66, .iload_n 2, 1, 0, 0, 0), (67, .invokestatic 114, 3, 117, 0, 779), (70, .iload_n 2, 1, 0, 0, 0), (71, .iconst (-1), 1, 0, 0, 0), (72, .ixor, 1, 0, 0, 0), (73, .iand, 1, 0, 0, 0), (74, .ifCond .ne 8, 3, 0, 0, 0), (77, .bipush 8, 2, 0, 0, 0), (79, .goto 4, 3, 0, 0, 0)], 82),
  (82, [(82, .iconst 0, 1, 0, 0, 0)], 83),
  (83, [(83, .iadd, 1, 0, 0, 0), (84, .istore_n 3, 1, 0, 0, 0), (85, .iload_n 3, 1, 0, 0, 0), (86, .iconst 3, 1, 0, 0, 0), (87, .sipush 150, 3, 0, 0, 0), (90, .iload_n 1, 1, 0, 0, 0), (91, .iload_n 2, 1, 0, 0, 0), (92, .invokestatic 114, 3, 117, 0, 779), (95, .iload_n 2, 1, 0, 0, 0), (96, .iconst (-1), 1, 0, 0, 0), (97, .ixor, 1, 0, 0, 0), (98, .iand, 1, 0, 0, 0), (99, .ifCond .ne 8, 3, 0, 0, 0), (102, .bipush 16, 2, 0, 0, 0), (104, .goto 4, 3, 0, 0, 0)], 107),
  (107, [(107, .iconst 0, 1, 0, 0, 0)], 108),
  (108, [(108, .iadd, 1, 0, 0, 0), (109, .istore_n 3, 1, 0, 0, 0), (110, .iload_n 3, 1, 0, 0, 0), (111, .iconst 3, 1, 0, 0, 0), (112, .sipush 232, 3, 0, 0, 0), (115, .iload_n 1, 1, 0, 0, 0), (116, .iload_n 2, 1, 0, 0, 0), (117, .invokestatic 114, 3, 117, 0, 779), (120, .iload_n 2, 1, 0, 0, 0), (121, .iconst (-1), 1, 0, 0, 0), (122, .ixor, 1, 0, 0, 0), (123, .iand, 1, 0, 0, 0), (124, .ifCond .ne 8, 3, 0, 0, 0), (127, .bipush 32, 2, 0, 0, 0), (129, .goto 4, 3, 0, 0, 0)], 132),
  (132, [(132, .iconst 0, 1, 0, 0, 0)], 133),
  (133, [(133, .iadd, 1, 0, 0, 0), (134, .istore_n 3, 1, 0, 0, 0), (135, .iload_n 3, 1, 0, 0, 0), (136, .ireturn, 1, 0, 0, 0)], 137)]
/-- 124: FewSignsModel.kept(I)I -/
def zc_124 : List (Nat × List zE × Nat) := [(0, [(0, .aload_n 0, 1, 0, 0, 0), (1, .iconst 0, 1, 0, 0, 0), (2, .putfield 52, 3, 7, 0, 608), (5, .iload_n 1, 1, 0, 0, 0), (6, .iconst 1, 1, 0, 0, 0), (7, .iconst 3, 1, 0, 0, 0), (8, .invokestatic 56, 3, 89, 0, 676), (11, .ifCond .ne 5, 3, 0, 0, 0), (14, .iconst (-1), 1, 0, 0, 0), (15, .ireturn, 1, 0, 0, 0)], 16),
  (16, [(16, .iconst 0, 1, 0, 0, 0), (17, .istore_n 2, 1, 0, 0, 0), (18, .iconst 0, 1, 0, 0, 0), (19, .istore_n 3, 1, 0, 0, 0)], 20),
  (20, [(20, .iload_n 3, 1, 0, 0, 0), (21, .iload_n 1, 1, 0, 0, 0), (22, .invokestatic 60, 3, 91, 0, 679), (25, .if_icmp .ge 34, 3, 0, 0, 0), (28, .iload_n 2, 1, 0, 0, 0), (29, .aload_n 0, 1, 0, 0, 0), (30, .iload_n 1, 1, 0, 0, 0), (31, .iload_n 3, 1, 0, 0, 0), (32, .invokevirtual 125, 3, 120, 0, 789), (35, .iconst 1, 1, 0, 0, 0), (36, .aload_n 0, 1, 0, 0, 0), (37, .getfield 64, 3, 7, 1, 609), (40, .ishl, 1, 0, 0, 0), (41, .iconst 1, 1, 0, 0, 0), (42, .isub, 1, 0, 0, 0), (43, .if_icmp .ne 7, 3, 0, 0, 0), (46, .iconst 1, 1, 0, 0, 0), (47, .goto 4, 3, 0, 0, 0)], 50),
  (50, [(50, .iconst 0, 1, 0, 0, 0)], 51),
  (51, [(51, .iadd, 1, 0, 0, 0), (52, .istore_n 2, 1, 0, 0, 0), (53, .iinc 3 1, 3, 0, 0, 0), (56, .goto (-36), 3, 0, 0, 0)], 59),
  (59, [(59, .iload_n 2, 1, 0, 0, 0), (60, .ireturn, 1, 0, 0, 0)], 61)]
/-- 125: FewSignsModel.type(JI)I -/
def zc_125 : List (Nat × List zE × Nat) := [(0, [(0, .aload_n 0, 1, 0, 0, 0), (1, .iconst 0, 1, 0, 0, 0), (2, .putfield 52, 3, 7, 0, 608), (5, .iload_n 3, 1, 0, 0, 0), (6, .iconst 1, 1, 0, 0, 0), (7, .bipush 8, 2, 0, 0, 0), (9, .invokestatic 56, 3, 89, 0, 676), (12, .ifCond .ne 5, 3, 0, 0, 0), (15, .iconst (-1), 1, 0, 0, 0), (16, .ireturn, 1, 0, 0, 0)], 17),
  (17, [(17, .aload_n 0, 1, 0, 0, 0), (18, .getfield 128, 3, 7, 10, 618), (21, .iload_n 3, 1, 0, 0, 0), (22, .iadd, 1, 0, 0, 0), (23, .bipush 80, 2, 0, 0, 0), (25, .if_icmp .le 6, 3, 0, 0, 0), (28, .bipush (-3), 2, 0, 0, 0), (30, .ireturn, 1, 0, 0, 0)], 31),
  (31, [(31, .iload_n 3, 1, 0, 0, 0), (32, .iconst 1, 1, 0, 0, 0), (33, .isub, 1, 0, 0, 0), (34, .istore 4, 2, 0, 0, 0)], 36),
  (36, [(36, .iload 4, 2, 0, 0, 0), (38, .ifCond .lt 40, 3, 0, 0, 0), (41, .aload_n 0, 1, 0, 0, 0), (42, .getfield 22, 3, 7, 9, 617), (45, .aload_n 0, 1, 0, 0, 0), (46, .getfield 128, 3, 7, 10, 618), (49, .lload_n 1, 1, 0, 0, 0), (50, .bipush 8, 2, 0, 0, 0), (52, .iload 4, 2, 0, 0, 0), (54, .imul, 1, 0, 0, 0), (55, .lshr, 1, 0, 0, 0), (56, .ldc2_w 131, 3, 255, 0, 809), (59, .land, 1, 0, 0, 0), (60, .l2i, 1, 0, 0, 0), (61, .iastore, 1, 0, 0, 0), (62, .aload_n 0, 1, 0, 0, 0), (63, .dup, 1, 0, 0, 0), (64, .getfield 128, 3, 7, 10, 618), (67, .iconst 1, 1, 0, 0, 0), (68, .iadd, 1, 0, 0, 0), (69, .putfield 128, 3, 7, 10, 618), (72, .iinc 4 (-1), 3, 0, 0, 0), (75, .goto (-39), 3, 0, 0, 0)], 78),
  (78, [(78, .aload_n 0, 1, 0, 0, 0), (79, .getfield 128, 3, 7, 10, 618), (82, .ireturn, 1, 0, 0, 0)], 83)]
/-- 126: FewSignsModel.clear()I -/
def zc_126 : List (Nat × List zE × Nat) := [(0, [(0, .aload_n 0, 1, 0, 0, 0), (1, .iconst 0, 1, 0, 0, 0), (2, .putfield 52, 3, 7, 0, 608), (5, .aload_n 0, 1, 0, 0, 0), (6, .getfield 128, 3, 7, 10, 618), (9, .istore_n 1, 1, 0, 0, 0), (10, .aload_n 0, 1, 0, 0, 0), (11, .iconst 0, 1, 0, 0, 0), (12, .putfield 128, 3, 7, 10, 618), (15, .iload_n 1, 1, 0, 0, 0), (16, .ireturn, 1, 0, 0, 0)], 17)]
/-- 127: FewSignsModel.isFormula()Z -/
def zc_127 : List (Nat × List zE × Nat) := [(0, [(0, .aload_n 0, 1, 0, 0, 0), (1, .iconst 0, 1, 0, 0, 0), (2, .putfield 133, 3, 7, 14, 622), (5, .iconst 0, 1, 0, 0, 0), (6, .istore_n 1, 1, 0, 0, 0), (7, .iconst 0, 1, 0, 0, 0), (8, .istore_n 2, 1, 0, 0, 0), (9, .iconst 0, 1, 0, 0, 0), (10, .istore_n 3, 1, 0, 0, 0), (11, .iconst 0, 1, 0, 0, 0), (12, .istore 4, 2, 0, 0, 0), (14, .iconst 0, 1, 0, 0, 0), (15, .istore 5, 2, 0, 0, 0)], 17),
  (17, [(17, .iload 5, 2, 0, 0, 0), (19, .aload_n 0, 1, 0, 0, 0), (20, .getfield 128, 3, 7, 10, 618), (23, .if_icmp .ge 303, 3, 0, 0, 0), (26, .aload_n 0, 1, 0, 0, 0), (27, .getfield 22, 3, 7, 9, 617), (30, .iload 5, 2, 0, 0, 0), (32, .iaload, 1, 0, 0, 0), (33, .istore 6, 2, 0, 0, 0), (35, .aload_n 0, 1, 0, 0, 0), (36, .iload 5, 2, 0, 0, 0), (38, .putfield 136, 3, 7, 15, 623), (41, .iconst 0, 1, 0, 0, 0), (42, .istore 7, 2, 0, 0, 0), (44, .iload_n 3, 1, 0, 0, 0), (45, .ifCond .eq 5, 3, 0, 0, 0), (48, .iconst 0, 1, 0, 0, 0), (49, .ireturn, 1, 0, 0, 0)], 50),
  (50, [(50, .iload 4, 2, 0, 0, 0), (52, .ifCond .ne 100, 3, 0, 0, 0), (55, .iload 6, 2, 0, 0, 0), (57, .bipush 112, 2, 0, 0, 0), (59, .bipush 112, 2, 0, 0, 0), (61, .aload_n 0, 1, 0, 0, 0), (62, .getfield 64, 3, 7, 1, 609), (65, .iadd, 1, 0, 0, 0), (66, .iconst 1, 1, 0, 0, 0), (67, .isub, 1, 0, 0, 0), (68, .invokestatic 56, 3, 89, 0, 676), (71, .istore 8, 2, 0, 0, 0), (73, .iload 8, 2, 0, 0, 0), (75, .ifCond .ne 15, 3, 0, 0, 0), (78, .iload 6, 2, 0, 0, 0), (80, .bipush 120, 2, 0, 0, 0), (82, .bipush 122, 2, 0, 0, 0), (84, .invokestatic 56, 3, 89, 0, 676), (87, .ifCond .eq 9, 3, 0, 0, 0)], 90),
  (90, [(90, .iload_n 2, 1, 0, 0, 0), (91, .bipush 30, 2, 0, 0, 0), (93, .if_icmp .ne 5, 3, 0, 0, 0)], 96),
  (96, [(96, .iconst 0, 1, 0, 0, 0), (97, .ireturn, 1, 0, 0, 0)], 98),
  (98, [(98, .iinc 2 1, 3, 0, 0, 0), (101, .iload 8, 2, 0, 0, 0), (103, .ifCond .eq 22, 3, 0, 0, 0), (106, .aload_n 0, 1, 0, 0, 0), (107, .getfield 7, 3, 7, 2, 610), (110, .iload 6, 2, 0, 0, 0), (112, .bipush 112, 2, 0, 0, 0), (114, .isub, 1, 0, 0, 0), (115, .iaload, 1, 0, 0, 0), (116, .ifCond .le 9, 3, 0, 0, 0), (119, .iconst 1, 1, 0, 0, 0), (120, .istore 4, 2, 0, 0, 0), (122, .goto 27, 3, 0, 0, 0)], 125),
  (125, [(125, .aload_n 0, 1, 0, 0, 0), (126, .getfield 31, 3, 7, 13, 621), (129, .aload_n 0, 1, 0, 0, 0), (130, .getfield 133, 3, 7, 14, 622), (133, .iload 6, 2, 0, 0, 0), (135, .iastore, 1, 0, 0, 0), (136, .aload_n 0, 1, 0, 0, 0), (137, .dup, 1, 0, 0, 0), (138, .getfield 133, 3, 7, 14, 622), (141, .iconst 1, 1, 0, 0, 0), (142, .iadd, 1, 0, 0, 0), (143, .putfield 133, 3, 7, 14, 622), (146, .iconst 1, 1, 0, 0, 0), (147, .istore 7, 2, 0, 0, 0)], 149),
  (149, [(149, .goto 137, 3, 0, 0, 0)], 152),
  (152, [(152, .iload 4, 2, 0, 0, 0), (154, .iconst 1, 1, 0, 0, 0), (155, .if_icmp .ne 49, 3, 0, 0, 0), (158, .iload 6, 2, 0, 0, 0), (160, .bipush 40, 2, 0, 0, 0), (162, .if_icmp .ne 9, 3, 0, 0, 0), (165, .iload_n 1, 1, 0, 0, 0), (166, .bipush 8, 2, 0, 0, 0), (168, .if_icmp .ne 5, 3, 0, 0, 0)], 171),
  (171, [(171, .iconst 0, 1, 0, 0, 0), (172, .ireturn, 1, 0, 0, 0)], 173),
  (173, [(173, .aload_n 0, 1, 0, 0, 0), (174, .getfield 34, 3, 7, 16, 624), (177, .iload_n 1, 1, 0, 0, 0), (178, .aload_n 0, 1, 0, 0, 0), (179, .getfield 22, 3, 7, 9, 617), (182, .iload 5, 2, 0, 0, 0), (184, .iconst 1, 1, 0, 0, 0), (185, .isub, 1, 0, 0, 0), (186, .iaload, 1, 0, 0, 0), (187, .iastore, 1, 0, 0, 0), (188, .aload_n 0, 1, 0, 0, 0), (189, .getfield 37, 3, 7, 17, 625), (192, .iload_n 1, 1, 0, 0, 0), (193, .iconst 0, 1, 0, 0, 0), (194, .iastore, 1, 0, 0, 0), (195, .iinc 1 1, 3, 0, 0, 0), (198, .iconst 0, 1, 0, 0, 0), (199, .istore 4, 2, 0, 0, 0), (201, .goto 85, 3, 0, 0, 0)], 204),
  (204, [(204, .aload_n 0, 1, 0, 0, 0), (205, .getfield 37, 3, 7, 17, 625), (208, .iload_n 1, 1, 0, 0, 0), (209, .iconst 1, 1, 0, 0, 0), (210, .isub, 1, 0, 0, 0), (211, .iaload, 1, 0, 0, 0), (212, .aload_n 0, 1, 0, 0, 0), (213, .getfield 7, 3, 7, 2, 610), (216, .aload_n 0, 1, 0, 0, 0), (217, .getfield 34, 3, 7, 16, 624), (220, .iload_n 1, 1, 0, 0, 0), (221, .iconst 1, 1, 0, 0, 0), (222, .isub, 1, 0, 0, 0), (223, .iaload, 1, 0, 0, 0), (224, .bipush 112, 2, 0, 0, 0), (226, .isub, 1, 0, 0, 0), (227, .iaload, 1, 0, 0, 0), (228, .if_icmp .ge 18, 3, 0, 0, 0), (231, .iload 6, 2, 0, 0, 0), (233, .bipush 44, 2, 0, 0, 0), (235, .if_icmp .eq 5, 3, 0, 0, 0), (238, .iconst 0, 1, 0, 0, 0), (239, .ireturn, 1, 0, 0, 0)], 240),
  (240, [(240, .iconst 0, 1, 0, 0, 0), (241, .istore 4, 2, 0, 0, 0), (243, .goto 43, 3, 0, 0, 0)], 246),
  (246, [(246, .iload 6, 2, 0, 0, 0), (248, .bipush 41, 2, 0, 0, 0), (250, .if_icmp .eq 5, 3, 0, 0, 0), (253, .iconst 0, 1, 0, 0, 0), (254, .ireturn, 1, 0, 0, 0)], 255),
  (255, [(255, .iinc 1 (-1), 3, 0, 0, 0), (258, .aload_n 0, 1, 0, 0, 0), (259, .getfield 31, 3, 7, 13, 621), (262, .aload_n 0, 1, 0, 0, 0), (263, .getfield 133, 3, 7, 14, 622), (266, .aload_n 0, 1, 0, 0, 0), (267, .getfield 34, 3, 7, 16, 624), (270, .iload_n 1, 1, 0, 0, 0), (271, .iaload, 1, 0, 0, 0), (272, .iastore, 1, 0, 0, 0), (273, .aload_n 0, 1, 0, 0, 0), (274, .dup, 1, 0, 0, 0), (275, .getfield 133, 3, 7, 14, 622), (278, .iconst 1, 1, 0, 0, 0), (279, .iadd, 1, 0, 0, 0), (280, .putfield 133, 3, 7, 14, 622), (283, .iconst 1, 1, 0, 0, 0), (284, .istore 7, 2, 0, 0, 0)], 286),
  (286, [(286, .iload 7, 2, 0, 0, 0), (288, .ifCond .eq 32, 3, 0, 0, 0), (291, .iload_n 1, 1, 0, 0, 0), (292, .ifCond .ne 7, 3, 0, 0, 0), (295, .iconst 1, 1, 0, 0, 0), (296, .goto 4, 3, 0, 0, 0)], 299),
  (299, [(299, .iconst 0, 1, 0, 0, 0)], 300),
  (300, [(300, .istore_n 3, 1, 0, 0, 0), (301, .iconst 2, 1, 0, 0, 0), (302, .istore 4, 2, 0, 0, 0), (304, .iload_n 3, 1, 0, 0, 0), (305, .ifCond .ne 15, 3, 0, 0, 0), (308, .aload_n 0, 1, 0, 0, 0), (309, .getfield 37, 3, 7, 17, 625), (312, .iload_n 1, 1, 0, 0, 0), (313, .iconst 1, 1, 0, 0, 0), (314, .isub, 1, 0, 0, 0), (315, .dup2, 1, 0, 0, 0), (316, .iaload, 1, 0, 0, 0), (317, .iconst 1, 1, 0, 0, 0), (318, .iadd, 1, 0, 0, 0), (319, .iastore, 1, 0, 0, 0)], 320),
  (320, [(320, .iinc 5 1, 3, 0, 0, 0), (323, .goto (-306), 3, 0, 0, 0)], 326),
  (326, [(326, .aload_n 0, 1, 0, 0, 0), (327, .aload_n 0, 1, 0, 0, 0), (328, .getfield 128, 3, 7, 10, 618), (331, .putfield 136, 3, 7, 15, 623), (334, .iload_n 3, 1, 0, 0, 0), (335, .ireturn, 1, 0, 0, 0)], 336)]
/-- 128: FewSignsModel.read(I)I -/
def zc_128 : List (Nat × List zE × Nat) := [(0, [(0, .aload_n 0, 1, 0, 0, 0), (1, .iconst 0, 1, 0, 0, 0), (2, .putfield 52, 3, 7, 0, 608), (5, .iload_n 1, 1, 0, 0, 0), (6, .iconst 0, 1, 0, 0, 0), (7, .iconst 3, 1, 0, 0, 0), (8, .invokestatic 56, 3, 89, 0, 676), (11, .ifCond .ne 5, 3, 0, 0, 0), (14, .iconst (-1), 1, 0, 0, 0), (15, .ireturn, 1, 0, 0, 0)], 16),
  (16, [(16, .aload_n 0, 1, 0, 0, 0), (17, .invokevirtual 139, 3, 127, 0, 818), (20, .ifCond .ne 11, 3, 0, 0, 0), (23, .bipush (-10), 2, 0, 0, 0), (25, .aload_n 0, 1, 0, 0, 0), (26, .getfield 136, 3, 7, 15, 623), (29, .isub, 1, 0, 0, 0), (30, .ireturn, 1, 0, 0, 0)], 31),
  (31, [(31, .iconst 0, 1, 0, 0, 0), (32, .istore_n 2, 1, 0, 0, 0)], 33),
  (33, [(33, .iload_n 2, 1, 0, 0, 0), (34, .aload_n 0, 1, 0, 0, 0), (35, .getfield 133, 3, 7, 14, 622), (38, .if_icmp .ge 26, 3, 0, 0, 0), (41, .aload_n 0, 1, 0, 0, 0), (42, .getfield 25, 3, 7, 11, 619), (45, .bipush 30, 2, 0, 0, 0), (47, .iload_n 1, 1, 0, 0, 0), (48, .imul, 1, 0, 0, 0), (49, .iload_n 2, 1, 0, 0, 0), (50, .iadd, 1, 0, 0, 0), (51, .aload_n 0, 1, 0, 0, 0), (52, .getfield 31, 3, 7, 13, 621), (55, .iload_n 2, 1, 0, 0, 0), (56, .iaload, 1, 0, 0, 0), (57, .iastore, 1, 0, 0, 0), (58, .iinc 2 1, 3, 0, 0, 0), (61, .goto (-28), 3, 0, 0, 0)], 64),
  (64, [(64, .aload_n 0, 1, 0, 0, 0), (65, .getfield 28, 3, 7, 12, 620), (68, .iload_n 1, 1, 0, 0, 0), (69, .aload_n 0, 1, 0, 0, 0), (70, .getfield 133, 3, 7, 14, 622), (73, .iastore, 1, 0, 0, 0), (74, .aload_n 0, 1, 0, 0, 0), (75, .iconst 0, 1, 0, 0, 0), (76, .putfield 128, 3, 7, 10, 618), (79, .aload_n 0, 1, 0, 0, 0), (80, .getfield 133, 3, 7, 14, 622), (83, .ireturn, 1, 0, 0, 0)], 84)]
/-- 129: FewSignsModel.judges(I)V -/
def zc_129 : List (Nat × List zE × Nat) := [(0, [(0, .iconst 0, 1, 0, 0, 0), (1, .istore_n 2, 1, 0, 0, 0), (2, .iconst 0, 1, 0, 0, 0), (3, .istore_n 3, 1, 0, 0, 0)], 4),
  (4, [(4, .iload_n 3, 1, 0, 0, 0), (5, .aload_n 0, 1, 0, 0, 0), (6, .getfield 28, 3, 7, 12, 620), (9, .iload_n 1, 1, 0, 0, 0), (10, .iaload, 1, 0, 0, 0), (11, .if_icmp .ge 242, 3, 0, 0, 0), (14, .aload_n 0, 1, 0, 0, 0), (15, .getfield 25, 3, 7, 11, 619), (18, .bipush 30, 2, 0, 0, 0), (20, .iload_n 1, 1, 0, 0, 0), (21, .imul, 1, 0, 0, 0), (22, .iload_n 3, 1, 0, 0, 0), (23, .iadd, 1, 0, 0, 0), (24, .iaload, 1, 0, 0, 0), (25, .istore 4, 2, 0, 0, 0), (27, .iload 4, 2, 0, 0, 0), (29, .bipush 120, 2, 0, 0, 0), (31, .if_icmp .lt 38, 3, 0, 0, 0), (34, .aload_n 0, 1, 0, 0, 0), (35, .getfield 40, 3, 7, 18, 626), (38, .iload_n 2, 1, 0, 0, 0), (39, .iconst 3, 1, 0, 0, 0), (40, .iload 4, 2, 0, 0, 0), (42, .bipush 120, 2, 0, 0, 0), (44, .isub, 1, 0, 0, 0), (45, .invokestatic 71, 3, 99, 0, 713), (48, .iastore, 1, 0, 0, 0), (49, .aload_n 0, 1, 0, 0, 0), (50, .getfield 43, 3, 7, 19, 627), (53, .iload_n 2, 1, 0, 0, 0), (54, .iconst 0, 1, 0, 0, 0), (55, .iastore, 1, 0, 0, 0), (56, .aload_n 0, 1, 0, 0, 0), (57, .getfield 46, 3, 7, 20, 628), (60, .iload_n 2, 1, 0, 0, 0), (61, .iconst 0, 1, 0, 0, 0), (62, .iastore, 1, 0, 0, 0), (63, .iinc 2 1, 3, 0, 0, 0), (66, .goto 181, 3, 0, 0, 0)], 69),
  (69, [(69, .iload 4, 2, 0, 0, 0), (71, .bipush 112, 2, 0, 0, 0), (73, .isub, 1, 0, 0, 0), (74, .istore 5, 2, 0, 0, 0), (76, .aload_n 0, 1, 0, 0, 0), (77, .getfield 7, 3, 7, 2, 610), (80, .iload 5, 2, 0, 0, 0), (82, .iaload, 1, 0, 0, 0), (83, .istore 6, 2, 0, 0, 0), (85, .iload_n 2, 1, 0, 0, 0), (86, .iload 6, 2, 0, 0, 0), (88, .isub, 1, 0, 0, 0), (89, .istore_n 2, 1, 0, 0, 0), (90, .aload_n 0, 1, 0, 0, 0), (91, .getfield 16, 3, 7, 4, 612), (94, .iload 5, 2, 0, 0, 0), (96, .iaload, 1, 0, 0, 0), (97, .istore 7, 2, 0, 0, 0), (99, .iconst 0, 1, 0, 0, 0), (100, .istore 8, 2, 0, 0, 0), (102, .iconst 0, 1, 0, 0, 0), (103, .istore 9, 2, 0, 0, 0)], 105),
  (105, [(105, .iload 9, 2, 0, 0, 0), (107, .iload 6, 2, 0, 0, 0), (109, .if_icmp .ge 53, 3, 0, 0, 0), (112, .iload 7, 2, 0, 0, 0), (114, .aload_n 0, 1, 0, 0, 0), (115, .getfield 43, 3, 7, 19, 627), (118, .iload_n 2, 1, 0, 0, 0), (119, .iload 9, 2, 0, 0, 0), (121, .iadd, 1, 0, 0, 0), (122, .iaload, 1, 0, 0, 0), (123, .iadd, 1, 0, 0, 0), (124, .istore 7, 2, 0, 0, 0), (126, .aload_n 0, 1, 0, 0, 0), (127, .getfield 46, 3, 7, 20, 628), (130, .iload_n 2, 1, 0, 0, 0), (131, .iload 9, 2, 0, 0, 0), (133, .iadd, 1, 0, 0, 0), (134, .iaload, 1, 0, 0, 0), (135, .iload 8, 2, 0, 0, 0), (137, .if_icmp .le 15, 3, 0, 0, 0), (140, .aload_n 0, 1, 0, 0, 0), (141, .getfield 46, 3, 7, 20, 628), (144, .iload_n 2, 1, 0, 0, 0), (145, .iload 9, 2, 0, 0, 0), (147, .iadd, 1, 0, 0, 0), (148, .iaload, 1, 0, 0, 0), (149, .goto 5, 3, 0, 0, 0)], 152),
  (152, [(152, .iload 8, 2, 0, 0, 0)], 154),
  (154, [(154, .istore 8, 2, 0, 0, 0), (156, .iinc 9 1, 3, 0, 0, 0), (159, .goto (-54), 3, 0, 0, 0)], 162),
  (162, [(162, .aload_n 0, 1, 0, 0, 0), (163, .getfield 40, 3, 7, 18, 626), (166, .iload_n 2, 1, 0, 0, 0), (167, .aload_n 0, 1, 0, 0, 0), (168, .iload 5, 2, 0, 0, 0), (170, .iconst 3, 1, 0, 0, 0), (171, .iload 6, 2, 0, 0, 0), (173, .ifCond .le 12, 3, 0, 0, 0), (176, .aload_n 0, 1, 0, 0, 0), (177, .getfield 40, 3, 7, 18, 626), (180, .iload_n 2, 1, 0, 0, 0), (181, .iaload, 1, 0, 0, 0), (182, .goto 4, 3, 0, 0, 0)], 185),
  (185, [(185, .iconst 0, 1, 0, 0, 0)], 186),
  (186, [(186, .iload 6, 2, 0, 0, 0), (188, .iconst 1, 1, 0, 0, 0), (189, .if_icmp .le 14, 3, 0, 0, 0), (192, .aload_n 0, 1, 0, 0, 0), (193, .getfield 40, 3, 7, 18, 626), (196, .iload_n 2, 1, 0, 0, 0), (197, .iconst 1, 1, 0, 0, 0), (198, .iadd, 1, 0, 0, 0), (199, .iaload, 1, 0, 0, 0), (200, .goto 4, 3, 0, 0, 0)], 203),
  (203, [(203, .iconst 0, 1, 0, 0, 0)], 204),
  (204, [(204, .iload 6, 2, 0, 0, 0), (206, .iconst 2, 1, 0, 0, 0), (207, .if_icmp .le 14, 3, 0, 0, 0), (210, .aload_n 0, 1, 0, 0, 0), (211, .getfield 40, 3, 7, 18, 626), (214, .iload_n 2, 1, 0, 0, 0), (215, .iconst 2, 1, 0, 0, 0), (216, .iadd, 1, 0, 0, 0), (217, .iaload, 1, 0, 0, 0), (218, .goto 4, 3, 0, 0, 0)], 221),
  (221, [(221, .iconst 0, 1, 0, 0, 0)], 222),
  (222, [(222, .invokevirtual 74, 3, 98, 0, 716), (225, .iastore, 1, 0, 0, 0), (226, .aload_n 0, 1, 0, 0, 0), (227, .getfield 43, 3, 7, 19, 627), (230, .iload_n 2, 1, 0, 0, 0), (231, .iload 7, 2, 0, 0, 0), (233, .iastore, 1, 0, 0, 0), (234, .aload_n 0, 1, 0, 0, 0), (235, .getfield 46, 3, 7, 20, 628), (238, .iload_n 2, 1, 0, 0, 0), (239, .iload 8, 2, 0, 0, 0), (241, .iconst 1, 1, 0, 0, 0), (242, .iadd, 1, 0, 0, 0), (243, .iastore, 1, 0, 0, 0), (244, .iinc 2 1, 3, 0, 0, 0)], 247),
  (247, [(247, .iinc 3 1, 3, 0, 0, 0), (250, .goto (-246), 3, 0, 0, 0)], 253),
  (253, [(253, .return_, 1, 0, 0, 0)], 254)]
/-- 130: FewSignsModel.otherHalf(I)I -/
def zc_130 : List (Nat × List zE × Nat) := [(0, [(0, .iconst 0, 1, 0, 0, 0), (1, .istore_n 1, 1, 0, 0, 0), (2, .iconst 0, 1, 0, 0, 0), (3, .istore_n 2, 1, 0, 0, 0)], 4),
  (4, [(4, .iload_n 2, 1, 0, 0, 0), (5, .bipush 8, 2, 0, 0, 0), (7, .if_icmp .ge 24, 3, 0, 0, 0), (10, .iload_n 1, 1, 0, 0, 0), (11, .iconst 1, 1, 0, 0, 0), (12, .iload_n 0, 1, 0, 0, 0), (13, .bipush 7, 2, 0, 0, 0), (15, .iload_n 2, 1, 0, 0, 0), (16, .isub, 1, 0, 0, 0), (17, .ishr, 1, 0, 0, 0), (18, .iconst 1, 1, 0, 0, 0), (19, .iand, 1, 0, 0, 0), (20, .isub, 1, 0, 0, 0), (21, .iload_n 2, 1, 0, 0, 0), (22, .ishl, 1, 0, 0, 0), (23, .ior, 1, 0, 0, 0), (24, .istore_n 1, 1, 0, 0, 0), (25, .iinc 2 1, 3, 0, 0, 0), (28, .goto (-24), 3, 0, 0, 0)], 31),
  (31, [(31, .iload_n 1, 1, 0, 0, 0), (32, .ireturn, 1, 0, 0, 0)], 33)]
/-- 131: FewSignsModel.matters(I)I -/
def zc_131 : List (Nat × List zE × Nat) := [(0, [(0, .iconst 0, 1, 0, 0, 0), (1, .istore_n 1, 1, 0, 0, 0), (2, .iconst 0, 1, 0, 0, 0), (3, .istore_n 2, 1, 0, 0, 0)], 4),
  (4, [(4, .iload_n 2, 1, 0, 0, 0), (5, .bipush 8, 2, 0, 0, 0), (7, .if_icmp .ge 49, 3, 0, 0, 0), (10, .iconst 0, 1, 0, 0, 0), (11, .istore_n 3, 1, 0, 0, 0)], 12),
  (12, [(12, .iload_n 3, 1, 0, 0, 0), (13, .iconst 3, 1, 0, 0, 0), (14, .if_icmp .ge 36, 3, 0, 0, 0), (17, .iload_n 1, 1, 0, 0, 0), (18, .iload_n 0, 1, 0, 0, 0), (19, .iload_n 2, 1, 0, 0, 0), (20, .ishr, 1, 0, 0, 0), (21, .iconst 1, 1, 0, 0, 0), (22, .iand, 1, 0, 0, 0), (23, .iload_n 0, 1, 0, 0, 0), (24, .iload_n 2, 1, 0, 0, 0), (25, .iconst 1, 1, 0, 0, 0), (26, .iload_n 3, 1, 0, 0, 0), (27, .ishl, 1, 0, 0, 0), (28, .ixor, 1, 0, 0, 0), (29, .ishr, 1, 0, 0, 0), (30, .iconst 1, 1, 0, 0, 0), (31, .iand, 1, 0, 0, 0), (32, .if_icmp .eq 9, 3, 0, 0, 0), (35, .iconst 1, 1, 0, 0, 0), (36, .iload_n 3, 1, 0, 0, 0), (37, .ishl, 1, 0, 0, 0), (38, .goto 4, 3, 0, 0, 0)], 41),
  (41, [(41, .iconst 0, 1, 0, 0, 0)], 42),
  (42, [(42, .ior, 1, 0, 0, 0), (43, .istore_n 1, 1, 0, 0, 0), (44, .iinc 3 1, 3, 0, 0, 0), (47, .goto (-35), 3, 0, 0, 0)], 50),
  (50, [(50, .iinc 2 1, 3, 0, 0, 0), (53, .goto (-49), 3, 0, 0, 0)], 56),
  (56, [(56, .iload_n 1, 1, 0, 0, 0), (57, .ireturn, 1, 0, 0, 0)], 58)]
/-- 132: FewSignsModel.tableOf(I)I -/
def zc_132 : List (Nat × List zE × Nat) := [(0, [(0, .aload_n 0, 1, 0, 0, 0), (1, .iload_n 1, 1, 0, 0, 0), (2, .invokevirtual 142, 3, 129, 0, 830), (5, .aload_n 0, 1, 0, 0, 0), (6, .getfield 40, 3, 7, 18, 626), (9, .iconst 0, 1, 0, 0, 0), (10, .iaload, 1, 0, 0, 0), (11, .ireturn, 1, 0, 0, 0)], 12)]
/-- 133: FewSignsModel.formula(II)I -/
def zc_133 : List (Nat × List zE × Nat) := [(0, [(0, .aload_n 0, 1, 0, 0, 0), (1, .iconst 0, 1, 0, 0, 0), (2, .putfield 52, 3, 7, 0, 608), (5, .iload_n 1, 1, 0, 0, 0), (6, .iconst 0, 1, 0, 0, 0), (7, .iconst 3, 1, 0, 0, 0), (8, .invokestatic 56, 3, 89, 0, 676), (11, .ifCond .eq 13, 3, 0, 0, 0), (14, .iload_n 2, 1, 0, 0, 0), (15, .iconst 0, 1, 0, 0, 0), (16, .bipush 7, 2, 0, 0, 0), (18, .invokestatic 56, 3, 89, 0, 676), (21, .ifCond .ne 5, 3, 0, 0, 0)], 24),
  (24, [(24, .iconst (-1), 1, 0, 0, 0), (25, .ireturn, 1, 0, 0, 0)], 26),
  (26, [(26, .aload_n 0, 1, 0, 0, 0), (27, .iload_n 1, 1, 0, 0, 0), (28, .invokevirtual 145, 3, 132, 0, 826), (31, .istore_n 3, 1, 0, 0, 0), (32, .iconst 0, 1, 0, 0, 0), (33, .istore 4, 2, 0, 0, 0), (35, .iconst 0, 1, 0, 0, 0), (36, .istore 5, 2, 0, 0, 0)], 38),
  (38, [(38, .iload 5, 2, 0, 0, 0), (40, .bipush 8, 2, 0, 0, 0), (42, .if_icmp .ge 20, 3, 0, 0, 0), (45, .iload 4, 2, 0, 0, 0), (47, .iload_n 3, 1, 0, 0, 0), (48, .iload 5, 2, 0, 0, 0), (50, .ishr, 1, 0, 0, 0), (51, .iconst 1, 1, 0, 0, 0), (52, .iand, 1, 0, 0, 0), (53, .iadd, 1, 0, 0, 0), (54, .istore 4, 2, 0, 0, 0), (56, .iinc 5 1, 3, 0, 0, 0), (59, .goto (-21), 3, 0, 0, 0)], 62),
  (62, [(62, .iload_n 2, 1, 0, 0, 0), (63, .tableswitch 77 0 6 #[41, 43, 50, 57, 64, 69, 74], 41, 0, 0, 0)], 104),
  (104, [(104, .iload_n 3, 1, 0, 0, 0), (105, .ireturn, 1, 0, 0, 0)], 106),
  (106, [(106, .aload_n 0, 1, 0, 0, 0), (107, .getfield 43, 3, 7, 19, 627), (110, .iconst 0, 1, 0, 0, 0), (111, .iaload, 1, 0, 0, 0), (112, .ireturn, 1, 0, 0, 0)], 113),
  (113, [(113, .aload_n 0, 1, 0, 0, 0), (114, .getfield 46, 3, 7, 20, 628), (117, .iconst 0, 1, 0, 0, 0), (118, .iaload, 1, 0, 0, 0), (119, .ireturn, 1, 0, 0, 0)], 120),
  (120, [(120, .aload_n 0, 1, 0, 0, 0), (121, .getfield 28, 3, 7, 12, 620), (124, .iload_n 1, 1, 0, 0, 0), (125, .iaload, 1, 0, 0, 0), (126, .ireturn, 1, 0, 0, 0)], 127),
  (127, [(127, .iload_n 3, 1, 0, 0, 0), (128, .invokestatic 148, 3, 131, 0, 834), (131, .ireturn, 1, 0, 0, 0)], 132),
  (132, [(132, .iload_n 3, 1, 0, 0, 0), (133, .invokestatic 151, 3, 130, 0, 837), (136, .ireturn, 1, 0, 0, 0)], 137),
  (137, [(137, .iload 4, 2, 0, 0, 0), (139, .ireturn, 1, 0, 0, 0)], 140),
  (140, [(140, .iconst 3, 1, 0, 0, 0), (141, .iload_n 3, 1, 0, 0, 0), (142, .invokestatic 67, 3, 94, 0, 690), (145, .ireturn, 1, 0, 0, 0)], 146)]
/-- 134: FewSignsModel.leastened(I)I -/
def zc_134 : List (Nat × List zE × Nat) := [(0, [(0, .aload_n 0, 1, 0, 0, 0), (1, .iconst 0, 1, 0, 0, 0), (2, .putfield 52, 3, 7, 0, 608), (5, .iload_n 1, 1, 0, 0, 0), (6, .iconst 0, 1, 0, 0, 0), (7, .iconst 3, 1, 0, 0, 0), (8, .invokestatic 56, 3, 89, 0, 676), (11, .ifCond .ne 5, 3, 0, 0, 0), (14, .iconst (-1), 1, 0, 0, 0), (15, .ireturn, 1, 0, 0, 0)], 16),
  (16, [(16, .aload_n 0, 1, 0, 0, 0), (17, .invokevirtual 78, 3, 97, 0, 705), (20, .ifCond .eq 6, 3, 0, 0, 0), (23, .bipush (-2), 2, 0, 0, 0), (25, .ireturn, 1, 0, 0, 0)], 26),
  (26, [(26, .aload_n 0, 1, 0, 0, 0), (27, .iload_n 1, 1, 0, 0, 0), (28, .invokevirtual 145, 3, 132, 0, 826), (31, .istore_n 2, 1, 0, 0, 0), (32, .aload_n 0, 1, 0, 0, 0), (33, .iconst 3, 1, 0, 0, 0), (34, .invokevirtual 85, 3, 100, 0, 709), (37, .aload_n 0, 1, 0, 0, 0), (38, .getfield 19, 3, 7, 5, 613), (41, .iload_n 2, 1, 0, 0, 0), (42, .iaload, 1, 0, 0, 0), (43, .ireturn, 1, 0, 0, 0)], 44)]
/-- 135: FewSignsModel.both(III)I -/
def zc_135 : List (Nat × List zE × Nat) := [(0, [(0, .aload_n 0, 1, 0, 0, 0), (1, .iconst 0, 1, 0, 0, 0), (2, .putfield 52, 3, 7, 0, 608), (5, .iload_n 1, 1, 0, 0, 0), (6, .iconst 0, 1, 0, 0, 0), (7, .iconst 3, 1, 0, 0, 0), (8, .invokestatic 56, 3, 89, 0, 676), (11, .ifCond .eq 21, 3, 0, 0, 0), (14, .iload_n 2, 1, 0, 0, 0), (15, .iconst 0, 1, 0, 0, 0), (16, .iconst 3, 1, 0, 0, 0), (17, .invokestatic 56, 3, 89, 0, 676), (20, .ifCond .eq 12, 3, 0, 0, 0), (23, .iload_n 3, 1, 0, 0, 0), (24, .iconst 0, 1, 0, 0, 0), (25, .iconst 2, 1, 0, 0, 0), (26, .invokestatic 56, 3, 89, 0, 676), (29, .ifCond .ne 5, 3, 0, 0, 0)], 32),
  (32, [(32, .iconst (-1), 1, 0, 0, 0), (33, .ireturn, 1, 0, 0, 0)], 34),
  (34, [(34, .aload_n 0, 1, 0, 0, 0), (35, .iload_n 1, 1, 0, 0, 0), (36, .invokevirtual 145, 3, 132, 0, 826), (39, .istore 4, 2, 0, 0, 0), (41, .aload_n 0, 1, 0, 0, 0), (42, .iload_n 2, 1, 0, 0, 0), (43, .invokevirtual 145, 3, 132, 0, 826), (46, .istore 5, 2, 0, 0, 0), (48, .iload_n 3, 1, 0, 0, 0), (49, .ifCond .ne 18, 3, 0, 0, 0), (52, .iload 4, 2, 0, 0, 0), (54, .iload 5, 2, 0, 0, 0), (56, .if_icmp .ne 7, 3, 0, 0, 0), (59, .iconst 1, 1, 0, 0, 0), (60, .goto 45, 3, 0, 0, 0)], 63),
  (63, [(63, .iconst 0, 1, 0, 0, 0), (64, .goto 41, 3, 0, 0, 0)], 67),
  (67, [(67, .iload_n 3, 1, 0, 0, 0), (68, .iconst 1, 1, 0, 0, 0), (69, .if_icmp .ne 21, 3, 0, 0, 0), (72, .iload 4, 2, 0, 0, 0), (74, .iload 5, 2, 0, 0, 0), (76, .iconst (-1), 1, 0, 0, 0), (77, .ixor, 1, 0, 0, 0), (78, .iand, 1, 0, 0, 0), (79, .ifCond .ne 7, 3, 0, 0, 0), (82, .iconst 1, 1, 0, 0, 0), (83, .goto 22, 3, 0, 0, 0)], 86),
  (86, [(86, .iconst 0, 1, 0, 0, 0), (87, .goto 18, 3, 0, 0, 0)], 90),
  (90, [(90, .iload 4, 2, 0, 0, 0), (92, .iload 5, 2, 0, 0, 0), (94, .invokestatic 151, 3, 130, 0, 837), (97, .if_icmp .ne 7, 3, 0, 0, 0), (100, .iconst 1, 1, 0, 0, 0), (101, .goto 4, 3, 0, 0, 0)], 104),
  (104, [(104, .iconst 0, 1, 0, 0, 0)], 105),
  (105, [(105, .istore 6, 2, 0, 0, 0), (107, .iload 6, 2, 0, 0, 0), (109, .ifCond .eq 7, 3, 0, 0, 0), (112, .iconst 1, 1, 0, 0, 0), (113, .goto 4, 3, 0, 0, 0)], 116),
  (116, [(116, .iconst 0, 1, 0, 0, 0)], 117),
  (117, [(117, .ireturn, 1, 0, 0, 0)], 118)]
/-- 136: FewSignsModel.count(I)I -/
def zc_136 : List (Nat × List zE × Nat) := [(0, [(0, .aload_n 0, 1, 0, 0, 0), (1, .iconst 0, 1, 0, 0, 0), (2, .putfield 52, 3, 7, 0, 608), (5, .iconst 0, 1, 0, 0, 0), (6, .istore_n 2, 1, 0, 0, 0), (7, .iconst 0, 1, 0, 0, 0), (8, .istore_n 3, 1, 0, 0, 0)], 9),
  (9, [(9, .iload_n 3, 1, 0, 0, 0), (10, .aload_n 0, 1, 0, 0, 0), (11, .getfield 64, 3, 7, 1, 609), (14, .if_icmp .ge 27, 3, 0, 0, 0), (17, .iload_n 2, 1, 0, 0, 0), (18, .aload_n 0, 1, 0, 0, 0), (19, .getfield 7, 3, 7, 2, 610), (22, .iload_n 3, 1, 0, 0, 0), (23, .iaload, 1, 0, 0, 0), (24, .iconst 3, 1, 0, 0, 0), (25, .if_icmp .ne 7, 3, 0, 0, 0), (28, .iconst 1, 1, 0, 0, 0), (29, .goto 4, 3, 0, 0, 0)], 32),
  (32, [(32, .iconst 0, 1, 0, 0, 0)], 33),
  (33, [(33, .iadd, 1, 0, 0, 0), (34, .istore_n 2, 1, 0, 0, 0), (35, .iinc 3 1, 3, 0, 0, 0), (38, .goto (-29), 3, 0, 0, 0)], 41),
  (41, [(41, .iload_n 1, 1, 0, 0, 0), (42, .ifCond .ne 10, 3, 0, 0, 0), (45, .aload_n 0, 1, 0, 0, 0), (46, .getfield 64, 3, 7, 1, 609), (49, .goto 25, 3, 0, 0, 0)], 52),
  (52, [(52, .iload_n 1, 1, 0, 0, 0), (53, .iconst 1, 1, 0, 0, 0), (54, .if_icmp .ne 7, 3, 0, 0, 0), (57, .iload_n 2, 1, 0, 0, 0), (58, .goto 16, 3, 0, 0, 0)], 61),
  (61, [(61, .iload_n 1, 1, 0, 0, 0), (62, .iconst 2, 1, 0, 0, 0), (63, .if_icmp .ne 10, 3, 0, 0, 0), (66, .aload_n 0, 1, 0, 0, 0), (67, .getfield 128, 3, 7, 10, 618), (70, .goto 4, 3, 0, 0, 0)], 73),
  (73, [(73, .iconst (-1), 1, 0, 0, 0)], 74),
  (74, [(74, .ireturn, 1, 0, 0, 0)], 75)]
/-- 137: FewSignsLaw.law([I)Z -/
def zc_137 : List (Nat × List zE × Nat) := [(16, [(16, .iconst 0, 1, 0, 0, 0), (17, .istore_n 3, 1, 0, 0, 0)], 18),
  (18, [(18, .iload_n 3, 1, 0, 0, 0), (19, .aload_n 0, 1, 0, 0, 0), (20, .arraylength, 1, 0, 0, 0), (21, .iconst 4, 1, 0, 0, 0), (22, .isub, 1, 0, 0, 0), (23, .if_icmp .gt 896, 3, 0, 0, 0), (26, .aload_n 0, 1, 0, 0, 0), (27, .iload_n 3, 1, 0, 0, 0), (28, .iaload, 1, 0, 0, 0), (29, .bipush 31, 2, 0, 0, 0), (31, .iand, 1, 0, 0, 0), (32, .tableswitch 881 0 24 #[116, 159, 172, 205, 238, 261, 294, 337, 370, 403, 426, 449, 472, 495, 538, 571, 604, 637, 660, 723, 736, 759, 792, 815, 858], 116, 0, 0, 0)], 148),
  (148, [(148, .aload_n 1, 1, 0, 0, 0), (149, .aload_n 0, 1, 0, 0, 0), (150, .iload_n 3, 1, 0, 0, 0), (151, .iconst 1, 1, 0, 0, 0), (152, .iadd, 1, 0, 0, 0), (153, .iaload, 1, 0, 0, 0), (154, .aload_n 0, 1, 0, 0, 0), (155, .iload_n 3, 1, 0, 0, 0), (156, .iconst 2, 1, 0, 0, 0), (157, .iadd, 1, 0, 0, 0), (158, .iaload, 1, 0, 0, 0), (159, .aload_n 0, 1, 0, 0, 0), (160, .iload_n 3, 1, 0, 0, 0), (161, .iconst 3, 1, 0, 0, 0), (162, .iadd, 1, 0, 0, 0), (163, .iaload, 1, 0, 0, 0), (164, .invokevirtual 13, 3, 56, 0, 257), (167, .aload_n 2, 1, 0, 0, 0), (168, .aload_n 0, 1, 0, 0, 0), (169, .iload_n 3, 1, 0, 0, 0), (170, .iconst 1, 1, 0, 0, 0), (171, .iadd, 1, 0, 0, 0), (172, .iaload, 1, 0, 0, 0), (173, .aload_n 0, 1, 0, 0, 0), (174, .iload_n 3, 1, 0, 0, 0), (175, .iconst 2, 1, 0, 0, 0), (176, .iadd, 1, 0, 0, 0), (177, .iaload, 1, 0, 0, 0), (178, .aload_n 0, 1, 0, 0, 0), (179, .iload_n 3, 1, 0, 0, 0), (180, .iconst 3, 1, 0, 0, 0), (181, .iadd, 1, 0, 0, 0), (182, .iaload, 1, 0, 0, 0), (183, .invokevirtual 17, 3, 92, 0, 672), (186, .if_icmp .eq 727, 3, 0, 0, 0), (189, .iconst 0, 1, 0, 0, 0), (190, .ireturn, 1, 0, 0, 0)], 191),
  (191, [(191, .aload_n 1, 1, 0, 0, 0), (192, .invokevirtual 18, 3, 57, 0, 294), (195, .aload_n 2, 1, 0, 0, 0), (196, .invokevirtual 22, 3, 93, 0, 682), (199, .if_icmp .eq 714, 3, 0, 0, 0), (202, .iconst 0, 1, 0, 0, 0), (203, .ireturn, 1, 0, 0, 0)], 204),
  (204, [(204, .aload_n 1, 1, 0, 0, 0), (205, .aload_n 0, 1, 0, 0, 0), (206, .iload_n 3, 1, 0, 0, 0), (207, .iconst 1, 1, 0, 0, 0), (208, .iadd, 1, 0, 0, 0), (209, .iaload, 1, 0, 0, 0), (210, .aload_n 0, 1, 0, 0, 0), (211, .iload_n 3, 1, 0, 0, 0), (212, .iconst 2, 1, 0, 0, 0), (213, .iadd, 1, 0, 0, 0), (214, .iaload, 1, 0, 0, 0), (215, .invokevirtual 23, 3, 58, 0, 298), (218, .aload_n 2, 1, 0, 0, 0), (219, .aload_n 0, 1, 0, 0, 0), (220, .iload_n 3, 1, 0, 0, 0), (221, .iconst 1, 1, 0, 0, 0), (222, .iadd, 1, 0, 0, 0), (223, .iaload, 1, 0, 0, 0), (224, .aload_n 0, 1, 0, 0, 0), (225, .iload_n 3, 1, 0, 0, 0), (226, .iconst 2, 1, 0, 0, 0), (227, .iadd, 1, 0, 0, 0), (228, .iaload, 1, 0, 0, 0), (229, .invokevirtual 27, 3, 95, 0, 686), (232, .if_icmp .eq 681, 3, 0, 0, 0), (235, .iconst 0, 1, 0, 0, 0), (236, .ireturn, 1, 0, 0, 0)], 237),
  (237, [(237, .aload_n 1, 1, 0, 0, 0), (238, .aload_n 0, 1, 0, 0, 0), (239, .iload_n 3, 1, 0, 0, 0), (240, .iconst 1, 1, 0, 0, 0), (241, .iadd, 1, 0, 0, 0), (242, .iaload, 1, 0, 0, 0), (243, .aload_n 0, 1, 0, 0, 0), (244, .iload_n 3, 1, 0, 0, 0), (245, .iconst 2, 1, 0, 0, 0), (246, .iadd, 1, 0, 0, 0), (247, .iaload, 1, 0, 0, 0), (248, .invokevirtual 28, 3, 59, 0, 306), (251, .aload_n 2, 1, 0, 0, 0), (252, .aload_n 0, 1, 0, 0, 0), (253, .iload_n 3, 1, 0, 0, 0), (254, .iconst 1, 1, 0, 0, 0), (255, .iadd, 1, 0, 0, 0), (256, .iaload, 1, 0, 0, 0), (257, .aload_n 0, 1, 0, 0, 0), (258, .iload_n 3, 1, 0, 0, 0), (259, .iconst 2, 1, 0, 0, 0), (260, .iadd, 1, 0, 0, 0), (261, .iaload, 1, 0, 0, 0), (262, .invokevirtual 31, 3, 96, 0, 693), (265, .if_icmp .eq 648, 3, 0, 0, 0), (268, .iconst 0, 1, 0, 0, 0), (269, .ireturn, 1, 0, 0, 0)], 270),
  (270, [(270, .aload_n 1, 1, 0, 0, 0), (271, .aload_n 0, 1, 0, 0, 0), (272, .iload_n 3, 1, 0, 0, 0), (273, .iconst 1, 1, 0, 0, 0), (274, .iadd, 1, 0, 0, 0), (275, .iaload, 1, 0, 0, 0), (276, .invokevirtual 32, 3, 60, 0, 311), (279, .aload_n 2, 1, 0, 0, 0), (280, .aload_n 0, 1, 0, 0, 0), (281, .iload_n 3, 1, 0, 0, 0), (282, .iconst 1, 1, 0, 0, 0), (283, .iadd, 1, 0, 0, 0), (284, .iaload, 1, 0, 0, 0), (285, .invokevirtual 36, 3, 102, 0, 697), (288, .if_icmp .eq 625, 3, 0, 0, 0), (291, .iconst 0, 1, 0, 0, 0), (292, .ireturn, 1, 0, 0, 0)], 293),
  (293, [(293, .aload_n 1, 1, 0, 0, 0), (294, .aload_n 0, 1, 0, 0, 0), (295, .iload_n 3, 1, 0, 0, 0), (296, .iconst 1, 1, 0, 0, 0), (297, .iadd, 1, 0, 0, 0), (298, .iaload, 1, 0, 0, 0), (299, .aload_n 0, 1, 0, 0, 0), (300, .iload_n 3, 1, 0, 0, 0), (301, .iconst 2, 1, 0, 0, 0), (302, .iadd, 1, 0, 0, 0), (303, .iaload, 1, 0, 0, 0), (304, .invokevirtual 37, 3, 61, 0, 376), (307, .aload_n 2, 1, 0, 0, 0), (308, .aload_n 0, 1, 0, 0, 0), (309, .iload_n 3, 1, 0, 0, 0), (310, .iconst 1, 1, 0, 0, 0), (311, .iadd, 1, 0, 0, 0), (312, .iaload, 1, 0, 0, 0), (313, .aload_n 0, 1, 0, 0, 0), (314, .iload_n 3, 1, 0, 0, 0), (315, .iconst 2, 1, 0, 0, 0), (316, .iadd, 1, 0, 0, 0), (317, .iaload, 1, 0, 0, 0), (318, .invokevirtual 40, 3, 103, 0, 720), (321, .if_icmp .eq 592, 3, 0, 0, 0), (324, .iconst 0, 1, 0, 0, 0), (325, .ireturn, 1, 0, 0, 0)], 326),
  (326, [(326, .aload_n 1, 1, 0, 0, 0), (327, .aload_n 0, 1, 0, 0, 0), (328, .iload_n 3, 1, 0, 0, 0), (329, .iconst 1, 1, 0, 0, 0), (330, .iadd, 1, 0, 0, 0), (331, .iaload, 1, 0, 0, 0), (332, .aload_n 0, 1, 0, 0, 0), (333, .iload_n 3, 1, 0, 0, 0), (334, .iconst 2, 1, 0, 0, 0), (335, .iadd, 1, 0, 0, 0), (336, .iaload, 1, 0, 0, 0), (337, .aload_n 0, 1, 0, 0, 0), (338, .iload_n 3, 1, 0, 0, 0), (339, .iconst 3, 1, 0, 0, 0), (340, .iadd, 1, 0, 0, 0), (341, .iaload, 1, 0, 0, 0), (342, .invokevirtual 41, 3, 62, 0, 388), (345, .aload_n 2, 1, 0, 0, 0), (346, .aload_n 0, 1, 0, 0, 0), (347, .iload_n 3, 1, 0, 0, 0), (348, .iconst 1, 1, 0, 0, 0), (349, .iadd, 1, 0, 0, 0), (350, .iaload, 1, 0, 0, 0), (351, .aload_n 0, 1, 0, 0, 0), (352, .iload_n 3, 1, 0, 0, 0), (353, .iconst 2, 1, 0, 0, 0), (354, .iadd, 1, 0, 0, 0), (355, .iaload, 1, 0, 0, 0), (356, .aload_n 0, 1, 0, 0, 0), (357, .iload_n 3, 1, 0, 0, 0), (358, .iconst 3, 1, 0, 0, 0), (359, .iadd, 1, 0, 0, 0), (360, .iaload, 1, 0, 0, 0), (361, .invokevirtual 44, 3, 105, 0, 724), (364, .if_icmp .eq 549, 3, 0, 0, 0), (367, .iconst 0, 1, 0, 0, 0), (368, .ireturn, 1, 0, 0, 0)], 369),
  (369, [(369, .aload_n 1, 1, 0, 0, 0), (370, .aload_n 0, 1, 0, 0, 0), (371, .iload_n 3, 1, 0, 0, 0), (372, .iconst 1, 1, 0, 0, 0), (373, .iadd, 1, 0, 0, 0), (374, .iaload, 1, 0, 0, 0), (375, .aload_n 0, 1, 0, 0, 0), (376, .iload_n 3, 1, 0, 0, 0), (377, .iconst 2, 1, 0, 0, 0), (378, .iadd, 1, 0, 0, 0), (379, .iaload, 1, 0, 0, 0), (380, .invokevirtual 45, 3, 63, 0, 402), (383, .aload_n 2, 1, 0, 0, 0), (384, .aload_n 0, 1, 0, 0, 0), (385, .iload_n 3, 1, 0, 0, 0), (386, .iconst 1, 1, 0, 0, 0), (387, .iadd, 1, 0, 0, 0), (388, .iaload, 1, 0, 0, 0), (389, .aload_n 0, 1, 0, 0, 0), (390, .iload_n 3, 1, 0, 0, 0), (391, .iconst 2, 1, 0, 0, 0), (392, .iadd, 1, 0, 0, 0), (393, .iaload, 1, 0, 0, 0), (394, .invokevirtual 48, 3, 106, 0, 732), (397, .if_icmp .eq 516, 3, 0, 0, 0), (400, .iconst 0, 1, 0, 0, 0), (401, .ireturn, 1, 0, 0, 0)], 402),
  (402, [(402, .aload_n 1, 1, 0, 0, 0), (403, .aload_n 0, 1, 0, 0, 0), (404, .iload_n 3, 1, 0, 0, 0), (405, .iconst 1, 1, 0, 0, 0), (406, .iadd, 1, 0, 0, 0), (407, .iaload, 1, 0, 0, 0), (408, .aload_n 0, 1, 0, 0, 0), (409, .iload_n 3, 1, 0, 0, 0), (410, .iconst 2, 1, 0, 0, 0), (411, .iadd, 1, 0, 0, 0), (412, .iaload, 1, 0, 0, 0), (413, .invokevirtual 49, 3, 64, 0, 421), (416, .aload_n 2, 1, 0, 0, 0), (417, .aload_n 0, 1, 0, 0, 0), (418, .iload_n 3, 1, 0, 0, 0), (419, .iconst 1, 1, 0, 0, 0), (420, .iadd, 1, 0, 0, 0), (421, .iaload, 1, 0, 0, 0), (422, .aload_n 0, 1, 0, 0, 0), (423, .iload_n 3, 1, 0, 0, 0), (424, .iconst 2, 1, 0, 0, 0), (425, .iadd, 1, 0, 0, 0), (426, .iaload, 1, 0, 0, 0), (427, .invokevirtual 52, 3, 107, 0, 736), (430, .if_icmp .eq 483, 3, 0, 0, 0), (433, .iconst 0, 1, 0, 0, 0), (434, .ireturn, 1, 0, 0, 0)], 435),
  (435, [(435, .aload_n 1, 1, 0, 0, 0), (436, .aload_n 0, 1, 0, 0, 0), (437, .iload_n 3, 1, 0, 0, 0), (438, .iconst 1, 1, 0, 0, 0), (439, .iadd, 1, 0, 0, 0), (440, .iaload, 1, 0, 0, 0), (441, .invokevirtual 53, 3, 65, 0, 429), (444, .aload_n 2, 1, 0, 0, 0), (445, .aload_n 0, 1, 0, 0, 0), (446, .iload_n 3, 1, 0, 0, 0), (447, .iconst 1, 1, 0, 0, 0), (448, .iadd, 1, 0, 0, 0), (449, .iaload, 1, 0, 0, 0), (450, .invokevirtual 56, 3, 110, 0, 740), (453, .if_icmp .eq 460, 3, 0, 0, 0), (456, .iconst 0, 1, 0, 0, 0), (457, .ireturn, 1, 0, 0, 0)], 458),
  (458, [(458, .aload_n 1, 1, 0, 0, 0), (459, .aload_n 0, 1, 0, 0, 0), (460, .iload_n 3, 1, 0, 0, 0), (461, .iconst 1, 1, 0, 0, 0), (462, .iadd, 1, 0, 0, 0), (463, .iaload, 1, 0, 0, 0), (464, .invokevirtual 57, 3, 66, 0, 445), (467, .aload_n 2, 1, 0, 0, 0), (468, .aload_n 0, 1, 0, 0, 0), (469, .iload_n 3, 1, 0, 0, 0), (470, .iconst 1, 1, 0, 0, 0), (471, .iadd, 1, 0, 0, 0), (472, .iaload, 1, 0, 0, 0), (473, .invokevirtual 60, 3, 111, 0, 752), (476, .if_icmp .eq 437, 3, 0, 0, 0), (479, .iconst 0, 1, 0, 0, 0), (480, .ireturn, 1, 0, 0, 0)], 481),
  (481, [(481, .aload_n 1, 1, 0, 0, 0), (482, .aload_n 0, 1, 0, 0, 0), (483, .iload_n 3, 1, 0, 0, 0), (484, .iconst 1, 1, 0, 0, 0), (485, .iadd, 1, 0, 0, 0), (486, .iaload, 1, 0, 0, 0), (487, .invokevirtual 61, 3, 67, 0, 450), (490, .aload_n 2, 1, 0, 0, 0), (491, .aload_n 0, 1, 0, 0, 0), (492, .iload_n 3, 1, 0, 0, 0), (493, .iconst 1, 1, 0, 0, 0), (494, .iadd, 1, 0, 0, 0), (495, .iaload, 1, 0, 0, 0), (496, .invokevirtual 64, 3, 113, 0, 756), (499, .if_icmp .eq 414, 3, 0, 0, 0), (502, .iconst 0, 1, 0, 0, 0), (503, .ireturn, 1, 0, 0, 0)], 504),
  (504, [(504, .aload_n 1, 1, 0, 0, 0), (505, .aload_n 0, 1, 0, 0, 0), (506, .iload_n 3, 1, 0, 0, 0), (507, .iconst 1, 1, 0, 0, 0), (508, .iadd, 1, 0, 0, 0), (509, .iaload, 1, 0, 0, 0), (510, .invokevirtual 65, 3, 68, 0, 459), (513, .aload_n 2, 1, 0, 0, 0), (514, .aload_n 0, 1, 0, 0, 0), (515, .iload_n 3, 1, 0, 0, 0), (516, .iconst 1, 1, 0, 0, 0), (517, .iadd, 1, 0, 0, 0), (518, .iaload, 1, 0, 0, 0), (519, .invokevirtual 68, 3, 114, 0, 764), (522, .if_icmp .eq 391, 3, 0, 0, 0), (525, .iconst 0, 1, 0, 0, 0), (526, .ireturn, 1, 0, 0, 0)], 527),
  (527, [(527, .aload_n 1, 1, 0, 0, 0), (528, .aload_n 0, 1, 0, 0, 0), (529, .iload_n 3, 1, 0, 0, 0), (530, .iconst 1, 1, 0, 0, 0), (531, .iadd, 1, 0, 0, 0), (532, .iaload, 1, 0, 0, 0), (533, .aload_n 0, 1, 0, 0, 0), (534, .iload_n 3, 1, 0, 0, 0), (535, .iconst 2, 1, 0, 0, 0), (536, .iadd, 1, 0, 0, 0), (537, .iaload, 1, 0, 0, 0), (538, .aload_n 0, 1, 0, 0, 0), (539, .iload_n 3, 1, 0, 0, 0), (540, .iconst 3, 1, 0, 0, 0), (541, .iadd, 1, 0, 0, 0), (542, .iaload, 1, 0, 0, 0), (543, .invokevirtual 69, 3, 69, 0, 463), (546, .aload_n 2, 1, 0, 0, 0), (547, .aload_n 0, 1, 0, 0, 0), (548, .iload_n 3, 1, 0, 0, 0), (549, .iconst 1, 1, 0, 0, 0), (550, .iadd, 1, 0, 0, 0), (551, .iaload, 1, 0, 0, 0), (552, .aload_n 0, 1, 0, 0, 0), (553, .iload_n 3, 1, 0, 0, 0), (554, .iconst 2, 1, 0, 0, 0), (555, .iadd, 1, 0, 0, 0), (556, .iaload, 1, 0, 0, 0), (557, .aload_n 0, 1, 0, 0, 0), (558, .iload_n 3, 1, 0, 0, 0), (559, .iconst 3, 1, 0, 0, 0), (560, .iadd, 1, 0, 0, 0), (561, .iaload, 1, 0, 0, 0), (562, .invokevirtual 72, 3, 119, 0, 768), (565, .if_icmp .eq 348, 3, 0, 0, 0), (568, .iconst 0, 1, 0, 0, 0), (569, .ireturn, 1, 0, 0, 0)], 570),
  (570, [(570, .aload_n 1, 1, 0, 0, 0), (571, .aload_n 0, 1, 0, 0, 0), (572, .iload_n 3, 1, 0, 0, 0), (573, .iconst 1, 1, 0, 0, 0), (574, .iadd, 1, 0, 0, 0), (575, .iaload, 1, 0, 0, 0), (576, .aload_n 0, 1, 0, 0, 0), (577, .iload_n 3, 1, 0, 0, 0), (578, .iconst 2, 1, 0, 0, 0), (579, .iadd, 1, 0, 0, 0), (580, .iaload, 1, 0, 0, 0), (581, .invokevirtual 73, 3, 70, 0, 484), (584, .aload_n 2, 1, 0, 0, 0), (585, .aload_n 0, 1, 0, 0, 0), (586, .iload_n 3, 1, 0, 0, 0), (587, .iconst 1, 1, 0, 0, 0), (588, .iadd, 1, 0, 0, 0), (589, .iaload, 1, 0, 0, 0), (590, .aload_n 0, 1, 0, 0, 0), (591, .iload_n 3, 1, 0, 0, 0), (592, .iconst 2, 1, 0, 0, 0), (593, .iadd, 1, 0, 0, 0), (594, .iaload, 1, 0, 0, 0), (595, .invokevirtual 76, 3, 121, 0, 785), (598, .if_icmp .eq 315, 3, 0, 0, 0), (601, .iconst 0, 1, 0, 0, 0), (602, .ireturn, 1, 0, 0, 0)], 603),
  (603, [(603, .aload_n 1, 1, 0, 0, 0), (604, .aload_n 0, 1, 0, 0, 0), (605, .iload_n 3, 1, 0, 0, 0), (606, .iconst 1, 1, 0, 0, 0), (607, .iadd, 1, 0, 0, 0), (608, .iaload, 1, 0, 0, 0), (609, .aload_n 0, 1, 0, 0, 0), (610, .iload_n 3, 1, 0, 0, 0), (611, .iconst 2, 1, 0, 0, 0), (612, .iadd, 1, 0, 0, 0), (613, .iaload, 1, 0, 0, 0), (614, .invokevirtual 77, 3, 71, 0, 488), (617, .aload_n 2, 1, 0, 0, 0), (618, .aload_n 0, 1, 0, 0, 0), (619, .iload_n 3, 1, 0, 0, 0), (620, .iconst 1, 1, 0, 0, 0), (621, .iadd, 1, 0, 0, 0), (622, .iaload, 1, 0, 0, 0), (623, .aload_n 0, 1, 0, 0, 0), (624, .iload_n 3, 1, 0, 0, 0), (625, .iconst 2, 1, 0, 0, 0), (626, .iadd, 1, 0, 0, 0), (627, .iaload, 1, 0, 0, 0), (628, .invokevirtual 80, 3, 122, 0, 793), (631, .if_icmp .eq 282, 3, 0, 0, 0), (634, .iconst 0, 1, 0, 0, 0), (635, .ireturn, 1, 0, 0, 0)], 636),
  (636, [(636, .aload_n 1, 1, 0, 0, 0), (637, .aload_n 0, 1, 0, 0, 0), (638, .iload_n 3, 1, 0, 0, 0), (639, .iconst 1, 1, 0, 0, 0), (640, .iadd, 1, 0, 0, 0), (641, .iaload, 1, 0, 0, 0), (642, .aload_n 0, 1, 0, 0, 0), (643, .iload_n 3, 1, 0, 0, 0), (644, .iconst 2, 1, 0, 0, 0), (645, .iadd, 1, 0, 0, 0), (646, .iaload, 1, 0, 0, 0), (647, .invokevirtual 81, 3, 72, 0, 497), (650, .aload_n 2, 1, 0, 0, 0), (651, .aload_n 0, 1, 0, 0, 0), (652, .iload_n 3, 1, 0, 0, 0), (653, .iconst 1, 1, 0, 0, 0), (654, .iadd, 1, 0, 0, 0), (655, .iaload, 1, 0, 0, 0), (656, .aload_n 0, 1, 0, 0, 0), (657, .iload_n 3, 1, 0, 0, 0), (658, .iconst 2, 1, 0, 0, 0), (659, .iadd, 1, 0, 0, 0), (660, .iaload, 1, 0, 0, 0), (661, .invokevirtual 84, 3, 123, 0, 797), (664, .if_icmp .eq 249, 3, 0, 0, 0), (667, .iconst 0, 1, 0, 0, 0), (668, .ireturn, 1, 0, 0, 0)], 669),
  (669, [(669, .aload_n 1, 1, 0, 0, 0), (670, .aload_n 0, 1, 0, 0, 0), (671, .iload_n 3, 1, 0, 0, 0), (672, .iconst 1, 1, 0, 0, 0), (673, .iadd, 1, 0, 0, 0), (674, .iaload, 1, 0, 0, 0), (675, .invokevirtual 85, 3, 73, 0, 507), (678, .aload_n 2, 1, 0, 0, 0), (679, .aload_n 0, 1, 0, 0, 0), (680, .iload_n 3, 1, 0, 0, 0), (681, .iconst 1, 1, 0, 0, 0), (682, .iadd, 1, 0, 0, 0), (683, .iaload, 1, 0, 0, 0), (684, .invokevirtual 88, 3, 124, 0, 801), (687, .if_icmp .eq 226, 3, 0, 0, 0), (690, .iconst 0, 1, 0, 0, 0), (691, .ireturn, 1, 0, 0, 0)], 692),
  (692, [(692, .aload_n 1, 1, 0, 0, 0), (693, .aload_n 0, 1, 0, 0, 0), (694, .iload_n 3, 1, 0, 0, 0), (695, .iconst 1, 1, 0, 0, 0), (696, .iadd, 1, 0, 0, 0), (697, .iaload, 1, 0, 0, 0), (698, .i2l, 1, 0, 0, 0), (699, .bipush 32, 2, 0, 0, 0), (701, .lshl, 1, 0, 0, 0), (702, .aload_n 0, 1, 0, 0, 0), (703, .iload_n 3, 1, 0, 0, 0), (704, .iconst 2, 1, 0, 0, 0), (705, .iadd, 1, 0, 0, 0), (706, .iaload, 1, 0, 0, 0), (707, .i2l, 1, 0, 0, 0), (708, .ldc2_w 89, 3, 4294967295, 0, 852), (711, .land, 1, 0, 0, 0), (712, .lor, 1, 0, 0, 0), (713, .aload_n 0, 1, 0, 0, 0), (714, .iload_n 3, 1, 0, 0, 0), (715, .iconst 3, 1, 0, 0, 0), (716, .iadd, 1, 0, 0, 0), (717, .iaload, 1, 0, 0, 0), (718, .invokevirtual 91, 3, 74, 0, 521), (721, .aload_n 2, 1, 0, 0, 0), (722, .aload_n 0, 1, 0, 0, 0), (723, .iload_n 3, 1, 0, 0, 0), (724, .iconst 1, 1, 0, 0, 0), (725, .iadd, 1, 0, 0, 0), (726, .iaload, 1, 0, 0, 0), (727, .i2l, 1, 0, 0, 0), (728, .bipush 32, 2, 0, 0, 0), (730, .lshl, 1, 0, 0, 0), (731, .aload_n 0, 1, 0, 0, 0), (732, .iload_n 3, 1, 0, 0, 0), (733, .iconst 2, 1, 0, 0, 0), (734, .iadd, 1, 0, 0, 0), (735, .iaload, 1, 0, 0, 0), (736, .i2l, 1, 0, 0, 0), (737, .ldc2_w 89, 3, 4294967295, 0, 852), (740, .land, 1, 0, 0, 0), (741, .lor, 1, 0, 0, 0), (742, .aload_n 0, 1, 0, 0, 0), (743, .iload_n 3, 1, 0, 0, 0), (744, .iconst 3, 1, 0, 0, 0), (745, .iadd, 1, 0, 0, 0), (746, .iaload, 1, 0, 0, 0), (747, .invokevirtual 95, 3, 125, 0, 805), (750, .if_icmp .eq 163, 3, 0, 0, 0), (753, .iconst 0, 1, 0, 0, 0), (754, .ireturn, 1, 0, 0, 0)], 755),
  (755, [(755, .aload_n 1, 1, 0, 0, 0), (756, .invokevirtual 96, 3, 75, 0, 533), (759, .aload_n 2, 1, 0, 0, 0), (760, .invokevirtual 99, 3, 126, 0, 810), (763, .if_icmp .eq 150, 3, 0, 0, 0), (766, .iconst 0, 1, 0, 0, 0), (767, .ireturn, 1, 0, 0, 0)], 768),
  (768, [(768, .aload_n 1, 1, 0, 0, 0), (769, .aload_n 0, 1, 0, 0, 0), (770, .iload_n 3, 1, 0, 0, 0), (771, .iconst 1, 1, 0, 0, 0), (772, .iadd, 1, 0, 0, 0), (773, .iaload, 1, 0, 0, 0), (774, .invokevirtual 100, 3, 76, 0, 537), (777, .aload_n 2, 1, 0, 0, 0), (778, .aload_n 0, 1, 0, 0, 0), (779, .iload_n 3, 1, 0, 0, 0), (780, .iconst 1, 1, 0, 0, 0), (781, .iadd, 1, 0, 0, 0), (782, .iaload, 1, 0, 0, 0), (783, .invokevirtual 103, 3, 128, 0, 814), (786, .if_icmp .eq 127, 3, 0, 0, 0), (789, .iconst 0, 1, 0, 0, 0), (790, .ireturn, 1, 0, 0, 0)], 791),
  (791, [(791, .aload_n 1, 1, 0, 0, 0), (792, .aload_n 0, 1, 0, 0, 0), (793, .iload_n 3, 1, 0, 0, 0), (794, .iconst 1, 1, 0, 0, 0), (795, .iadd, 1, 0, 0, 0), (796, .iaload, 1, 0, 0, 0), (797, .aload_n 0, 1, 0, 0, 0), (798, .iload_n 3, 1, 0, 0, 0), (799, .iconst 2, 1, 0, 0, 0), (800, .iadd, 1, 0, 0, 0), (801, .iaload, 1, 0, 0, 0), (802, .invokevirtual 104, 3, 77, 0, 572), (805, .aload_n 2, 1, 0, 0, 0), (806, .aload_n 0, 1, 0, 0, 0), (807, .iload_n 3, 1, 0, 0, 0), (808, .iconst 1, 1, 0, 0, 0), (809, .iadd, 1, 0, 0, 0), (810, .iaload, 1, 0, 0, 0), (811, .aload_n 0, 1, 0, 0, 0), (812, .iload_n 3, 1, 0, 0, 0), (813, .iconst 2, 1, 0, 0, 0), (814, .iadd, 1, 0, 0, 0), (815, .iaload, 1, 0, 0, 0), (816, .invokevirtual 107, 3, 133, 0, 822), (819, .if_icmp .eq 94, 3, 0, 0, 0), (822, .iconst 0, 1, 0, 0, 0), (823, .ireturn, 1, 0, 0, 0)], 824),
  (824, [(824, .aload_n 1, 1, 0, 0, 0), (825, .aload_n 0, 1, 0, 0, 0), (826, .iload_n 3, 1, 0, 0, 0), (827, .iconst 1, 1, 0, 0, 0), (828, .iadd, 1, 0, 0, 0), (829, .iaload, 1, 0, 0, 0), (830, .invokevirtual 108, 3, 78, 0, 586), (833, .aload_n 2, 1, 0, 0, 0), (834, .aload_n 0, 1, 0, 0, 0), (835, .iload_n 3, 1, 0, 0, 0), (836, .iconst 1, 1, 0, 0, 0), (837, .iadd, 1, 0, 0, 0), (838, .iaload, 1, 0, 0, 0), (839, .invokevirtual 111, 3, 134, 0, 840), (842, .if_icmp .eq 71, 3, 0, 0, 0), (845, .iconst 0, 1, 0, 0, 0), (846, .ireturn, 1, 0, 0, 0)], 847),
  (847, [(847, .aload_n 1, 1, 0, 0, 0), (848, .aload_n 0, 1, 0, 0, 0), (849, .iload_n 3, 1, 0, 0, 0), (850, .iconst 1, 1, 0, 0, 0), (851, .iadd, 1, 0, 0, 0), (852, .iaload, 1, 0, 0, 0), (853, .aload_n 0, 1, 0, 0, 0), (854, .iload_n 3, 1, 0, 0, 0), (855, .iconst 2, 1, 0, 0, 0), (856, .iadd, 1, 0, 0, 0), (857, .iaload, 1, 0, 0, 0), (858, .aload_n 0, 1, 0, 0, 0), (859, .iload_n 3, 1, 0, 0, 0), (860, .iconst 3, 1, 0, 0, 0), (861, .iadd, 1, 0, 0, 0), (862, .iaload, 1, 0, 0, 0), (863, .invokevirtual 112, 3, 79, 0, 590), (866, .aload_n 2, 1, 0, 0, 0), (867, .aload_n 0, 1, 0, 0, 0), (868, .iload_n 3, 1, 0, 0, 0), (869, .iconst 1, 1, 0, 0, 0), (870, .iadd, 1, 0, 0, 0), (871, .iaload, 1, 0, 0, 0), (872, .aload_n 0, 1, 0, 0, 0), (873, .iload_n 3, 1, 0, 0, 0), (874, .iconst 2, 1, 0, 0, 0), (875, .iadd, 1, 0, 0, 0), (876, .iaload, 1, 0, 0, 0), (877, .aload_n 0, 1, 0, 0, 0), (878, .iload_n 3, 1, 0, 0, 0), (879, .iconst 3, 1, 0, 0, 0), (880, .iadd, 1, 0, 0, 0), (881, .iaload, 1, 0, 0, 0), (882, .invokevirtual 115, 3, 135, 0, 844), (885, .if_icmp .eq 28, 3, 0, 0, 0), (888, .iconst 0, 1, 0, 0, 0), (889, .ireturn, 1, 0, 0, 0)], 890),
  (890, [(890, .aload_n 1, 1, 0, 0, 0), (891, .aload_n 0, 1, 0, 0, 0), (892, .iload_n 3, 1, 0, 0, 0), (893, .iconst 1, 1, 0, 0, 0), (894, .iadd, 1, 0, 0, 0), (895, .iaload, 1, 0, 0, 0), (896, .invokevirtual 116, 3, 80, 0, 594), (899, .aload_n 2, 1, 0, 0, 0), (900, .aload_n 0, 1, 0, 0, 0), (901, .iload_n 3, 1, 0, 0, 0), (902, .iconst 1, 1, 0, 0, 0), (903, .iadd, 1, 0, 0, 0), (904, .iaload, 1, 0, 0, 0), (905, .invokevirtual 119, 3, 136, 0, 848), (908, .if_icmp .eq 5, 3, 0, 0, 0), (911, .iconst 0, 1, 0, 0, 0), (912, .ireturn, 1, 0, 0, 0)], 913),
  (913, [(913, .iinc 3 4, 3, 0, 0, 0), (916, .goto (-898), 3, 0, 0, 0)], 919),
  (919, [(919, .iconst 1, 1, 0, 0, 0), (920, .ireturn, 1, 0, 0, 0)], 921)]
def zcodes : List (List (Nat × List zE × Nat)) := [zc_0, zc_1, zc_2, zc_3, zc_4, zc_5, zc_6, zc_7, zc_8, zc_9, zc_10, zc_11, zc_12, zc_13, zc_14, zc_15, zc_16, zc_17, zc_18, zc_19, zc_20, zc_21, zc_22, zc_23, zc_24, zc_25, zc_26, zc_27, zc_28, zc_29, zc_30, zc_31, zc_32, zc_33, zc_34, zc_35, zc_36, zc_37, zc_38, zc_39, zc_40, zc_41, zc_42, zc_43, zc_44, zc_45, zc_46, zc_47, zc_48, zc_49, zc_50, zc_51, zc_52, zc_53, zc_54, zc_55, zc_56, zc_57, zc_58, zc_59, zc_60, zc_61, zc_62, zc_63, zc_64, zc_65, zc_66, zc_67, zc_68, zc_69, zc_70, zc_71, zc_72, zc_73, zc_74, zc_75, zc_76, zc_77, zc_78, zc_79, zc_80, zc_81, zc_82, zc_83, zc_84, zc_85, zc_86, zc_87, zc_88, zc_89, zc_90, zc_91, zc_92, zc_93, zc_94, zc_95, zc_96, zc_97, zc_98, zc_99, zc_100, zc_101, zc_102, zc_103, zc_104, zc_105, zc_106, zc_107, zc_108, zc_109, zc_110, zc_111, zc_112, zc_113, zc_114, zc_115, zc_116, zc_117, zc_118, zc_119, zc_120, zc_121, zc_122, zc_123, zc_124, zc_125, zc_126, zc_127, zc_128, zc_129, zc_130, zc_131, zc_132, zc_133, zc_134, zc_135, zc_136, zc_137]
/-- class name, method, bytes, locals, return, static, its class in vwCl, parameters, places in lw_tbl of: code, initialized, static or instanceMethod, selects -/
def zinfos : List zI := [(RX5, yX5_fits, cX5_fits, 2, some .boolean, true, 99, 2, 263, 32, 262, 0),
  (RX5, yX5_full, cX5_full, 1, some .int, true, 99, 1, 111, 32, 110, 0),
  (RX5, yX5_ofPlace, cX5_ofPlace, 1, some .int, true, 99, 1, 227, 32, 226, 0),
  (RX5, yX5_bit, cX5_bit, 2, some .int, true, 99, 2, 283, 32, 282, 0),
  (RX5, yX5_widened, cX5_widened, 2, some .int, true, 99, 2, 275, 32, 274, 0),
  (RX5, yX5_pick, cX5_pick, 3, some .int, true, 99, 3, 371, 32, 370, 0),
  (RX5, yX5_tellOfTwo, cX5_tellOfTwo, 5, some .int, true, 99, 3, 479, 32, 478, 0),
  (RX5, yX5_tell, cX5_tell, 4, some .int, true, 99, 4, 569, 32, 568, 0),
  (RX5, yX5_toldRows, cX5_toldRows, 13, some .int, true, 99, 4, 476, 32, 475, 0),
  (RX5, yX5_pickedRows, cX5_pickedRows, 6, some .int, true, 99, 4, 483, 32, 482, 0),
  (RX5, yX5_otherHalf, cX5_otherHalf, 5, some .int, true, 99, 2, 286, 32, 285, 0),
  (RX5, yX5_matteringPlaces, cX5_matteringPlaces, 5, some .int, true, 99, 2, 578, 32, 577, 0),
  (RX5, yX5_keptBits, cX5_keptBits, 3, some .int, true, 99, 2, 280, 32, 279, 0),
  (RX5, yX5_isRising, cX5_isRising, 4, some .boolean, true, 99, 2, 289, 32, 288, 0),
  (RX5, yX5_isSum, cX5_isSum, 5, some .boolean, true, 99, 2, 292, 32, 291, 0),
  (RX7, yX7_begin, cX7_begin, 1, some .int, true, 99, 1, 342, 37, 341, 0),
  (RX7, yX7_with, cX7_with, 3, some .int, true, 99, 3, 357, 37, 356, 0),
  (RX7, yX7_letter, cX7_letter, 1, some .int, true, 99, 1, 398, 37, 397, 0),
  (RX7, yX7_part, cX7_part, 2, some .int, true, 99, 2, 401, 37, 400, 0),
  (RX7, yX7_shiftOf, cX7_shiftOf, 1, some .int, true, 99, 1, 360, 37, 359, 0),
  (RX0, yX0_becomeX, cX0_becomeX, 1, none, false, 0, 0, 224, 35, 222, 223),
  (RX0, yX0_become, cX0_become, 5, none, false, 0, 4, 231, 35, 229, 230),
  (RX3, yX3_become, cX3_become, 4, none, false, 3, 3, 272, 30, 270, 271),
  (RX3, yX3_preserves, cX3_preserves, 3, some .boolean, false, 3, 2, 473, 30, 471, 472),
  (RX4, yX4_has, cX4_has, 2, some .boolean, false, 4, 1, 305, 29, 303, 304),
  (RX4, yX4_hasAll, cX4_hasAll, 2, some .boolean, false, 4, 1, 436, 29, 434, 435),
  (RX4, yX4_append, cX4_append, 5, some .int, false, 4, 3, 268, 29, 266, 267),
  (RX4, yX4_ofThreePlaces, cX4_ofThreePlaces, 3, some .int, false, 4, 0, 325, 29, 323, 324),
  (RX4, yX4_keptByAll, cX4_keptByAll, 4, some .int, false, 4, 1, 444, 29, 442, 443),
  (RX4, yX4_saysAll, cX4_saysAll, 2, some .boolean, false, 4, 1, 440, 29, 438, 439),
  (RX4, yX4_isLeastSet, cX4_isLeastSet, 3, some .boolean, false, 4, 1, 457, 29, 455, 456),
  (RX4, yX4_allPreserve, cX4_allPreserve, 4, some .boolean, false, 4, 2, 519, 29, 517, 518),
  (RX4, yX4_preservedRelations, cX4_preservedRelations, 4, some .int, false, 4, 1, 514, 29, 512, 513),
  (RX4, yX4_grown, cX4_grown, 7, some .int, false, 4, 2, 495, 29, 493, 494),
  (RX6, yX6_hasRoom, cX6_hasRoom, 2, some .boolean, false, 5, 1, 528, 33, 526, 527),
  (RX6, yX6_append, cX6_append, 5, none, false, 5, 2, 532, 33, 530, 531),
  (RX6, yX6_byteAt, cX6_byteAt, 2, some .int, false, 5, 1, 555, 33, 553, 554),
  (RX2, yX2_understands, cX2_understands, 1, some .boolean, false, 2, 0, 547, 34, 545, 546),
  (RX2, yX2_tableOfNext, cX2_tableOfNext, 5, some .int, false, 2, 1, 551, 34, 550, 10),
  (RX2, yX2_tableOfParts, cX2_tableOfParts, 9, some .int, false, 2, 2, 561, 34, 560, 11),
  (RX2, yX2_takes, cX2_takes, 2, some .boolean, false, 2, 1, 565, 34, 564, 12),
  (RX1, yX1_explore, cX1_explore, 5, none, false, 1, 1, 333, 31, 331, 332),
  (RX1, yX1_begin, cX1_begin, 4, none, false, 1, 1, 337, 31, 336, 3),
  (RX1, yX1_cheapestOpen, cX1_cheapestOpen, 4, some .int, false, 1, 0, 350, 31, 349, 5),
  (RX1, yX1_join, cX1_join, 5, none, false, 1, 3, 354, 31, 353, 6),
  (RX1, yX1_joinAt, cX1_joinAt, 17, none, false, 1, 4, 364, 31, 363, 7),
  (RX1, yX1_joinLast, cX1_joinLast, 9, none, false, 1, 5, 375, 31, 374, 8),
  (RX1, yX1_leftOf, cX1_leftOf, 6, some .int, true, 1, 4, 367, 31, 366, 0),
  (RX1, yX1_offer, cX1_offer, 5, none, false, 1, 3, 346, 31, 345, 4),
  (RX1, yX1_covers, cX1_covers, 2, some .boolean, false, 1, 1, 387, 31, 386, 9),
  (RX1, yX1_leastCost, cX1_leastCost, 2, some .int, false, 1, 1, 383, 31, 381, 382),
  (RX1, yX1_wayTo, cX1_wayTo, 2, some .int, false, 1, 1, 395, 31, 393, 394),
  (RX1, yX1_greatestCost, cX1_greatestCost, 3, some .int, false, 1, 0, 409, 31, 407, 408),
  (RX1, yX1_firstCosting, cX1_firstCosting, 3, some .int, false, 1, 1, 416, 31, 414, 415),
  (RX1, yX1_firstUnreached, cX1_firstUnreached, 2, some .int, false, 1, 0, 420, 31, 418, 419),
  (RX1, yX1_howManyCost, cX1_howManyCost, 4, some .int, false, 1, 1, 428, 31, 426, 427),
  (RX8, yX8_sign, cX8_sign, 5, some .int, false, 6, 3, 260, 28, 258, 259),
  (RX8, yX8_drop, cX8_drop, 1, some .int, false, 6, 0, 297, 28, 295, 296),
  (RX8, yX8_about, cX8_about, 4, some .int, false, 6, 2, 301, 28, 299, 300),
  (RX8, yX8_keeps, cX8_keeps, 3, some .int, false, 6, 2, 309, 28, 307, 308),
  (RX8, yX8_reached, cX8_reached, 2, some .int, false, 6, 1, 314, 28, 312, 313),
  (RX8, yX8_least, cX8_least, 3, some .int, false, 6, 2, 379, 28, 377, 378),
  (RX8, yX8_by, cX8_by, 6, some .int, false, 6, 3, 391, 28, 389, 390),
  (RX8, yX8_farthest, cX8_farthest, 4, some .int, false, 6, 2, 405, 28, 403, 404),
  (RX8, yX8_costing, cX8_costing, 3, some .int, false, 6, 2, 424, 28, 422, 423),
  (RX8, yX8_says, cX8_says, 2, some .int, false, 6, 1, 432, 28, 430, 431),
  (RX8, yX8_lacks, cX8_lacks, 2, some .int, false, 6, 1, 448, 28, 446, 447),
  (RX8, yX8_sets, cX8_sets, 4, some .int, false, 6, 1, 453, 28, 451, 452),
  (RX8, yX8_alone, cX8_alone, 4, some .int, false, 6, 1, 462, 28, 460, 461),
  (RX8, yX8_lets, cX8_lets, 4, some .int, false, 6, 3, 466, 28, 464, 465),
  (RX8, yX8_letting, cX8_letting, 5, some .int, false, 6, 2, 487, 28, 485, 486),
  (RX8, yX8_around, cX8_around, 3, some .int, false, 6, 2, 491, 28, 489, 490),
  (RX8, yX8_sorts, cX8_sorts, 7, some .int, false, 6, 2, 500, 28, 498, 499),
  (RX8, yX8_kept, cX8_kept, 2, some .int, false, 6, 1, 510, 28, 508, 509),
  (RX8, yX8_type, cX8_type, 4, some .int, false, 6, 2, 524, 28, 522, 523),
  (RX8, yX8_clear, cX8_clear, 2, some .int, false, 6, 0, 536, 28, 534, 535),
  (RX8, yX8_read, cX8_read, 3, some .int, false, 6, 1, 540, 28, 538, 539),
  (RX8, yX8_formula, cX8_formula, 4, some .int, false, 6, 2, 575, 28, 573, 574),
  (RX8, yX8_leastened, cX8_leastened, 2, some .int, false, 6, 1, 589, 28, 587, 588),
  (RX8, yX8_both, cX8_both, 7, some .int, false, 6, 3, 593, 28, 591, 592),
  (RX8, yX8_count, cX8_count, 2, some .int, false, 6, 1, 597, 28, 595, 596),
  (RX8, yX8_forgetAnswers, cX8_forgetAnswers, 2, none, false, 6, 0, 220, 28, 219, 0),
  (RX8, yX8_isCount, cX8_isCount, 1, some .boolean, true, 6, 1, 317, 28, 316, 0),
  (RX8, yX8_isRelation, cX8_isRelation, 2, some .boolean, true, 6, 2, 469, 28, 468, 0),
  (RX8, yX8_isFormula, cX8_isFormula, 1, some .boolean, true, 6, 1, 543, 28, 542, 0),
  (RX8, yX8_isBarred, cX8_isBarred, 2, some .boolean, false, 6, 1, 321, 28, 320, 1),
  (RX8, yX8_reachOf, cX8_reachOf, 3, some (.object "FewSigns$Reach"), false, 6, 1, 329, 28, 328, 2),
  (RJ6, yJ6_bitCount_0f7a4, cJ6_bitCount_0f7a4, 1, some .int, true, 99, 1, 582, 39, 581, 0),
  (RJ9, yJ9_max_7cf53, cJ9_max_7cf53, 2, some .int, false, 99, 2, 412, 38, 411, 0),
  (RX9, yX9_in, cX9_in, 3, some .boolean, true, 7, 3, 678, 36, 677, 0),
  (RX9, yX9_empties, cX9_empties, 2, none, false, 7, 0, 607, 36, 606, 13),
  (RX9, yX9_tables, cX9_tables, 1, some .int, true, 7, 1, 681, 36, 680, 0),
  (RX9, yX9_sign, cX9_sign, 4, some .int, false, 7, 3, 675, 36, 673, 674),
  (RX9, yX9_drop, cX9_drop, 1, some .int, false, 7, 0, 685, 36, 683, 684),
  (RX9, yX9_keepsOf, cX9_keepsOf, 13, some .int, true, 7, 2, 692, 36, 691, 0),
  (RX9, yX9_about, cX9_about, 3, some .int, false, 7, 2, 689, 36, 687, 688),
  (RX9, yX9_keeps, cX9_keeps, 3, some .int, false, 7, 2, 696, 36, 694, 695),
  (RX9, yX9_hasThree, cX9_hasThree, 3, some .boolean, false, 7, 0, 708, 36, 707, 15),
  (RX9, yX9_joined, cX9_joined, 9, some .int, false, 7, 5, 719, 36, 718, 17),
  (RX9, yX9_place, cX9_place, 4, some .int, true, 7, 2, 715, 36, 714, 0),
  (RX9, yX9_finds, cX9_finds, 16, none, false, 7, 1, 712, 36, 711, 16),
  (RX9, yX9_refuses, cX9_refuses, 2, some .int, false, 7, 1, 704, 36, 703, 14),
  (RX9, yX9_reached, cX9_reached, 5, some .int, false, 7, 1, 700, 36, 698, 699),
  (RX9, yX9_least, cX9_least, 3, some .int, false, 7, 2, 723, 36, 721, 722),
  (RX9, yX9_isBy, cX9_isBy, 15, some .boolean, false, 7, 3, 731, 36, 730, 18),
  (RX9, yX9_by, cX9_by, 5, some .int, false, 7, 3, 727, 36, 725, 726),
  (RX9, yX9_farthest, cX9_farthest, 7, some .int, false, 7, 2, 735, 36, 733, 734),
  (RX9, yX9_costing, cX9_costing, 5, some .int, false, 7, 2, 739, 36, 737, 738),
  (RX9, yX9_isSet, cX9_isSet, 2, some .boolean, false, 7, 1, 747, 36, 746, 19),
  (RX9, yX9_lacksOf, cX9_lacksOf, 4, some .int, false, 7, 1, 751, 36, 750, 20),
  (RX9, yX9_says, cX9_says, 2, some .int, false, 7, 1, 743, 36, 741, 742),
  (RX9, yX9_lacks, cX9_lacks, 2, some .int, false, 7, 1, 755, 36, 753, 754),
  (RX9, yX9_isLeastSet, cX9_isLeastSet, 4, some .boolean, false, 7, 1, 763, 36, 762, 21),
  (RX9, yX9_sets, cX9_sets, 4, some .int, false, 7, 1, 759, 36, 757, 758),
  (RX9, yX9_alone, cX9_alone, 4, some .int, false, 7, 1, 767, 36, 765, 766),
  (RX9, yX9_isRelation, cX9_isRelation, 2, some .boolean, true, 7, 2, 774, 36, 773, 0),
  (RX9, yX9_told, cX9_told, 8, some .int, true, 7, 5, 784, 36, 783, 0),
  (RX9, yX9_makes, cX9_makes, 10, some .int, true, 7, 4, 781, 36, 780, 0),
  (RX9, yX9_isLet, cX9_isLet, 4, some .boolean, false, 7, 3, 778, 36, 777, 22),
  (RX9, yX9_lets, cX9_lets, 4, some .int, false, 7, 3, 771, 36, 769, 770),
  (RX9, yX9_lettingOf, cX9_lettingOf, 5, some .int, false, 7, 2, 792, 36, 791, 23),
  (RX9, yX9_letting, cX9_letting, 3, some .int, false, 7, 2, 788, 36, 786, 787),
  (RX9, yX9_around, cX9_around, 6, some .int, false, 7, 2, 796, 36, 794, 795),
  (RX9, yX9_sorts, cX9_sorts, 4, some .int, false, 7, 2, 800, 36, 798, 799),
  (RX9, yX9_kept, cX9_kept, 4, some .int, false, 7, 1, 804, 36, 802, 803),
  (RX9, yX9_type, cX9_type, 5, some .int, false, 7, 2, 808, 36, 806, 807),
  (RX9, yX9_clear, cX9_clear, 2, some .int, false, 7, 0, 813, 36, 811, 812),
  (RX9, yX9_isFormula, cX9_isFormula, 9, some .boolean, false, 7, 0, 821, 36, 820, 24),
  (RX9, yX9_read, cX9_read, 3, some .int, false, 7, 1, 817, 36, 815, 816),
  (RX9, yX9_judges, cX9_judges, 10, none, false, 7, 1, 833, 36, 832, 26),
  (RX9, yX9_otherHalf, cX9_otherHalf, 3, some .int, true, 7, 1, 839, 36, 838, 0),
  (RX9, yX9_matters, cX9_matters, 4, some .int, true, 7, 1, 836, 36, 835, 0),
  (RX9, yX9_tableOf, cX9_tableOf, 2, some .int, false, 7, 1, 829, 36, 828, 25),
  (RX9, yX9_formula, cX9_formula, 6, some .int, false, 7, 2, 825, 36, 823, 824),
  (RX9, yX9_leastened, cX9_leastened, 3, some .int, false, 7, 1, 843, 36, 841, 842),
  (RX9, yX9_both, cX9_both, 7, some .int, false, 7, 3, 847, 36, 845, 846),
  (RX9, yX9_count, cX9_count, 4, some .int, false, 7, 1, 851, 36, 849, 850),
  (RL, yL_law, cL_law, 4, some .boolean, false, 99, 1, 0, 0, 0, 0)]
end
section
def zinfo (k : Nat) : Option zI := zget zinfos k
def zblk (k pc : Nat) : Option (List zE × Nat) := match zget zcodes k with
  | some bl => zfb bl pc
  | none => none
/-- a return value as the method's descriptor lets it -/
def zfit (k : Nat) (r : Option Value) : Prop := match zinfo k with
  | some i => match i.2.2.2.2.1, r with
    | none, none => True
    | some .int, some (.int _) => True
    | some .boolean, some (.int v) => v = 0 ∨ v = 1
    | some (.object _), some (.ref _) => True
    | _, _ => False
  | none => False
/-- n jumps at most: from here the method k ends with r, M' -/
def zjn (NC : Nat) (sc : Nat × (Nat → Int32)) (C : Nat → List Value → zM → Option Value → zM → Prop) (k : Nat) (r : Option Value) (M' : zM) : Nat → Nat → List Value → List Value → zM → Prop
  | 0 => fun _ _ _ _ => False
  | n + 1 => fun pc L st M => match zblk k pc with
    | some (es, np) => zwp NC sc zinfo C (fun t L' st' M1 => zjn NC sc C k r M' n t L' st' M1) (fun v M1 => zfit k v ∧ v = r ∧ M1 = M') np es L st M
    | none => False
/-- the method k, called with these values, ends with r, M'; at most d frames -/
def zR (NC : Nat) (sc : Nat × (Nat → Int32)) : Nat → Nat → List Value → zM → Option Value → zM → Prop
  | 0 => fun _ _ _ _ _ => False
  | d + 1 => fun k as M r M' => match zinfo k with
    | some i => Nat.ble (zlo as).length i.2.2.2.1 = true ∧ ∃ n, zjn NC sc (zR NC sc d) k r M' n 0 (zpad i.2.2.2.1 (zlo as)) [] M
    | none => False
/-- from here the method k ends with r, M' -/
def zJ (NC : Nat) (sc : Nat × (Nat → Int32)) (d k : Nat) (r : Option Value) (M' : zM) (pc : Nat) (L st : List Value) (M : zM) : Prop := ∃ n, zjn NC sc (zR NC sc d) k r M' n pc L st M
end
section
/-! what a program checks of the code table: each entry is what the bytes decode to, each link stands in lw_tbl -/
def zil : Instr → Nat
  | .bipush _ => 2 | .sipush _ => 3 | .ldc _ => 2 | .ldc_w _ => 3 | .ldc2_w _ => 3 | .iload _ => 2 | .aload _ => 2 | .istore _ => 2 | .astore _ => 2 | .iinc _ _ => 3
  | .goto _ => 3 | .ifCond _ _ => 3 | .if_icmp _ _ => 3 | .getfield _ => 3 | .putfield _ => 3 | .getstatic _ => 3 | .invokestatic _ => 3 | .invokevirtual _ => 3
  | _ => 1
def zisw : Instr → Bool
  | .tableswitch _ _ _ _ => true | .lookupswitch _ _ => true | _ => false
def zF (ci j : Nat) : String × String × String × Bool := match zget vwCl ci with
  | some q => q.2.1 j
  | none => ("", "", "", true)
def zN (ci : Nat) : Nat := match zget vwCl ci with
  | some q => q.2.2
  | none => 0
def zSt (a : Nat) : String × String := bif Nat.beq a 101 then ("FewSigns$Tables", "REPEATS") else bif Nat.beq a 102 then ("FewSigns", "SORT_PLACES") else ("FewSigns", "SORT_TABLES")
def zlk (own : String) (e : zE) : Bool := match e.2.1 with
  | .getfield i => decide (lw_tbl[e.2.2.2.2.2]? = some (.fieldLink own i (zF e.2.2.2.1 e.2.2.2.2.1).1 (zF e.2.2.2.1 e.2.2.2.2.1).2.1 (zF e.2.2.2.1 e.2.2.2.2.1).2.2.1))
  | .putfield i => decide (lw_tbl[e.2.2.2.2.2]? = some (.fieldLink own i (zF e.2.2.2.1 e.2.2.2.2.1).1 (zF e.2.2.2.1 e.2.2.2.2.1).2.1 (zF e.2.2.2.1 e.2.2.2.2.1).2.2.1)) && decide ((zF e.2.2.2.1 e.2.2.2.2.1).2.2.2 = false) && (decide ((zF e.2.2.2.1 e.2.2.2.2.1).2.2.1 = "I") || (decide ((zF e.2.2.2.1 e.2.2.2.2.1).2.2.1 = "Z") && Nat.beq e.2.2.2.1 1 && Nat.beq e.2.2.2.2.1 8))
  | .getstatic i => decide (lw_tbl[e.2.2.2.2.2]? = some (.fieldLink own i (zSt e.2.2.2.1).1 (zSt e.2.2.2.1).2 "[I"))
  | .invokestatic i => (match zinfo e.2.2.2.1 with
    | some q => decide (lw_tbl[e.2.2.2.2.2]? = some (.methodLink own i q.2.1))
    | none => false)
  | .invokevirtual i => (match zinfo e.2.2.2.1 with
    | some q => decide (lw_tbl[e.2.2.2.2.2]? = some (.methodLink own i q.2.1))
    | none => false)
  | .ldc i => decide (lw_tbl[e.2.2.2.2.2]? = some (.constant own i (nI e.2.2.2.1)))
  | .ldc_w i => decide (lw_tbl[e.2.2.2.2.2]? = some (.constant own i (nI e.2.2.2.1)))
  | .ldc2_w i => decide (lw_tbl[e.2.2.2.2.2]? = some (.constantLong own i (Int64.ofNat e.2.2.2.1)))
  | _ => true
def zok1 (own : String) (bytes : ByteArray) (np : Nat) : Nat → List zE → Bool
  | pc, [] => Nat.beq pc np
  | pc, e :: es => Nat.beq e.1 pc && decide (decode bytes pc = .ok (e.2.1, e.2.2.1)) && (zisw e.2.1 || Nat.beq e.2.2.1 (zil e.2.1)) && zlk own e && zok1 own bytes np (pc + e.2.2.1) es
def zokB (own : String) (bytes : ByteArray) (bl : List (Nat × List zE × Nat)) : Bool := bl.all (fun b => zok1 own bytes b.2.2 b.1 b.2.1)
theorem zo_0 : zokB RX5 cX5_fits zc_0 = true := by decide +kernel
theorem zo_1 : zokB RX5 cX5_full zc_1 = true := by decide +kernel
theorem zo_2 : zokB RX5 cX5_ofPlace zc_2 = true := by decide +kernel
theorem zo_3 : zokB RX5 cX5_bit zc_3 = true := by decide +kernel
theorem zo_4 : zokB RX5 cX5_widened zc_4 = true := by decide +kernel
theorem zo_5 : zokB RX5 cX5_pick zc_5 = true := by decide +kernel
theorem zo_6 : zokB RX5 cX5_tellOfTwo zc_6 = true := by decide +kernel
theorem zo_7 : zokB RX5 cX5_tell zc_7 = true := by decide +kernel
theorem zo_8 : zokB RX5 cX5_toldRows zc_8 = true := by decide +kernel
theorem zo_9 : zokB RX5 cX5_pickedRows zc_9 = true := by decide +kernel
theorem zo_10 : zokB RX5 cX5_otherHalf zc_10 = true := by decide +kernel
theorem zo_11 : zokB RX5 cX5_matteringPlaces zc_11 = true := by decide +kernel
theorem zo_12 : zokB RX5 cX5_keptBits zc_12 = true := by decide +kernel
theorem zo_13 : zokB RX5 cX5_isRising zc_13 = true := by decide +kernel
theorem zo_14 : zokB RX5 cX5_isSum zc_14 = true := by decide +kernel
theorem zo_15 : zokB RX7 cX7_begin zc_15 = true := by decide +kernel
theorem zo_16 : zokB RX7 cX7_with zc_16 = true := by decide +kernel
theorem zo_17 : zokB RX7 cX7_letter zc_17 = true := by decide +kernel
theorem zo_18 : zokB RX7 cX7_part zc_18 = true := by decide +kernel
theorem zo_19 : zokB RX7 cX7_shiftOf zc_19 = true := by decide +kernel
theorem zo_20 : zokB RX0 cX0_becomeX zc_20 = true := by decide +kernel
theorem zo_21 : zokB RX0 cX0_become zc_21 = true := by decide +kernel
theorem zo_22 : zokB RX3 cX3_become zc_22 = true := by decide +kernel
theorem zo_23 : zokB RX3 cX3_preserves zc_23 = true := by decide +kernel
theorem zo_24 : zokB RX4 cX4_has zc_24 = true := by decide +kernel
theorem zo_25 : zokB RX4 cX4_hasAll zc_25 = true := by decide +kernel
theorem zo_26 : zokB RX4 cX4_append zc_26 = true := by decide +kernel
theorem zo_27 : zokB RX4 cX4_ofThreePlaces zc_27 = true := by decide +kernel
theorem zo_28 : zokB RX4 cX4_keptByAll zc_28 = true := by decide +kernel
theorem zo_29 : zokB RX4 cX4_saysAll zc_29 = true := by decide +kernel
theorem zo_30 : zokB RX4 cX4_isLeastSet zc_30 = true := by decide +kernel
theorem zo_31 : zokB RX4 cX4_allPreserve zc_31 = true := by decide +kernel
theorem zo_32 : zokB RX4 cX4_preservedRelations zc_32 = true := by decide +kernel
theorem zo_33 : zokB RX4 cX4_grown zc_33 = true := by decide +kernel
end
section
theorem zo_34 : zokB RX6 cX6_hasRoom zc_34 = true := by decide +kernel
theorem zo_35 : zokB RX6 cX6_append zc_35 = true := by decide +kernel
theorem zo_36 : zokB RX6 cX6_byteAt zc_36 = true := by decide +kernel
theorem zo_37 : zokB RX2 cX2_understands zc_37 = true := by decide +kernel
theorem zo_38 : zokB RX2 cX2_tableOfNext zc_38 = true := by decide +kernel
theorem zo_39 : zokB RX2 cX2_tableOfParts zc_39 = true := by decide +kernel
theorem zo_40 : zokB RX2 cX2_takes zc_40 = true := by decide +kernel
theorem zo_41 : zokB RX1 cX1_explore zc_41 = true := by decide +kernel
theorem zo_42 : zokB RX1 cX1_begin zc_42 = true := by decide +kernel
theorem zo_43 : zokB RX1 cX1_cheapestOpen zc_43 = true := by decide +kernel
theorem zo_44 : zokB RX1 cX1_join zc_44 = true := by decide +kernel
theorem zo_45 : zokB RX1 cX1_joinAt zc_45 = true := by decide +kernel
theorem zo_46 : zokB RX1 cX1_joinLast zc_46 = true := by decide +kernel
theorem zo_47 : zokB RX1 cX1_leftOf zc_47 = true := by decide +kernel
theorem zo_48 : zokB RX1 cX1_offer zc_48 = true := by decide +kernel
theorem zo_49 : zokB RX1 cX1_covers zc_49 = true := by decide +kernel
theorem zo_50 : zokB RX1 cX1_leastCost zc_50 = true := by decide +kernel
end
section
theorem zo_51 : zokB RX1 cX1_wayTo zc_51 = true := by decide +kernel
theorem zo_52 : zokB RX1 cX1_greatestCost zc_52 = true := by decide +kernel
theorem zo_53 : zokB RX1 cX1_firstCosting zc_53 = true := by decide +kernel
theorem zo_54 : zokB RX1 cX1_firstUnreached zc_54 = true := by decide +kernel
theorem zo_55 : zokB RX1 cX1_howManyCost zc_55 = true := by decide +kernel
theorem zo_56 : zokB RX8 cX8_sign zc_56 = true := by decide +kernel
theorem zo_57 : zokB RX8 cX8_drop zc_57 = true := by decide +kernel
theorem zo_58 : zokB RX8 cX8_about zc_58 = true := by decide +kernel
theorem zo_59 : zokB RX8 cX8_keeps zc_59 = true := by decide +kernel
theorem zo_60 : zokB RX8 cX8_reached zc_60 = true := by decide +kernel
theorem zo_61 : zokB RX8 cX8_least zc_61 = true := by decide +kernel
theorem zo_62 : zokB RX8 cX8_by zc_62 = true := by decide +kernel
theorem zo_63 : zokB RX8 cX8_farthest zc_63 = true := by decide +kernel
theorem zo_64 : zokB RX8 cX8_costing zc_64 = true := by decide +kernel
theorem zo_65 : zokB RX8 cX8_says zc_65 = true := by decide +kernel
theorem zo_66 : zokB RX8 cX8_lacks zc_66 = true := by decide +kernel
theorem zo_67 : zokB RX8 cX8_sets zc_67 = true := by decide +kernel
theorem zo_68 : zokB RX8 cX8_alone zc_68 = true := by decide +kernel
theorem zo_69 : zokB RX8 cX8_lets zc_69 = true := by decide +kernel
theorem zo_70 : zokB RX8 cX8_letting zc_70 = true := by decide +kernel
theorem zo_71 : zokB RX8 cX8_around zc_71 = true := by decide +kernel
theorem zo_72 : zokB RX8 cX8_sorts zc_72 = true := by decide +kernel
theorem zo_73 : zokB RX8 cX8_kept zc_73 = true := by decide +kernel
theorem zo_74 : zokB RX8 cX8_type zc_74 = true := by decide +kernel
theorem zo_75 : zokB RX8 cX8_clear zc_75 = true := by decide +kernel
theorem zo_76 : zokB RX8 cX8_read zc_76 = true := by decide +kernel
theorem zo_77 : zokB RX8 cX8_formula zc_77 = true := by decide +kernel
end
section
theorem zo_78 : zokB RX8 cX8_leastened zc_78 = true := by decide +kernel
theorem zo_79 : zokB RX8 cX8_both zc_79 = true := by decide +kernel
theorem zo_80 : zokB RX8 cX8_count zc_80 = true := by decide +kernel
theorem zo_81 : zokB RX8 cX8_forgetAnswers zc_81 = true := by decide +kernel
theorem zo_82 : zokB RX8 cX8_isCount zc_82 = true := by decide +kernel
theorem zo_83 : zokB RX8 cX8_isRelation zc_83 = true := by decide +kernel
theorem zo_84 : zokB RX8 cX8_isFormula zc_84 = true := by decide +kernel
theorem zo_85 : zokB RX8 cX8_isBarred zc_85 = true := by decide +kernel
theorem zo_86 : zokB RX8 cX8_reachOf zc_86 = true := by decide +kernel
theorem zo_87 : zokB RJ6 cJ6_bitCount_0f7a4 zc_87 = true := by decide +kernel
theorem zo_88 : zokB RJ9 cJ9_max_7cf53 zc_88 = true := by decide +kernel
theorem zo_89 : zokB RX9 cX9_in zc_89 = true := by decide +kernel
theorem zo_90 : zokB RX9 cX9_empties zc_90 = true := by decide +kernel
theorem zo_91 : zokB RX9 cX9_tables zc_91 = true := by decide +kernel
theorem zo_92 : zokB RX9 cX9_sign zc_92 = true := by decide +kernel
theorem zo_93 : zokB RX9 cX9_drop zc_93 = true := by decide +kernel
theorem zo_94 : zokB RX9 cX9_keepsOf zc_94 = true := by decide +kernel
theorem zo_95 : zokB RX9 cX9_about zc_95 = true := by decide +kernel
theorem zo_96 : zokB RX9 cX9_keeps zc_96 = true := by decide +kernel
theorem zo_97 : zokB RX9 cX9_hasThree zc_97 = true := by decide +kernel
theorem zo_98 : zokB RX9 cX9_joined zc_98 = true := by decide +kernel
theorem zo_99 : zokB RX9 cX9_place zc_99 = true := by decide +kernel
end
section
theorem zo_100 : zokB RX9 cX9_finds zc_100 = true := by decide +kernel
theorem zo_101 : zokB RX9 cX9_refuses zc_101 = true := by decide +kernel
theorem zo_102 : zokB RX9 cX9_reached zc_102 = true := by decide +kernel
theorem zo_103 : zokB RX9 cX9_least zc_103 = true := by decide +kernel
theorem zo_104 : zokB RX9 cX9_isBy zc_104 = true := by decide +kernel
theorem zo_105 : zokB RX9 cX9_by zc_105 = true := by decide +kernel
theorem zo_106 : zokB RX9 cX9_farthest zc_106 = true := by decide +kernel
theorem zo_107 : zokB RX9 cX9_costing zc_107 = true := by decide +kernel
theorem zo_108 : zokB RX9 cX9_isSet zc_108 = true := by decide +kernel
theorem zo_109 : zokB RX9 cX9_lacksOf zc_109 = true := by decide +kernel
end
section
theorem zo_110 : zokB RX9 cX9_says zc_110 = true := by decide +kernel
theorem zo_111 : zokB RX9 cX9_lacks zc_111 = true := by decide +kernel
theorem zo_112 : zokB RX9 cX9_isLeastSet zc_112 = true := by decide +kernel
theorem zo_113 : zokB RX9 cX9_sets zc_113 = true := by decide +kernel
theorem zo_114 : zokB RX9 cX9_alone zc_114 = true := by decide +kernel
theorem zo_115 : zokB RX9 cX9_isRelation zc_115 = true := by decide +kernel
theorem zo_116 : zokB RX9 cX9_told zc_116 = true := by decide +kernel
theorem zo_117 : zokB RX9 cX9_makes zc_117 = true := by decide +kernel
theorem zo_118 : zokB RX9 cX9_isLet zc_118 = true := by decide +kernel
theorem zo_119 : zokB RX9 cX9_lets zc_119 = true := by decide +kernel
theorem zo_120 : zokB RX9 cX9_lettingOf zc_120 = true := by decide +kernel
theorem zo_121 : zokB RX9 cX9_letting zc_121 = true := by decide +kernel
theorem zo_122 : zokB RX9 cX9_around zc_122 = true := by decide +kernel
theorem zo_123 : zokB RX9 cX9_sorts zc_123 = true := by decide +kernel
theorem zo_124 : zokB RX9 cX9_kept zc_124 = true := by decide +kernel
theorem zo_125 : zokB RX9 cX9_type zc_125 = true := by decide +kernel
theorem zo_126 : zokB RX9 cX9_clear zc_126 = true := by decide +kernel
end
section
theorem zo_127 : zokB RX9 cX9_isFormula zc_127 = true := by decide +kernel
theorem zo_128 : zokB RX9 cX9_read zc_128 = true := by decide +kernel
theorem zo_129 : zokB RX9 cX9_judges zc_129 = true := by decide +kernel
theorem zo_130 : zokB RX9 cX9_otherHalf zc_130 = true := by decide +kernel
theorem zo_131 : zokB RX9 cX9_matters zc_131 = true := by decide +kernel
theorem zo_132 : zokB RX9 cX9_tableOf zc_132 = true := by decide +kernel
theorem zo_133 : zokB RX9 cX9_formula zc_133 = true := by decide +kernel
theorem zo_134 : zokB RX9 cX9_leastened zc_134 = true := by decide +kernel
theorem zo_135 : zokB RX9 cX9_both zc_135 = true := by decide +kernel
theorem zo_136 : zokB RX9 cX9_count zc_136 = true := by decide +kernel
end
section
theorem zoL_0 : zokB RL cL_law ((zc_137.drop 0).take 4) = true := by decide +kernel
theorem zoL_1 : zokB RL cL_law ((zc_137.drop 4).take 2) = true := by decide +kernel
theorem zoL_2 : zokB RL cL_law ((zc_137.drop 6).take 2) = true := by decide +kernel
end
section
theorem zoL_3 : zokB RL cL_law ((zc_137.drop 8).take 1) = true := by decide +kernel
theorem zoL_4 : zokB RL cL_law ((zc_137.drop 9).take 2) = true := by decide +kernel
theorem zoL_5 : zokB RL cL_law ((zc_137.drop 11).take 3) = true := by decide +kernel
end
section
theorem zoL_6 : zokB RL cL_law ((zc_137.drop 14).take 2) = true := by decide +kernel
theorem zoL_7 : zokB RL cL_law ((zc_137.drop 16).take 2) = true := by decide +kernel
theorem zoL_8 : zokB RL cL_law ((zc_137.drop 18).take 2) = true := by decide +kernel
end
section
theorem zoL_9 : zokB RL cL_law ((zc_137.drop 20).take 2) = true := by decide +kernel
theorem zoL_10 : zokB RL cL_law ((zc_137.drop 22).take 2) = true := by decide +kernel
theorem zoL_11 : zokB RL cL_law ((zc_137.drop 24).take 2) = true := by decide +kernel
end
section
theorem zoL_12 : zokB RL cL_law ((zc_137.drop 26).take 3) = true := by decide +kernel
end
section
theorem zokB_cut {own : String} {bytes : ByteArray} {bl : List (Nat × List zE × Nat)} (a : Nat) (h1 : zokB own bytes (bl.take a) = true) (h2 : zokB own bytes (bl.drop a) = true) : zokB own bytes bl = true := by
  unfold zokB at *
  rw [← List.take_append_drop a bl, List.all_append, h1, h2]
  rfl
theorem zo_137 : zokB RL cL_law zc_137 = true := by
  refine zokB_cut 4 zoL_0 ?_
  refine zokB_cut 2 zoL_1 ?_
  rw [List.drop_drop]
  refine zokB_cut 2 zoL_2 ?_
  rw [List.drop_drop]
  refine zokB_cut 1 zoL_3 ?_
  rw [List.drop_drop]
  refine zokB_cut 2 zoL_4 ?_
  rw [List.drop_drop]
  refine zokB_cut 3 zoL_5 ?_
  rw [List.drop_drop]
  refine zokB_cut 2 zoL_6 ?_
  rw [List.drop_drop]
  refine zokB_cut 2 zoL_7 ?_
  rw [List.drop_drop]
  refine zokB_cut 2 zoL_8 ?_
  rw [List.drop_drop]
  refine zokB_cut 2 zoL_9 ?_
  rw [List.drop_drop]
  refine zokB_cut 2 zoL_10 ?_
  rw [List.drop_drop]
  refine zokB_cut 2 zoL_11 ?_
  rw [List.drop_drop]
  have h := zoL_12
  rw [List.take_of_length_le (by decide +kernel)] at h
  exact h
def zokK (k : Nat) : Prop := match zinfo k, zget zcodes k with
  | some i, some bl => zokB i.1 i.2.2.1 bl = true
  | _, _ => True
theorem zokK_all : ∀ k, zokK k := by
  intro k
  match k with
  | 0 => exact zo_0
  | 1 => exact zo_1
  | 2 => exact zo_2
  | 3 => exact zo_3
  | 4 => exact zo_4
  | 5 => exact zo_5
  | 6 => exact zo_6
  | 7 => exact zo_7
  | 8 => exact zo_8
  | 9 => exact zo_9
  | 10 => exact zo_10
  | 11 => exact zo_11
  | 12 => exact zo_12
  | 13 => exact zo_13
  | 14 => exact zo_14
  | 15 => exact zo_15
  | 16 => exact zo_16
  | 17 => exact zo_17
  | 18 => exact zo_18
  | 19 => exact zo_19
  | 20 => exact zo_20
  | 21 => exact zo_21
  | 22 => exact zo_22
  | 23 => exact zo_23
  | 24 => exact zo_24
  | 25 => exact zo_25
  | 26 => exact zo_26
  | 27 => exact zo_27
  | 28 => exact zo_28
  | 29 => exact zo_29
  | 30 => exact zo_30
  | 31 => exact zo_31
  | 32 => exact zo_32
  | 33 => exact zo_33
  | 34 => exact zo_34
  | 35 => exact zo_35
  | 36 => exact zo_36
  | 37 => exact zo_37
  | 38 => exact zo_38
  | 39 => exact zo_39
  | 40 => exact zo_40
  | 41 => exact zo_41
  | 42 => exact zo_42
  | 43 => exact zo_43
  | 44 => exact zo_44
  | 45 => exact zo_45
  | 46 => exact zo_46
  | 47 => exact zo_47
  | 48 => exact zo_48
  | 49 => exact zo_49
  | 50 => exact zo_50
  | 51 => exact zo_51
  | 52 => exact zo_52
  | 53 => exact zo_53
  | 54 => exact zo_54
  | 55 => exact zo_55
  | 56 => exact zo_56
  | 57 => exact zo_57
  | 58 => exact zo_58
  | 59 => exact zo_59
  | 60 => exact zo_60
  | 61 => exact zo_61
  | 62 => exact zo_62
  | 63 => exact zo_63
  | 64 => exact zo_64
  | 65 => exact zo_65
  | 66 => exact zo_66
  | 67 => exact zo_67
  | 68 => exact zo_68
  | 69 => exact zo_69
  | 70 => exact zo_70
  | 71 => exact zo_71
  | 72 => exact zo_72
  | 73 => exact zo_73
  | 74 => exact zo_74
  | 75 => exact zo_75
  | 76 => exact zo_76
  | 77 => exact zo_77
  | 78 => exact zo_78
  | 79 => exact zo_79
  | 80 => exact zo_80
  | 81 => exact zo_81
  | 82 => exact zo_82
  | 83 => exact zo_83
  | 84 => exact zo_84
  | 85 => exact zo_85
  | 86 => exact zo_86
  | 87 => exact zo_87
  | 88 => exact zo_88
  | 89 => exact zo_89
  | 90 => exact zo_90
  | 91 => exact zo_91
  | 92 => exact zo_92
  | 93 => exact zo_93
  | 94 => exact zo_94
  | 95 => exact zo_95
  | 96 => exact zo_96
  | 97 => exact zo_97
  | 98 => exact zo_98
  | 99 => exact zo_99
  | 100 => exact zo_100
  | 101 => exact zo_101
  | 102 => exact zo_102
  | 103 => exact zo_103
  | 104 => exact zo_104
  | 105 => exact zo_105
  | 106 => exact zo_106
  | 107 => exact zo_107
  | 108 => exact zo_108
  | 109 => exact zo_109
  | 110 => exact zo_110
  | 111 => exact zo_111
  | 112 => exact zo_112
  | 113 => exact zo_113
  | 114 => exact zo_114
  | 115 => exact zo_115
  | 116 => exact zo_116
  | 117 => exact zo_117
  | 118 => exact zo_118
  | 119 => exact zo_119
  | 120 => exact zo_120
  | 121 => exact zo_121
  | 122 => exact zo_122
  | 123 => exact zo_123
  | 124 => exact zo_124
  | 125 => exact zo_125
  | 126 => exact zo_126
  | 127 => exact zo_127
  | 128 => exact zo_128
  | 129 => exact zo_129
  | 130 => exact zo_130
  | 131 => exact zo_131
  | 132 => exact zo_132
  | 133 => exact zo_133
  | 134 => exact zo_134
  | 135 => exact zo_135
  | 136 => exact zo_136
  | 137 => exact zo_137
  | k + 138 => show zokK (k + 138); unfold zokK; rw [show zinfo (k + 138) = none from rfl]; trivial
end
section
/-! what the tables say of each method -/
def zT : List Cond := lw_tbl.filter goodWord
def zIok (i : zI) : Prop := lw_tbl[i.2.2.2.2.2.2.2.2.1]? = some (.code i.2.1 i.2.2.1 i.2.2.2.1 i.2.2.2.2.1) ∧ lw_tbl[i.2.2.2.2.2.2.2.2.2.1]? = some (.initialized i.2.1.cls) ∧
  (i.2.2.2.2.2.1 = true → lw_tbl[i.2.2.2.2.2.2.2.2.2.2.1]? = some (.static i.2.1)) ∧
  (i.2.2.2.2.2.1 = false → lw_tbl[i.2.2.2.2.2.2.2.2.2.2.1]? = some (.instanceMethod i.2.1) ∧ lw_tbl[i.2.2.2.2.2.2.2.2.2.2.2]? = some (.selects i.2.1.cls i.2.1 i.2.1) ∧ (zget vwCl i.2.2.2.2.2.2.1).map (fun q => q.1) = some i.2.1.cls) ∧
  i.2.1.cls = i.1 ∧ i.2.1.cls ≠ "java/lang/invoke/MethodHandle" ∧ i.2.1.cls ≠ "java/lang/invoke/VarHandle" ∧ plainName i.2.1.cls = true ∧ (parseMethodDescriptor i.2.1.desc).map (fun d => d.parameters.length) = some i.2.2.2.2.2.2.2.1 ∧ i.2.2.2.1 ≤ 41
theorem zi_0 : zIok (RX5, yX5_fits, cX5_fits, 2, some .boolean, true, 99, 2, 263, 32, 262, 0) := by unfold zIok; decide +kernel
theorem zi_1 : zIok (RX5, yX5_full, cX5_full, 1, some .int, true, 99, 1, 111, 32, 110, 0) := by unfold zIok; decide +kernel
theorem zi_2 : zIok (RX5, yX5_ofPlace, cX5_ofPlace, 1, some .int, true, 99, 1, 227, 32, 226, 0) := by unfold zIok; decide +kernel
theorem zi_3 : zIok (RX5, yX5_bit, cX5_bit, 2, some .int, true, 99, 2, 283, 32, 282, 0) := by unfold zIok; decide +kernel
theorem zi_4 : zIok (RX5, yX5_widened, cX5_widened, 2, some .int, true, 99, 2, 275, 32, 274, 0) := by unfold zIok; decide +kernel
theorem zi_5 : zIok (RX5, yX5_pick, cX5_pick, 3, some .int, true, 99, 3, 371, 32, 370, 0) := by unfold zIok; decide +kernel
theorem zi_6 : zIok (RX5, yX5_tellOfTwo, cX5_tellOfTwo, 5, some .int, true, 99, 3, 479, 32, 478, 0) := by unfold zIok; decide +kernel
theorem zi_7 : zIok (RX5, yX5_tell, cX5_tell, 4, some .int, true, 99, 4, 569, 32, 568, 0) := by unfold zIok; decide +kernel
theorem zi_8 : zIok (RX5, yX5_toldRows, cX5_toldRows, 13, some .int, true, 99, 4, 476, 32, 475, 0) := by unfold zIok; decide +kernel
theorem zi_9 : zIok (RX5, yX5_pickedRows, cX5_pickedRows, 6, some .int, true, 99, 4, 483, 32, 482, 0) := by unfold zIok; decide +kernel
theorem zi_10 : zIok (RX5, yX5_otherHalf, cX5_otherHalf, 5, some .int, true, 99, 2, 286, 32, 285, 0) := by unfold zIok; decide +kernel
theorem zi_11 : zIok (RX5, yX5_matteringPlaces, cX5_matteringPlaces, 5, some .int, true, 99, 2, 578, 32, 577, 0) := by unfold zIok; decide +kernel
theorem zi_12 : zIok (RX5, yX5_keptBits, cX5_keptBits, 3, some .int, true, 99, 2, 280, 32, 279, 0) := by unfold zIok; decide +kernel
theorem zi_13 : zIok (RX5, yX5_isRising, cX5_isRising, 4, some .boolean, true, 99, 2, 289, 32, 288, 0) := by unfold zIok; decide +kernel
theorem zi_14 : zIok (RX5, yX5_isSum, cX5_isSum, 5, some .boolean, true, 99, 2, 292, 32, 291, 0) := by unfold zIok; decide +kernel
theorem zi_15 : zIok (RX7, yX7_begin, cX7_begin, 1, some .int, true, 99, 1, 342, 37, 341, 0) := by unfold zIok; decide +kernel
theorem zi_16 : zIok (RX7, yX7_with, cX7_with, 3, some .int, true, 99, 3, 357, 37, 356, 0) := by unfold zIok; decide +kernel
theorem zi_17 : zIok (RX7, yX7_letter, cX7_letter, 1, some .int, true, 99, 1, 398, 37, 397, 0) := by unfold zIok; decide +kernel
theorem zi_18 : zIok (RX7, yX7_part, cX7_part, 2, some .int, true, 99, 2, 401, 37, 400, 0) := by unfold zIok; decide +kernel
theorem zi_19 : zIok (RX7, yX7_shiftOf, cX7_shiftOf, 1, some .int, true, 99, 1, 360, 37, 359, 0) := by unfold zIok; decide +kernel
theorem zi_20 : zIok (RX0, yX0_becomeX, cX0_becomeX, 1, none, false, 0, 0, 224, 35, 222, 223) := by unfold zIok; decide +kernel
theorem zi_21 : zIok (RX0, yX0_become, cX0_become, 5, none, false, 0, 4, 231, 35, 229, 230) := by unfold zIok; decide +kernel
theorem zi_22 : zIok (RX3, yX3_become, cX3_become, 4, none, false, 3, 3, 272, 30, 270, 271) := by unfold zIok; decide +kernel
theorem zi_23 : zIok (RX3, yX3_preserves, cX3_preserves, 3, some .boolean, false, 3, 2, 473, 30, 471, 472) := by unfold zIok; decide +kernel
theorem zi_24 : zIok (RX4, yX4_has, cX4_has, 2, some .boolean, false, 4, 1, 305, 29, 303, 304) := by unfold zIok; decide +kernel
theorem zi_25 : zIok (RX4, yX4_hasAll, cX4_hasAll, 2, some .boolean, false, 4, 1, 436, 29, 434, 435) := by unfold zIok; decide +kernel
theorem zi_26 : zIok (RX4, yX4_append, cX4_append, 5, some .int, false, 4, 3, 268, 29, 266, 267) := by unfold zIok; decide +kernel
theorem zi_27 : zIok (RX4, yX4_ofThreePlaces, cX4_ofThreePlaces, 3, some .int, false, 4, 0, 325, 29, 323, 324) := by unfold zIok; decide +kernel
theorem zi_28 : zIok (RX4, yX4_keptByAll, cX4_keptByAll, 4, some .int, false, 4, 1, 444, 29, 442, 443) := by unfold zIok; decide +kernel
theorem zi_29 : zIok (RX4, yX4_saysAll, cX4_saysAll, 2, some .boolean, false, 4, 1, 440, 29, 438, 439) := by unfold zIok; decide +kernel
theorem zi_30 : zIok (RX4, yX4_isLeastSet, cX4_isLeastSet, 3, some .boolean, false, 4, 1, 457, 29, 455, 456) := by unfold zIok; decide +kernel
theorem zi_31 : zIok (RX4, yX4_allPreserve, cX4_allPreserve, 4, some .boolean, false, 4, 2, 519, 29, 517, 518) := by unfold zIok; decide +kernel
theorem zi_32 : zIok (RX4, yX4_preservedRelations, cX4_preservedRelations, 4, some .int, false, 4, 1, 514, 29, 512, 513) := by unfold zIok; decide +kernel
theorem zi_33 : zIok (RX4, yX4_grown, cX4_grown, 7, some .int, false, 4, 2, 495, 29, 493, 494) := by unfold zIok; decide +kernel
theorem zi_34 : zIok (RX6, yX6_hasRoom, cX6_hasRoom, 2, some .boolean, false, 5, 1, 528, 33, 526, 527) := by unfold zIok; decide +kernel
theorem zi_35 : zIok (RX6, yX6_append, cX6_append, 5, none, false, 5, 2, 532, 33, 530, 531) := by unfold zIok; decide +kernel
theorem zi_36 : zIok (RX6, yX6_byteAt, cX6_byteAt, 2, some .int, false, 5, 1, 555, 33, 553, 554) := by unfold zIok; decide +kernel
theorem zi_37 : zIok (RX2, yX2_understands, cX2_understands, 1, some .boolean, false, 2, 0, 547, 34, 545, 546) := by unfold zIok; decide +kernel
theorem zi_38 : zIok (RX2, yX2_tableOfNext, cX2_tableOfNext, 5, some .int, false, 2, 1, 551, 34, 550, 10) := by unfold zIok; decide +kernel
theorem zi_39 : zIok (RX2, yX2_tableOfParts, cX2_tableOfParts, 9, some .int, false, 2, 2, 561, 34, 560, 11) := by unfold zIok; decide +kernel
theorem zi_40 : zIok (RX2, yX2_takes, cX2_takes, 2, some .boolean, false, 2, 1, 565, 34, 564, 12) := by unfold zIok; decide +kernel
theorem zi_41 : zIok (RX1, yX1_explore, cX1_explore, 5, none, false, 1, 1, 333, 31, 331, 332) := by unfold zIok; decide +kernel
theorem zi_42 : zIok (RX1, yX1_begin, cX1_begin, 4, none, false, 1, 1, 337, 31, 336, 3) := by unfold zIok; decide +kernel
theorem zi_43 : zIok (RX1, yX1_cheapestOpen, cX1_cheapestOpen, 4, some .int, false, 1, 0, 350, 31, 349, 5) := by unfold zIok; decide +kernel
theorem zi_44 : zIok (RX1, yX1_join, cX1_join, 5, none, false, 1, 3, 354, 31, 353, 6) := by unfold zIok; decide +kernel
theorem zi_45 : zIok (RX1, yX1_joinAt, cX1_joinAt, 17, none, false, 1, 4, 364, 31, 363, 7) := by unfold zIok; decide +kernel
theorem zi_46 : zIok (RX1, yX1_joinLast, cX1_joinLast, 9, none, false, 1, 5, 375, 31, 374, 8) := by unfold zIok; decide +kernel
theorem zi_47 : zIok (RX1, yX1_leftOf, cX1_leftOf, 6, some .int, true, 1, 4, 367, 31, 366, 0) := by unfold zIok; decide +kernel
theorem zi_48 : zIok (RX1, yX1_offer, cX1_offer, 5, none, false, 1, 3, 346, 31, 345, 4) := by unfold zIok; decide +kernel
theorem zi_49 : zIok (RX1, yX1_covers, cX1_covers, 2, some .boolean, false, 1, 1, 387, 31, 386, 9) := by unfold zIok; decide +kernel
theorem zi_50 : zIok (RX1, yX1_leastCost, cX1_leastCost, 2, some .int, false, 1, 1, 383, 31, 381, 382) := by unfold zIok; decide +kernel
theorem zi_51 : zIok (RX1, yX1_wayTo, cX1_wayTo, 2, some .int, false, 1, 1, 395, 31, 393, 394) := by unfold zIok; decide +kernel
theorem zi_52 : zIok (RX1, yX1_greatestCost, cX1_greatestCost, 3, some .int, false, 1, 0, 409, 31, 407, 408) := by unfold zIok; decide +kernel
theorem zi_53 : zIok (RX1, yX1_firstCosting, cX1_firstCosting, 3, some .int, false, 1, 1, 416, 31, 414, 415) := by unfold zIok; decide +kernel
theorem zi_54 : zIok (RX1, yX1_firstUnreached, cX1_firstUnreached, 2, some .int, false, 1, 0, 420, 31, 418, 419) := by unfold zIok; decide +kernel
theorem zi_55 : zIok (RX1, yX1_howManyCost, cX1_howManyCost, 4, some .int, false, 1, 1, 428, 31, 426, 427) := by unfold zIok; decide +kernel
theorem zi_56 : zIok (RX8, yX8_sign, cX8_sign, 5, some .int, false, 6, 3, 260, 28, 258, 259) := by unfold zIok; decide +kernel
theorem zi_57 : zIok (RX8, yX8_drop, cX8_drop, 1, some .int, false, 6, 0, 297, 28, 295, 296) := by unfold zIok; decide +kernel
theorem zi_58 : zIok (RX8, yX8_about, cX8_about, 4, some .int, false, 6, 2, 301, 28, 299, 300) := by unfold zIok; decide +kernel
theorem zi_59 : zIok (RX8, yX8_keeps, cX8_keeps, 3, some .int, false, 6, 2, 309, 28, 307, 308) := by unfold zIok; decide +kernel
theorem zi_60 : zIok (RX8, yX8_reached, cX8_reached, 2, some .int, false, 6, 1, 314, 28, 312, 313) := by unfold zIok; decide +kernel
theorem zi_61 : zIok (RX8, yX8_least, cX8_least, 3, some .int, false, 6, 2, 379, 28, 377, 378) := by unfold zIok; decide +kernel
theorem zi_62 : zIok (RX8, yX8_by, cX8_by, 6, some .int, false, 6, 3, 391, 28, 389, 390) := by unfold zIok; decide +kernel
theorem zi_63 : zIok (RX8, yX8_farthest, cX8_farthest, 4, some .int, false, 6, 2, 405, 28, 403, 404) := by unfold zIok; decide +kernel
theorem zi_64 : zIok (RX8, yX8_costing, cX8_costing, 3, some .int, false, 6, 2, 424, 28, 422, 423) := by unfold zIok; decide +kernel
theorem zi_65 : zIok (RX8, yX8_says, cX8_says, 2, some .int, false, 6, 1, 432, 28, 430, 431) := by unfold zIok; decide +kernel
theorem zi_66 : zIok (RX8, yX8_lacks, cX8_lacks, 2, some .int, false, 6, 1, 448, 28, 446, 447) := by unfold zIok; decide +kernel
theorem zi_67 : zIok (RX8, yX8_sets, cX8_sets, 4, some .int, false, 6, 1, 453, 28, 451, 452) := by unfold zIok; decide +kernel
theorem zi_68 : zIok (RX8, yX8_alone, cX8_alone, 4, some .int, false, 6, 1, 462, 28, 460, 461) := by unfold zIok; decide +kernel
theorem zi_69 : zIok (RX8, yX8_lets, cX8_lets, 4, some .int, false, 6, 3, 466, 28, 464, 465) := by unfold zIok; decide +kernel
theorem zi_70 : zIok (RX8, yX8_letting, cX8_letting, 5, some .int, false, 6, 2, 487, 28, 485, 486) := by unfold zIok; decide +kernel
theorem zi_71 : zIok (RX8, yX8_around, cX8_around, 3, some .int, false, 6, 2, 491, 28, 489, 490) := by unfold zIok; decide +kernel
theorem zi_72 : zIok (RX8, yX8_sorts, cX8_sorts, 7, some .int, false, 6, 2, 500, 28, 498, 499) := by unfold zIok; decide +kernel
theorem zi_73 : zIok (RX8, yX8_kept, cX8_kept, 2, some .int, false, 6, 1, 510, 28, 508, 509) := by unfold zIok; decide +kernel
theorem zi_74 : zIok (RX8, yX8_type, cX8_type, 4, some .int, false, 6, 2, 524, 28, 522, 523) := by unfold zIok; decide +kernel
theorem zi_75 : zIok (RX8, yX8_clear, cX8_clear, 2, some .int, false, 6, 0, 536, 28, 534, 535) := by unfold zIok; decide +kernel
theorem zi_76 : zIok (RX8, yX8_read, cX8_read, 3, some .int, false, 6, 1, 540, 28, 538, 539) := by unfold zIok; decide +kernel
theorem zi_77 : zIok (RX8, yX8_formula, cX8_formula, 4, some .int, false, 6, 2, 575, 28, 573, 574) := by unfold zIok; decide +kernel
theorem zi_78 : zIok (RX8, yX8_leastened, cX8_leastened, 2, some .int, false, 6, 1, 589, 28, 587, 588) := by unfold zIok; decide +kernel
theorem zi_79 : zIok (RX8, yX8_both, cX8_both, 7, some .int, false, 6, 3, 593, 28, 591, 592) := by unfold zIok; decide +kernel
theorem zi_80 : zIok (RX8, yX8_count, cX8_count, 2, some .int, false, 6, 1, 597, 28, 595, 596) := by unfold zIok; decide +kernel
theorem zi_81 : zIok (RX8, yX8_forgetAnswers, cX8_forgetAnswers, 2, none, false, 6, 0, 220, 28, 219, 0) := by unfold zIok; decide +kernel
theorem zi_82 : zIok (RX8, yX8_isCount, cX8_isCount, 1, some .boolean, true, 6, 1, 317, 28, 316, 0) := by unfold zIok; decide +kernel
theorem zi_83 : zIok (RX8, yX8_isRelation, cX8_isRelation, 2, some .boolean, true, 6, 2, 469, 28, 468, 0) := by unfold zIok; decide +kernel
theorem zi_84 : zIok (RX8, yX8_isFormula, cX8_isFormula, 1, some .boolean, true, 6, 1, 543, 28, 542, 0) := by unfold zIok; decide +kernel
theorem zi_85 : zIok (RX8, yX8_isBarred, cX8_isBarred, 2, some .boolean, false, 6, 1, 321, 28, 320, 1) := by unfold zIok; decide +kernel
theorem zi_86 : zIok (RX8, yX8_reachOf, cX8_reachOf, 3, some (.object "FewSigns$Reach"), false, 6, 1, 329, 28, 328, 2) := by unfold zIok; decide +kernel
theorem zi_87 : zIok (RJ6, yJ6_bitCount_0f7a4, cJ6_bitCount_0f7a4, 1, some .int, true, 99, 1, 582, 39, 581, 0) := by unfold zIok; decide +kernel
theorem zi_89 : zIok (RX9, yX9_in, cX9_in, 3, some .boolean, true, 7, 3, 678, 36, 677, 0) := by unfold zIok; decide +kernel
theorem zi_90 : zIok (RX9, yX9_empties, cX9_empties, 2, none, false, 7, 0, 607, 36, 606, 13) := by unfold zIok; decide +kernel
theorem zi_91 : zIok (RX9, yX9_tables, cX9_tables, 1, some .int, true, 7, 1, 681, 36, 680, 0) := by unfold zIok; decide +kernel
theorem zi_92 : zIok (RX9, yX9_sign, cX9_sign, 4, some .int, false, 7, 3, 675, 36, 673, 674) := by unfold zIok; decide +kernel
theorem zi_93 : zIok (RX9, yX9_drop, cX9_drop, 1, some .int, false, 7, 0, 685, 36, 683, 684) := by unfold zIok; decide +kernel
theorem zi_94 : zIok (RX9, yX9_keepsOf, cX9_keepsOf, 13, some .int, true, 7, 2, 692, 36, 691, 0) := by unfold zIok; decide +kernel
theorem zi_95 : zIok (RX9, yX9_about, cX9_about, 3, some .int, false, 7, 2, 689, 36, 687, 688) := by unfold zIok; decide +kernel
theorem zi_96 : zIok (RX9, yX9_keeps, cX9_keeps, 3, some .int, false, 7, 2, 696, 36, 694, 695) := by unfold zIok; decide +kernel
theorem zi_97 : zIok (RX9, yX9_hasThree, cX9_hasThree, 3, some .boolean, false, 7, 0, 708, 36, 707, 15) := by unfold zIok; decide +kernel
theorem zi_98 : zIok (RX9, yX9_joined, cX9_joined, 9, some .int, false, 7, 5, 719, 36, 718, 17) := by unfold zIok; decide +kernel
theorem zi_99 : zIok (RX9, yX9_place, cX9_place, 4, some .int, true, 7, 2, 715, 36, 714, 0) := by unfold zIok; decide +kernel
theorem zi_100 : zIok (RX9, yX9_finds, cX9_finds, 16, none, false, 7, 1, 712, 36, 711, 16) := by unfold zIok; decide +kernel
theorem zi_101 : zIok (RX9, yX9_refuses, cX9_refuses, 2, some .int, false, 7, 1, 704, 36, 703, 14) := by unfold zIok; decide +kernel
theorem zi_102 : zIok (RX9, yX9_reached, cX9_reached, 5, some .int, false, 7, 1, 700, 36, 698, 699) := by unfold zIok; decide +kernel
theorem zi_103 : zIok (RX9, yX9_least, cX9_least, 3, some .int, false, 7, 2, 723, 36, 721, 722) := by unfold zIok; decide +kernel
theorem zi_104 : zIok (RX9, yX9_isBy, cX9_isBy, 15, some .boolean, false, 7, 3, 731, 36, 730, 18) := by unfold zIok; decide +kernel
theorem zi_105 : zIok (RX9, yX9_by, cX9_by, 5, some .int, false, 7, 3, 727, 36, 725, 726) := by unfold zIok; decide +kernel
theorem zi_106 : zIok (RX9, yX9_farthest, cX9_farthest, 7, some .int, false, 7, 2, 735, 36, 733, 734) := by unfold zIok; decide +kernel
theorem zi_107 : zIok (RX9, yX9_costing, cX9_costing, 5, some .int, false, 7, 2, 739, 36, 737, 738) := by unfold zIok; decide +kernel
theorem zi_108 : zIok (RX9, yX9_isSet, cX9_isSet, 2, some .boolean, false, 7, 1, 747, 36, 746, 19) := by unfold zIok; decide +kernel
theorem zi_109 : zIok (RX9, yX9_lacksOf, cX9_lacksOf, 4, some .int, false, 7, 1, 751, 36, 750, 20) := by unfold zIok; decide +kernel
theorem zi_110 : zIok (RX9, yX9_says, cX9_says, 2, some .int, false, 7, 1, 743, 36, 741, 742) := by unfold zIok; decide +kernel
theorem zi_111 : zIok (RX9, yX9_lacks, cX9_lacks, 2, some .int, false, 7, 1, 755, 36, 753, 754) := by unfold zIok; decide +kernel
theorem zi_112 : zIok (RX9, yX9_isLeastSet, cX9_isLeastSet, 4, some .boolean, false, 7, 1, 763, 36, 762, 21) := by unfold zIok; decide +kernel
theorem zi_113 : zIok (RX9, yX9_sets, cX9_sets, 4, some .int, false, 7, 1, 759, 36, 757, 758) := by unfold zIok; decide +kernel
theorem zi_114 : zIok (RX9, yX9_alone, cX9_alone, 4, some .int, false, 7, 1, 767, 36, 765, 766) := by unfold zIok; decide +kernel
theorem zi_115 : zIok (RX9, yX9_isRelation, cX9_isRelation, 2, some .boolean, true, 7, 2, 774, 36, 773, 0) := by unfold zIok; decide +kernel
theorem zi_116 : zIok (RX9, yX9_told, cX9_told, 8, some .int, true, 7, 5, 784, 36, 783, 0) := by unfold zIok; decide +kernel
theorem zi_117 : zIok (RX9, yX9_makes, cX9_makes, 10, some .int, true, 7, 4, 781, 36, 780, 0) := by unfold zIok; decide +kernel
theorem zi_118 : zIok (RX9, yX9_isLet, cX9_isLet, 4, some .boolean, false, 7, 3, 778, 36, 777, 22) := by unfold zIok; decide +kernel
theorem zi_119 : zIok (RX9, yX9_lets, cX9_lets, 4, some .int, false, 7, 3, 771, 36, 769, 770) := by unfold zIok; decide +kernel
theorem zi_120 : zIok (RX9, yX9_lettingOf, cX9_lettingOf, 5, some .int, false, 7, 2, 792, 36, 791, 23) := by unfold zIok; decide +kernel
theorem zi_121 : zIok (RX9, yX9_letting, cX9_letting, 3, some .int, false, 7, 2, 788, 36, 786, 787) := by unfold zIok; decide +kernel
theorem zi_122 : zIok (RX9, yX9_around, cX9_around, 6, some .int, false, 7, 2, 796, 36, 794, 795) := by unfold zIok; decide +kernel
theorem zi_123 : zIok (RX9, yX9_sorts, cX9_sorts, 4, some .int, false, 7, 2, 800, 36, 798, 799) := by unfold zIok; decide +kernel
theorem zi_124 : zIok (RX9, yX9_kept, cX9_kept, 4, some .int, false, 7, 1, 804, 36, 802, 803) := by unfold zIok; decide +kernel
theorem zi_125 : zIok (RX9, yX9_type, cX9_type, 5, some .int, false, 7, 2, 808, 36, 806, 807) := by unfold zIok; decide +kernel
theorem zi_126 : zIok (RX9, yX9_clear, cX9_clear, 2, some .int, false, 7, 0, 813, 36, 811, 812) := by unfold zIok; decide +kernel
theorem zi_127 : zIok (RX9, yX9_isFormula, cX9_isFormula, 9, some .boolean, false, 7, 0, 821, 36, 820, 24) := by unfold zIok; decide +kernel
theorem zi_128 : zIok (RX9, yX9_read, cX9_read, 3, some .int, false, 7, 1, 817, 36, 815, 816) := by unfold zIok; decide +kernel
theorem zi_129 : zIok (RX9, yX9_judges, cX9_judges, 10, none, false, 7, 1, 833, 36, 832, 26) := by unfold zIok; decide +kernel
theorem zi_130 : zIok (RX9, yX9_otherHalf, cX9_otherHalf, 3, some .int, true, 7, 1, 839, 36, 838, 0) := by unfold zIok; decide +kernel
theorem zi_131 : zIok (RX9, yX9_matters, cX9_matters, 4, some .int, true, 7, 1, 836, 36, 835, 0) := by unfold zIok; decide +kernel
theorem zi_132 : zIok (RX9, yX9_tableOf, cX9_tableOf, 2, some .int, false, 7, 1, 829, 36, 828, 25) := by unfold zIok; decide +kernel
theorem zi_133 : zIok (RX9, yX9_formula, cX9_formula, 6, some .int, false, 7, 2, 825, 36, 823, 824) := by unfold zIok; decide +kernel
theorem zi_134 : zIok (RX9, yX9_leastened, cX9_leastened, 3, some .int, false, 7, 1, 843, 36, 841, 842) := by unfold zIok; decide +kernel
theorem zi_135 : zIok (RX9, yX9_both, cX9_both, 7, some .int, false, 7, 3, 847, 36, 845, 846) := by unfold zIok; decide +kernel
theorem zi_136 : zIok (RX9, yX9_count, cX9_count, 4, some .int, false, 7, 1, 851, 36, 849, 850) := by unfold zIok; decide +kernel
theorem zi_all : ∀ k i, zinfo k = some i → zIok i ∨ (i.2.2.2.2.2.1 = false ∧ i.2.2.2.2.2.2.1 = 99) := by
  intro k i h
  match k, h with
  | 0, h => cases h; exact Or.inl zi_0
  | 1, h => cases h; exact Or.inl zi_1
  | 2, h => cases h; exact Or.inl zi_2
  | 3, h => cases h; exact Or.inl zi_3
  | 4, h => cases h; exact Or.inl zi_4
  | 5, h => cases h; exact Or.inl zi_5
  | 6, h => cases h; exact Or.inl zi_6
  | 7, h => cases h; exact Or.inl zi_7
  | 8, h => cases h; exact Or.inl zi_8
  | 9, h => cases h; exact Or.inl zi_9
  | 10, h => cases h; exact Or.inl zi_10
  | 11, h => cases h; exact Or.inl zi_11
  | 12, h => cases h; exact Or.inl zi_12
  | 13, h => cases h; exact Or.inl zi_13
  | 14, h => cases h; exact Or.inl zi_14
  | 15, h => cases h; exact Or.inl zi_15
  | 16, h => cases h; exact Or.inl zi_16
  | 17, h => cases h; exact Or.inl zi_17
  | 18, h => cases h; exact Or.inl zi_18
  | 19, h => cases h; exact Or.inl zi_19
  | 20, h => cases h; exact Or.inl zi_20
  | 21, h => cases h; exact Or.inl zi_21
  | 22, h => cases h; exact Or.inl zi_22
  | 23, h => cases h; exact Or.inl zi_23
  | 24, h => cases h; exact Or.inl zi_24
  | 25, h => cases h; exact Or.inl zi_25
  | 26, h => cases h; exact Or.inl zi_26
  | 27, h => cases h; exact Or.inl zi_27
  | 28, h => cases h; exact Or.inl zi_28
  | 29, h => cases h; exact Or.inl zi_29
  | 30, h => cases h; exact Or.inl zi_30
  | 31, h => cases h; exact Or.inl zi_31
  | 32, h => cases h; exact Or.inl zi_32
  | 33, h => cases h; exact Or.inl zi_33
  | 34, h => cases h; exact Or.inl zi_34
  | 35, h => cases h; exact Or.inl zi_35
  | 36, h => cases h; exact Or.inl zi_36
  | 37, h => cases h; exact Or.inl zi_37
  | 38, h => cases h; exact Or.inl zi_38
  | 39, h => cases h; exact Or.inl zi_39
  | 40, h => cases h; exact Or.inl zi_40
  | 41, h => cases h; exact Or.inl zi_41
  | 42, h => cases h; exact Or.inl zi_42
  | 43, h => cases h; exact Or.inl zi_43
  | 44, h => cases h; exact Or.inl zi_44
  | 45, h => cases h; exact Or.inl zi_45
  | 46, h => cases h; exact Or.inl zi_46
  | 47, h => cases h; exact Or.inl zi_47
  | 48, h => cases h; exact Or.inl zi_48
  | 49, h => cases h; exact Or.inl zi_49
  | 50, h => cases h; exact Or.inl zi_50
  | 51, h => cases h; exact Or.inl zi_51
  | 52, h => cases h; exact Or.inl zi_52
  | 53, h => cases h; exact Or.inl zi_53
  | 54, h => cases h; exact Or.inl zi_54
  | 55, h => cases h; exact Or.inl zi_55
  | 56, h => cases h; exact Or.inl zi_56
  | 57, h => cases h; exact Or.inl zi_57
  | 58, h => cases h; exact Or.inl zi_58
  | 59, h => cases h; exact Or.inl zi_59
  | 60, h => cases h; exact Or.inl zi_60
  | 61, h => cases h; exact Or.inl zi_61
  | 62, h => cases h; exact Or.inl zi_62
  | 63, h => cases h; exact Or.inl zi_63
  | 64, h => cases h; exact Or.inl zi_64
  | 65, h => cases h; exact Or.inl zi_65
  | 66, h => cases h; exact Or.inl zi_66
  | 67, h => cases h; exact Or.inl zi_67
  | 68, h => cases h; exact Or.inl zi_68
  | 69, h => cases h; exact Or.inl zi_69
  | 70, h => cases h; exact Or.inl zi_70
  | 71, h => cases h; exact Or.inl zi_71
  | 72, h => cases h; exact Or.inl zi_72
  | 73, h => cases h; exact Or.inl zi_73
  | 74, h => cases h; exact Or.inl zi_74
  | 75, h => cases h; exact Or.inl zi_75
  | 76, h => cases h; exact Or.inl zi_76
  | 77, h => cases h; exact Or.inl zi_77
  | 78, h => cases h; exact Or.inl zi_78
  | 79, h => cases h; exact Or.inl zi_79
  | 80, h => cases h; exact Or.inl zi_80
  | 81, h => cases h; exact Or.inl zi_81
  | 82, h => cases h; exact Or.inl zi_82
  | 83, h => cases h; exact Or.inl zi_83
  | 84, h => cases h; exact Or.inl zi_84
  | 85, h => cases h; exact Or.inl zi_85
  | 86, h => cases h; exact Or.inl zi_86
  | 87, h => cases h; exact Or.inl zi_87
  | 88, h => cases h; exact Or.inr ⟨rfl, rfl⟩
  | 89, h => cases h; exact Or.inl zi_89
  | 90, h => cases h; exact Or.inl zi_90
  | 91, h => cases h; exact Or.inl zi_91
  | 92, h => cases h; exact Or.inl zi_92
  | 93, h => cases h; exact Or.inl zi_93
  | 94, h => cases h; exact Or.inl zi_94
  | 95, h => cases h; exact Or.inl zi_95
  | 96, h => cases h; exact Or.inl zi_96
  | 97, h => cases h; exact Or.inl zi_97
  | 98, h => cases h; exact Or.inl zi_98
  | 99, h => cases h; exact Or.inl zi_99
  | 100, h => cases h; exact Or.inl zi_100
  | 101, h => cases h; exact Or.inl zi_101
  | 102, h => cases h; exact Or.inl zi_102
  | 103, h => cases h; exact Or.inl zi_103
  | 104, h => cases h; exact Or.inl zi_104
  | 105, h => cases h; exact Or.inl zi_105
  | 106, h => cases h; exact Or.inl zi_106
  | 107, h => cases h; exact Or.inl zi_107
  | 108, h => cases h; exact Or.inl zi_108
  | 109, h => cases h; exact Or.inl zi_109
  | 110, h => cases h; exact Or.inl zi_110
  | 111, h => cases h; exact Or.inl zi_111
  | 112, h => cases h; exact Or.inl zi_112
  | 113, h => cases h; exact Or.inl zi_113
  | 114, h => cases h; exact Or.inl zi_114
  | 115, h => cases h; exact Or.inl zi_115
  | 116, h => cases h; exact Or.inl zi_116
  | 117, h => cases h; exact Or.inl zi_117
  | 118, h => cases h; exact Or.inl zi_118
  | 119, h => cases h; exact Or.inl zi_119
  | 120, h => cases h; exact Or.inl zi_120
  | 121, h => cases h; exact Or.inl zi_121
  | 122, h => cases h; exact Or.inl zi_122
  | 123, h => cases h; exact Or.inl zi_123
  | 124, h => cases h; exact Or.inl zi_124
  | 125, h => cases h; exact Or.inl zi_125
  | 126, h => cases h; exact Or.inl zi_126
  | 127, h => cases h; exact Or.inl zi_127
  | 128, h => cases h; exact Or.inl zi_128
  | 129, h => cases h; exact Or.inl zi_129
  | 130, h => cases h; exact Or.inl zi_130
  | 131, h => cases h; exact Or.inl zi_131
  | 132, h => cases h; exact Or.inl zi_132
  | 133, h => cases h; exact Or.inl zi_133
  | 134, h => cases h; exact Or.inl zi_134
  | 135, h => cases h; exact Or.inl zi_135
  | 136, h => cases h; exact Or.inl zi_136
  | 137, h => cases h; exact Or.inr ⟨rfl, rfl⟩
  | k + 138, h => exact absurd h (by rw [show zinfo (k + 138) = none from rfl]; simp)
theorem zT_in {w : Cond} {i : Nat} (h : lw_tbl[i]? = some w) (hg : goodWord w = true) : w ∈ zT := List.mem_filter.mpr ⟨List.mem_of_getElem? h, hg⟩
theorem zT_good {ws : List Cond} (h : ∀ w ∈ ws, w ∈ zT) : GoodIn zT ws := fun w hw => ⟨h w hw, good_of_word (List.mem_filter.mp (h w hw)).2⟩
end
section
/-! the pure machine's pictures in the machine's own words -/
def ztr (ad : Nat → Nat) : Value → Value
  | .ref k => .ref (ad k)
  | v => v
def zpr (ad : Nat → Nat) : Nat → List Value → List (Nat × Value)
  | _, [] => []
  | i, .null :: r => zpr ad (i + 1) r
  | i, v :: r => (i, ztr ad v) :: zpr ad (i + 1) r
theorem zpr_tail {ad : Nat → Nat} {q : Nat × Value} (a : Value) (r : List Value) (b : Nat) (h : q ∈ zpr ad (b + 1) r) : q ∈ zpr ad b (a :: r) := by
  cases a <;> simp only [zpr] <;> first | exact h | exact List.mem_cons_of_mem _ h
theorem zpr_cases {ad : Nat → Nat} {q : Nat × Value} {a : Value} {r : List Value} {b : Nat} (h : q ∈ zpr ad b (a :: r)) : q ∈ zpr ad (b + 1) r ∨ (q = (b, ztr ad a) ∧ ¬ a = .null) := by
  cases a <;> simp only [zpr] at h <;> first | exact Or.inl h | (rcases List.mem_cons.mp h with h | h; exact Or.inr ⟨h, by simp⟩; exact Or.inl h)
theorem zpr_ge {ad : Nat → Nat} {q : Nat × Value} : ∀ (L : List Value) (b : Nat), q ∈ zpr ad b L → b ≤ q.1 := by
  intro L
  induction L with
  | nil => intro b h; simp [zpr] at h
  | cons a r ih =>
    intro b h
    rcases zpr_cases h with h | ⟨h, -⟩
    · exact Nat.le_of_succ_le (ih _ h)
    · rw [h]; exact Nat.le_refl _
theorem zpr_get {ad : Nat → Nat} {v : Value} (hv : ¬ v = .null) : ∀ (L : List Value) (b i : Nat), zget L i = some v → (b + i, ztr ad v) ∈ zpr ad b L := by
  intro L
  induction L with
  | nil => intro b i h; simp [zget] at h
  | cons a r ih =>
    intro b i h
    cases i with
    | zero =>
      simp only [zget, Option.some.injEq] at h
      subst h
      cases a <;> simp [zpr] at hv ⊢
    | succ n =>
      have := ih (b + 1) n h
      rw [show b + 1 + n = b + (n + 1) by omega] at this
      exact zpr_tail a r b this
theorem zsl_cons (a : Value) (r : List Value) (n : Nat) (v : Value) : zsl (a :: r) (n + 1) v = .null :: zsl r n v ∨ (zsl (a :: r) (n + 1) v = a :: zsl r n v ∧ ¬ (n = 0 ∧ a.category = 2)) := by
  cases a <;> cases n <;> simp [zsl, Value.category]
theorem zsl_length (v : Value) : ∀ (L : List Value) (i : Nat), (zsl L i v).length = L.length := by
  intro L
  induction L with
  | nil => intro i; simp [zsl]
  | cons a r ih =>
    intro i
    cases i with
    | zero => simp [zsl]
    | succ n => rcases zsl_cons a r n v with h | ⟨h, -⟩ <;> rw [h] <;> simp [ih]
theorem ztr_cat (ad : Nat → Nat) (v : Value) : (ztr ad v).category = v.category := by cases v <;> rfl
theorem zpr_sl {ad : Nat → Nat} {v : Value} (hv : ¬ v = .null) {q : Nat × Value} : ∀ (L : List Value) (i b : Nat), q ∈ zpr ad b (zsl L i v) → q = (b + i, ztr ad v) ∨ (q ∈ zpr ad b L ∧ ¬ q.1 = b + i ∧ ¬ (q.1 + 1 = b + i ∧ q.2.category = 2)) := by
  intro L
  induction L with
  | nil => intro i b h; simp [zsl, zpr] at h
  | cons a r ih =>
    intro i b h
    cases i with
    | zero =>
      simp only [zsl] at h
      rcases zpr_cases h with h | ⟨h, -⟩
      · have := zpr_ge _ _ h
        exact Or.inr ⟨zpr_tail a r b h, by omega, by omega⟩
      · exact Or.inl h
    | succ n =>
      rcases zsl_cons a r n v with e | ⟨e, hn⟩
      · rw [e] at h
        rcases zpr_cases h with h | ⟨h, h2⟩
        · rcases ih n (b + 1) h with h | ⟨h1, h2, h3⟩
          · exact Or.inl (by rw [h]; congr 1; omega)
          · exact Or.inr ⟨zpr_tail a r b h1, by omega, fun z => h3 ⟨by omega, z.2⟩⟩
        · exact absurd rfl h2
      · rw [e] at h
        rcases zpr_cases h with h | ⟨h, h2⟩
        · rcases ih n (b + 1) h with h | ⟨h1, h2, h3⟩
          · exact Or.inl (by rw [h]; congr 1; omega)
          · exact Or.inr ⟨zpr_tail a r b h1, by omega, fun z => h3 ⟨by omega, z.2⟩⟩
        · refine Or.inr ⟨?_, by rw [h]; show ¬ b = _; omega, ?_⟩
          · rw [h]
            exact zpr_get (v := a) h2 (a :: r) b 0 rfl
          · rw [h]
            rintro ⟨z1, z2⟩
            rw [ztr_cat] at z2
            exact hn ⟨by dsimp only at z1; omega, z2⟩
theorem zhas_sub {ls : Array Slot} {nL : Nat} {l l' : List (Nat × Value)} (h : lv_has ls nL l) (hs : ∀ q ∈ l', q ∈ l) : lv_has ls nL l' := ⟨h.1, h.2.1, fun q hq => h.2.2 q (hs q hq)⟩
theorem zhas_store {ad : Nat → Nat} {ls : Array Slot} {nL i : Nat} {L : List Value} {v : Value} (hv : ¬ v = .null) (h : lv_has ls nL ((i, ztr ad v) :: (zpr ad 0 L).filter (fun q => !(q.1 == i) && !(q.1 + 1 == i && q.2.category == 2)))) : lv_has ls nL (zpr ad 0 (zsl L i v)) := by
  refine zhas_sub h (fun q hq => ?_)
  rcases zpr_sl hv L i 0 hq with h | ⟨h1, h2, h3⟩
  · rw [h]; simp
  · refine List.mem_cons_of_mem _ (List.mem_filter.mpr ⟨h1, ?_⟩)
    simp only [Nat.zero_add] at h2 h3
    simp only [Bool.and_eq_true, Bool.not_eq_true', beq_eq_false_iff_ne, ne_eq, Bool.and_eq_false_iff]
    refine ⟨h2, ?_⟩
    by_cases z : q.1 + 1 = i
    · exact Or.inr (fun w => h3 ⟨z, by exact w⟩)
    · exact Or.inl z
theorem zlo_length (ad : Nat → Nat) : ∀ as : List Value, (lg_sl (as.map (ztr ad))).length = (zlo as).length := by
  intro as
  induction as with
  | nil => rfl
  | cons a r ih => cases a <;> simp [lg_sl, zlo, ztr, Value.category] at ih ⊢ <;> omega
theorem zlo_args (ad : Nat → Nat) {q : Nat × Value} : ∀ (as : List Value) (b : Nat), q ∈ zpr ad b (zlo as) → q ∈ lv_args b (as.map (ztr ad)) := by
  intro as
  induction as with
  | nil => intro b h; simp [zlo, zpr] at h
  | cons a r ih =>
    intro b h
    cases a <;> simp only [zlo, zpr, List.map_cons, lv_args, ztr, Value.category] at h ⊢ <;> simp at h ⊢ <;> first | exact Or.inr (ih _ h) | (rcases h with h | h; exact Or.inl h; exact Or.inr (ih _ h))
theorem zpad_pr (ad : Nat → Nat) : ∀ (n : Nat) (L : List Value) (b : Nat), L.length ≤ n → zpr ad b (zpad n L) = zpr ad b L ∧ (zpad n L).length = n := by
  intro n
  induction n with
  | zero => intro L b h; cases L with
    | nil => exact ⟨rfl, rfl⟩
    | cons a r => simp at h
  | succ n ih =>
    intro L b h
    cases L with
    | nil =>
      have := ih [] (b + 1) (Nat.zero_le _)
      exact ⟨by simp only [zpad, zpr]; rw [this.1]; simp [zpr], by simp [zpad, this.2]⟩
    | cons a r =>
      have := ih r (b + 1) (by simpa using h)
      exact ⟨by cases a <;> simp only [zpad, zpr, this.1], by simp [zpad, this.2]⟩
theorem zget_eq {α : Type} : ∀ (l : List α) (k : Nat), zget l k = l[k]? := by
  intro l
  induction l with
  | nil => intro k; simp [zget]
  | cons a r ih => intro k; cases k with
    | zero => simp [zget]
    | succ n => simp [zget, ih]
theorem zget_mem {α : Type} {l : List α} {k : Nat} {x : α} (h : zget l k = some x) : x ∈ l := by rw [zget_eq] at h; exact List.mem_of_getElem? h
theorem zpop_spec : ∀ (n : Nat) (acc st as r : List Value), zpop n acc st = some (as, r) → ∃ bs, as = bs ++ acc ∧ st = bs.reverse ++ r ∧ bs.length = n := by
  intro n
  induction n with
  | zero => intro acc st as r h; simp only [zpop, Option.some.injEq, Prod.mk.injEq] at h; exact ⟨[], by simp [h.1], by simp [h.2], rfl⟩
  | succ n ih =>
    intro acc st as r h
    cases st with
    | nil => simp [zpop] at h
    | cons v st =>
      obtain ⟨bs, h1, h2, h3⟩ := ih (v :: acc) st as r h
      exact ⟨bs ++ [v], by simp [h1], by simp [h2], by simp [h3]⟩
theorem zslots_sum (ad : Nat → Nat) : ∀ r : List Value, ((r.map (ztr ad)).map fun v => v.category).sum = zslots r := by
  intro r
  induction r with
  | nil => rfl
  | cons a r ih => simp only [List.map_cons, List.sum_cons, zslots, ih, ztr_cat]
def zfv (ad : Nat → Nat) (f : Nat → Int32) : Nat → List (Option Nat) → List Value
  | _, [] => []
  | b, some q :: r => .ref (ad q) :: zfv ad f (b + 1) r
  | b, none :: r => .int (f b) :: zfv ad f (b + 1) r
theorem zfv_length (ad : Nat → Nat) (f : Nat → Int32) : ∀ (fs : List (Option Nat)) (b : Nat), (zfv ad f b fs).length = fs.length := by
  intro fs
  induction fs with
  | nil => intro b; rfl
  | cons a r ih => intro b; cases a <;> simp [zfv, ih]
theorem zfv_get (ad : Nat → Nat) (f : Nat → Int32) : ∀ (fs : List (Option Nat)) (b j : Nat) (o : Option Nat), zget fs j = some o → (zfv ad f b fs)[j]? = some (match o with | some q => .ref (ad q) | none => .int (f (b + j))) := by
  intro fs
  induction fs with
  | nil => intro b j o h; simp [zget] at h
  | cons a r ih =>
    intro b j o h
    cases j with
    | zero => simp only [zget, Option.some.injEq] at h; subst h; cases a <;> simp [zfv]
    | succ n =>
      have := ih (b + 1) n o h
      rw [show b + 1 + n = b + (n + 1) by omega] at this
      cases a <;> simp [zfv, this]
theorem zfv_low (ad : Nat → Nat) (f : Nat → Int32) (j : Nat) (x : Int32) : ∀ (fs : List (Option Nat)) (b : Nat), j < b → zfv ad (upd f j x) b fs = zfv ad f b fs := by
  intro fs
  induction fs with
  | nil => intro b h; rfl
  | cons a r ih =>
    intro b h
    cases a with
    | none => simp only [zfv, ih (b + 1) (by omega)]; rw [show upd f j x b = f b by unfold upd; rw [if_neg (by omega)]]
    | some q => simp only [zfv, ih (b + 1) (by omega)]
theorem zfv_set (ad : Nat → Nat) (f : Nat → Int32) (x : Int32) : ∀ (fs : List (Option Nat)) (b j : Nat), zget fs j = some none → (zfv ad f b fs).set j (.int x) = zfv ad (upd f (b + j) x) b fs := by
  intro fs
  induction fs with
  | nil => intro b j h; simp [zget] at h
  | cons a r ih =>
    intro b j h
    cases j with
    | zero =>
      simp only [zget, Option.some.injEq] at h; subst h
      simp only [zfv, List.set_cons_zero, Nat.add_zero, zfv_low ad f b x r (b + 1) (Nat.lt_succ_self b)]
      rw [show upd f b x b = x by unfold upd; rw [if_pos rfl]]
    | succ n =>
      have := ih (b + 1) n h
      rw [show b + 1 + n = b + (n + 1) by omega] at this
      cases a with
      | none => simp only [zfv, List.set_cons_succ, this]; rw [show upd f (b + (n + 1)) x b = f b by unfold upd; rw [if_neg (by omega)]]
      | some q => simp only [zfv, List.set_cons_succ, this]
def zce (ad : Nat → Nat) (cA : Nat → ClassId) (k : Nat) (f : Nat → Int32) : va_E := match zget zlyL k with
  | some (.inl (ci, fs)) => .inr (ci, zfv ad f 0 fs)
  | some (.inr (n, _, [])) => .inl (cA k, n, .inl f)
  | some (.inr (n, _, q :: qs)) => .inl (cA k, n, .inr (.inr (.inr (.inr (fun j => (zget (q :: qs) j).map ad)))))
  | none => .inr (0, [])
def zwd (NC : Nat) (ad : Nat → Nat) (cA : Nat → ClassId) (M : zM) : va_W := (List.range NC).map (fun k => (ad k, zce ad cA k (M k)))
def zty (k : Nat) : FieldType := match zget zlyL k with
  | some (.inr (_, ty, _)) => ty
  | _ => .int
def ztys (NC : Nat) (cA : Nat → ClassId) : List (ClassId × FieldType) := (List.range NC).map (fun k => (cA k, zty k))
theorem zwd_at {NC : Nat} {ad : Nat → Nat} {cA : Nat → ClassId} {M : zM} {k : Nat} (h : k < NC) : (zwd NC ad cA M)[k]? = some (ad k, zce ad cA k (M k)) := by
  simp [zwd, h]
theorem ztys_at {NC : Nat} {cA : Nat → ClassId} {k : Nat} (h : k < NC) : (ztys NC cA)[k]? = some (cA k, zty k) := by
  simp [ztys, h]
theorem zup_same (M : zM) (k j : Nat) (x : Int32) : zup M k j x k = upd (M k) j x := by
  funext b
  simp [zup, upd]
theorem zup_ne (M : zM) {k a : Nat} (j : Nat) (x : Int32) (h : ¬ a = k) : zup M k j x a = M a := by
  funext b
  simp [zup, h]
theorem zwd_set {NC : Nat} {ad : Nat → Nat} {cA : Nat → ClassId} {M : zM} {k j : Nat} {x : Int32} {y : va_E} (h : zce ad cA k (upd (M k) j x) = y) : (zwd NC ad cA M).set k (ad k, y) = zwd NC ad cA (zup M k j x) := by
  refine List.ext_getElem? (fun i => ?_)
  by_cases hi : i < NC
  · rw [zwd_at hi, List.getElem?_set]
    by_cases e : k = i
    · subst e
      rw [if_pos rfl, if_pos (by simpa [zwd] using hi), zup_same, h]
    · rw [if_neg e, zwd_at hi, zup_ne M j x (fun z => e z.symm)]
  · rw [List.getElem?_eq_none (by simp [zwd]; omega), List.getElem?_eq_none (by simp [zwd]; omega)]
theorem zlay_some {NC k : Nat} {x : zLy} (h : zlay NC k = some x) : k < NC ∧ zget zlyL k = some x := by
  unfold zlay at h
  cases hb : Nat.ble NC k with
  | true => rw [hb] at h; simp at h
  | false =>
    rw [hb] at h
    exact ⟨Nat.lt_of_not_le (fun z => by rw [Nat.ble_eq_true_of_le z] at hb; cases hb), h⟩
theorem zly_ok : zlyL.all (fun x => match x with
    | .inl (ci, fs) => (match zget vwCl ci with
      | some q => Nat.beq fs.length q.2.2 && Nat.blt ci 8
      | none => false)
    | .inr (n, ty, qs) => (match ty with
      | .int => qs.isEmpty
      | .byte => qs.isEmpty
      | .boolean => qs.isEmpty
      | .object _ => Nat.beq qs.length n && !qs.isEmpty
      | _ => false)) = true := by decide +kernel
theorem zly_obj {k ci : Nat} {fs : List (Option Nat)} (h : zget zlyL k = some (.inl (ci, fs))) : ∃ q, zget vwCl ci = some q ∧ fs.length = q.2.2 ∧ ci < 8 := by
  have := List.all_eq_true.mp zly_ok _ (zget_mem h)
  dsimp only at this
  cases hq : zget vwCl ci with
  | none => rw [hq] at this; simp at this
  | some q =>
    rw [hq] at this
    simp only [Bool.and_eq_true] at this
    exact ⟨q, rfl, Nat.eq_of_beq_eq_true this.1, Nat.lt_succ_of_le (by have := this.2; simpa [Nat.blt] using this)⟩
theorem zly_arr {k n : Nat} {ty : FieldType} {qs : List Nat} (h : zget zlyL k = some (.inr (n, ty, qs))) (hty : ty = .int ∨ ty = .byte ∨ ty = .boolean) : qs = [] := by
  have := List.all_eq_true.mp zly_ok _ (zget_mem h)
  rcases hty with rfl | rfl | rfl <;> simpa using this
theorem zly_ref {k n : Nat} {C : String} {qs : List Nat} (h : zget zlyL k = some (.inr (n, .object C, qs))) : ∃ q r, qs = q :: r ∧ qs.length = n := by
  have := List.all_eq_true.mp zly_ok _ (zget_mem h)
  cases qs with
  | nil => simp at this
  | cons q r => exact ⟨q, r, rfl, by simpa using this⟩
theorem zcl_ok : ∀ (ci : Nat) (q : vw_C), zget vwCl ci = some q → (∀ w ∈ u_ws q.1 q.2.1 q.2.2, w ∈ zT) ∧ ∃ ty0 : Nat → FieldType, (∀ k, k < q.2.2 → parseFieldDescriptor (q.2.1 k).2.2.1 = some (ty0 k)) ∧ (∀ a, a < q.2.2 → ∀ b, b < q.2.2 → a ≠ b → (q.2.1 a).2.1 ≠ (q.2.1 b).2.1) := by
  intro ci q h
  match ci, h with
  | 0, h => cases h; exact ⟨by decide +kernel, tyX0, tyX0_ok, nmX0⟩
  | 1, h => cases h; exact ⟨by decide +kernel, tyX1, tyX1_ok, nmX1⟩
  | 2, h => cases h; exact ⟨by decide +kernel, tyX2, tyX2_ok, nmX2⟩
  | 3, h => cases h; exact ⟨by decide +kernel, tyX3, tyX3_ok, nmX3⟩
  | 4, h => cases h; exact ⟨by decide +kernel, tyX4, tyX4_ok, nmX4⟩
  | 5, h => cases h; exact ⟨by decide +kernel, tyX6, tyX6_ok, nmX6⟩
  | 6, h => cases h; exact ⟨by decide +kernel, tyX8, tyX8_ok, nmX8⟩
  | 7, h => cases h; exact ⟨by decide +kernel, tyX9, tyX9_ok, nmX9⟩
  | k + 8, h => exact absurd h (by rw [show zget vwCl (k + 8) = none from rfl]; simp)
end
section
/-! THE PURE MACHINE IS SOUND: what it does, the machine does -/
def zRO (ad : Nat → Nat) (sc : Nat × (Nat → Int32)) (A : Nat → Prop) (U : State) (H : Heap) : Prop :=
  (∀ r, 100 ≤ r → r ≤ 103 → va_T .int (ad r) (zro sc r).1 (fun j => .int ((zro sc r).2 j)) A U H) ∧ ∀ r, 101 ≤ r → r ≤ 103 → va_Z (zSt r).1 (zSt r).2 "[I" (.ref (ad r)) A U H
theorem zRO.moved {ad : Nat → Nat} {sc : Nat × (Nat → Int32)} {A : Nat → Prop} {u U : State} {H : Heap} (hvm : u.vm.Alike U.vm) (h : zRO ad sc A u H) : zRO ad sc A U H := ⟨fun r h1 h2 => (h.1 r h1 h2).moved hvm, fun r h1 h2 => (h.2 r h1 h2).moved hvm⟩
theorem zRO.kept {ad : Nat → Nat} {sc : Nat × (Nat → Int32)} {A : Nat → Prop} {U : State} {H H1 : Heap} (h : zRO ad sc A U H) (hq : ∀ a : Nat, a < H.size → ¬ A a → H1[a]? = H[a]?) : zRO ad sc A U H1 := ⟨fun r h1 h2 => (h.1 r h1 h2).kept hq, fun r h1 h2 => (h.2 r h1 h2).kept hq⟩
theorem zRO.narrow {ad : Nat → Nat} {sc : Nat × (Nat → Int32)} {A B : Nat → Prop} {U : State} {H : Heap} (h : zRO ad sc A U H) (hAB : ∀ q, B q → A q) : zRO ad sc B U H := ⟨fun r h1 h2 => (h.1 r h1 h2).narrow hAB, fun r h1 h2 => (h.2 r h1 h2).narrow hAB⟩
def zrm (d : Nat) : Room := { frames := d, cells := 0, slots := 0, locals := 60 * d }
def zPre (dC : Nat → ClassId) (dI : Nat → Nat → Nat) (ad : Nat → Nat) (cA : Nat → ClassId) (NC : Nat) (sc : Nat × (Nat → Int32)) (M : zM) (sz : Nat) (U : State) : Prop :=
  U.heap.size = sz ∧ va_P (dC, dI) vwCl (zwd NC ad cA M) U.heap ∧ va_K (dC, dI) vwCl (ztys NC cA) U ∧ va_D (fun _ => True) (zwd NC ad cA M) ∧ zRO ad sc (va_A (zwd NC ad cA M) sz) U U.heap
def zQ (dC : Nat → ClassId) (dI : Nat → Nat → Nat) (ad : Nat → Nat) (cA : Nat → ClassId) (NC : Nat) (r : Option Value) (M' : zM) (A : Nat → Prop) : Array Value → State → Outcome → State → Prop := fun _ st oc t =>
  (oc = .returned (r.map (ztr ad)) ∧ va_P (dC, dI) vwCl (zwd NC ad cA M') t.heap ∧ va_K (dC, dI) vwCl (ztys NC cA) t ∧ va_D A (zwd NC ad cA M')) ∧ va_F A st t
def zMet (l : Launch) (dC : Nat → ClassId) (dI : Nat → Nat → Nat) (ad : Nat → Nat) (cA : Nat → ClassId) (NC : Nat) (sc : Nat × (Nat → Int32)) (d k : Nat) (as : List Value) (M : zM) (r : Option Value) (M' : zM) : Prop :=
  ∀ i, zinfo k = some i → zIok i → ∀ sz, Met l i.2.1 (Cond.code i.2.1 i.2.2.1 i.2.2.2.1 i.2.2.2.2.1 :: zT) (zrm d) (va_Pc (as.map (ztr ad)) (zPre dC dI ad cA NC sc M sz)) (zQ dC dI ad cA NC r M' (va_A (zwd NC ad cA M) sz)) 0 0 (va_A (zwd NC ad cA M) sz)
theorem zPre.blind {dC : Nat → ClassId} {dI : Nat → Nat → Nat} {ad : Nat → Nat} {cA : Nat → ClassId} {NC : Nat} {sc : Nat × (Nat → Int32)} {M : zM} {sz : Nat} {av : List Value} : FrameBlind (va_Pc av (zPre dC dI ad cA NC sc M sz)) := by
  intro a U g mk q
  obtain ⟨q0, q1, q2, q3, q4, q5⟩ := q
  exact ⟨q0, q1, q2, va_K.moved (u := U) (U := U.calling g mk a) (Vm.Alike.refl U.vm) q3, q4, zRO.moved (u := U) (U := U.calling g mk a) (Vm.Alike.refl U.vm) q5⟩
theorem zfree {A : Nat → Prop} {ws : va_W} {H0 H : Heap} {locs : List Loc} (hD : va_D A ws) (hS : va_S A H0 H locs) (hA : ∀ q, H0.size ≤ q → A q) : ∀ q, va_A ws H.size q → A q := by
  intro q h
  rcases h with ⟨k, e, h⟩ | h
  · exact hD.2 k _ h
  · exact hA q (Nat.le_trans hS.1 h)
theorem zl_eq {i : Instr} {len : Nat} (h : (zisw i || Nat.beq len (zil i)) = true) (hi : zisw i = false) : len = zil i := by
  rw [hi, Bool.false_or] at h
  exact Nat.eq_of_beq_eq_true h
theorem zldI_x {L : List Value} {i : Nat} {κ : Value → Prop} (h : zldI L i κ) : ∃ x, zget L i = some (.int x) ∧ κ (.int x) := by
  unfold zldI at h
  split at h
  · exact ⟨_, by assumption, h⟩
  · exact h.elim
theorem zldJ_x {L : List Value} {i : Nat} {κ : Value → Prop} (h : zldJ L i κ) : ∃ x, zget L i = some (.long x) ∧ κ (.long x) := by
  unfold zldJ at h
  split at h
  · exact ⟨_, by assumption, h⟩
  · exact h.elim
theorem zldA_x {L : List Value} {i : Nat} {κ : Value → Prop} (h : zldA L i κ) : ∃ x, zget L i = some (.ref x) ∧ κ (.ref x) := by
  unfold zldA at h
  split at h
  · exact ⟨_, by assumption, h⟩
  · exact h.elim
theorem zstI_x {L : List Value} {i : Nat} {st : List Value} {κ : List Value → List Value → Prop} (h : zstI L i st κ) : ∃ x r, st = .int x :: r ∧ i < L.length ∧ κ (zsl L i (.int x)) r := by
  unfold zstI at h
  split at h
  · exact ⟨_, _, rfl, h⟩
  · exact h.elim
theorem zstA_x {L : List Value} {i : Nat} {st : List Value} {κ : List Value → List Value → Prop} (h : zstA L i st κ) : ∃ x r, st = .ref x :: r ∧ i < L.length ∧ κ (zsl L i (.ref x)) r := by
  unfold zstA at h
  split at h
  · exact ⟨_, _, rfl, h⟩
  · exact h.elim
theorem zinc_x {L : List Value} {i : Nat} {n : Int} {κ : List Value → Prop} (h : zinc L i n κ) : ∃ x, zget L i = some (.int x) ∧ i < L.length ∧ κ (zsl L i (.int (x + Int32.ofInt n))) := by
  unfold zinc at h
  split at h
  · exact ⟨_, by assumption, h⟩
  · exact h.elim
theorem zb2_x {f : Int32 → Int32 → Int32} {κ : List Value → Prop} {st : List Value} (h : zb2 f κ st) : ∃ x y r, st = .int y :: .int x :: r ∧ κ (.int (f x y) :: r) := by
  unfold zb2 at h
  split at h
  · exact ⟨_, _, _, rfl, h⟩
  · exact h.elim
theorem zl2_x {f : Int64 → Int64 → Int64} {κ : List Value → Prop} {st : List Value} (h : zl2 f κ st) : ∃ x y r, st = .long y :: .long x :: r ∧ κ (.long (f x y) :: r) := by
  unfold zl2 at h
  split at h
  · exact ⟨_, _, _, rfl, h⟩
  · exact h.elim
theorem zls_x {f : Int64 → Int32 → Int64} {κ : List Value → Prop} {st : List Value} (h : zls f κ st) : ∃ x y r, st = .int y :: .long x :: r ∧ κ (.long (f x y) :: r) := by
  unfold zls at h
  split at h
  · exact ⟨_, _, _, rfl, h⟩
  · exact h.elim
theorem zu1_x {f : Int32 → Int32} {κ : List Value → Prop} {st : List Value} (h : zu1 f κ st) : ∃ x r, st = .int x :: r ∧ κ (.int (f x) :: r) := by
  unfold zu1 at h
  split at h
  · exact ⟨_, _, rfl, h⟩
  · exact h.elim
theorem zi2l_x {κ : List Value → Prop} {st : List Value} (h : zi2l st κ) : ∃ x r, st = .int x :: r ∧ κ (.long x.toInt64 :: r) := by
  unfold zi2l at h
  split at h
  · exact ⟨_, _, rfl, h⟩
  · exact h.elim
theorem zl2i_x {κ : List Value → Prop} {st : List Value} (h : zl2i st κ) : ∃ x r, st = .long x :: r ∧ κ (.int x.toInt32 :: r) := by
  unfold zl2i at h
  split at h
  · exact ⟨_, _, rfl, h⟩
  · exact h.elim
theorem zrem_x {κ : List Value → Prop} {st : List Value} (h : zrem st κ) : ∃ x y r, st = .int y :: .int x :: r ∧ ¬ y = 0 ∧ κ (.int (x - x / y * y) :: r) := by
  unfold zrem at h
  split at h
  · exact ⟨_, _, _, rfl, h⟩
  · exact h.elim
theorem zmx_x {κ : List Value → Prop} {st : List Value} (h : zmx st κ) : ∃ x y r, st = .int y :: .int x :: r ∧ zslots r ≤ 8 ∧ κ (.int (if x < y then y else x) :: r) := by
  unfold zmx at h
  split at h
  · exact ⟨_, _, _, rfl, h⟩
  · exact h.elim
theorem zdup_x {κ : List Value → Prop} {st : List Value} (h : zdup st κ) : ∃ v r, st = v :: r ∧ v.category = 1 ∧ κ (v :: v :: r) := by
  unfold zdup at h
  split at h
  · exact ⟨_, _, rfl, h⟩
  · exact h.elim
theorem zdup2_x {κ : List Value → Prop} {st : List Value} (h : zdup2 st κ) : ∃ v w r, st = v :: w :: r ∧ v.category = 1 ∧ w.category = 1 ∧ κ (v :: w :: v :: w :: r) := by
  unfold zdup2 at h
  split at h
  · exact ⟨_, _, _, rfl, h⟩
  · exact h.elim
theorem zifc_x {c : ClassFile.Cond} {pc : Nat} {off : Int} {st : List Value} {J : Nat → List Value → Prop} {κ : List Value → Prop} (h : zifc c pc off st J κ) : ∃ x r, st = .int x :: r ∧ (pc : Int) + off = (((pc : Int) + off).toNat : Int) ∧ (zcmp c x 0 → J ((pc : Int) + off).toNat r) ∧ (¬ zcmp c x 0 → κ r) := by
  unfold zifc at h
  split at h
  · exact ⟨_, _, rfl, h⟩
  · exact h.elim
theorem zicm_x {c : ClassFile.Cond} {pc : Nat} {off : Int} {st : List Value} {J : Nat → List Value → Prop} {κ : List Value → Prop} (h : zicm c pc off st J κ) : ∃ x y r, st = .int y :: .int x :: r ∧ (pc : Int) + off = (((pc : Int) + off).toNat : Int) ∧ (zcmp c x y → J ((pc : Int) + off).toNat r) ∧ (¬ zcmp c x y → κ r) := by
  unfold zicm at h
  split at h
  · exact ⟨_, _, _, rfl, h⟩
  · exact h.elim
theorem zts_x {pc : Nat} {d lo hi : Int} {offs : Array Int} {st : List Value} {J : Nat → List Value → Prop} (h : zts pc d lo hi offs st J) : ∃ x r, st = .int x :: r ∧ (x.toInt < lo ∨ hi < x.toInt → zjmp pc d (fun t => J t r)) ∧ (¬ x.toInt < lo → ¬ hi < x.toInt → ∃ off, offs[(x.toInt - lo).toNat]? = some off ∧ zjmp pc off (fun t => J t r)) := by
  unfold zts at h
  split at h
  · exact ⟨_, _, rfl, h⟩
  · exact h.elim
theorem zlks_x {pc : Nat} {d : Int} {ps : Array (Int × Int)} {st : List Value} {J : Nat → List Value → Prop} (h : zlks pc d ps st J) : ∃ x r, st = .int x :: r ∧ (ps.toList.zip (ps.toList.drop 1)).all (fun (a, next) => a.1 < next.1) = true ∧ zjmp pc (Op.lookupswitch.offset ps.toList d x.toInt) (fun t => J t r) := by
  unfold zlks at h
  split at h
  · exact ⟨_, _, rfl, h⟩
  · exact h.elim
theorem zgf_x {NC ci j : Nat} {M : zM} {st : List Value} {κ : List Value → Prop} (h : zgf NC ci j M st κ) : ∃ k r fs o, st = .ref k :: r ∧ zlay NC k = some (.inl (ci, fs)) ∧ zget fs j = some o ∧ κ ((match o with | some q => .ref q | none => .int (M k j)) :: r) := by
  unfold zgf at h
  split at h
  · split at h
    · obtain ⟨rfl, h⟩ := h
      split at h
      · exact ⟨_, _, _, some _, rfl, by assumption, by assumption, h⟩
      · exact ⟨_, _, _, none, rfl, by assumption, by assumption, h⟩
      · exact h.elim
    · exact h.elim
  · exact h.elim
theorem zpf_x {NC ci j : Nat} {M : zM} {st : List Value} {κ : List Value → zM → Prop} (h : zpf NC ci j M st κ) : ∃ x k r fs, st = .int x :: .ref k :: r ∧ zlay NC k = some (.inl (ci, fs)) ∧ zget fs j = some none ∧ (ci = 1 ∧ j = 8 → x = 0 ∨ x = 1) ∧ κ r (zup M k j x) := by
  unfold zpf at h
  split at h
  · split at h
    · obtain ⟨rfl, h⟩ := h
      split at h
      · exact ⟨_, _, _, _, rfl, by assumption, by assumption, h⟩
      · exact h.elim
    · exact h.elim
  · exact h.elim
theorem zald_x {NC : Nat} {sc : Nat × (Nat → Int32)} {M : zM} {st : List Value} {κ : List Value → Prop} (h : zald NC sc M st κ) : ∃ i k r, st = .int i :: .ref k :: r ∧ ((∃ n qs, zlay NC k = some (.inr (n, .int, qs)) ∧ vp_in i n ∧ κ (.int (M k i.toNatClampNeg) :: r)) ∨ (100 ≤ k ∧ k ≤ 103 ∧ vp_in i (zro sc k).1 ∧ κ (.int ((zro sc k).2 i.toNatClampNeg) :: r))) := by
  unfold zald at h
  split at h
  · split at h
    · exact ⟨_, _, _, rfl, Or.inl ⟨_, _, by assumption, h⟩⟩
    · exact ⟨_, _, _, rfl, Or.inr h⟩
    · exact h.elim
  · exact h.elim
theorem zbld_x {NC : Nat} {M : zM} {st : List Value} {κ : List Value → Prop} (h : zbld NC M st κ) : ∃ i k r n ty qs, st = .int i :: .ref k :: r ∧ zlay NC k = some (.inr (n, ty, qs)) ∧ (ty = .byte ∨ ty = .boolean) ∧ vp_in i n ∧ κ (.int (M k i.toNatClampNeg) :: r) := by
  unfold zbld at h
  split at h
  · split at h
    · exact ⟨_, _, _, _, _, _, rfl, by assumption, Or.inl rfl, h⟩
    · exact ⟨_, _, _, _, _, _, rfl, by assumption, Or.inr rfl, h⟩
    · exact h.elim
  · exact h.elim
theorem zast_x {NC : Nat} {M : zM} {st : List Value} {κ : List Value → zM → Prop} (h : zast NC M st κ) : ∃ x i k r n qs, st = .int x :: .int i :: .ref k :: r ∧ zlay NC k = some (.inr (n, .int, qs)) ∧ vp_in i n ∧ κ r (zup M k i.toNatClampNeg x) := by
  unfold zast at h
  split at h
  · split at h
    · exact ⟨_, _, _, _, _, _, rfl, by assumption, h⟩
    · exact h.elim
  · exact h.elim
theorem zbst_x {NC : Nat} {M : zM} {st : List Value} {κ : List Value → zM → Prop} (h : zbst NC M st κ) : ∃ x i k r n ty qs, st = .int x :: .int i :: .ref k :: r ∧ zlay NC k = some (.inr (n, ty, qs)) ∧ (ty = .byte ∨ ty = .boolean) ∧ vp_in i n ∧ κ r (zup M k i.toNatClampNeg (vp_nar ty x)) := by
  unfold zbst at h
  split at h
  · split at h
    · exact ⟨_, _, _, _, _, _, _, rfl, by assumption, Or.inl rfl, h⟩
    · exact ⟨_, _, _, _, _, _, _, rfl, by assumption, Or.inr rfl, h⟩
    · exact h.elim
  · exact h.elim
theorem zrld_x {NC : Nat} {st : List Value} {κ : List Value → Prop} (h : zrld NC st κ) : ∃ i k r n C qs q, st = .int i :: .ref k :: r ∧ zlay NC k = some (.inr (n, .object C, qs)) ∧ vp_in i n ∧ zget qs i.toNatClampNeg = some q ∧ κ (.ref q :: r) := by
  unfold zrld at h
  split at h
  · split at h
    · obtain ⟨h1, h2⟩ := h
      split at h2
      · exact ⟨_, _, _, _, _, _, _, rfl, by assumption, h1, by assumption, h2⟩
      · exact h2.elim
    · exact h.elim
  · exact h.elim
theorem zlen_x {NC : Nat} {sc : Nat × (Nat → Int32)} {st : List Value} {κ : List Value → Prop} (h : zlen NC sc st κ) : ∃ k r, st = .ref k :: r ∧ ((∃ n ty qs, zlay NC k = some (.inr (n, ty, qs)) ∧ κ (.int (Int32.ofNat n) :: r)) ∨ (100 ≤ k ∧ k ≤ 103 ∧ κ (.int (Int32.ofNat (zro sc k).1) :: r))) := by
  unfold zlen at h
  split at h
  · split at h
    · exact ⟨_, _, rfl, Or.inl ⟨_, _, _, by assumption, h⟩⟩
    · exact ⟨_, _, rfl, Or.inr h⟩
    · exact h.elim
  · exact h.elim
theorem zcs_x {I : Nat → Option zI} {C : Nat → List Value → zM → Option Value → zM → Prop} {a : Nat} {st : List Value} {M : zM} {κ : List Value → zM → Prop} (h : zcs I C a st M κ) : ∃ i as r v M', I a = some i ∧ i.2.2.2.2.2.1 = true ∧ zpop i.2.2.2.2.2.2.2.1 [] st = some (as, r) ∧ zslots r ≤ 8 ∧ C a as M v M' ∧ κ (v.toList ++ r) M' := by
  unfold zcs at h
  split at h
  · obtain ⟨h0, h⟩ := h
    split at h
    · obtain ⟨h1, v, M', h2, h3⟩ := h
      exact ⟨_, _, _, v, M', by assumption, h0, by assumption, h1, h2, h3⟩
    · exact h.elim
  · exact h.elim
theorem zcv_x {NC : Nat} {I : Nat → Option zI} {C : Nat → List Value → zM → Option Value → zM → Prop} {a : Nat} {st : List Value} {M : zM} {κ : List Value → zM → Prop} (h : zcv NC I C a st M κ) : ∃ i as k r fs v M', I a = some i ∧ i.2.2.2.2.2.1 = false ∧ zpop i.2.2.2.2.2.2.2.1 [] st = some (as, .ref k :: r) ∧ zslots r ≤ 8 ∧ zlay NC k = some (.inl (i.2.2.2.2.2.2.1, fs)) ∧ C a (.ref k :: as) M v M' ∧ κ (v.toList ++ r) M' := by
  unfold zcv at h
  split at h
  · obtain ⟨h0, h⟩ := h
    split at h
    · obtain ⟨h1, h⟩ := h
      split at h
      · obtain ⟨h2, v, M', h3, h4⟩ := h
        subst h2
        exact ⟨_, _, _, _, _, v, M', by assumption, h0, by assumption, h1, by assumption, h3, h4⟩
      · exact h.elim
    · exact h.elim
  · exact h.elim
end
section
section ZS
variable {p : Program} {l : Launch} {e : Env} {R : Room} {s : State} {m : MethodId} {args : Array Value} {below : List Frame} {meth : Method} {c : Code} {cells slots : Nat} {Q : State → Prop}
variable {dC : Nat → ClassId} {dI : Nat → Nat → Nat} {ad : Nat → Nat} {cA : Nat → ClassId} {NC : Nat} {sc : Nat × (Nat → Int32)} {A : Nat → Prop}
/-- a state of the pure machine, and the machine's -/
def zcon (s : State) (dC : Nat → ClassId) (dI : Nat → Nat → Nat) (ad : Nat → Nat) (cA : Nat → ClassId) (NC : Nat) (A : Nat → Prop) (nL : Nat) (L : List Value) (M : zM) (ls : Array Slot) (H : Heap) (locs : List Loc) : Prop :=
  L.length = nL ∧ lv_has ls nL (zpr ad 0 L) ∧ va_P (dC, dI) vwCl (zwd NC ad cA M) H ∧ va_D A (zwd NC ad cA M) ∧ va_S A s.heap H locs
theorem zcon.at {nL i : Nat} {L : List Value} {M : zM} {ls : Array Slot} {H : Heap} {locs : List Loc} {v : Value} (h : zcon s dC dI ad cA NC A nL L M ls H locs) (hg : zget L i = some v) (hv : ¬ v = .null) : ls[i]? = some (.val (ztr ad v)) := by
  have := h.2.1.2.2 _ (zpr_get (ad := ad) hv L 0 i hg)
  rwa [Nat.zero_add] at this
theorem zcon.store {nL i : Nat} {L : List Value} {M : zM} {ls ls' : Array Slot} {H : Heap} {locs : List Loc} {v : Value} (h : zcon s dC dI ad cA NC A nL L M ls H locs) (hv : ¬ v = .null) (h2 : lv_has ls' nL ((i, ztr ad v) :: (zpr ad 0 L).filter (fun q => !(q.1 == i) && !(q.1 + 1 == i && q.2.category == 2)))) : zcon s dC dI ad cA NC A nL (zsl L i v) M ls' H locs :=
  ⟨by rw [zsl_length]; exact h.1, zhas_store hv h2, h.2.2⟩
theorem zcall {pc : Nat} {ls : Array Slot} {rest st0 : List Value} {a : Array Value} {A1 free : Nat → Prop} {H : Heap} {locs : List Loc} {r : Option Value} {M' : zM} (hr : va_Run p l e R s m args below meth c H locs cells slots 0 0 (F0 m pc ls st0) rest (zQ dC dI ad cA NC r M' A1 a) free) (hS : va_S A s.heap H locs) (hA1 : ∀ q, A1 q → A q) (hf : ∀ q, free q → A q)
    (kk : ∀ (H1 : Heap) (locs1 : List Loc), va_P (dC, dI) vwCl (zwd NC ad cA M') H1 → va_D A (zwd NC ad cA M') → va_S A s.heap H1 locs1 → W p l e R s m args below meth c H1 locs1 cells slots Q (F0 m (pc + 3) ls ((r.map (ztr ad)).toList ++ rest))) : W p l e R s m args below meth c H locs cells slots Q (F0 m pc ls st0) := by
  intro T hT X
  obtain ⟨v, st₀, t, T', L, h0, X', hL, e1, e2, ⟨⟨hv, hP, hK, hD⟩, hz, hk⟩, st⟩ := hr T hT X
  cases hv
  rw [h0] at hz hk
  obtain ⟨t2, a1, b1⟩ := kk T'.heap (locs ++ L) (by rw [e1]; exact hP) ⟨hD.1, fun k q hq => hA1 _ (hD.2 k q hq)⟩
    ⟨Nat.le_trans hS.1 (by rw [e1]; exact hz), fun q h1 h2 => by rw [e1, hk q (Nat.lt_of_lt_of_le h1 hS.1) (fun z => h2 (hA1 q z))]; exact hS.2.1 q h1 h2, fun q hq => by
      rcases List.mem_append.mp hq with h | h
      · exact hS.2.2 q h
      · exact hf _ (hL q h)⟩ T' rfl X'
  exact ⟨t2, st t2 a1, b1⟩
/-- which instruction returns this -/
def zri : Option Value → Instr
  | none => .return_
  | some (.int _) => .ireturn
  | some _ => .areturn
set_option maxHeartbeats 4000000 in
set_option maxRecDepth 100000 in
theorem zins {bytes : ByteArray} {own : String} {nL d : Nat} (hx : p.tables.exec = Jvm.exec) (hb : c.code = bytes) (hml : c.maxLocals = nL) (hown : s.vm.findClass own = some m.cls) (hts : ∀ w ∈ zT, w.before args s = true)
    (hK : va_K (dC, dI) vwCl (ztys NC cA) s) (hA : ∀ q, s.heap.size ≤ q → A q) (hRO : zRO ad sc A s s.heap) (hcell : cells ≤ R.cells) (hslot : slots ≤ R.slots) (hfr : d + 1 ≤ R.frames) (hlo : 60 * (d + 1) ≤ R.locals)
    {C : Nat → List Value → zM → Option Value → zM → Prop} (hC : ∀ k as M r M', C k as M r M' → zMet l dC dI ad cA NC sc d k as M r M')
    {J : Nat → List Value → List Value → zM → Prop} (hJ : ∀ pc L st M ls H locs, J pc L st M → zcon s dC dI ad cA NC A nL L M ls H locs → W p l e R s m args below meth c H locs cells slots Q (F0 m pc ls (st.map (ztr ad))))
    {fin : Option Value → zM → Prop} (hF : ∀ r M pc ls H locs, fin r M → decode bytes pc = .ok (zri r, 1) → va_P (dC, dI) vwCl (zwd NC ad cA M) H → va_D A (zwd NC ad cA M) → va_S A s.heap H locs → W p l e R s m args below meth c H locs cells slots Q (F0 m pc ls (r.toList.map (ztr ad))))
    {κ : List Value → List Value → zM → Prop} {E : zE} (hκ : ∀ L st M ls H locs, κ L st M → zcon s dC dI ad cA NC A nL L M ls H locs → W p l e R s m args below meth c H locs cells slots Q (F0 m (E.1 + E.2.2.1) ls (st.map (ztr ad))))
    (hd : decode bytes E.1 = .ok (E.2.1, E.2.2.1)) (hz : (zisw E.2.1 || Nat.beq E.2.2.1 (zil E.2.1)) = true) (hlk : zlk own E = true)
    {L st : List Value} {M : zM} {ls : Array Slot} {H : Heap} {locs : List Loc} (hop : zop NC sc zinfo C J fin κ E L st M) (hcon : zcon s dC dI ad cA NC A nL L M ls H locs) : W p l e R s m args below meth c H locs cells slots Q (F0 m E.1 ls (st.map (ztr ad))) := by
  obtain ⟨pc, i, len, a, b, t⟩ := E
  dsimp only at hd hz hκ ⊢
  have hP := hcon.2.2.1
  have hD := hcon.2.2.2.1
  have hS := hcon.2.2.2.2
  have hfree := zfree hD hS hA
  cases i
  all_goals (try dsimp only [zop] at hop)
  case iconst n =>
    obtain rfl : len = 1 := zl_eq hz rfl
    exact lv_iconst hx hb hd rfl (hκ _ _ _ _ _ _ hop hcon)
  case bipush n =>
    obtain rfl : len = 2 := zl_eq hz rfl
    exact lv_bipush hx hb hd rfl (hκ _ _ _ _ _ _ hop hcon)
  case sipush n =>
    obtain rfl : len = 3 := zl_eq hz rfl
    exact lv_sipush hx hb hd rfl (hκ _ _ _ _ _ _ hop hcon)
  case ldc n =>
    obtain rfl : len = 2 := zl_eq hz rfl
    exact lv_ldc hx hb hown (hts _ (zT_in (of_decide_eq_true hlk) rfl)) hd (hκ _ _ _ _ _ _ hop hcon)
  case ldc_w n =>
    obtain rfl : len = 3 := zl_eq hz rfl
    exact lv_ldcw hx hb hown (hts _ (zT_in (of_decide_eq_true hlk) rfl)) hd (hκ _ _ _ _ _ _ hop hcon)
  case ldc2_w n =>
    obtain rfl : len = 3 := zl_eq hz rfl
    exact lv_ldc2 hx hb hown (hts _ (zT_in (of_decide_eq_true hlk) rfl)) hd (hκ _ _ _ _ _ _ hop hcon)
  case iload_n i =>
    obtain rfl : len = 1 := zl_eq hz rfl
    obtain ⟨x, h1, h2⟩ := zldI_x hop
    exact lv_iload_n hx hb hd rfl (hcon.at h1 (by simp)) (hκ _ _ _ _ _ _ h2 hcon)
  case iload i =>
    obtain rfl : len = 2 := zl_eq hz rfl
    obtain ⟨x, h1, h2⟩ := zldI_x hop
    exact lv_iload hx hb hd (hcon.at h1 (by simp)) (hκ _ _ _ _ _ _ h2 hcon)
  case lload_n i =>
    obtain rfl : len = 1 := zl_eq hz rfl
    obtain ⟨x, h1, h2⟩ := zldJ_x hop
    exact lv_lload_n hx hb hd rfl (hcon.at h1 (by simp)) (hκ _ _ _ _ _ _ h2 hcon)
  case aload_n i =>
    obtain rfl : len = 1 := zl_eq hz rfl
    obtain ⟨x, h1, h2⟩ := zldA_x hop
    exact lv_aload_n hx hb hd rfl (hcon.at h1 (by simp)) (hκ _ _ _ _ _ _ h2 hcon)
  case aload i =>
    obtain rfl : len = 2 := zl_eq hz rfl
    obtain ⟨x, h1, h2⟩ := zldA_x hop
    exact lv_aload hx hb hd (hcon.at h1 (by simp)) (hκ _ _ _ _ _ _ h2 hcon)
  case istore_n i =>
    obtain rfl : len = 1 := zl_eq hz rfl
    obtain ⟨x, r, rfl, h1, h2⟩ := zstI_x hop
    exact lv_istore_n hx hb hd rfl hcon.2.1 (by rw [← hcon.1]; exact h1) rfl (fun ls' hl' => hκ _ _ _ _ _ _ h2 (hcon.store (v := .int x) (by simp) hl'))
  case istore i =>
    obtain rfl : len = 2 := zl_eq hz rfl
    obtain ⟨x, r, rfl, h1, h2⟩ := zstI_x hop
    exact lv_istore hx hb hd hcon.2.1 (by rw [← hcon.1]; exact h1) rfl (fun ls' hl' => hκ _ _ _ _ _ _ h2 (hcon.store (v := .int x) (by simp) hl'))
  case astore_n i =>
    obtain rfl : len = 1 := zl_eq hz rfl
    obtain ⟨x, r, rfl, h1, h2⟩ := zstA_x hop
    exact lv_astore_n hx hb hd rfl hcon.2.1 (by rw [← hcon.1]; exact h1) rfl (fun ls' hl' => hκ _ _ _ _ _ _ h2 (hcon.store (v := .ref x) (by simp) hl'))
  case astore i =>
    obtain rfl : len = 2 := zl_eq hz rfl
    obtain ⟨x, r, rfl, h1, h2⟩ := zstA_x hop
    exact lv_astore hx hb hd hcon.2.1 (by rw [← hcon.1]; exact h1) rfl (fun ls' hl' => hκ _ _ _ _ _ _ h2 (hcon.store (v := .ref x) (by simp) hl'))
  case iinc i n =>
    obtain rfl : len = 3 := zl_eq hz rfl
    obtain ⟨x, h0, h1, h2⟩ := zinc_x hop
    have hm := zpr_get (ad := ad) (v := .int x) (by simp) L 0 i h0
    rw [Nat.zero_add] at hm
    obtain ⟨k, hk⟩ := List.getElem?_of_mem hm
    exact lv_iinc hx hb hd hcon.2.1 hk rfl (by rw [← hcon.1]; exact h1) rfl (fun ls' hl' => hκ _ _ _ _ _ _ h2 (hcon.store (v := .int (x + Int32.ofInt n)) (by simp) hl'))
  case iadd =>
    obtain rfl : len = 1 := zl_eq hz rfl
    obtain ⟨x, y, r, rfl, h⟩ := zb2_x hop
    exact lv_iadd hx hb hd (hκ _ _ _ _ _ _ h hcon)
  case isub =>
    obtain rfl : len = 1 := zl_eq hz rfl
    obtain ⟨x, y, r, rfl, h⟩ := zb2_x hop
    exact lv_isub hx hb hd (hκ _ _ _ _ _ _ h hcon)
  case imul =>
    obtain rfl : len = 1 := zl_eq hz rfl
    obtain ⟨x, y, r, rfl, h⟩ := zb2_x hop
    exact lv_imul hx hb hd (hκ _ _ _ _ _ _ h hcon)
  case iand =>
    obtain rfl : len = 1 := zl_eq hz rfl
    obtain ⟨x, y, r, rfl, h⟩ := zb2_x hop
    exact lv_iand hx hb hd (hκ _ _ _ _ _ _ h hcon)
  case ior =>
    obtain rfl : len = 1 := zl_eq hz rfl
    obtain ⟨x, y, r, rfl, h⟩ := zb2_x hop
    exact lv_ior hx hb hd (hκ _ _ _ _ _ _ h hcon)
  case ixor =>
    obtain rfl : len = 1 := zl_eq hz rfl
    obtain ⟨x, y, r, rfl, h⟩ := zb2_x hop
    exact lv_ixor hx hb hd (hκ _ _ _ _ _ _ h hcon)
  case ishl =>
    obtain rfl : len = 1 := zl_eq hz rfl
    obtain ⟨x, y, r, rfl, h⟩ := zb2_x hop
    exact lv_ishl hx hb hd (hκ _ _ _ _ _ _ h hcon)
  case ishr =>
    obtain rfl : len = 1 := zl_eq hz rfl
    obtain ⟨x, y, r, rfl, h⟩ := zb2_x hop
    exact lv_ishr hx hb hd (hκ _ _ _ _ _ _ h hcon)
  case iushr =>
    obtain rfl : len = 1 := zl_eq hz rfl
    obtain ⟨x, y, r, rfl, h⟩ := zb2_x hop
    exact lv_iushr hx hb hd rfl (hκ _ _ _ _ _ _ h hcon)
  case irem =>
    obtain rfl : len = 1 := zl_eq hz rfl
    obtain ⟨x, y, r, rfl, h0, h⟩ := zrem_x hop
    exact lv_irem hx hb hd h0 (hκ _ _ _ _ _ _ h hcon)
  case ineg =>
    obtain rfl : len = 1 := zl_eq hz rfl
    obtain ⟨x, r, rfl, h⟩ := zu1_x hop
    exact lv_ineg hx hb hd (hκ _ _ _ _ _ _ h hcon)
  case i2b =>
    obtain rfl : len = 1 := zl_eq hz rfl
    obtain ⟨x, r, rfl, h⟩ := zu1_x hop
    exact lv_i2b hx hb hd rfl (hκ _ _ _ _ _ _ h hcon)
  case i2l =>
    obtain rfl : len = 1 := zl_eq hz rfl
    obtain ⟨x, r, rfl, h⟩ := zi2l_x hop
    exact lv_i2l hx hb hd rfl (hκ _ _ _ _ _ _ h hcon)
  case l2i =>
    obtain rfl : len = 1 := zl_eq hz rfl
    obtain ⟨x, r, rfl, h⟩ := zl2i_x hop
    exact lv_l2i hx hb hd rfl (hκ _ _ _ _ _ _ h hcon)
  case land =>
    obtain rfl : len = 1 := zl_eq hz rfl
    obtain ⟨x, y, r, rfl, h⟩ := zl2_x hop
    exact lv_land hx hb hd (hκ _ _ _ _ _ _ h hcon)
  case lor =>
    obtain rfl : len = 1 := zl_eq hz rfl
    obtain ⟨x, y, r, rfl, h⟩ := zl2_x hop
    exact lv_lor hx hb hd (hκ _ _ _ _ _ _ h hcon)
  case lshl =>
    obtain rfl : len = 1 := zl_eq hz rfl
    obtain ⟨x, y, r, rfl, h⟩ := zls_x hop
    exact lv_lshl hx hb hd rfl (hκ _ _ _ _ _ _ h hcon)
  case lshr =>
    obtain rfl : len = 1 := zl_eq hz rfl
    obtain ⟨x, y, r, rfl, h⟩ := zls_x hop
    exact lv_lshr hx hb hd rfl (hκ _ _ _ _ _ _ h hcon)
  case lushr =>
    obtain rfl : len = 1 := zl_eq hz rfl
    obtain ⟨x, y, r, rfl, h⟩ := zls_x hop
    exact lv_lushr hx hb hd rfl (hκ _ _ _ _ _ _ h hcon)
  case dup =>
    obtain rfl : len = 1 := zl_eq hz rfl
    obtain ⟨v, r, rfl, h0, h⟩ := zdup_x hop
    exact lv_dup hx hb hd (by rw [ztr_cat]; exact h0) (hκ _ _ _ _ _ _ h hcon)
  case dup2 =>
    obtain rfl : len = 1 := zl_eq hz rfl
    obtain ⟨v, w, r, rfl, h0, h1, h⟩ := zdup2_x hop
    exact lv_dup2_11 hx hb hd (by rw [ztr_cat]; exact h0) (by rw [ztr_cat]; exact h1) (hκ _ _ _ _ _ _ h hcon)
  case goto off =>
    obtain rfl : len = 3 := zl_eq hz rfl
    exact lv_goto hx hb hd hop.1 (hJ _ _ _ _ _ _ _ hop.2 hcon)
  case ifCond cd off =>
    obtain rfl : len = 3 := zl_eq hz rfl
    obtain ⟨x, r, rfl, h0, h1, h2⟩ := zifc_x hop
    cases cd
    · exact lv_if_eq hx hb hd h0 (fun q => hJ _ _ _ _ _ _ _ (h1 q) hcon) (fun q => hκ _ _ _ _ _ _ (h2 q) hcon)
    · exact lv_if_ne hx hb hd h0 (fun q => hJ _ _ _ _ _ _ _ (h1 q) hcon) (fun q => hκ _ _ _ _ _ _ (h2 (fun z => z q)) hcon)
    · exact lv_if_lt hx hb hd h0 (fun q => hJ _ _ _ _ _ _ _ (h1 q) hcon) (fun q => hκ _ _ _ _ _ _ (h2 q) hcon)
    · exact lv_if_ge hx hb hd h0 (fun q => hJ _ _ _ _ _ _ _ (h1 q) hcon) (fun q => hκ _ _ _ _ _ _ (h2 q) hcon)
    · exact lv_if_gt hx hb hd h0 (fun q => hJ _ _ _ _ _ _ _ (h1 q) hcon) (fun q => hκ _ _ _ _ _ _ (h2 q) hcon)
    · exact lv_if_le hx hb hd h0 (fun q => hJ _ _ _ _ _ _ _ (h1 q) hcon) (fun q => hκ _ _ _ _ _ _ (h2 q) hcon)
  case if_icmp cd off =>
    obtain rfl : len = 3 := zl_eq hz rfl
    obtain ⟨x, y, r, rfl, h0, h1, h2⟩ := zicm_x hop
    cases cd
    · exact lv_icmp_eq hx hb hd h0 (fun q => hJ _ _ _ _ _ _ _ (h1 q) hcon) (fun q => hκ _ _ _ _ _ _ (h2 q) hcon)
    · exact lv_icmp_ne hx hb hd h0 (fun q => hJ _ _ _ _ _ _ _ (h1 q) hcon) (fun q => hκ _ _ _ _ _ _ (h2 (fun z => z q)) hcon)
    · exact lv_icmp_lt hx hb hd h0 (fun q => hJ _ _ _ _ _ _ _ (h1 q) hcon) (fun q => hκ _ _ _ _ _ _ (h2 q) hcon)
    · exact lv_icmp_ge hx hb hd h0 (fun q => hJ _ _ _ _ _ _ _ (h1 q) hcon) (fun q => hκ _ _ _ _ _ _ (h2 q) hcon)
    · exact lv_icmp_gt hx hb hd h0 (fun q => hJ _ _ _ _ _ _ _ (h1 q) hcon) (fun q => hκ _ _ _ _ _ _ (h2 q) hcon)
    · exact lv_icmp_le hx hb hd h0 (fun q => hJ _ _ _ _ _ _ _ (h1 q) hcon) (fun q => hκ _ _ _ _ _ _ (h2 q) hcon)
  case tableswitch df lo hi offs =>
    obtain ⟨x, r, rfl, h1, h2⟩ := zts_x hop
    by_cases q : x.toInt < lo ∨ hi < x.toInt
    · exact lv_tableOut hx hb hd q (h1 q).1 (hJ _ _ _ _ _ _ _ (h1 q).2 hcon)
    · have q1 : ¬ x.toInt < lo := fun z => q (Or.inl z)
      have q2 : ¬ hi < x.toInt := fun z => q (Or.inr z)
      obtain ⟨off, h3, h4⟩ := h2 q1 q2
      exact lv_tableIn hx hb hd q1 q2 h3 h4.1 (hJ _ _ _ _ _ _ _ h4.2 hcon)
  case lookupswitch df ps =>
    obtain ⟨x, r, rfl, h1, h2⟩ := zlks_x hop
    exact lv_lookup hx hb hd h1 rfl h2.1 (hJ _ _ _ _ _ _ _ h2.2 hcon)
  case getfield ix =>
    obtain rfl : len = 3 := zl_eq hz rfl
    obtain ⟨k, r, fs, o, rfl, h1, h2, h3⟩ := zgf_x hop
    obtain ⟨hk, hg⟩ := zlay_some h1
    obtain ⟨q, hq, hfl, -⟩ := zly_obj hg
    have hlk2 := of_decide_eq_true hlk
    have hj : b < q.2.2 := by
      rw [← hfl]
      rw [zget_eq] at h2
      exact (List.getElem?_eq_some_iff.mp h2).1
    have he : (zwd NC ad cA M)[k]? = some (ad k, .inr (a, zfv ad (M k) 0 fs)) := by
      rw [zwd_at hk]; unfold zce; rw [hg]
    have hF0 : zF a b = q.2.1 b := by unfold zF; rw [hq]
    rw [hF0] at hlk2
    refine va_get (D := (dC, dI)) (ci := a) (C := q.1) (T := q.2.1) (N := q.2.2) hx hb hts (zcl_ok a q hq).1 hown hK hP k he (by rw [← zget_eq]; exact hq) b hj (hts _ (zT_in hlk2 rfl)) (fun _ h9 => h9) (zfv_get ad (M k) fs 0 b o h2) hd ?_
    have := hκ _ _ _ _ _ _ h3 hcon
    cases o with
    | none => rw [Nat.zero_add]; exact this
    | some z => exact this
  case putfield ix =>
    obtain rfl : len = 3 := zl_eq hz rfl
    obtain ⟨x, k, r, fs, rfl, h1, h2, h4, h3⟩ := zpf_x hop
    obtain ⟨hk, hg⟩ := zlay_some h1
    obtain ⟨q, hq, hfl, -⟩ := zly_obj hg
    have hj : b < q.2.2 := by
      rw [← hfl]
      rw [zget_eq] at h2
      exact (List.getElem?_eq_some_iff.mp h2).1
    have he : (zwd NC ad cA M)[k]? = some (ad k, .inr (a, zfv ad (M k) 0 fs)) := by
      rw [zwd_at hk]; unfold zce; rw [hg]
    have hF0 : zF a b = q.2.1 b := by unfold zF; rw [hq]
    have hlk3 : (decide (lw_tbl[t]? = some (.fieldLink own ix (zF a b).1 (zF a b).2.1 (zF a b).2.2.1)) && decide ((zF a b).2.2.2 = false) && (decide ((zF a b).2.2.1 = "I") || (decide ((zF a b).2.2.1 = "Z") && Nat.beq a 1 && Nat.beq b 8))) = true := hlk
    rw [hF0] at hlk3
    simp only [Bool.and_eq_true, Bool.or_eq_true, decide_eq_true_eq] at hlk3
    obtain ⟨⟨hl1, hl2⟩, hl3⟩ := hlk3
    obtain ⟨hin, ty0, hty, hnm⟩ := zcl_ok a q hq
    obtain ⟨ty, hd1, hn1, hf1⟩ : ∃ ty, parseFieldDescriptor (q.2.1 b).2.2.1 = some ty ∧ narrow ty (.int x) = .int x ∧ fits ty (.int x) = true := by
      rcases hl3 with e1 | ⟨⟨e1, e2⟩, e3⟩
      · exact ⟨.int, by rw [e1]; decide +kernel, rfl, rfl⟩
      · refine ⟨.boolean, by rw [e1]; decide +kernel, ?_⟩
        rcases h4 ⟨Nat.eq_of_beq_eq_true e2, Nat.eq_of_beq_eq_true e3⟩ with rfl | rfl
        · exact ⟨by decide, by decide⟩
        · exact ⟨by decide, by decide⟩
    refine va_put (D := (dC, dI)) (ci := a) (ty := ty) (v := .int x) (C := q.1) (T := q.2.1) (N := q.2.2) hx hb hts hin ty0 hty hnm hown hK hP hD hS k he (by rw [← zget_eq]; exact hq) b hj (hts _ (zT_in hl1 rfl)) (fun _ h9 => h9) hl2 hd1 hn1 hf1 (by rw [zfv_length, hfl]; exact hj) hd (fun H1 locs1 hP1 hD1 hS1 => ?_)
    have hset := zfv_set ad (M k) x fs 0 b h2
    rw [Nat.zero_add] at hset
    rw [hset, zwd_set (j := b) (x := x) (by unfold zce; rw [hg])] at hP1 hD1
    exact hκ _ _ _ _ _ _ h3 ⟨hcon.1, hcon.2.1, hP1, hD1, hS1⟩
  case getstatic ix =>
    obtain rfl : len = 3 := zl_eq hz rfl
    obtain ⟨⟨h1, h2⟩, h3⟩ := hop
    exact va_gets hx hb (hRO.2 a h1 h2) hS hown (hts _ (zT_in (of_decide_eq_true hlk) rfl)) (fun _ h9 => h9) hd (hκ _ _ _ _ _ _ h3 hcon)
  case iaload =>
    obtain rfl : len = 1 := zl_eq hz rfl
    obtain ⟨i, k, r, rfl, ⟨n, qs, h1, h2, h3⟩ | ⟨h1, h1', h2, h3⟩⟩ := zald_x hop
    · obtain ⟨hk, hg⟩ := zlay_some h1
      obtain rfl := zly_arr hg (Or.inl rfl)
      exact va_iald hx hb hK hP k k (cA := cA k) (n := n) (f := M k) (by rw [zwd_at hk]; unfold zce; rw [hg]) (by rw [ztys_at hk]; unfold zty; rw [hg]) h2 hd (hκ _ _ _ _ _ _ h3 hcon)
    · exact va_ti hx hb (hRO.1 k h1 h1') hS h2 rfl hd (hκ _ _ _ _ _ _ h3 hcon)
  case baload =>
    obtain rfl : len = 1 := zl_eq hz rfl
    obtain ⟨i, k, r, n, ty, qs, rfl, h1, hty, h2, h3⟩ := zbld_x hop
    obtain ⟨hk, hg⟩ := zlay_some h1
    obtain rfl := zly_arr hg (Or.inr hty)
    rcases hty with rfl | rfl
    · exact va_bald hx hb hK hP k k (cA := cA k) (n := n) (f := M k) (by rw [zwd_at hk]; unfold zce; rw [hg]) (by rw [ztys_at hk]; unfold zty; rw [hg]) h2 hd (hκ _ _ _ _ _ _ h3 hcon)
    · exact va_zald hx hb hK hP k k (cA := cA k) (n := n) (f := M k) (by rw [zwd_at hk]; unfold zce; rw [hg]) (by rw [ztys_at hk]; unfold zty; rw [hg]) h2 hd (hκ _ _ _ _ _ _ h3 hcon)
  case iastore =>
    obtain rfl : len = 1 := zl_eq hz rfl
    obtain ⟨x, i, k, r, n, qs, rfl, h1, h2, h3⟩ := zast_x hop
    obtain ⟨hk, hg⟩ := zlay_some h1
    obtain rfl := zly_arr hg (Or.inl rfl)
    refine va_iast hx hb hK hP hD hS k k (cA := cA k) (n := n) (f := M k) (by rw [zwd_at hk]; unfold zce; rw [hg]) (by rw [ztys_at hk]; unfold zty; rw [hg]) h2 hd (fun H1 locs1 hP1 hD1 hS1 => ?_)
    rw [zwd_set (j := i.toNatClampNeg) (x := x) (by unfold zce; rw [hg])] at hP1 hD1
    exact hκ _ _ _ _ _ _ h3 ⟨hcon.1, hcon.2.1, hP1, hD1, hS1⟩
  case bastore =>
    obtain rfl : len = 1 := zl_eq hz rfl
    obtain ⟨x, i, k, r, n, ty, qs, rfl, h1, hty, h2, h3⟩ := zbst_x hop
    obtain ⟨hk, hg⟩ := zlay_some h1
    obtain rfl := zly_arr hg (Or.inr hty)
    rcases hty with rfl | rfl
    · refine va_bast hx hb hK hP hD hS k k (cA := cA k) (n := n) (f := M k) (by rw [zwd_at hk]; unfold zce; rw [hg]) (by rw [ztys_at hk]; unfold zty; rw [hg]) h2 hd (fun H1 locs1 hP1 hD1 hS1 => ?_)
      rw [zwd_set (j := i.toNatClampNeg) (x := vp_nar .byte x) (by unfold zce; rw [hg])] at hP1 hD1
      exact hκ _ _ _ _ _ _ h3 ⟨hcon.1, hcon.2.1, hP1, hD1, hS1⟩
    · refine va_zast hx hb hK hP hD hS k k (cA := cA k) (n := n) (f := M k) (by rw [zwd_at hk]; unfold zce; rw [hg]) (by rw [ztys_at hk]; unfold zty; rw [hg]) h2 hd (fun H1 locs1 hP1 hD1 hS1 => ?_)
      rw [zwd_set (j := i.toNatClampNeg) (x := vp_nar .boolean x) (by unfold zce; rw [hg])] at hP1 hD1
      exact hκ _ _ _ _ _ _ h3 ⟨hcon.1, hcon.2.1, hP1, hD1, hS1⟩
  case aaload =>
    obtain rfl : len = 1 := zl_eq hz rfl
    obtain ⟨i, k, r, n, C0, qs, q, rfl, h1, h2, h4, h3⟩ := zrld_x hop
    obtain ⟨hk, hg⟩ := zlay_some h1
    obtain ⟨q0, qr, rfl, -⟩ := zly_ref hg
    refine va_aldq hx hb hK hP k k (cA := cA k) (C := C0) (n := n) (f := fun j => (zget (q0 :: qr) j).map ad) (by rw [zwd_at hk]; unfold zce; rw [hg]) (by rw [ztys_at hk]; unfold zty; rw [hg]) h2 hd ?_
    rw [h4]
    exact hκ _ _ _ _ _ _ h3 hcon
  case arraylength =>
    obtain rfl : len = 1 := zl_eq hz rfl
    obtain ⟨k, r, rfl, ⟨n, ty, qs, h1, h3⟩ | ⟨h1, h1', h3⟩⟩ := zlen_x hop
    · obtain ⟨hk, hg⟩ := zlay_some h1
      cases qs with
      | nil => exact va_alen hx hb hK hP k k (cA := cA k) (x := (n, .inl (M k))) (by rw [zwd_at hk]; unfold zce; rw [hg]) (ztys_at hk) rfl hd (hκ _ _ _ _ _ _ h3 hcon)
      | cons q0 qr => exact va_alen hx hb hK hP k k (cA := cA k) (x := (n, .inr (.inr (.inr (.inr (fun j => (zget (q0 :: qr) j).map ad)))))) (by rw [zwd_at hk]; unfold zce; rw [hg]) (ztys_at hk) rfl hd (hκ _ _ _ _ _ _ h3 hcon)
    · exact va_tlen hx hb (hRO.1 k h1 h1') hS rfl hd (hκ _ _ _ _ _ _ h3 hcon)
  case invokestatic ix =>
    obtain rfl : len = 3 := zl_eq hz rfl
    cases h88 : Nat.beq a 88 with
    | true =>
      have h0 : (bif Nat.beq a 88 then zmx st (fun st' => κ L st' M) else zcs zinfo C a st M (fun r M' => κ L r M')) := hop
      rw [h88] at h0
      have h0' : zmx st (fun st' => κ L st' M) := h0
      obtain ⟨x, y, r, rfl, h1, h2⟩ := zmx_x h0'
      obtain rfl := Nat.eq_of_beq_eq_true h88
      have hlk2 : decide (lw_tbl[t]? = some (.methodLink own ix yJ9_max_7cf53)) = true := hlk
      exact va_mmax hx hb (by rw [hml]; exact hcon.2.1.1.symm) hown (hts _ (zT_in (of_decide_eq_true hlk2) rfl)) (hts _ (zT_in (i := 411) (by decide +kernel) rfl)) (hts _ (zT_in (i := 38) (by decide +kernel) rfl)) (hts _ (zT_in (i := 412) (by decide +kernel) rfl)) (by omega) (by rw [zslots_sum]; omega) hcell hslot hd (hκ _ _ _ _ _ _ h2 hcon)
    | false =>
      have h0 : (bif Nat.beq a 88 then zmx st (fun st' => κ L st' M) else zcs zinfo C a st M (fun r M' => κ L r M')) := hop
      rw [h88] at h0
      have h0' : zcs zinfo C a st M (fun r M' => κ L r M') := h0
      obtain ⟨i, as, r, v, M', hi, hst, hpop, hsl, hCk, h3⟩ := zcs_x h0'
      have hlk2 : (match zinfo a with
        | some q => decide (lw_tbl[t]? = some (.methodLink own ix q.2.1))
        | none => false) = true := hlk
      rw [hi] at hlk2
      have hlk3 := of_decide_eq_true hlk2
      rcases zi_all a i hi with hok | ⟨hno, -⟩
      · have hM := hC a as M v M' hCk i hi hok H.size
        obtain ⟨k1, k2, k3, -, k5, k6, k7, k8, k9, k10⟩ := hok
        obtain ⟨bs, hb1, hb2, hb3⟩ := zpop_spec _ _ _ _ _ hpop
        rw [List.append_nil] at hb1
        subst hb1
        have hG : GoodIn zT (va_wsS own ix i.2.1 (Cond.code i.2.1 i.2.2.1 i.2.2.2.1 i.2.2.2.2.1 :: zT)) := by
          refine zT_good (fun w hw => ?_)
          simp only [va_wsS, List.mem_append, List.mem_cons, List.not_mem_nil, or_false] at hw
          rcases hw with (rfl | rfl | rfl) | rfl | hw
          · exact zT_in hlk3 rfl
          · exact zT_in (k3 hst) rfl
          · exact zT_in k2 rfl
          · exact zT_in k1 rfl
          · exact hw
        refine zcall (A := A) (va_runS (As := as.map (ztr ad)) (rest := r.map (ztr ad)) ⟨hx, hb, hml, hown, hts⟩ hM (va_cwS i.2.2.2.2.2.2.2.1 hts hG rfl rfl rfl ⟨k6, k7, k9⟩ ⟨hfr, by show 8 + (i.2.2.2.1 + 11) + 60 * d ≤ R.locals; omega⟩) ⟨zPre.blind, fun U hU hW => ⟨rfl, by rw [hU], by rw [hU]; exact hP, va_K.moved hW.alike hK, hD.weaken (fun _ _ _ _ => trivial), ?_⟩⟩ rfl (by rw [List.length_map]; exact hb3) hcon.2.1.1 (by rw [hb2, List.map_append, List.map_reverse]) (lv_room (by rw [zslots_sum]; exact hsl)) hd ⟨hcell, hslot⟩) hS hfree hfree (fun H1 locs1 hP1 hD1 hS1 => ?_)
        · rw [hU]
          exact ((hRO.kept hS.2.1).moved hW.alike).narrow hfree
        · have := hκ _ _ _ _ _ _ h3 (⟨hcon.1, hcon.2.1, hP1, hD1, hS1⟩ : zcon s dC dI ad cA NC A nL L M' ls H1 locs1)
          rw [List.map_append] at this
          cases v <;> exact this
      · rw [hst] at hno; cases hno
  case invokevirtual ix =>
    obtain rfl : len = 3 := zl_eq hz rfl
    obtain ⟨i, as, k, r, fs, v, M', hi, hst, hpop, hsl, hly, hCk, h3⟩ := zcv_x hop
    have hlk2 : (match zinfo a with
      | some q => decide (lw_tbl[t]? = some (.methodLink own ix q.2.1))
      | none => false) = true := hlk
    rw [hi] at hlk2
    have hlk3 := of_decide_eq_true hlk2
    obtain ⟨hk, hg⟩ := zlay_some hly
    obtain ⟨q, hq, hfl, hc8⟩ := zly_obj hg
    rcases zi_all a i hi with hok | ⟨-, hno⟩
    · have hM := hC a (.ref k :: as) M v M' hCk i hi hok H.size
      obtain ⟨k1, k2, -, k4, k5, k6, k7, k8, k9, k10⟩ := hok
      obtain ⟨k41, k42, k43⟩ := k4 hst
      rw [hq] at k43
      have hqc : q.1 = i.2.1.cls := by simpa using k43
      obtain ⟨bs, hb1, hb2, hb3⟩ := zpop_spec _ _ _ _ _ hpop
      rw [List.append_nil] at hb1
      subst hb1
      have he : (zwd NC ad cA M)[k]? = some (ad k, .inr (i.2.2.2.2.2.2.1, zfv ad (M k) 0 fs)) := by
        rw [zwd_at hk]; unfold zce; rw [hg]
      have hG : GoodIn zT (wsV own ix i.2.1.cls i.2.1 (Cond.code i.2.1 i.2.2.1 i.2.2.2.1 i.2.2.2.2.1 :: zT)) := by
        refine zT_good (fun w hw => ?_)
        simp only [wsV, List.mem_append, List.mem_cons, List.not_mem_nil, or_false] at hw
        rcases hw with (rfl | rfl | rfl | rfl) | rfl | hw
        · exact zT_in hlk3 rfl
        · exact zT_in k41 rfl
        · exact zT_in k42 rfl
        · exact zT_in k2 rfl
        · exact zT_in k1 rfl
        · exact hw
      have hrecv := va_recv hK hP (ci := i.2.2.2.2.2.2.1) (by rw [← zget_eq]; exact hq) he
      rw [hqc] at hrecv
      refine zcall (A := A) (va_runV (As := as.map (ztr ad)) (rest := r.map (ztr ad)) ⟨hx, hb, hml, hown, hts⟩ hM (cwV i.2.2.2.2.2.2.2.1 hts hG rfl rfl rfl ⟨rfl, k6, k7, k9⟩ ⟨hfr, by show 8 + (i.2.2.2.1 + 11) + 60 * d ≤ R.locals; omega⟩) ⟨zPre.blind, hrecv, fun U hU hW => ⟨rfl, by rw [hU], by rw [hU]; exact hP, va_K.moved hW.alike hK, hD.weaken (fun _ _ _ _ => trivial), ?_⟩⟩ rfl (by rw [List.length_map]; exact hb3) hcon.2.1.1 (by rw [hb2, List.map_append, List.map_reverse]; rfl) (lv_room (by rw [zslots_sum]; exact hsl)) hd ⟨hcell, hslot⟩) hS hfree hfree (fun H1 locs1 hP1 hD1 hS1 => ?_)
      · rw [hU]
        exact ((hRO.kept hS.2.1).moved hW.alike).narrow hfree
      · have := hκ _ _ _ _ _ _ h3 (⟨hcon.1, hcon.2.1, hP1, hD1, hS1⟩ : zcon s dC dI ad cA NC A nL L M' ls H1 locs1)
        rw [List.map_append] at this
        cases v <;> exact this
    · rw [hno] at hc8; omega
  case ireturn =>
    obtain rfl : len = 1 := zl_eq hz rfl
    split at hop
    · exact hF _ _ _ _ _ _ hop hd hP hD hS
    · exact hop.elim
  case areturn =>
    obtain rfl : len = 1 := zl_eq hz rfl
    split at hop
    · exact hF _ _ _ _ _ _ hop hd hP hD hS
    · exact hop.elim
  case return_ =>
    obtain rfl : len = 1 := zl_eq hz rfl
    split at hop
    · exact hF _ _ _ _ _ _ hop hd hP hD hS
    · exact hop.elim
  all_goals exact hop.elim
end ZS
end
section
theorem zfb_mem {α : Type} : ∀ (l : List (Nat × α)) (n : Nat) (x : α), zfb l n = some x → (n, x) ∈ l := by
  intro l
  induction l with
  | nil => intro n x h; simp [zfb] at h
  | cons q r ih =>
    intro n x h
    obtain ⟨a, y⟩ := q
    simp only [zfb] at h
    cases hb : Nat.beq a n with
    | true =>
      rw [hb] at h
      have h1 : y = x := by simpa using h
      rw [← h1, ← Nat.eq_of_beq_eq_true hb]
      exact List.mem_cons_self
    | false =>
      rw [hb] at h
      exact List.mem_cons_of_mem _ (ih n x h)
theorem zblk_ok {k pc np : Nat} {es : List zE} {i : zI} (h : zblk k pc = some (es, np)) (hi : zinfo k = some i) : zok1 i.1 i.2.2.1 np pc es = true := by
  unfold zblk at h
  cases hz : zget zcodes k with
  | none => rw [hz] at h; simp at h
  | some bl =>
    rw [hz] at h
    have h1 := zokK_all k
    unfold zokK at h1
    rw [hi, hz] at h1
    exact List.all_eq_true.mp h1 _ (zfb_mem _ _ _ h)
/-- from here the method k ends with r, M' -/
def zK (NC : Nat) (sc : Nat × (Nat → Int32)) (C : Nat → List Value → zM → Option Value → zM → Prop) (k : Nat) (r : Option Value) (M' : zM) (pc : Nat) (L st : List Value) (M : zM) : Prop :=
  ∀ P : Nat → List Value → List Value → zM → Prop, (∀ (pc : Nat) (L st : List Value) (M : zM) (es : List zE) (np : Nat), zblk k pc = some (es, np) → zwp NC sc zinfo C P (fun v M1 => zfit k v ∧ v = r ∧ M1 = M') np es L st M → P pc L st M) → P pc L st M
/-- the method k, called with these values, ends with r, M'; at most d frames -/
def zC (NC : Nat) (sc : Nat × (Nat → Int32)) : Nat → Nat → List Value → zM → Option Value → zM → Prop
  | 0 => fun _ _ _ _ _ => False
  | d + 1 => fun k as M r M' => match zinfo k with
    | some i => Nat.ble (zlo as).length i.2.2.2.1 = true ∧ zK NC sc (zC NC sc d) k r M' 0 (zpad i.2.2.2.1 (zlo as)) [] M
    | none => False
section ZB
variable {p : Program} {l : Launch} {e : Env} {R : Room} {s : State} {m : MethodId} {args : Array Value} {below : List Frame} {meth : Method} {c : Code} {cells slots : Nat} {Q : State → Prop}
variable {dC : Nat → ClassId} {dI : Nat → Nat → Nat} {ad : Nat → Nat} {cA : Nat → ClassId} {NC : Nat} {sc : Nat × (Nat → Int32)} {A : Nat → Prop}
theorem zblock {bytes : ByteArray} {own : String} {nL d : Nat} (hx : p.tables.exec = Jvm.exec) (hb : c.code = bytes) (hml : c.maxLocals = nL) (hown : s.vm.findClass own = some m.cls) (hts : ∀ w ∈ zT, w.before args s = true)
    (hK : va_K (dC, dI) vwCl (ztys NC cA) s) (hA : ∀ q, s.heap.size ≤ q → A q) (hRO : zRO ad sc A s s.heap) (hcell : cells ≤ R.cells) (hslot : slots ≤ R.slots) (hfr : d + 1 ≤ R.frames) (hlo : 60 * (d + 1) ≤ R.locals)
    {C : Nat → List Value → zM → Option Value → zM → Prop} (hC : ∀ k as M r M', C k as M r M' → zMet l dC dI ad cA NC sc d k as M r M')
    {J : Nat → List Value → List Value → zM → Prop} (hJ : ∀ pc L st M ls H locs, J pc L st M → zcon s dC dI ad cA NC A nL L M ls H locs → W p l e R s m args below meth c H locs cells slots Q (F0 m pc ls (st.map (ztr ad))))
    {fin : Option Value → zM → Prop} (hF : ∀ r M pc ls H locs, fin r M → decode bytes pc = .ok (zri r, 1) → va_P (dC, dI) vwCl (zwd NC ad cA M) H → va_D A (zwd NC ad cA M) → va_S A s.heap H locs → W p l e R s m args below meth c H locs cells slots Q (F0 m pc ls (r.toList.map (ztr ad))))
    (np : Nat) : ∀ (es : List zE) (pc : Nat) (L st : List Value) (M : zM) (ls : Array Slot) (H : Heap) (locs : List Loc), zok1 own bytes np pc es = true → zwp NC sc zinfo C J fin np es L st M → zcon s dC dI ad cA NC A nL L M ls H locs → W p l e R s m args below meth c H locs cells slots Q (F0 m pc ls (st.map (ztr ad))) := by
  intro es
  induction es with
  | nil =>
    intro pc L st M ls H locs hok hw hcon
    obtain rfl : pc = np := Nat.eq_of_beq_eq_true hok
    exact hJ _ _ _ _ _ _ _ hw hcon
  | cons E es ih =>
    intro pc L st M ls H locs hok hw hcon
    simp only [zok1, Bool.and_eq_true] at hok
    obtain ⟨⟨⟨⟨h1, h2⟩, h3⟩, h4⟩, h5⟩ := hok
    have h1' : E.1 = pc := Nat.eq_of_beq_eq_true h1
    subst h1'
    exact zins hx hb hml hown hts hK hA hRO hcell hslot hfr hlo hC hJ hF (κ := fun L' st' M' => zwp NC sc zinfo C J fin np es L' st' M') (fun L' st' M' ls' H' locs' hk hc => ih _ _ _ _ _ _ _ h5 hk hc) (of_decide_eq_true h2) h3 h4 hw hcon
theorem zK_sound {i : zI} {k d : Nat} {r : Option Value} {M' : zM} (hi : zinfo k = some i) (hx : p.tables.exec = Jvm.exec) (hb : c.code = i.2.2.1) (hml : c.maxLocals = i.2.2.2.1) (hown : s.vm.findClass i.1 = some m.cls) (hts : ∀ w ∈ zT, w.before args s = true)
    (hK : va_K (dC, dI) vwCl (ztys NC cA) s) (hA : ∀ q, s.heap.size ≤ q → A q) (hRO : zRO ad sc A s s.heap) (hcell : cells ≤ R.cells) (hslot : slots ≤ R.slots) (hfr : d + 1 ≤ R.frames) (hlo : 60 * (d + 1) ≤ R.locals)
    (hC : ∀ k as M r M', zC NC sc d k as M r M' → zMet l dC dI ad cA NC sc d k as M r M')
    (hF : ∀ pc ls H locs, zfit k r → decode i.2.2.1 pc = .ok (zri r, 1) → va_P (dC, dI) vwCl (zwd NC ad cA M') H → va_D A (zwd NC ad cA M') → va_S A s.heap H locs → W p l e R s m args below meth c H locs cells slots Q (F0 m pc ls (r.toList.map (ztr ad))))
    {pc : Nat} {L st : List Value} {M : zM} {ls : Array Slot} {H : Heap} {locs : List Loc} (h : zK NC sc (zC NC sc d) k r M' pc L st M) (hcon : zcon s dC dI ad cA NC A i.2.2.2.1 L M ls H locs) : W p l e R s m args below meth c H locs cells slots Q (F0 m pc ls (st.map (ztr ad))) := by
  refine h (fun pc L st M => ∀ (ls : Array Slot) (H : Heap) (locs : List Loc), zcon s dC dI ad cA NC A i.2.2.2.1 L M ls H locs → W p l e R s m args below meth c H locs cells slots Q (F0 m pc ls (st.map (ztr ad)))) ?_ ls H locs hcon
  intro pc L st M es np hblk hw ls H locs hcon
  refine zblock hx hb hml hown hts hK hA hRO hcell hslot hfr hlo hC (fun pc L st M ls H locs hj hc => hj ls H locs hc) (fin := fun v M1 => zfit k v ∧ v = r ∧ M1 = M') (fun v M1 pc ls H locs hf hdec hP hD hS => ?_) np es pc L st M ls H locs (zblk_ok hblk hi) hw hcon
  obtain ⟨h1, rfl, rfl⟩ := hf
  exact hF pc ls H locs h1 hdec hP hD hS
end ZB
set_option maxHeartbeats 1000000 in
/-- a call of the pure machine is a contract of the machine -/
theorem zC_sound (l : Launch) (dC : Nat → ClassId) (dI : Nat → Nat → Nat) (ad : Nat → Nat) (cA : Nat → ClassId) (NC : Nat) (sc : Nat × (Nat → Int32)) : ∀ (d k : Nat) (as : List Value) (M : zM) (r : Option Value) (M' : zM), zC NC sc d k as M r M' → zMet l dC dI ad cA NC sc d k as M r M' := by
  intro d
  induction d with
  | zero => intro k as M r M' h; exact h.elim
  | succ d ih =>
    intro k as M r M' h i hi hok sz
    simp only [zC] at h
    rw [hi] at h
    obtain ⟨hlen, hn⟩ := h
    have hlen' : (zlo as).length ≤ i.2.2.2.1 := Nat.le_of_ble_eq_true hlen
    obtain ⟨k1, k2, k3, k4, k5, k6, k7, k8, k9, k10⟩ := hok
    refine Met.ofW (cc := i.2.2.1) (maxL := i.2.2.2.1) (ret := i.2.2.2.2.1) k8 rfl ?_
    intro p e s m args below meth c s₁ B hml hv
    obtain ⟨rfl, hsz, hP, hK, hD0, hRO⟩ := hv
    have hts0 := atoms_spec (ws := Cond.code i.2.1 i.2.2.1 i.2.2.2.1 i.2.2.2.2.1 :: zT) B.pre
    have hts : ∀ w ∈ zT, w.before ((as.map (ztr ad)).toArray) s = true := fun w hw => hts0 w (List.mem_cons_of_mem _ hw)
    have hown : s.vm.findClass i.1 = some m.cls := by rw [← k5]; exact findClass_of_methodNamed B.named
    have hlocks := B.notSynchronized
    have hr := B.returns
    subst hsz
    have hD := hD0.self (sz := s.heap.size)
    have hA : ∀ q : Nat, s.heap.size ≤ q → va_A (zwd NC ad cA M) s.heap.size q := fun q h => Or.inr h
    have hl := lv_entry (as.map (ztr ad)) (n := i.2.2.2.1) (by rw [zlo_length]; exact hlen')
    rw [lg_entry_eq]
    generalize (lg_sl (as.map (ztr ad)) ++ List.replicate (i.2.2.2.1 - (lg_sl (as.map (ztr ad))).length) Slot.unset).toArray = ls at hl ⊢
    obtain ⟨hp1, hp2⟩ := zpad_pr ad i.2.2.2.1 (zlo as) 0 hlen'
    refine zK_sound (A := va_A (zwd NC ad cA M) s.heap.size) hi B.exec B.bytes hml hown hts hK hA hRO (Nat.zero_le _) (Nat.zero_le _) (d := d) (Nat.le_refl _) (Nat.le_refl _) ih (fun pc ls H locs hfit hdec hP1 hD1 hS1 => ?_) (st := []) hn ⟨hp2, zhas_sub hl (fun q hq => zlo_args ad as 0 (by rw [hp1] at hq; exact hq)), hP, hD, va_S.rf⟩
    have hq : ∀ t : State, t.heap = H → s.WarmedH t.vm → zQ dC dI ad cA NC r M' (va_A (zwd NC ad cA M) s.heap.size) ((as.map (ztr ad)).toArray) s (.returned (r.map (ztr ad))) t := fun t ht hW => ⟨⟨rfl, by rw [ht]; exact hP1, va_K.moved hW.alike hK, hD1⟩, hS1.F ht⟩
    unfold zfit at hfit
    rw [hi] at hfit
    dsimp only at hfit
    split at hfit
    · rename_i e1
      exact W.vret B.exec B.bytes (by rw [hr, e1]) hq hS1.2.2 hdec
    · rename_i e1
      exact W.zret B.exec B.bytes (by rw [hr, e1]) rfl hq hS1.2.2 hdec
    · rename_i v e1
      exact W.zret B.exec B.bytes (by rw [hr, e1]) (by rcases hfit with rfl | rfl <;> decide) hq hS1.2.2 hdec
    · rename_i e1
      exact W.aret B.exec B.bytes (by rw [hr, e1]) (Or.inl ⟨_, rfl⟩) (Or.inr ⟨_, rfl⟩) hq hS1.2.2 hdec
    · exact hfit.elim
end
section
/-! steps of the pure machine, goal first -/
section ZM
variable {NC : Nat} {sc : Nat × (Nat → Int32)} {C : Nat → List Value → zM → Option Value → zM → Prop} {J J' : Nat → List Value → List Value → zM → Prop} {fin : Option Value → zM → Prop} {κ κ' : List Value → List Value → zM → Prop}
theorem zjmp_m {pc : Nat} {off : Int} {J J' : Nat → Prop} (h : zjmp pc off J) (hJ : ∀ t, J t → J' t) : zjmp pc off J' := ⟨h.1, hJ _ h.2⟩
set_option maxHeartbeats 2000000 in
theorem zop_mono (hJ : ∀ t L st M, J t L st M → J' t L st M) (hκ : ∀ L st M, κ L st M → κ' L st M) {E : zE} {L st : List Value} {M : zM} (h : zop NC sc zinfo C J fin κ E L st M) : zop NC sc zinfo C J' fin κ' E L st M := by
  obtain ⟨pc, i, len, a, b, t⟩ := E
  cases i
  all_goals (try dsimp only [zop] at h ⊢)
  case iconst n => exact hκ _ _ _ h
  case bipush n => exact hκ _ _ _ h
  case sipush n => exact hκ _ _ _ h
  case ldc n => exact hκ _ _ _ h
  case ldc_w n => exact hκ _ _ _ h
  case ldc2_w n => exact hκ _ _ _ h
  case iload_n i =>
    obtain ⟨x, h1, h2⟩ := zldI_x h
    unfold zldI
    rw [h1]
    exact hκ _ _ _ h2
  case iload i =>
    obtain ⟨x, h1, h2⟩ := zldI_x h
    unfold zldI
    rw [h1]
    exact hκ _ _ _ h2
  case lload_n i =>
    obtain ⟨x, h1, h2⟩ := zldJ_x h
    unfold zldJ
    rw [h1]
    exact hκ _ _ _ h2
  case aload_n i =>
    obtain ⟨x, h1, h2⟩ := zldA_x h
    unfold zldA
    rw [h1]
    exact hκ _ _ _ h2
  case aload i =>
    obtain ⟨x, h1, h2⟩ := zldA_x h
    unfold zldA
    rw [h1]
    exact hκ _ _ _ h2
  case istore_n i =>
    obtain ⟨x, r, rfl, h1, h2⟩ := zstI_x h
    exact ⟨h1, hκ _ _ _ h2⟩
  case istore i =>
    obtain ⟨x, r, rfl, h1, h2⟩ := zstI_x h
    exact ⟨h1, hκ _ _ _ h2⟩
  case astore_n i =>
    obtain ⟨x, r, rfl, h1, h2⟩ := zstA_x h
    exact ⟨h1, hκ _ _ _ h2⟩
  case astore i =>
    obtain ⟨x, r, rfl, h1, h2⟩ := zstA_x h
    exact ⟨h1, hκ _ _ _ h2⟩
  case iinc i n =>
    obtain ⟨x, h0, h1, h2⟩ := zinc_x h
    unfold zinc
    rw [h0]
    exact ⟨h1, hκ _ _ _ h2⟩
  case iadd =>
    obtain ⟨x, y, r, rfl, h1⟩ := zb2_x h
    exact hκ _ _ _ h1
  case isub =>
    obtain ⟨x, y, r, rfl, h1⟩ := zb2_x h
    exact hκ _ _ _ h1
  case imul =>
    obtain ⟨x, y, r, rfl, h1⟩ := zb2_x h
    exact hκ _ _ _ h1
  case iand =>
    obtain ⟨x, y, r, rfl, h1⟩ := zb2_x h
    exact hκ _ _ _ h1
  case ior =>
    obtain ⟨x, y, r, rfl, h1⟩ := zb2_x h
    exact hκ _ _ _ h1
  case ixor =>
    obtain ⟨x, y, r, rfl, h1⟩ := zb2_x h
    exact hκ _ _ _ h1
  case ishl =>
    obtain ⟨x, y, r, rfl, h1⟩ := zb2_x h
    exact hκ _ _ _ h1
  case ishr =>
    obtain ⟨x, y, r, rfl, h1⟩ := zb2_x h
    exact hκ _ _ _ h1
  case iushr =>
    obtain ⟨x, y, r, rfl, h1⟩ := zb2_x h
    exact hκ _ _ _ h1
  case ineg =>
    obtain ⟨x, r, rfl, h1⟩ := zu1_x h
    exact hκ _ _ _ h1
  case i2b =>
    obtain ⟨x, r, rfl, h1⟩ := zu1_x h
    exact hκ _ _ _ h1
  case i2l =>
    obtain ⟨x, r, rfl, h1⟩ := zi2l_x h
    exact hκ _ _ _ h1
  case l2i =>
    obtain ⟨x, r, rfl, h1⟩ := zl2i_x h
    exact hκ _ _ _ h1
  case land =>
    obtain ⟨x, y, r, rfl, h1⟩ := zl2_x h
    exact hκ _ _ _ h1
  case lor =>
    obtain ⟨x, y, r, rfl, h1⟩ := zl2_x h
    exact hκ _ _ _ h1
  case lshl =>
    obtain ⟨x, y, r, rfl, h1⟩ := zls_x h
    exact hκ _ _ _ h1
  case lshr =>
    obtain ⟨x, y, r, rfl, h1⟩ := zls_x h
    exact hκ _ _ _ h1
  case lushr =>
    obtain ⟨x, y, r, rfl, h1⟩ := zls_x h
    exact hκ _ _ _ h1
  case irem =>
    obtain ⟨x, y, r, rfl, h0, h1⟩ := zrem_x h
    exact ⟨h0, hκ _ _ _ h1⟩
  case dup =>
    obtain ⟨v, r, rfl, h0, h1⟩ := zdup_x h
    exact ⟨h0, hκ _ _ _ h1⟩
  case dup2 =>
    obtain ⟨v, w, r, rfl, h0, h1, h2⟩ := zdup2_x h
    exact ⟨h0, h1, hκ _ _ _ h2⟩
  case goto off => exact zjmp_m h (fun t => hJ _ _ _ _)
  case ifCond cd off =>
    obtain ⟨x, r, rfl, h0, h1, h2⟩ := zifc_x h
    exact ⟨h0, fun q => hJ _ _ _ _ (h1 q), fun q => hκ _ _ _ (h2 q)⟩
  case if_icmp cd off =>
    obtain ⟨x, y, r, rfl, h0, h1, h2⟩ := zicm_x h
    exact ⟨h0, fun q => hJ _ _ _ _ (h1 q), fun q => hκ _ _ _ (h2 q)⟩
  case tableswitch df lo hi offs =>
    obtain ⟨x, r, rfl, h1, h2⟩ := zts_x h
    exact ⟨fun q => zjmp_m (h1 q) (fun t => hJ _ _ _ _), fun q1 q2 => by
      obtain ⟨off, h3, h4⟩ := h2 q1 q2
      exact ⟨off, h3, zjmp_m h4 (fun t => hJ _ _ _ _)⟩⟩
  case lookupswitch df ps =>
    obtain ⟨x, r, rfl, h1, h2⟩ := zlks_x h
    exact ⟨h1, zjmp_m h2 (fun t => hJ _ _ _ _)⟩
  case getfield ix =>
    obtain ⟨k, r, fs, q, rfl, h1, h2, h3⟩ := zgf_x h
    unfold zgf
    dsimp only
    rw [h1]
    refine ⟨rfl, ?_⟩
    rw [h2]
    cases q <;> exact hκ _ _ _ h3
  case putfield ix =>
    obtain ⟨x, k, r, fs, rfl, h1, h2, h4, h3⟩ := zpf_x h
    unfold zpf
    dsimp only
    rw [h1]
    refine ⟨rfl, ?_⟩
    rw [h2]
    exact ⟨h4, hκ _ _ _ h3⟩
  case getstatic ix => exact ⟨h.1, hκ _ _ _ h.2⟩
  case iaload =>
    have h0 : zald NC sc M st (fun r => κ L r M) := h
    show zald NC sc M st (fun r => κ' L r M)
    unfold zald at h0 ⊢
    split at h0
    · split at h0
      · exact ⟨h0.1, hκ _ _ _ h0.2⟩
      · exact ⟨h0.1, h0.2.1, h0.2.2.1, hκ _ _ _ h0.2.2.2⟩
      · exact h0.elim
    · exact h0.elim
  case baload =>
    have h0 : zbld NC M st (fun r => κ L r M) := h
    show zbld NC M st (fun r => κ' L r M)
    unfold zbld at h0 ⊢
    split at h0
    · split at h0
      · exact ⟨h0.1, hκ _ _ _ h0.2⟩
      · exact ⟨h0.1, hκ _ _ _ h0.2⟩
      · exact h0.elim
    · exact h0.elim
  case iastore =>
    have h0 : zast NC M st (fun r M' => κ L r M') := h
    show zast NC M st (fun r M' => κ' L r M')
    unfold zast at h0 ⊢
    split at h0
    · split at h0
      · exact ⟨h0.1, hκ _ _ _ h0.2⟩
      · exact h0.elim
    · exact h0.elim
  case bastore =>
    have h0 : zbst NC M st (fun r M' => κ L r M') := h
    show zbst NC M st (fun r M' => κ' L r M')
    unfold zbst at h0 ⊢
    split at h0
    · split at h0
      · exact ⟨h0.1, hκ _ _ _ h0.2⟩
      · exact ⟨h0.1, hκ _ _ _ h0.2⟩
      · exact h0.elim
    · exact h0.elim
  case aaload =>
    have h0 : zrld NC st (fun r => κ L r M) := h
    show zrld NC st (fun r => κ' L r M)
    unfold zrld at h0 ⊢
    split at h0
    · split at h0
      · refine ⟨h0.1, ?_⟩
        have h1 := h0.2
        split at h1
        · exact hκ _ _ _ h1
        · exact h1.elim
      · exact h0.elim
    · exact h0.elim
  case arraylength =>
    have h0 : zlen NC sc st (fun r => κ L r M) := h
    show zlen NC sc st (fun r => κ' L r M)
    unfold zlen at h0 ⊢
    split at h0
    · split at h0
      · exact hκ _ _ _ h0
      · exact ⟨h0.1, h0.2.1, hκ _ _ _ h0.2.2⟩
      · exact h0.elim
    · exact h0.elim
  case invokestatic ix =>
    have h0 : (bif Nat.beq a 88 then zmx st (fun st' => κ L st' M) else zcs zinfo C a st M (fun r M' => κ L r M')) := h
    show (bif Nat.beq a 88 then zmx st (fun st' => κ' L st' M) else zcs zinfo C a st M (fun r M' => κ' L r M'))
    cases h88 : Nat.beq a 88 with
    | true =>
      rw [h88] at h0
      have h0' : zmx st (fun st' => κ L st' M) := h0
      obtain ⟨x, y, r, rfl, h1, h2⟩ := zmx_x h0'
      exact ⟨h1, hκ _ _ _ h2⟩
    | false =>
      rw [h88] at h0
      have h0' : zcs zinfo C a st M (fun r M' => κ L r M') := h0
      obtain ⟨i, as, r, v, M', hi, hst, hpop, hsl, hCk, h3⟩ := zcs_x h0'
      show zcs zinfo C a st M (fun r M' => κ' L r M')
      unfold zcs
      rw [hi]
      refine ⟨hst, ?_⟩
      rw [hpop]
      exact ⟨hsl, v, M', hCk, hκ _ _ _ h3⟩
  case invokevirtual ix =>
    obtain ⟨i, as, k, r, fs, v, M', hi, hst, hpop, hsl, hly, hCk, h3⟩ := zcv_x h
    unfold zcv
    rw [hi]
    refine ⟨hst, ?_⟩
    rw [hpop]
    refine ⟨hsl, ?_⟩
    rw [hly]
    exact ⟨rfl, v, M', hCk, hκ _ _ _ h3⟩
  case ireturn => exact h
  case areturn => exact h
  case return_ => exact h
  all_goals exact h.elim
theorem zwp_mono {np : Nat} (hJ : ∀ t L st M, J t L st M → J' t L st M) : ∀ (es : List zE) (L st : List Value) (M : zM), zwp NC sc zinfo C J fin np es L st M → zwp NC sc zinfo C J' fin np es L st M := by
  intro es
  induction es with
  | nil => intro L st M h; exact hJ _ _ _ _ h
  | cons E es ih => intro L st M h; exact zop_mono hJ (fun L st M h => ih L st M h) h
end ZM
abbrev zfin (k : Nat) (r : Option Value) (M' : zM) : Option Value → zM → Prop := fun v M1 => zfit k v ∧ v = r ∧ M1 = M'
theorem zK.blk {NC : Nat} {sc : Nat × (Nat → Int32)} {C : Nat → List Value → zM → Option Value → zM → Prop} {k : Nat} {r : Option Value} {M' : zM} {pc np : Nat} {es : List zE} {L st : List Value} {M : zM} (hb : zblk k pc = some (es, np)) (h : zwp NC sc zinfo C (zK NC sc C k r M') (zfin k r M') np es L st M) : zK NC sc C k r M' pc L st M := by
  intro P hP
  exact hP pc L st M es np hb (zwp_mono (fun t L st M hz => hz P hP) es L st M h)
theorem z_enter {NC : Nat} {sc : Nat × (Nat → Int32)} {d k : Nat} {as L : List Value} {r : Option Value} {M M' : zM} {i : zI} (hi : zinfo k = some i) (hl : Nat.ble (zlo as).length i.2.2.2.1 = true) (hL : zpad i.2.2.2.1 (zlo as) = L) (h : zK NC sc (zC NC sc d) k r M' 0 L [] M) : zC NC sc (d + 1) k as M r M' := by
  simp only [zC]
  rw [hi]
  exact ⟨hl, by rw [hL]; exact h⟩
end
section
theorem zN_bv (n : Nat) : (nI n).toBitVec = BitVec.ofNat 32 n := rfl
theorem zN_ext {x y : Int32} (h : x.toBitVec = y.toBitVec) : x = y := Int32.toBitVec_inj.mp h
theorem zN_mul (x y : Nat) : nI x * nI y = nI (x * y) := zN_ext (by rw [Int32.toBitVec_mul, zN_bv, zN_bv, zN_bv, BitVec.ofNat_mul])
theorem zN_and (x y : Nat) : nI x &&& nI y = nI (x &&& y) := zN_ext (by rw [Int32.toBitVec_and, zN_bv, zN_bv, zN_bv]; apply BitVec.eq_of_toNat_eq; simp [Nat.and_mod_two_pow])
theorem zN_or (x y : Nat) : nI x ||| nI y = nI (x ||| y) := zN_ext (by rw [Int32.toBitVec_or, zN_bv, zN_bv, zN_bv]; apply BitVec.eq_of_toNat_eq; simp [Nat.or_mod_two_pow])
theorem zN_xor (x y : Nat) : nI x ^^^ nI y = nI (x ^^^ y) := zN_ext (by rw [Int32.toBitVec_xor, zN_bv, zN_bv, zN_bv]; apply BitVec.eq_of_toNat_eq; simp [Nat.xor_mod_two_pow])
theorem zN_sub {x y : Nat} (h : y ≤ x) : nI x - nI y = nI (x - y) := by
  have h1 : nI x = nI (x - y) + nI y := by rw [nI_add]; congr 1; omega
  rw [h1, Int32.add_sub_cancel]
theorem zN_31 {y : Nat} (hy : y < 32) : nI y &&& 31 = nI y := by
  have : (31 : Int32) = nI 31 := by decide
  rw [this, zN_and]
  congr 1
  rw [show (31 : Nat) = 2 ^ 5 - 1 from rfl, Nat.and_two_pow_sub_one_eq_mod]
  omega
theorem zN_shl (x : Nat) {y : Nat} (hy : y < 32) : nI x <<< (nI y &&& 31) = nI (x <<< y) := by
  rw [zN_31 hy]
  apply zN_ext
  rw [Int32.toBitVec_shiftLeft, zN_bv, zN_bv, zN_bv]
  have e : (BitVec.ofNat 32 y).smod 32 = BitVec.ofNat 32 y := by
    revert hy
    revert y
    decide +kernel
  rw [e]
  apply BitVec.eq_of_toNat_eq
  rw [BitVec.shiftLeft_eq', BitVec.toNat_shiftLeft]
  simp only [BitVec.toNat_ofNat]
  rw [Nat.mod_eq_of_lt (a := y) (by omega)]
  simp [Nat.shiftLeft_eq]
theorem zN_shr {x y : Nat} (hx : x < 2 ^ 31) (hy : y < 32) : nI x >>> (nI y &&& 31) = nI (x >>> y) := by
  rw [zN_31 hy]
  apply zN_ext
  rw [Int32.toBitVec_shiftRight, zN_bv, zN_bv, zN_bv]
  have e : (BitVec.ofNat 32 y).smod 32 = BitVec.ofNat 32 y := by
    revert hy
    revert y
    decide +kernel
  rw [e, BitVec.sshiftRight_eq', BitVec.sshiftRight_eq_of_msb_false]
  · apply BitVec.eq_of_toNat_eq
    rw [BitVec.toNat_ushiftRight]
    simp only [BitVec.toNat_ofNat]
    rw [Nat.mod_eq_of_lt (a := y) (by omega), Nat.mod_eq_of_lt (a := x) (by omega), Nat.mod_eq_of_lt]
    exact Nat.lt_of_le_of_lt (Nat.shiftRight_le x y) (by omega)
  · rw [BitVec.msb_eq_decide]
    simp only [BitVec.toNat_ofNat]
    rw [Nat.mod_eq_of_lt (by omega)]
    simp; omega
end
section
section ZP
variable {NC : Nat} {sc : Nat × (Nat → Int32)} {C : Nat → List Value → zM → Option Value → zM → Prop} {J : Nat → List Value → List Value → zM → Prop} {fin : Option Value → zM → Prop} {np pc len a b t : Nat} {es : List zE} {L st : List Value} {M : zM}
theorem p_iconst {n : Int} {v : Int32} (hv : Int32.ofInt n = v) (h : zwp NC sc zinfo C J fin np es (L) (.int v :: st) M) : zwp NC sc zinfo C J fin np ((pc, .iconst n, len, a, b, t) :: es) (L) (st) M := by subst hv; exact h
theorem p_bipush {n : Int} {v : Int32} (hv : (Int8.ofInt n).toInt32 = v) (h : zwp NC sc zinfo C J fin np es (L) (.int v :: st) M) : zwp NC sc zinfo C J fin np ((pc, .bipush n, len, a, b, t) :: es) (L) (st) M := by subst hv; exact h
theorem p_sipush {n : Int} {v : Int32} (hv : (Int16.ofInt n).toInt32 = v) (h : zwp NC sc zinfo C J fin np es (L) (.int v :: st) M) : zwp NC sc zinfo C J fin np ((pc, .sipush n, len, a, b, t) :: es) (L) (st) M := by subst hv; exact h
theorem p_ldc {n : Nat} (h : zwp NC sc zinfo C J fin np es (L) (.int (nI a) :: st) M) : zwp NC sc zinfo C J fin np ((pc, .ldc n, len, a, b, t) :: es) (L) (st) M := h
theorem p_ldcw {n : Nat} (h : zwp NC sc zinfo C J fin np es (L) (.int (nI a) :: st) M) : zwp NC sc zinfo C J fin np ((pc, .ldc_w n, len, a, b, t) :: es) (L) (st) M := h
theorem p_ldc2 {n : Nat} (h : zwp NC sc zinfo C J fin np es (L) (.long (Int64.ofNat a) :: st) M) : zwp NC sc zinfo C J fin np ((pc, .ldc2_w n, len, a, b, t) :: es) (L) (st) M := h
theorem p_iloadn_0 {r : List Value} {x : Int32} (h : zwp NC sc zinfo C J fin np es (.int x :: r) (.int x :: st) M) : zwp NC sc zinfo C J fin np ((pc, .iload_n 0, len, a, b, t) :: es) (.int x :: r) (st) M := h
theorem p_iload_0 {r : List Value} {x : Int32} (h : zwp NC sc zinfo C J fin np es (.int x :: r) (.int x :: st) M) : zwp NC sc zinfo C J fin np ((pc, .iload 0, len, a, b, t) :: es) (.int x :: r) (st) M := h
theorem p_aloadn_0 {r : List Value} {x : Nat} (h : zwp NC sc zinfo C J fin np es (.ref x :: r) (.ref x :: st) M) : zwp NC sc zinfo C J fin np ((pc, .aload_n 0, len, a, b, t) :: es) (.ref x :: r) (st) M := h
theorem p_aload_0 {r : List Value} {x : Nat} (h : zwp NC sc zinfo C J fin np es (.ref x :: r) (.ref x :: st) M) : zwp NC sc zinfo C J fin np ((pc, .aload 0, len, a, b, t) :: es) (.ref x :: r) (st) M := h
theorem p_lloadn_0 {r : List Value} {x : Int64} (h : zwp NC sc zinfo C J fin np es (.long x :: r) (.long x :: st) M) : zwp NC sc zinfo C J fin np ((pc, .lload_n 0, len, a, b, t) :: es) (.long x :: r) (st) M := h
theorem p_istoren_0 {v0 : Value} {r : List Value} {x : Int32} (hz : zsl (v0 :: r) 0 (.int x) = .int x :: r) (h : zwp NC sc zinfo C J fin np es (.int x :: r) (st) M) : zwp NC sc zinfo C J fin np ((pc, .istore_n 0, len, a, b, t) :: es) (v0 :: r) (.int x :: st) M := ⟨by show 0 < _; simp, by show zwp NC sc zinfo C J fin np es (zsl (v0 :: r) 0 (.int x)) st M; rw [hz]; exact h⟩
theorem p_istore_0 {v0 : Value} {r : List Value} {x : Int32} (hz : zsl (v0 :: r) 0 (.int x) = .int x :: r) (h : zwp NC sc zinfo C J fin np es (.int x :: r) (st) M) : zwp NC sc zinfo C J fin np ((pc, .istore 0, len, a, b, t) :: es) (v0 :: r) (.int x :: st) M := ⟨by show 0 < _; simp, by show zwp NC sc zinfo C J fin np es (zsl (v0 :: r) 0 (.int x)) st M; rw [hz]; exact h⟩
theorem p_astoren_0 {v0 : Value} {r : List Value} {x : Nat} (hz : zsl (v0 :: r) 0 (.ref x) = .ref x :: r) (h : zwp NC sc zinfo C J fin np es (.ref x :: r) (st) M) : zwp NC sc zinfo C J fin np ((pc, .astore_n 0, len, a, b, t) :: es) (v0 :: r) (.ref x :: st) M := ⟨by show 0 < _; simp, by show zwp NC sc zinfo C J fin np es (zsl (v0 :: r) 0 (.ref x)) st M; rw [hz]; exact h⟩
theorem p_astore_0 {v0 : Value} {r : List Value} {x : Nat} (hz : zsl (v0 :: r) 0 (.ref x) = .ref x :: r) (h : zwp NC sc zinfo C J fin np es (.ref x :: r) (st) M) : zwp NC sc zinfo C J fin np ((pc, .astore 0, len, a, b, t) :: es) (v0 :: r) (.ref x :: st) M := ⟨by show 0 < _; simp, by show zwp NC sc zinfo C J fin np es (zsl (v0 :: r) 0 (.ref x)) st M; rw [hz]; exact h⟩
theorem p_iinc_0 {r : List Value} {x v : Int32} {n : Int} (hv : x + Int32.ofInt n = v) (hz : zsl (.int x :: r) 0 (.int v) = .int v :: r) (h : zwp NC sc zinfo C J fin np es (.int v :: r) (st) M) : zwp NC sc zinfo C J fin np ((pc, .iinc 0 n, len, a, b, t) :: es) (.int x :: r) (st) M := by subst hv; exact ⟨by simp, by rw [hz]; exact h⟩
theorem p_iloadn_1 {v0 : Value} {r : List Value} {x : Int32} (h : zwp NC sc zinfo C J fin np es (v0 :: .int x :: r) (.int x :: st) M) : zwp NC sc zinfo C J fin np ((pc, .iload_n 1, len, a, b, t) :: es) (v0 :: .int x :: r) (st) M := h
theorem p_iload_1 {v0 : Value} {r : List Value} {x : Int32} (h : zwp NC sc zinfo C J fin np es (v0 :: .int x :: r) (.int x :: st) M) : zwp NC sc zinfo C J fin np ((pc, .iload 1, len, a, b, t) :: es) (v0 :: .int x :: r) (st) M := h
theorem p_aloadn_1 {v0 : Value} {r : List Value} {x : Nat} (h : zwp NC sc zinfo C J fin np es (v0 :: .ref x :: r) (.ref x :: st) M) : zwp NC sc zinfo C J fin np ((pc, .aload_n 1, len, a, b, t) :: es) (v0 :: .ref x :: r) (st) M := h
theorem p_aload_1 {v0 : Value} {r : List Value} {x : Nat} (h : zwp NC sc zinfo C J fin np es (v0 :: .ref x :: r) (.ref x :: st) M) : zwp NC sc zinfo C J fin np ((pc, .aload 1, len, a, b, t) :: es) (v0 :: .ref x :: r) (st) M := h
theorem p_lloadn_1 {v0 : Value} {r : List Value} {x : Int64} (h : zwp NC sc zinfo C J fin np es (v0 :: .long x :: r) (.long x :: st) M) : zwp NC sc zinfo C J fin np ((pc, .lload_n 1, len, a, b, t) :: es) (v0 :: .long x :: r) (st) M := h
theorem p_istoren_1 {v0 v1 : Value} {r : List Value} {x : Int32} (hz : zsl (v0 :: v1 :: r) 1 (.int x) = v0 :: .int x :: r) (h : zwp NC sc zinfo C J fin np es (v0 :: .int x :: r) (st) M) : zwp NC sc zinfo C J fin np ((pc, .istore_n 1, len, a, b, t) :: es) (v0 :: v1 :: r) (.int x :: st) M := ⟨by show 1 < _; simp, by show zwp NC sc zinfo C J fin np es (zsl (v0 :: v1 :: r) 1 (.int x)) st M; rw [hz]; exact h⟩
theorem p_istore_1 {v0 v1 : Value} {r : List Value} {x : Int32} (hz : zsl (v0 :: v1 :: r) 1 (.int x) = v0 :: .int x :: r) (h : zwp NC sc zinfo C J fin np es (v0 :: .int x :: r) (st) M) : zwp NC sc zinfo C J fin np ((pc, .istore 1, len, a, b, t) :: es) (v0 :: v1 :: r) (.int x :: st) M := ⟨by show 1 < _; simp, by show zwp NC sc zinfo C J fin np es (zsl (v0 :: v1 :: r) 1 (.int x)) st M; rw [hz]; exact h⟩
theorem p_astoren_1 {v0 v1 : Value} {r : List Value} {x : Nat} (hz : zsl (v0 :: v1 :: r) 1 (.ref x) = v0 :: .ref x :: r) (h : zwp NC sc zinfo C J fin np es (v0 :: .ref x :: r) (st) M) : zwp NC sc zinfo C J fin np ((pc, .astore_n 1, len, a, b, t) :: es) (v0 :: v1 :: r) (.ref x :: st) M := ⟨by show 1 < _; simp, by show zwp NC sc zinfo C J fin np es (zsl (v0 :: v1 :: r) 1 (.ref x)) st M; rw [hz]; exact h⟩
theorem p_astore_1 {v0 v1 : Value} {r : List Value} {x : Nat} (hz : zsl (v0 :: v1 :: r) 1 (.ref x) = v0 :: .ref x :: r) (h : zwp NC sc zinfo C J fin np es (v0 :: .ref x :: r) (st) M) : zwp NC sc zinfo C J fin np ((pc, .astore 1, len, a, b, t) :: es) (v0 :: v1 :: r) (.ref x :: st) M := ⟨by show 1 < _; simp, by show zwp NC sc zinfo C J fin np es (zsl (v0 :: v1 :: r) 1 (.ref x)) st M; rw [hz]; exact h⟩
theorem p_iinc_1 {v0 : Value} {r : List Value} {x v : Int32} {n : Int} (hv : x + Int32.ofInt n = v) (hz : zsl (v0 :: .int x :: r) 1 (.int v) = v0 :: .int v :: r) (h : zwp NC sc zinfo C J fin np es (v0 :: .int v :: r) (st) M) : zwp NC sc zinfo C J fin np ((pc, .iinc 1 n, len, a, b, t) :: es) (v0 :: .int x :: r) (st) M := by subst hv; exact ⟨by simp, by rw [hz]; exact h⟩
theorem p_iloadn_2 {v0 v1 : Value} {r : List Value} {x : Int32} (h : zwp NC sc zinfo C J fin np es (v0 :: v1 :: .int x :: r) (.int x :: st) M) : zwp NC sc zinfo C J fin np ((pc, .iload_n 2, len, a, b, t) :: es) (v0 :: v1 :: .int x :: r) (st) M := h
theorem p_iload_2 {v0 v1 : Value} {r : List Value} {x : Int32} (h : zwp NC sc zinfo C J fin np es (v0 :: v1 :: .int x :: r) (.int x :: st) M) : zwp NC sc zinfo C J fin np ((pc, .iload 2, len, a, b, t) :: es) (v0 :: v1 :: .int x :: r) (st) M := h
theorem p_aloadn_2 {v0 v1 : Value} {r : List Value} {x : Nat} (h : zwp NC sc zinfo C J fin np es (v0 :: v1 :: .ref x :: r) (.ref x :: st) M) : zwp NC sc zinfo C J fin np ((pc, .aload_n 2, len, a, b, t) :: es) (v0 :: v1 :: .ref x :: r) (st) M := h
theorem p_aload_2 {v0 v1 : Value} {r : List Value} {x : Nat} (h : zwp NC sc zinfo C J fin np es (v0 :: v1 :: .ref x :: r) (.ref x :: st) M) : zwp NC sc zinfo C J fin np ((pc, .aload 2, len, a, b, t) :: es) (v0 :: v1 :: .ref x :: r) (st) M := h
theorem p_lloadn_2 {v0 v1 : Value} {r : List Value} {x : Int64} (h : zwp NC sc zinfo C J fin np es (v0 :: v1 :: .long x :: r) (.long x :: st) M) : zwp NC sc zinfo C J fin np ((pc, .lload_n 2, len, a, b, t) :: es) (v0 :: v1 :: .long x :: r) (st) M := h
theorem p_istoren_2 {v0 v1 v2 : Value} {r : List Value} {x : Int32} (hz : zsl (v0 :: v1 :: v2 :: r) 2 (.int x) = v0 :: v1 :: .int x :: r) (h : zwp NC sc zinfo C J fin np es (v0 :: v1 :: .int x :: r) (st) M) : zwp NC sc zinfo C J fin np ((pc, .istore_n 2, len, a, b, t) :: es) (v0 :: v1 :: v2 :: r) (.int x :: st) M := ⟨by show 2 < _; simp, by show zwp NC sc zinfo C J fin np es (zsl (v0 :: v1 :: v2 :: r) 2 (.int x)) st M; rw [hz]; exact h⟩
theorem p_istore_2 {v0 v1 v2 : Value} {r : List Value} {x : Int32} (hz : zsl (v0 :: v1 :: v2 :: r) 2 (.int x) = v0 :: v1 :: .int x :: r) (h : zwp NC sc zinfo C J fin np es (v0 :: v1 :: .int x :: r) (st) M) : zwp NC sc zinfo C J fin np ((pc, .istore 2, len, a, b, t) :: es) (v0 :: v1 :: v2 :: r) (.int x :: st) M := ⟨by show 2 < _; simp, by show zwp NC sc zinfo C J fin np es (zsl (v0 :: v1 :: v2 :: r) 2 (.int x)) st M; rw [hz]; exact h⟩
theorem p_astoren_2 {v0 v1 v2 : Value} {r : List Value} {x : Nat} (hz : zsl (v0 :: v1 :: v2 :: r) 2 (.ref x) = v0 :: v1 :: .ref x :: r) (h : zwp NC sc zinfo C J fin np es (v0 :: v1 :: .ref x :: r) (st) M) : zwp NC sc zinfo C J fin np ((pc, .astore_n 2, len, a, b, t) :: es) (v0 :: v1 :: v2 :: r) (.ref x :: st) M := ⟨by show 2 < _; simp, by show zwp NC sc zinfo C J fin np es (zsl (v0 :: v1 :: v2 :: r) 2 (.ref x)) st M; rw [hz]; exact h⟩
theorem p_astore_2 {v0 v1 v2 : Value} {r : List Value} {x : Nat} (hz : zsl (v0 :: v1 :: v2 :: r) 2 (.ref x) = v0 :: v1 :: .ref x :: r) (h : zwp NC sc zinfo C J fin np es (v0 :: v1 :: .ref x :: r) (st) M) : zwp NC sc zinfo C J fin np ((pc, .astore 2, len, a, b, t) :: es) (v0 :: v1 :: v2 :: r) (.ref x :: st) M := ⟨by show 2 < _; simp, by show zwp NC sc zinfo C J fin np es (zsl (v0 :: v1 :: v2 :: r) 2 (.ref x)) st M; rw [hz]; exact h⟩
theorem p_iinc_2 {v0 v1 : Value} {r : List Value} {x v : Int32} {n : Int} (hv : x + Int32.ofInt n = v) (hz : zsl (v0 :: v1 :: .int x :: r) 2 (.int v) = v0 :: v1 :: .int v :: r) (h : zwp NC sc zinfo C J fin np es (v0 :: v1 :: .int v :: r) (st) M) : zwp NC sc zinfo C J fin np ((pc, .iinc 2 n, len, a, b, t) :: es) (v0 :: v1 :: .int x :: r) (st) M := by subst hv; exact ⟨by simp, by rw [hz]; exact h⟩
theorem p_iloadn_3 {v0 v1 v2 : Value} {r : List Value} {x : Int32} (h : zwp NC sc zinfo C J fin np es (v0 :: v1 :: v2 :: .int x :: r) (.int x :: st) M) : zwp NC sc zinfo C J fin np ((pc, .iload_n 3, len, a, b, t) :: es) (v0 :: v1 :: v2 :: .int x :: r) (st) M := h
theorem p_iload_3 {v0 v1 v2 : Value} {r : List Value} {x : Int32} (h : zwp NC sc zinfo C J fin np es (v0 :: v1 :: v2 :: .int x :: r) (.int x :: st) M) : zwp NC sc zinfo C J fin np ((pc, .iload 3, len, a, b, t) :: es) (v0 :: v1 :: v2 :: .int x :: r) (st) M := h
theorem p_aloadn_3 {v0 v1 v2 : Value} {r : List Value} {x : Nat} (h : zwp NC sc zinfo C J fin np es (v0 :: v1 :: v2 :: .ref x :: r) (.ref x :: st) M) : zwp NC sc zinfo C J fin np ((pc, .aload_n 3, len, a, b, t) :: es) (v0 :: v1 :: v2 :: .ref x :: r) (st) M := h
theorem p_aload_3 {v0 v1 v2 : Value} {r : List Value} {x : Nat} (h : zwp NC sc zinfo C J fin np es (v0 :: v1 :: v2 :: .ref x :: r) (.ref x :: st) M) : zwp NC sc zinfo C J fin np ((pc, .aload 3, len, a, b, t) :: es) (v0 :: v1 :: v2 :: .ref x :: r) (st) M := h
theorem p_lloadn_3 {v0 v1 v2 : Value} {r : List Value} {x : Int64} (h : zwp NC sc zinfo C J fin np es (v0 :: v1 :: v2 :: .long x :: r) (.long x :: st) M) : zwp NC sc zinfo C J fin np ((pc, .lload_n 3, len, a, b, t) :: es) (v0 :: v1 :: v2 :: .long x :: r) (st) M := h
theorem p_istoren_3 {v0 v1 v2 v3 : Value} {r : List Value} {x : Int32} (hz : zsl (v0 :: v1 :: v2 :: v3 :: r) 3 (.int x) = v0 :: v1 :: v2 :: .int x :: r) (h : zwp NC sc zinfo C J fin np es (v0 :: v1 :: v2 :: .int x :: r) (st) M) : zwp NC sc zinfo C J fin np ((pc, .istore_n 3, len, a, b, t) :: es) (v0 :: v1 :: v2 :: v3 :: r) (.int x :: st) M := ⟨by show 3 < _; simp, by show zwp NC sc zinfo C J fin np es (zsl (v0 :: v1 :: v2 :: v3 :: r) 3 (.int x)) st M; rw [hz]; exact h⟩
theorem p_istore_3 {v0 v1 v2 v3 : Value} {r : List Value} {x : Int32} (hz : zsl (v0 :: v1 :: v2 :: v3 :: r) 3 (.int x) = v0 :: v1 :: v2 :: .int x :: r) (h : zwp NC sc zinfo C J fin np es (v0 :: v1 :: v2 :: .int x :: r) (st) M) : zwp NC sc zinfo C J fin np ((pc, .istore 3, len, a, b, t) :: es) (v0 :: v1 :: v2 :: v3 :: r) (.int x :: st) M := ⟨by show 3 < _; simp, by show zwp NC sc zinfo C J fin np es (zsl (v0 :: v1 :: v2 :: v3 :: r) 3 (.int x)) st M; rw [hz]; exact h⟩
theorem p_astoren_3 {v0 v1 v2 v3 : Value} {r : List Value} {x : Nat} (hz : zsl (v0 :: v1 :: v2 :: v3 :: r) 3 (.ref x) = v0 :: v1 :: v2 :: .ref x :: r) (h : zwp NC sc zinfo C J fin np es (v0 :: v1 :: v2 :: .ref x :: r) (st) M) : zwp NC sc zinfo C J fin np ((pc, .astore_n 3, len, a, b, t) :: es) (v0 :: v1 :: v2 :: v3 :: r) (.ref x :: st) M := ⟨by show 3 < _; simp, by show zwp NC sc zinfo C J fin np es (zsl (v0 :: v1 :: v2 :: v3 :: r) 3 (.ref x)) st M; rw [hz]; exact h⟩
theorem p_astore_3 {v0 v1 v2 v3 : Value} {r : List Value} {x : Nat} (hz : zsl (v0 :: v1 :: v2 :: v3 :: r) 3 (.ref x) = v0 :: v1 :: v2 :: .ref x :: r) (h : zwp NC sc zinfo C J fin np es (v0 :: v1 :: v2 :: .ref x :: r) (st) M) : zwp NC sc zinfo C J fin np ((pc, .astore 3, len, a, b, t) :: es) (v0 :: v1 :: v2 :: v3 :: r) (.ref x :: st) M := ⟨by show 3 < _; simp, by show zwp NC sc zinfo C J fin np es (zsl (v0 :: v1 :: v2 :: v3 :: r) 3 (.ref x)) st M; rw [hz]; exact h⟩
theorem p_iinc_3 {v0 v1 v2 : Value} {r : List Value} {x v : Int32} {n : Int} (hv : x + Int32.ofInt n = v) (hz : zsl (v0 :: v1 :: v2 :: .int x :: r) 3 (.int v) = v0 :: v1 :: v2 :: .int v :: r) (h : zwp NC sc zinfo C J fin np es (v0 :: v1 :: v2 :: .int v :: r) (st) M) : zwp NC sc zinfo C J fin np ((pc, .iinc 3 n, len, a, b, t) :: es) (v0 :: v1 :: v2 :: .int x :: r) (st) M := by subst hv; exact ⟨by simp, by rw [hz]; exact h⟩
theorem p_iload_4 {v0 v1 v2 v3 : Value} {r : List Value} {x : Int32} (h : zwp NC sc zinfo C J fin np es (v0 :: v1 :: v2 :: v3 :: .int x :: r) (.int x :: st) M) : zwp NC sc zinfo C J fin np ((pc, .iload 4, len, a, b, t) :: es) (v0 :: v1 :: v2 :: v3 :: .int x :: r) (st) M := h
theorem p_aload_4 {v0 v1 v2 v3 : Value} {r : List Value} {x : Nat} (h : zwp NC sc zinfo C J fin np es (v0 :: v1 :: v2 :: v3 :: .ref x :: r) (.ref x :: st) M) : zwp NC sc zinfo C J fin np ((pc, .aload 4, len, a, b, t) :: es) (v0 :: v1 :: v2 :: v3 :: .ref x :: r) (st) M := h
theorem p_istore_4 {v0 v1 v2 v3 v4 : Value} {r : List Value} {x : Int32} (hz : zsl (v0 :: v1 :: v2 :: v3 :: v4 :: r) 4 (.int x) = v0 :: v1 :: v2 :: v3 :: .int x :: r) (h : zwp NC sc zinfo C J fin np es (v0 :: v1 :: v2 :: v3 :: .int x :: r) (st) M) : zwp NC sc zinfo C J fin np ((pc, .istore 4, len, a, b, t) :: es) (v0 :: v1 :: v2 :: v3 :: v4 :: r) (.int x :: st) M := ⟨by show 4 < _; simp, by show zwp NC sc zinfo C J fin np es (zsl (v0 :: v1 :: v2 :: v3 :: v4 :: r) 4 (.int x)) st M; rw [hz]; exact h⟩
theorem p_astore_4 {v0 v1 v2 v3 v4 : Value} {r : List Value} {x : Nat} (hz : zsl (v0 :: v1 :: v2 :: v3 :: v4 :: r) 4 (.ref x) = v0 :: v1 :: v2 :: v3 :: .ref x :: r) (h : zwp NC sc zinfo C J fin np es (v0 :: v1 :: v2 :: v3 :: .ref x :: r) (st) M) : zwp NC sc zinfo C J fin np ((pc, .astore 4, len, a, b, t) :: es) (v0 :: v1 :: v2 :: v3 :: v4 :: r) (.ref x :: st) M := ⟨by show 4 < _; simp, by show zwp NC sc zinfo C J fin np es (zsl (v0 :: v1 :: v2 :: v3 :: v4 :: r) 4 (.ref x)) st M; rw [hz]; exact h⟩
theorem p_iinc_4 {v0 v1 v2 v3 : Value} {r : List Value} {x v : Int32} {n : Int} (hv : x + Int32.ofInt n = v) (hz : zsl (v0 :: v1 :: v2 :: v3 :: .int x :: r) 4 (.int v) = v0 :: v1 :: v2 :: v3 :: .int v :: r) (h : zwp NC sc zinfo C J fin np es (v0 :: v1 :: v2 :: v3 :: .int v :: r) (st) M) : zwp NC sc zinfo C J fin np ((pc, .iinc 4 n, len, a, b, t) :: es) (v0 :: v1 :: v2 :: v3 :: .int x :: r) (st) M := by subst hv; exact ⟨by simp, by rw [hz]; exact h⟩
theorem p_iload_5 {v0 v1 v2 v3 v4 : Value} {r : List Value} {x : Int32} (h : zwp NC sc zinfo C J fin np es (v0 :: v1 :: v2 :: v3 :: v4 :: .int x :: r) (.int x :: st) M) : zwp NC sc zinfo C J fin np ((pc, .iload 5, len, a, b, t) :: es) (v0 :: v1 :: v2 :: v3 :: v4 :: .int x :: r) (st) M := h
theorem p_aload_5 {v0 v1 v2 v3 v4 : Value} {r : List Value} {x : Nat} (h : zwp NC sc zinfo C J fin np es (v0 :: v1 :: v2 :: v3 :: v4 :: .ref x :: r) (.ref x :: st) M) : zwp NC sc zinfo C J fin np ((pc, .aload 5, len, a, b, t) :: es) (v0 :: v1 :: v2 :: v3 :: v4 :: .ref x :: r) (st) M := h
theorem p_istore_5 {v0 v1 v2 v3 v4 v5 : Value} {r : List Value} {x : Int32} (hz : zsl (v0 :: v1 :: v2 :: v3 :: v4 :: v5 :: r) 5 (.int x) = v0 :: v1 :: v2 :: v3 :: v4 :: .int x :: r) (h : zwp NC sc zinfo C J fin np es (v0 :: v1 :: v2 :: v3 :: v4 :: .int x :: r) (st) M) : zwp NC sc zinfo C J fin np ((pc, .istore 5, len, a, b, t) :: es) (v0 :: v1 :: v2 :: v3 :: v4 :: v5 :: r) (.int x :: st) M := ⟨by show 5 < _; simp, by show zwp NC sc zinfo C J fin np es (zsl (v0 :: v1 :: v2 :: v3 :: v4 :: v5 :: r) 5 (.int x)) st M; rw [hz]; exact h⟩
theorem p_astore_5 {v0 v1 v2 v3 v4 v5 : Value} {r : List Value} {x : Nat} (hz : zsl (v0 :: v1 :: v2 :: v3 :: v4 :: v5 :: r) 5 (.ref x) = v0 :: v1 :: v2 :: v3 :: v4 :: .ref x :: r) (h : zwp NC sc zinfo C J fin np es (v0 :: v1 :: v2 :: v3 :: v4 :: .ref x :: r) (st) M) : zwp NC sc zinfo C J fin np ((pc, .astore 5, len, a, b, t) :: es) (v0 :: v1 :: v2 :: v3 :: v4 :: v5 :: r) (.ref x :: st) M := ⟨by show 5 < _; simp, by show zwp NC sc zinfo C J fin np es (zsl (v0 :: v1 :: v2 :: v3 :: v4 :: v5 :: r) 5 (.ref x)) st M; rw [hz]; exact h⟩
theorem p_iinc_5 {v0 v1 v2 v3 v4 : Value} {r : List Value} {x v : Int32} {n : Int} (hv : x + Int32.ofInt n = v) (hz : zsl (v0 :: v1 :: v2 :: v3 :: v4 :: .int x :: r) 5 (.int v) = v0 :: v1 :: v2 :: v3 :: v4 :: .int v :: r) (h : zwp NC sc zinfo C J fin np es (v0 :: v1 :: v2 :: v3 :: v4 :: .int v :: r) (st) M) : zwp NC sc zinfo C J fin np ((pc, .iinc 5 n, len, a, b, t) :: es) (v0 :: v1 :: v2 :: v3 :: v4 :: .int x :: r) (st) M := by subst hv; exact ⟨by simp, by rw [hz]; exact h⟩
theorem p_iload_6 {v0 v1 v2 v3 v4 v5 : Value} {r : List Value} {x : Int32} (h : zwp NC sc zinfo C J fin np es (v0 :: v1 :: v2 :: v3 :: v4 :: v5 :: .int x :: r) (.int x :: st) M) : zwp NC sc zinfo C J fin np ((pc, .iload 6, len, a, b, t) :: es) (v0 :: v1 :: v2 :: v3 :: v4 :: v5 :: .int x :: r) (st) M := h
theorem p_aload_6 {v0 v1 v2 v3 v4 v5 : Value} {r : List Value} {x : Nat} (h : zwp NC sc zinfo C J fin np es (v0 :: v1 :: v2 :: v3 :: v4 :: v5 :: .ref x :: r) (.ref x :: st) M) : zwp NC sc zinfo C J fin np ((pc, .aload 6, len, a, b, t) :: es) (v0 :: v1 :: v2 :: v3 :: v4 :: v5 :: .ref x :: r) (st) M := h
theorem p_istore_6 {v0 v1 v2 v3 v4 v5 v6 : Value} {r : List Value} {x : Int32} (hz : zsl (v0 :: v1 :: v2 :: v3 :: v4 :: v5 :: v6 :: r) 6 (.int x) = v0 :: v1 :: v2 :: v3 :: v4 :: v5 :: .int x :: r) (h : zwp NC sc zinfo C J fin np es (v0 :: v1 :: v2 :: v3 :: v4 :: v5 :: .int x :: r) (st) M) : zwp NC sc zinfo C J fin np ((pc, .istore 6, len, a, b, t) :: es) (v0 :: v1 :: v2 :: v3 :: v4 :: v5 :: v6 :: r) (.int x :: st) M := ⟨by show 6 < _; simp, by show zwp NC sc zinfo C J fin np es (zsl (v0 :: v1 :: v2 :: v3 :: v4 :: v5 :: v6 :: r) 6 (.int x)) st M; rw [hz]; exact h⟩
theorem p_astore_6 {v0 v1 v2 v3 v4 v5 v6 : Value} {r : List Value} {x : Nat} (hz : zsl (v0 :: v1 :: v2 :: v3 :: v4 :: v5 :: v6 :: r) 6 (.ref x) = v0 :: v1 :: v2 :: v3 :: v4 :: v5 :: .ref x :: r) (h : zwp NC sc zinfo C J fin np es (v0 :: v1 :: v2 :: v3 :: v4 :: v5 :: .ref x :: r) (st) M) : zwp NC sc zinfo C J fin np ((pc, .astore 6, len, a, b, t) :: es) (v0 :: v1 :: v2 :: v3 :: v4 :: v5 :: v6 :: r) (.ref x :: st) M := ⟨by show 6 < _; simp, by show zwp NC sc zinfo C J fin np es (zsl (v0 :: v1 :: v2 :: v3 :: v4 :: v5 :: v6 :: r) 6 (.ref x)) st M; rw [hz]; exact h⟩
theorem p_iinc_6 {v0 v1 v2 v3 v4 v5 : Value} {r : List Value} {x v : Int32} {n : Int} (hv : x + Int32.ofInt n = v) (hz : zsl (v0 :: v1 :: v2 :: v3 :: v4 :: v5 :: .int x :: r) 6 (.int v) = v0 :: v1 :: v2 :: v3 :: v4 :: v5 :: .int v :: r) (h : zwp NC sc zinfo C J fin np es (v0 :: v1 :: v2 :: v3 :: v4 :: v5 :: .int v :: r) (st) M) : zwp NC sc zinfo C J fin np ((pc, .iinc 6 n, len, a, b, t) :: es) (v0 :: v1 :: v2 :: v3 :: v4 :: v5 :: .int x :: r) (st) M := by subst hv; exact ⟨by simp, by rw [hz]; exact h⟩
theorem p_iload_7 {v0 v1 v2 v3 v4 v5 v6 : Value} {r : List Value} {x : Int32} (h : zwp NC sc zinfo C J fin np es (v0 :: v1 :: v2 :: v3 :: v4 :: v5 :: v6 :: .int x :: r) (.int x :: st) M) : zwp NC sc zinfo C J fin np ((pc, .iload 7, len, a, b, t) :: es) (v0 :: v1 :: v2 :: v3 :: v4 :: v5 :: v6 :: .int x :: r) (st) M := h
theorem p_aload_7 {v0 v1 v2 v3 v4 v5 v6 : Value} {r : List Value} {x : Nat} (h : zwp NC sc zinfo C J fin np es (v0 :: v1 :: v2 :: v3 :: v4 :: v5 :: v6 :: .ref x :: r) (.ref x :: st) M) : zwp NC sc zinfo C J fin np ((pc, .aload 7, len, a, b, t) :: es) (v0 :: v1 :: v2 :: v3 :: v4 :: v5 :: v6 :: .ref x :: r) (st) M := h
theorem p_istore_7 {v0 v1 v2 v3 v4 v5 v6 v7 : Value} {r : List Value} {x : Int32} (hz : zsl (v0 :: v1 :: v2 :: v3 :: v4 :: v5 :: v6 :: v7 :: r) 7 (.int x) = v0 :: v1 :: v2 :: v3 :: v4 :: v5 :: v6 :: .int x :: r) (h : zwp NC sc zinfo C J fin np es (v0 :: v1 :: v2 :: v3 :: v4 :: v5 :: v6 :: .int x :: r) (st) M) : zwp NC sc zinfo C J fin np ((pc, .istore 7, len, a, b, t) :: es) (v0 :: v1 :: v2 :: v3 :: v4 :: v5 :: v6 :: v7 :: r) (.int x :: st) M := ⟨by show 7 < _; simp, by show zwp NC sc zinfo C J fin np es (zsl (v0 :: v1 :: v2 :: v3 :: v4 :: v5 :: v6 :: v7 :: r) 7 (.int x)) st M; rw [hz]; exact h⟩
theorem p_astore_7 {v0 v1 v2 v3 v4 v5 v6 v7 : Value} {r : List Value} {x : Nat} (hz : zsl (v0 :: v1 :: v2 :: v3 :: v4 :: v5 :: v6 :: v7 :: r) 7 (.ref x) = v0 :: v1 :: v2 :: v3 :: v4 :: v5 :: v6 :: .ref x :: r) (h : zwp NC sc zinfo C J fin np es (v0 :: v1 :: v2 :: v3 :: v4 :: v5 :: v6 :: .ref x :: r) (st) M) : zwp NC sc zinfo C J fin np ((pc, .astore 7, len, a, b, t) :: es) (v0 :: v1 :: v2 :: v3 :: v4 :: v5 :: v6 :: v7 :: r) (.ref x :: st) M := ⟨by show 7 < _; simp, by show zwp NC sc zinfo C J fin np es (zsl (v0 :: v1 :: v2 :: v3 :: v4 :: v5 :: v6 :: v7 :: r) 7 (.ref x)) st M; rw [hz]; exact h⟩
theorem p_iinc_7 {v0 v1 v2 v3 v4 v5 v6 : Value} {r : List Value} {x v : Int32} {n : Int} (hv : x + Int32.ofInt n = v) (hz : zsl (v0 :: v1 :: v2 :: v3 :: v4 :: v5 :: v6 :: .int x :: r) 7 (.int v) = v0 :: v1 :: v2 :: v3 :: v4 :: v5 :: v6 :: .int v :: r) (h : zwp NC sc zinfo C J fin np es (v0 :: v1 :: v2 :: v3 :: v4 :: v5 :: v6 :: .int v :: r) (st) M) : zwp NC sc zinfo C J fin np ((pc, .iinc 7 n, len, a, b, t) :: es) (v0 :: v1 :: v2 :: v3 :: v4 :: v5 :: v6 :: .int x :: r) (st) M := by subst hv; exact ⟨by simp, by rw [hz]; exact h⟩
theorem p_iload_8 {v0 v1 v2 v3 v4 v5 v6 v7 : Value} {r : List Value} {x : Int32} (h : zwp NC sc zinfo C J fin np es (v0 :: v1 :: v2 :: v3 :: v4 :: v5 :: v6 :: v7 :: .int x :: r) (.int x :: st) M) : zwp NC sc zinfo C J fin np ((pc, .iload 8, len, a, b, t) :: es) (v0 :: v1 :: v2 :: v3 :: v4 :: v5 :: v6 :: v7 :: .int x :: r) (st) M := h
theorem p_aload_8 {v0 v1 v2 v3 v4 v5 v6 v7 : Value} {r : List Value} {x : Nat} (h : zwp NC sc zinfo C J fin np es (v0 :: v1 :: v2 :: v3 :: v4 :: v5 :: v6 :: v7 :: .ref x :: r) (.ref x :: st) M) : zwp NC sc zinfo C J fin np ((pc, .aload 8, len, a, b, t) :: es) (v0 :: v1 :: v2 :: v3 :: v4 :: v5 :: v6 :: v7 :: .ref x :: r) (st) M := h
theorem p_istore_8 {v0 v1 v2 v3 v4 v5 v6 v7 v8 : Value} {r : List Value} {x : Int32} (hz : zsl (v0 :: v1 :: v2 :: v3 :: v4 :: v5 :: v6 :: v7 :: v8 :: r) 8 (.int x) = v0 :: v1 :: v2 :: v3 :: v4 :: v5 :: v6 :: v7 :: .int x :: r) (h : zwp NC sc zinfo C J fin np es (v0 :: v1 :: v2 :: v3 :: v4 :: v5 :: v6 :: v7 :: .int x :: r) (st) M) : zwp NC sc zinfo C J fin np ((pc, .istore 8, len, a, b, t) :: es) (v0 :: v1 :: v2 :: v3 :: v4 :: v5 :: v6 :: v7 :: v8 :: r) (.int x :: st) M := ⟨by show 8 < _; simp, by show zwp NC sc zinfo C J fin np es (zsl (v0 :: v1 :: v2 :: v3 :: v4 :: v5 :: v6 :: v7 :: v8 :: r) 8 (.int x)) st M; rw [hz]; exact h⟩
theorem p_astore_8 {v0 v1 v2 v3 v4 v5 v6 v7 v8 : Value} {r : List Value} {x : Nat} (hz : zsl (v0 :: v1 :: v2 :: v3 :: v4 :: v5 :: v6 :: v7 :: v8 :: r) 8 (.ref x) = v0 :: v1 :: v2 :: v3 :: v4 :: v5 :: v6 :: v7 :: .ref x :: r) (h : zwp NC sc zinfo C J fin np es (v0 :: v1 :: v2 :: v3 :: v4 :: v5 :: v6 :: v7 :: .ref x :: r) (st) M) : zwp NC sc zinfo C J fin np ((pc, .astore 8, len, a, b, t) :: es) (v0 :: v1 :: v2 :: v3 :: v4 :: v5 :: v6 :: v7 :: v8 :: r) (.ref x :: st) M := ⟨by show 8 < _; simp, by show zwp NC sc zinfo C J fin np es (zsl (v0 :: v1 :: v2 :: v3 :: v4 :: v5 :: v6 :: v7 :: v8 :: r) 8 (.ref x)) st M; rw [hz]; exact h⟩
theorem p_iinc_8 {v0 v1 v2 v3 v4 v5 v6 v7 : Value} {r : List Value} {x v : Int32} {n : Int} (hv : x + Int32.ofInt n = v) (hz : zsl (v0 :: v1 :: v2 :: v3 :: v4 :: v5 :: v6 :: v7 :: .int x :: r) 8 (.int v) = v0 :: v1 :: v2 :: v3 :: v4 :: v5 :: v6 :: v7 :: .int v :: r) (h : zwp NC sc zinfo C J fin np es (v0 :: v1 :: v2 :: v3 :: v4 :: v5 :: v6 :: v7 :: .int v :: r) (st) M) : zwp NC sc zinfo C J fin np ((pc, .iinc 8 n, len, a, b, t) :: es) (v0 :: v1 :: v2 :: v3 :: v4 :: v5 :: v6 :: v7 :: .int x :: r) (st) M := by subst hv; exact ⟨by simp, by rw [hz]; exact h⟩
theorem p_iload_9 {v0 v1 v2 v3 v4 v5 v6 v7 v8 : Value} {r : List Value} {x : Int32} (h : zwp NC sc zinfo C J fin np es (v0 :: v1 :: v2 :: v3 :: v4 :: v5 :: v6 :: v7 :: v8 :: .int x :: r) (.int x :: st) M) : zwp NC sc zinfo C J fin np ((pc, .iload 9, len, a, b, t) :: es) (v0 :: v1 :: v2 :: v3 :: v4 :: v5 :: v6 :: v7 :: v8 :: .int x :: r) (st) M := h
theorem p_aload_9 {v0 v1 v2 v3 v4 v5 v6 v7 v8 : Value} {r : List Value} {x : Nat} (h : zwp NC sc zinfo C J fin np es (v0 :: v1 :: v2 :: v3 :: v4 :: v5 :: v6 :: v7 :: v8 :: .ref x :: r) (.ref x :: st) M) : zwp NC sc zinfo C J fin np ((pc, .aload 9, len, a, b, t) :: es) (v0 :: v1 :: v2 :: v3 :: v4 :: v5 :: v6 :: v7 :: v8 :: .ref x :: r) (st) M := h
theorem p_istore_9 {v0 v1 v2 v3 v4 v5 v6 v7 v8 v9 : Value} {r : List Value} {x : Int32} (hz : zsl (v0 :: v1 :: v2 :: v3 :: v4 :: v5 :: v6 :: v7 :: v8 :: v9 :: r) 9 (.int x) = v0 :: v1 :: v2 :: v3 :: v4 :: v5 :: v6 :: v7 :: v8 :: .int x :: r) (h : zwp NC sc zinfo C J fin np es (v0 :: v1 :: v2 :: v3 :: v4 :: v5 :: v6 :: v7 :: v8 :: .int x :: r) (st) M) : zwp NC sc zinfo C J fin np ((pc, .istore 9, len, a, b, t) :: es) (v0 :: v1 :: v2 :: v3 :: v4 :: v5 :: v6 :: v7 :: v8 :: v9 :: r) (.int x :: st) M := ⟨by show 9 < _; simp, by show zwp NC sc zinfo C J fin np es (zsl (v0 :: v1 :: v2 :: v3 :: v4 :: v5 :: v6 :: v7 :: v8 :: v9 :: r) 9 (.int x)) st M; rw [hz]; exact h⟩
theorem p_astore_9 {v0 v1 v2 v3 v4 v5 v6 v7 v8 v9 : Value} {r : List Value} {x : Nat} (hz : zsl (v0 :: v1 :: v2 :: v3 :: v4 :: v5 :: v6 :: v7 :: v8 :: v9 :: r) 9 (.ref x) = v0 :: v1 :: v2 :: v3 :: v4 :: v5 :: v6 :: v7 :: v8 :: .ref x :: r) (h : zwp NC sc zinfo C J fin np es (v0 :: v1 :: v2 :: v3 :: v4 :: v5 :: v6 :: v7 :: v8 :: .ref x :: r) (st) M) : zwp NC sc zinfo C J fin np ((pc, .astore 9, len, a, b, t) :: es) (v0 :: v1 :: v2 :: v3 :: v4 :: v5 :: v6 :: v7 :: v8 :: v9 :: r) (.ref x :: st) M := ⟨by show 9 < _; simp, by show zwp NC sc zinfo C J fin np es (zsl (v0 :: v1 :: v2 :: v3 :: v4 :: v5 :: v6 :: v7 :: v8 :: v9 :: r) 9 (.ref x)) st M; rw [hz]; exact h⟩
theorem p_iinc_9 {v0 v1 v2 v3 v4 v5 v6 v7 v8 : Value} {r : List Value} {x v : Int32} {n : Int} (hv : x + Int32.ofInt n = v) (hz : zsl (v0 :: v1 :: v2 :: v3 :: v4 :: v5 :: v6 :: v7 :: v8 :: .int x :: r) 9 (.int v) = v0 :: v1 :: v2 :: v3 :: v4 :: v5 :: v6 :: v7 :: v8 :: .int v :: r) (h : zwp NC sc zinfo C J fin np es (v0 :: v1 :: v2 :: v3 :: v4 :: v5 :: v6 :: v7 :: v8 :: .int v :: r) (st) M) : zwp NC sc zinfo C J fin np ((pc, .iinc 9 n, len, a, b, t) :: es) (v0 :: v1 :: v2 :: v3 :: v4 :: v5 :: v6 :: v7 :: v8 :: .int x :: r) (st) M := by subst hv; exact ⟨by simp, by rw [hz]; exact h⟩
theorem p_iload_10 {v0 v1 v2 v3 v4 v5 v6 v7 v8 v9 : Value} {r : List Value} {x : Int32} (h : zwp NC sc zinfo C J fin np es (v0 :: v1 :: v2 :: v3 :: v4 :: v5 :: v6 :: v7 :: v8 :: v9 :: .int x :: r) (.int x :: st) M) : zwp NC sc zinfo C J fin np ((pc, .iload 10, len, a, b, t) :: es) (v0 :: v1 :: v2 :: v3 :: v4 :: v5 :: v6 :: v7 :: v8 :: v9 :: .int x :: r) (st) M := h
theorem p_aload_10 {v0 v1 v2 v3 v4 v5 v6 v7 v8 v9 : Value} {r : List Value} {x : Nat} (h : zwp NC sc zinfo C J fin np es (v0 :: v1 :: v2 :: v3 :: v4 :: v5 :: v6 :: v7 :: v8 :: v9 :: .ref x :: r) (.ref x :: st) M) : zwp NC sc zinfo C J fin np ((pc, .aload 10, len, a, b, t) :: es) (v0 :: v1 :: v2 :: v3 :: v4 :: v5 :: v6 :: v7 :: v8 :: v9 :: .ref x :: r) (st) M := h
theorem p_istore_10 {v0 v1 v2 v3 v4 v5 v6 v7 v8 v9 v10 : Value} {r : List Value} {x : Int32} (hz : zsl (v0 :: v1 :: v2 :: v3 :: v4 :: v5 :: v6 :: v7 :: v8 :: v9 :: v10 :: r) 10 (.int x) = v0 :: v1 :: v2 :: v3 :: v4 :: v5 :: v6 :: v7 :: v8 :: v9 :: .int x :: r) (h : zwp NC sc zinfo C J fin np es (v0 :: v1 :: v2 :: v3 :: v4 :: v5 :: v6 :: v7 :: v8 :: v9 :: .int x :: r) (st) M) : zwp NC sc zinfo C J fin np ((pc, .istore 10, len, a, b, t) :: es) (v0 :: v1 :: v2 :: v3 :: v4 :: v5 :: v6 :: v7 :: v8 :: v9 :: v10 :: r) (.int x :: st) M := ⟨by show 10 < _; simp, by show zwp NC sc zinfo C J fin np es (zsl (v0 :: v1 :: v2 :: v3 :: v4 :: v5 :: v6 :: v7 :: v8 :: v9 :: v10 :: r) 10 (.int x)) st M; rw [hz]; exact h⟩
theorem p_astore_10 {v0 v1 v2 v3 v4 v5 v6 v7 v8 v9 v10 : Value} {r : List Value} {x : Nat} (hz : zsl (v0 :: v1 :: v2 :: v3 :: v4 :: v5 :: v6 :: v7 :: v8 :: v9 :: v10 :: r) 10 (.ref x) = v0 :: v1 :: v2 :: v3 :: v4 :: v5 :: v6 :: v7 :: v8 :: v9 :: .ref x :: r) (h : zwp NC sc zinfo C J fin np es (v0 :: v1 :: v2 :: v3 :: v4 :: v5 :: v6 :: v7 :: v8 :: v9 :: .ref x :: r) (st) M) : zwp NC sc zinfo C J fin np ((pc, .astore 10, len, a, b, t) :: es) (v0 :: v1 :: v2 :: v3 :: v4 :: v5 :: v6 :: v7 :: v8 :: v9 :: v10 :: r) (.ref x :: st) M := ⟨by show 10 < _; simp, by show zwp NC sc zinfo C J fin np es (zsl (v0 :: v1 :: v2 :: v3 :: v4 :: v5 :: v6 :: v7 :: v8 :: v9 :: v10 :: r) 10 (.ref x)) st M; rw [hz]; exact h⟩
theorem p_iinc_10 {v0 v1 v2 v3 v4 v5 v6 v7 v8 v9 : Value} {r : List Value} {x v : Int32} {n : Int} (hv : x + Int32.ofInt n = v) (hz : zsl (v0 :: v1 :: v2 :: v3 :: v4 :: v5 :: v6 :: v7 :: v8 :: v9 :: .int x :: r) 10 (.int v) = v0 :: v1 :: v2 :: v3 :: v4 :: v5 :: v6 :: v7 :: v8 :: v9 :: .int v :: r) (h : zwp NC sc zinfo C J fin np es (v0 :: v1 :: v2 :: v3 :: v4 :: v5 :: v6 :: v7 :: v8 :: v9 :: .int v :: r) (st) M) : zwp NC sc zinfo C J fin np ((pc, .iinc 10 n, len, a, b, t) :: es) (v0 :: v1 :: v2 :: v3 :: v4 :: v5 :: v6 :: v7 :: v8 :: v9 :: .int x :: r) (st) M := by subst hv; exact ⟨by simp, by rw [hz]; exact h⟩
theorem p_iload_11 {v0 v1 v2 v3 v4 v5 v6 v7 v8 v9 v10 : Value} {r : List Value} {x : Int32} (h : zwp NC sc zinfo C J fin np es (v0 :: v1 :: v2 :: v3 :: v4 :: v5 :: v6 :: v7 :: v8 :: v9 :: v10 :: .int x :: r) (.int x :: st) M) : zwp NC sc zinfo C J fin np ((pc, .iload 11, len, a, b, t) :: es) (v0 :: v1 :: v2 :: v3 :: v4 :: v5 :: v6 :: v7 :: v8 :: v9 :: v10 :: .int x :: r) (st) M := h
theorem p_aload_11 {v0 v1 v2 v3 v4 v5 v6 v7 v8 v9 v10 : Value} {r : List Value} {x : Nat} (h : zwp NC sc zinfo C J fin np es (v0 :: v1 :: v2 :: v3 :: v4 :: v5 :: v6 :: v7 :: v8 :: v9 :: v10 :: .ref x :: r) (.ref x :: st) M) : zwp NC sc zinfo C J fin np ((pc, .aload 11, len, a, b, t) :: es) (v0 :: v1 :: v2 :: v3 :: v4 :: v5 :: v6 :: v7 :: v8 :: v9 :: v10 :: .ref x :: r) (st) M := h
theorem p_istore_11 {v0 v1 v2 v3 v4 v5 v6 v7 v8 v9 v10 v11 : Value} {r : List Value} {x : Int32} (hz : zsl (v0 :: v1 :: v2 :: v3 :: v4 :: v5 :: v6 :: v7 :: v8 :: v9 :: v10 :: v11 :: r) 11 (.int x) = v0 :: v1 :: v2 :: v3 :: v4 :: v5 :: v6 :: v7 :: v8 :: v9 :: v10 :: .int x :: r) (h : zwp NC sc zinfo C J fin np es (v0 :: v1 :: v2 :: v3 :: v4 :: v5 :: v6 :: v7 :: v8 :: v9 :: v10 :: .int x :: r) (st) M) : zwp NC sc zinfo C J fin np ((pc, .istore 11, len, a, b, t) :: es) (v0 :: v1 :: v2 :: v3 :: v4 :: v5 :: v6 :: v7 :: v8 :: v9 :: v10 :: v11 :: r) (.int x :: st) M := ⟨by show 11 < _; simp, by show zwp NC sc zinfo C J fin np es (zsl (v0 :: v1 :: v2 :: v3 :: v4 :: v5 :: v6 :: v7 :: v8 :: v9 :: v10 :: v11 :: r) 11 (.int x)) st M; rw [hz]; exact h⟩
theorem p_astore_11 {v0 v1 v2 v3 v4 v5 v6 v7 v8 v9 v10 v11 : Value} {r : List Value} {x : Nat} (hz : zsl (v0 :: v1 :: v2 :: v3 :: v4 :: v5 :: v6 :: v7 :: v8 :: v9 :: v10 :: v11 :: r) 11 (.ref x) = v0 :: v1 :: v2 :: v3 :: v4 :: v5 :: v6 :: v7 :: v8 :: v9 :: v10 :: .ref x :: r) (h : zwp NC sc zinfo C J fin np es (v0 :: v1 :: v2 :: v3 :: v4 :: v5 :: v6 :: v7 :: v8 :: v9 :: v10 :: .ref x :: r) (st) M) : zwp NC sc zinfo C J fin np ((pc, .astore 11, len, a, b, t) :: es) (v0 :: v1 :: v2 :: v3 :: v4 :: v5 :: v6 :: v7 :: v8 :: v9 :: v10 :: v11 :: r) (.ref x :: st) M := ⟨by show 11 < _; simp, by show zwp NC sc zinfo C J fin np es (zsl (v0 :: v1 :: v2 :: v3 :: v4 :: v5 :: v6 :: v7 :: v8 :: v9 :: v10 :: v11 :: r) 11 (.ref x)) st M; rw [hz]; exact h⟩
theorem p_iinc_11 {v0 v1 v2 v3 v4 v5 v6 v7 v8 v9 v10 : Value} {r : List Value} {x v : Int32} {n : Int} (hv : x + Int32.ofInt n = v) (hz : zsl (v0 :: v1 :: v2 :: v3 :: v4 :: v5 :: v6 :: v7 :: v8 :: v9 :: v10 :: .int x :: r) 11 (.int v) = v0 :: v1 :: v2 :: v3 :: v4 :: v5 :: v6 :: v7 :: v8 :: v9 :: v10 :: .int v :: r) (h : zwp NC sc zinfo C J fin np es (v0 :: v1 :: v2 :: v3 :: v4 :: v5 :: v6 :: v7 :: v8 :: v9 :: v10 :: .int v :: r) (st) M) : zwp NC sc zinfo C J fin np ((pc, .iinc 11 n, len, a, b, t) :: es) (v0 :: v1 :: v2 :: v3 :: v4 :: v5 :: v6 :: v7 :: v8 :: v9 :: v10 :: .int x :: r) (st) M := by subst hv; exact ⟨by simp, by rw [hz]; exact h⟩
theorem p_iload_12 {v0 v1 v2 v3 v4 v5 v6 v7 v8 v9 v10 v11 : Value} {r : List Value} {x : Int32} (h : zwp NC sc zinfo C J fin np es (v0 :: v1 :: v2 :: v3 :: v4 :: v5 :: v6 :: v7 :: v8 :: v9 :: v10 :: v11 :: .int x :: r) (.int x :: st) M) : zwp NC sc zinfo C J fin np ((pc, .iload 12, len, a, b, t) :: es) (v0 :: v1 :: v2 :: v3 :: v4 :: v5 :: v6 :: v7 :: v8 :: v9 :: v10 :: v11 :: .int x :: r) (st) M := h
theorem p_aload_12 {v0 v1 v2 v3 v4 v5 v6 v7 v8 v9 v10 v11 : Value} {r : List Value} {x : Nat} (h : zwp NC sc zinfo C J fin np es (v0 :: v1 :: v2 :: v3 :: v4 :: v5 :: v6 :: v7 :: v8 :: v9 :: v10 :: v11 :: .ref x :: r) (.ref x :: st) M) : zwp NC sc zinfo C J fin np ((pc, .aload 12, len, a, b, t) :: es) (v0 :: v1 :: v2 :: v3 :: v4 :: v5 :: v6 :: v7 :: v8 :: v9 :: v10 :: v11 :: .ref x :: r) (st) M := h
theorem p_istore_12 {v0 v1 v2 v3 v4 v5 v6 v7 v8 v9 v10 v11 v12 : Value} {r : List Value} {x : Int32} (hz : zsl (v0 :: v1 :: v2 :: v3 :: v4 :: v5 :: v6 :: v7 :: v8 :: v9 :: v10 :: v11 :: v12 :: r) 12 (.int x) = v0 :: v1 :: v2 :: v3 :: v4 :: v5 :: v6 :: v7 :: v8 :: v9 :: v10 :: v11 :: .int x :: r) (h : zwp NC sc zinfo C J fin np es (v0 :: v1 :: v2 :: v3 :: v4 :: v5 :: v6 :: v7 :: v8 :: v9 :: v10 :: v11 :: .int x :: r) (st) M) : zwp NC sc zinfo C J fin np ((pc, .istore 12, len, a, b, t) :: es) (v0 :: v1 :: v2 :: v3 :: v4 :: v5 :: v6 :: v7 :: v8 :: v9 :: v10 :: v11 :: v12 :: r) (.int x :: st) M := ⟨by show 12 < _; simp, by show zwp NC sc zinfo C J fin np es (zsl (v0 :: v1 :: v2 :: v3 :: v4 :: v5 :: v6 :: v7 :: v8 :: v9 :: v10 :: v11 :: v12 :: r) 12 (.int x)) st M; rw [hz]; exact h⟩
theorem p_astore_12 {v0 v1 v2 v3 v4 v5 v6 v7 v8 v9 v10 v11 v12 : Value} {r : List Value} {x : Nat} (hz : zsl (v0 :: v1 :: v2 :: v3 :: v4 :: v5 :: v6 :: v7 :: v8 :: v9 :: v10 :: v11 :: v12 :: r) 12 (.ref x) = v0 :: v1 :: v2 :: v3 :: v4 :: v5 :: v6 :: v7 :: v8 :: v9 :: v10 :: v11 :: .ref x :: r) (h : zwp NC sc zinfo C J fin np es (v0 :: v1 :: v2 :: v3 :: v4 :: v5 :: v6 :: v7 :: v8 :: v9 :: v10 :: v11 :: .ref x :: r) (st) M) : zwp NC sc zinfo C J fin np ((pc, .astore 12, len, a, b, t) :: es) (v0 :: v1 :: v2 :: v3 :: v4 :: v5 :: v6 :: v7 :: v8 :: v9 :: v10 :: v11 :: v12 :: r) (.ref x :: st) M := ⟨by show 12 < _; simp, by show zwp NC sc zinfo C J fin np es (zsl (v0 :: v1 :: v2 :: v3 :: v4 :: v5 :: v6 :: v7 :: v8 :: v9 :: v10 :: v11 :: v12 :: r) 12 (.ref x)) st M; rw [hz]; exact h⟩
theorem p_iinc_12 {v0 v1 v2 v3 v4 v5 v6 v7 v8 v9 v10 v11 : Value} {r : List Value} {x v : Int32} {n : Int} (hv : x + Int32.ofInt n = v) (hz : zsl (v0 :: v1 :: v2 :: v3 :: v4 :: v5 :: v6 :: v7 :: v8 :: v9 :: v10 :: v11 :: .int x :: r) 12 (.int v) = v0 :: v1 :: v2 :: v3 :: v4 :: v5 :: v6 :: v7 :: v8 :: v9 :: v10 :: v11 :: .int v :: r) (h : zwp NC sc zinfo C J fin np es (v0 :: v1 :: v2 :: v3 :: v4 :: v5 :: v6 :: v7 :: v8 :: v9 :: v10 :: v11 :: .int v :: r) (st) M) : zwp NC sc zinfo C J fin np ((pc, .iinc 12 n, len, a, b, t) :: es) (v0 :: v1 :: v2 :: v3 :: v4 :: v5 :: v6 :: v7 :: v8 :: v9 :: v10 :: v11 :: .int x :: r) (st) M := by subst hv; exact ⟨by simp, by rw [hz]; exact h⟩
theorem p_iload_13 {v0 v1 v2 v3 v4 v5 v6 v7 v8 v9 v10 v11 v12 : Value} {r : List Value} {x : Int32} (h : zwp NC sc zinfo C J fin np es (v0 :: v1 :: v2 :: v3 :: v4 :: v5 :: v6 :: v7 :: v8 :: v9 :: v10 :: v11 :: v12 :: .int x :: r) (.int x :: st) M) : zwp NC sc zinfo C J fin np ((pc, .iload 13, len, a, b, t) :: es) (v0 :: v1 :: v2 :: v3 :: v4 :: v5 :: v6 :: v7 :: v8 :: v9 :: v10 :: v11 :: v12 :: .int x :: r) (st) M := h
theorem p_aload_13 {v0 v1 v2 v3 v4 v5 v6 v7 v8 v9 v10 v11 v12 : Value} {r : List Value} {x : Nat} (h : zwp NC sc zinfo C J fin np es (v0 :: v1 :: v2 :: v3 :: v4 :: v5 :: v6 :: v7 :: v8 :: v9 :: v10 :: v11 :: v12 :: .ref x :: r) (.ref x :: st) M) : zwp NC sc zinfo C J fin np ((pc, .aload 13, len, a, b, t) :: es) (v0 :: v1 :: v2 :: v3 :: v4 :: v5 :: v6 :: v7 :: v8 :: v9 :: v10 :: v11 :: v12 :: .ref x :: r) (st) M := h
theorem p_istore_13 {v0 v1 v2 v3 v4 v5 v6 v7 v8 v9 v10 v11 v12 v13 : Value} {r : List Value} {x : Int32} (hz : zsl (v0 :: v1 :: v2 :: v3 :: v4 :: v5 :: v6 :: v7 :: v8 :: v9 :: v10 :: v11 :: v12 :: v13 :: r) 13 (.int x) = v0 :: v1 :: v2 :: v3 :: v4 :: v5 :: v6 :: v7 :: v8 :: v9 :: v10 :: v11 :: v12 :: .int x :: r) (h : zwp NC sc zinfo C J fin np es (v0 :: v1 :: v2 :: v3 :: v4 :: v5 :: v6 :: v7 :: v8 :: v9 :: v10 :: v11 :: v12 :: .int x :: r) (st) M) : zwp NC sc zinfo C J fin np ((pc, .istore 13, len, a, b, t) :: es) (v0 :: v1 :: v2 :: v3 :: v4 :: v5 :: v6 :: v7 :: v8 :: v9 :: v10 :: v11 :: v12 :: v13 :: r) (.int x :: st) M := ⟨by show 13 < _; simp, by show zwp NC sc zinfo C J fin np es (zsl (v0 :: v1 :: v2 :: v3 :: v4 :: v5 :: v6 :: v7 :: v8 :: v9 :: v10 :: v11 :: v12 :: v13 :: r) 13 (.int x)) st M; rw [hz]; exact h⟩
theorem p_astore_13 {v0 v1 v2 v3 v4 v5 v6 v7 v8 v9 v10 v11 v12 v13 : Value} {r : List Value} {x : Nat} (hz : zsl (v0 :: v1 :: v2 :: v3 :: v4 :: v5 :: v6 :: v7 :: v8 :: v9 :: v10 :: v11 :: v12 :: v13 :: r) 13 (.ref x) = v0 :: v1 :: v2 :: v3 :: v4 :: v5 :: v6 :: v7 :: v8 :: v9 :: v10 :: v11 :: v12 :: .ref x :: r) (h : zwp NC sc zinfo C J fin np es (v0 :: v1 :: v2 :: v3 :: v4 :: v5 :: v6 :: v7 :: v8 :: v9 :: v10 :: v11 :: v12 :: .ref x :: r) (st) M) : zwp NC sc zinfo C J fin np ((pc, .astore 13, len, a, b, t) :: es) (v0 :: v1 :: v2 :: v3 :: v4 :: v5 :: v6 :: v7 :: v8 :: v9 :: v10 :: v11 :: v12 :: v13 :: r) (.ref x :: st) M := ⟨by show 13 < _; simp, by show zwp NC sc zinfo C J fin np es (zsl (v0 :: v1 :: v2 :: v3 :: v4 :: v5 :: v6 :: v7 :: v8 :: v9 :: v10 :: v11 :: v12 :: v13 :: r) 13 (.ref x)) st M; rw [hz]; exact h⟩
theorem p_iinc_13 {v0 v1 v2 v3 v4 v5 v6 v7 v8 v9 v10 v11 v12 : Value} {r : List Value} {x v : Int32} {n : Int} (hv : x + Int32.ofInt n = v) (hz : zsl (v0 :: v1 :: v2 :: v3 :: v4 :: v5 :: v6 :: v7 :: v8 :: v9 :: v10 :: v11 :: v12 :: .int x :: r) 13 (.int v) = v0 :: v1 :: v2 :: v3 :: v4 :: v5 :: v6 :: v7 :: v8 :: v9 :: v10 :: v11 :: v12 :: .int v :: r) (h : zwp NC sc zinfo C J fin np es (v0 :: v1 :: v2 :: v3 :: v4 :: v5 :: v6 :: v7 :: v8 :: v9 :: v10 :: v11 :: v12 :: .int v :: r) (st) M) : zwp NC sc zinfo C J fin np ((pc, .iinc 13 n, len, a, b, t) :: es) (v0 :: v1 :: v2 :: v3 :: v4 :: v5 :: v6 :: v7 :: v8 :: v9 :: v10 :: v11 :: v12 :: .int x :: r) (st) M := by subst hv; exact ⟨by simp, by rw [hz]; exact h⟩
theorem p_iload_14 {v0 v1 v2 v3 v4 v5 v6 v7 v8 v9 v10 v11 v12 v13 : Value} {r : List Value} {x : Int32} (h : zwp NC sc zinfo C J fin np es (v0 :: v1 :: v2 :: v3 :: v4 :: v5 :: v6 :: v7 :: v8 :: v9 :: v10 :: v11 :: v12 :: v13 :: .int x :: r) (.int x :: st) M) : zwp NC sc zinfo C J fin np ((pc, .iload 14, len, a, b, t) :: es) (v0 :: v1 :: v2 :: v3 :: v4 :: v5 :: v6 :: v7 :: v8 :: v9 :: v10 :: v11 :: v12 :: v13 :: .int x :: r) (st) M := h
theorem p_aload_14 {v0 v1 v2 v3 v4 v5 v6 v7 v8 v9 v10 v11 v12 v13 : Value} {r : List Value} {x : Nat} (h : zwp NC sc zinfo C J fin np es (v0 :: v1 :: v2 :: v3 :: v4 :: v5 :: v6 :: v7 :: v8 :: v9 :: v10 :: v11 :: v12 :: v13 :: .ref x :: r) (.ref x :: st) M) : zwp NC sc zinfo C J fin np ((pc, .aload 14, len, a, b, t) :: es) (v0 :: v1 :: v2 :: v3 :: v4 :: v5 :: v6 :: v7 :: v8 :: v9 :: v10 :: v11 :: v12 :: v13 :: .ref x :: r) (st) M := h
theorem p_istore_14 {v0 v1 v2 v3 v4 v5 v6 v7 v8 v9 v10 v11 v12 v13 v14 : Value} {r : List Value} {x : Int32} (hz : zsl (v0 :: v1 :: v2 :: v3 :: v4 :: v5 :: v6 :: v7 :: v8 :: v9 :: v10 :: v11 :: v12 :: v13 :: v14 :: r) 14 (.int x) = v0 :: v1 :: v2 :: v3 :: v4 :: v5 :: v6 :: v7 :: v8 :: v9 :: v10 :: v11 :: v12 :: v13 :: .int x :: r) (h : zwp NC sc zinfo C J fin np es (v0 :: v1 :: v2 :: v3 :: v4 :: v5 :: v6 :: v7 :: v8 :: v9 :: v10 :: v11 :: v12 :: v13 :: .int x :: r) (st) M) : zwp NC sc zinfo C J fin np ((pc, .istore 14, len, a, b, t) :: es) (v0 :: v1 :: v2 :: v3 :: v4 :: v5 :: v6 :: v7 :: v8 :: v9 :: v10 :: v11 :: v12 :: v13 :: v14 :: r) (.int x :: st) M := ⟨by show 14 < _; simp, by show zwp NC sc zinfo C J fin np es (zsl (v0 :: v1 :: v2 :: v3 :: v4 :: v5 :: v6 :: v7 :: v8 :: v9 :: v10 :: v11 :: v12 :: v13 :: v14 :: r) 14 (.int x)) st M; rw [hz]; exact h⟩
theorem p_astore_14 {v0 v1 v2 v3 v4 v5 v6 v7 v8 v9 v10 v11 v12 v13 v14 : Value} {r : List Value} {x : Nat} (hz : zsl (v0 :: v1 :: v2 :: v3 :: v4 :: v5 :: v6 :: v7 :: v8 :: v9 :: v10 :: v11 :: v12 :: v13 :: v14 :: r) 14 (.ref x) = v0 :: v1 :: v2 :: v3 :: v4 :: v5 :: v6 :: v7 :: v8 :: v9 :: v10 :: v11 :: v12 :: v13 :: .ref x :: r) (h : zwp NC sc zinfo C J fin np es (v0 :: v1 :: v2 :: v3 :: v4 :: v5 :: v6 :: v7 :: v8 :: v9 :: v10 :: v11 :: v12 :: v13 :: .ref x :: r) (st) M) : zwp NC sc zinfo C J fin np ((pc, .astore 14, len, a, b, t) :: es) (v0 :: v1 :: v2 :: v3 :: v4 :: v5 :: v6 :: v7 :: v8 :: v9 :: v10 :: v11 :: v12 :: v13 :: v14 :: r) (.ref x :: st) M := ⟨by show 14 < _; simp, by show zwp NC sc zinfo C J fin np es (zsl (v0 :: v1 :: v2 :: v3 :: v4 :: v5 :: v6 :: v7 :: v8 :: v9 :: v10 :: v11 :: v12 :: v13 :: v14 :: r) 14 (.ref x)) st M; rw [hz]; exact h⟩
theorem p_iinc_14 {v0 v1 v2 v3 v4 v5 v6 v7 v8 v9 v10 v11 v12 v13 : Value} {r : List Value} {x v : Int32} {n : Int} (hv : x + Int32.ofInt n = v) (hz : zsl (v0 :: v1 :: v2 :: v3 :: v4 :: v5 :: v6 :: v7 :: v8 :: v9 :: v10 :: v11 :: v12 :: v13 :: .int x :: r) 14 (.int v) = v0 :: v1 :: v2 :: v3 :: v4 :: v5 :: v6 :: v7 :: v8 :: v9 :: v10 :: v11 :: v12 :: v13 :: .int v :: r) (h : zwp NC sc zinfo C J fin np es (v0 :: v1 :: v2 :: v3 :: v4 :: v5 :: v6 :: v7 :: v8 :: v9 :: v10 :: v11 :: v12 :: v13 :: .int v :: r) (st) M) : zwp NC sc zinfo C J fin np ((pc, .iinc 14 n, len, a, b, t) :: es) (v0 :: v1 :: v2 :: v3 :: v4 :: v5 :: v6 :: v7 :: v8 :: v9 :: v10 :: v11 :: v12 :: v13 :: .int x :: r) (st) M := by subst hv; exact ⟨by simp, by rw [hz]; exact h⟩
theorem p_iload_15 {v0 v1 v2 v3 v4 v5 v6 v7 v8 v9 v10 v11 v12 v13 v14 : Value} {r : List Value} {x : Int32} (h : zwp NC sc zinfo C J fin np es (v0 :: v1 :: v2 :: v3 :: v4 :: v5 :: v6 :: v7 :: v8 :: v9 :: v10 :: v11 :: v12 :: v13 :: v14 :: .int x :: r) (.int x :: st) M) : zwp NC sc zinfo C J fin np ((pc, .iload 15, len, a, b, t) :: es) (v0 :: v1 :: v2 :: v3 :: v4 :: v5 :: v6 :: v7 :: v8 :: v9 :: v10 :: v11 :: v12 :: v13 :: v14 :: .int x :: r) (st) M := h
theorem p_aload_15 {v0 v1 v2 v3 v4 v5 v6 v7 v8 v9 v10 v11 v12 v13 v14 : Value} {r : List Value} {x : Nat} (h : zwp NC sc zinfo C J fin np es (v0 :: v1 :: v2 :: v3 :: v4 :: v5 :: v6 :: v7 :: v8 :: v9 :: v10 :: v11 :: v12 :: v13 :: v14 :: .ref x :: r) (.ref x :: st) M) : zwp NC sc zinfo C J fin np ((pc, .aload 15, len, a, b, t) :: es) (v0 :: v1 :: v2 :: v3 :: v4 :: v5 :: v6 :: v7 :: v8 :: v9 :: v10 :: v11 :: v12 :: v13 :: v14 :: .ref x :: r) (st) M := h
theorem p_istore_15 {v0 v1 v2 v3 v4 v5 v6 v7 v8 v9 v10 v11 v12 v13 v14 v15 : Value} {r : List Value} {x : Int32} (hz : zsl (v0 :: v1 :: v2 :: v3 :: v4 :: v5 :: v6 :: v7 :: v8 :: v9 :: v10 :: v11 :: v12 :: v13 :: v14 :: v15 :: r) 15 (.int x) = v0 :: v1 :: v2 :: v3 :: v4 :: v5 :: v6 :: v7 :: v8 :: v9 :: v10 :: v11 :: v12 :: v13 :: v14 :: .int x :: r) (h : zwp NC sc zinfo C J fin np es (v0 :: v1 :: v2 :: v3 :: v4 :: v5 :: v6 :: v7 :: v8 :: v9 :: v10 :: v11 :: v12 :: v13 :: v14 :: .int x :: r) (st) M) : zwp NC sc zinfo C J fin np ((pc, .istore 15, len, a, b, t) :: es) (v0 :: v1 :: v2 :: v3 :: v4 :: v5 :: v6 :: v7 :: v8 :: v9 :: v10 :: v11 :: v12 :: v13 :: v14 :: v15 :: r) (.int x :: st) M := ⟨by show 15 < _; simp, by show zwp NC sc zinfo C J fin np es (zsl (v0 :: v1 :: v2 :: v3 :: v4 :: v5 :: v6 :: v7 :: v8 :: v9 :: v10 :: v11 :: v12 :: v13 :: v14 :: v15 :: r) 15 (.int x)) st M; rw [hz]; exact h⟩
theorem p_astore_15 {v0 v1 v2 v3 v4 v5 v6 v7 v8 v9 v10 v11 v12 v13 v14 v15 : Value} {r : List Value} {x : Nat} (hz : zsl (v0 :: v1 :: v2 :: v3 :: v4 :: v5 :: v6 :: v7 :: v8 :: v9 :: v10 :: v11 :: v12 :: v13 :: v14 :: v15 :: r) 15 (.ref x) = v0 :: v1 :: v2 :: v3 :: v4 :: v5 :: v6 :: v7 :: v8 :: v9 :: v10 :: v11 :: v12 :: v13 :: v14 :: .ref x :: r) (h : zwp NC sc zinfo C J fin np es (v0 :: v1 :: v2 :: v3 :: v4 :: v5 :: v6 :: v7 :: v8 :: v9 :: v10 :: v11 :: v12 :: v13 :: v14 :: .ref x :: r) (st) M) : zwp NC sc zinfo C J fin np ((pc, .astore 15, len, a, b, t) :: es) (v0 :: v1 :: v2 :: v3 :: v4 :: v5 :: v6 :: v7 :: v8 :: v9 :: v10 :: v11 :: v12 :: v13 :: v14 :: v15 :: r) (.ref x :: st) M := ⟨by show 15 < _; simp, by show zwp NC sc zinfo C J fin np es (zsl (v0 :: v1 :: v2 :: v3 :: v4 :: v5 :: v6 :: v7 :: v8 :: v9 :: v10 :: v11 :: v12 :: v13 :: v14 :: v15 :: r) 15 (.ref x)) st M; rw [hz]; exact h⟩
theorem p_iinc_15 {v0 v1 v2 v3 v4 v5 v6 v7 v8 v9 v10 v11 v12 v13 v14 : Value} {r : List Value} {x v : Int32} {n : Int} (hv : x + Int32.ofInt n = v) (hz : zsl (v0 :: v1 :: v2 :: v3 :: v4 :: v5 :: v6 :: v7 :: v8 :: v9 :: v10 :: v11 :: v12 :: v13 :: v14 :: .int x :: r) 15 (.int v) = v0 :: v1 :: v2 :: v3 :: v4 :: v5 :: v6 :: v7 :: v8 :: v9 :: v10 :: v11 :: v12 :: v13 :: v14 :: .int v :: r) (h : zwp NC sc zinfo C J fin np es (v0 :: v1 :: v2 :: v3 :: v4 :: v5 :: v6 :: v7 :: v8 :: v9 :: v10 :: v11 :: v12 :: v13 :: v14 :: .int v :: r) (st) M) : zwp NC sc zinfo C J fin np ((pc, .iinc 15 n, len, a, b, t) :: es) (v0 :: v1 :: v2 :: v3 :: v4 :: v5 :: v6 :: v7 :: v8 :: v9 :: v10 :: v11 :: v12 :: v13 :: v14 :: .int x :: r) (st) M := by subst hv; exact ⟨by simp, by rw [hz]; exact h⟩
theorem p_iload_16 {v0 v1 v2 v3 v4 v5 v6 v7 v8 v9 v10 v11 v12 v13 v14 v15 : Value} {r : List Value} {x : Int32} (h : zwp NC sc zinfo C J fin np es (v0 :: v1 :: v2 :: v3 :: v4 :: v5 :: v6 :: v7 :: v8 :: v9 :: v10 :: v11 :: v12 :: v13 :: v14 :: v15 :: .int x :: r) (.int x :: st) M) : zwp NC sc zinfo C J fin np ((pc, .iload 16, len, a, b, t) :: es) (v0 :: v1 :: v2 :: v3 :: v4 :: v5 :: v6 :: v7 :: v8 :: v9 :: v10 :: v11 :: v12 :: v13 :: v14 :: v15 :: .int x :: r) (st) M := h
theorem p_aload_16 {v0 v1 v2 v3 v4 v5 v6 v7 v8 v9 v10 v11 v12 v13 v14 v15 : Value} {r : List Value} {x : Nat} (h : zwp NC sc zinfo C J fin np es (v0 :: v1 :: v2 :: v3 :: v4 :: v5 :: v6 :: v7 :: v8 :: v9 :: v10 :: v11 :: v12 :: v13 :: v14 :: v15 :: .ref x :: r) (.ref x :: st) M) : zwp NC sc zinfo C J fin np ((pc, .aload 16, len, a, b, t) :: es) (v0 :: v1 :: v2 :: v3 :: v4 :: v5 :: v6 :: v7 :: v8 :: v9 :: v10 :: v11 :: v12 :: v13 :: v14 :: v15 :: .ref x :: r) (st) M := h
theorem p_istore_16 {v0 v1 v2 v3 v4 v5 v6 v7 v8 v9 v10 v11 v12 v13 v14 v15 v16 : Value} {r : List Value} {x : Int32} (hz : zsl (v0 :: v1 :: v2 :: v3 :: v4 :: v5 :: v6 :: v7 :: v8 :: v9 :: v10 :: v11 :: v12 :: v13 :: v14 :: v15 :: v16 :: r) 16 (.int x) = v0 :: v1 :: v2 :: v3 :: v4 :: v5 :: v6 :: v7 :: v8 :: v9 :: v10 :: v11 :: v12 :: v13 :: v14 :: v15 :: .int x :: r) (h : zwp NC sc zinfo C J fin np es (v0 :: v1 :: v2 :: v3 :: v4 :: v5 :: v6 :: v7 :: v8 :: v9 :: v10 :: v11 :: v12 :: v13 :: v14 :: v15 :: .int x :: r) (st) M) : zwp NC sc zinfo C J fin np ((pc, .istore 16, len, a, b, t) :: es) (v0 :: v1 :: v2 :: v3 :: v4 :: v5 :: v6 :: v7 :: v8 :: v9 :: v10 :: v11 :: v12 :: v13 :: v14 :: v15 :: v16 :: r) (.int x :: st) M := ⟨by show 16 < _; simp, by show zwp NC sc zinfo C J fin np es (zsl (v0 :: v1 :: v2 :: v3 :: v4 :: v5 :: v6 :: v7 :: v8 :: v9 :: v10 :: v11 :: v12 :: v13 :: v14 :: v15 :: v16 :: r) 16 (.int x)) st M; rw [hz]; exact h⟩
theorem p_astore_16 {v0 v1 v2 v3 v4 v5 v6 v7 v8 v9 v10 v11 v12 v13 v14 v15 v16 : Value} {r : List Value} {x : Nat} (hz : zsl (v0 :: v1 :: v2 :: v3 :: v4 :: v5 :: v6 :: v7 :: v8 :: v9 :: v10 :: v11 :: v12 :: v13 :: v14 :: v15 :: v16 :: r) 16 (.ref x) = v0 :: v1 :: v2 :: v3 :: v4 :: v5 :: v6 :: v7 :: v8 :: v9 :: v10 :: v11 :: v12 :: v13 :: v14 :: v15 :: .ref x :: r) (h : zwp NC sc zinfo C J fin np es (v0 :: v1 :: v2 :: v3 :: v4 :: v5 :: v6 :: v7 :: v8 :: v9 :: v10 :: v11 :: v12 :: v13 :: v14 :: v15 :: .ref x :: r) (st) M) : zwp NC sc zinfo C J fin np ((pc, .astore 16, len, a, b, t) :: es) (v0 :: v1 :: v2 :: v3 :: v4 :: v5 :: v6 :: v7 :: v8 :: v9 :: v10 :: v11 :: v12 :: v13 :: v14 :: v15 :: v16 :: r) (.ref x :: st) M := ⟨by show 16 < _; simp, by show zwp NC sc zinfo C J fin np es (zsl (v0 :: v1 :: v2 :: v3 :: v4 :: v5 :: v6 :: v7 :: v8 :: v9 :: v10 :: v11 :: v12 :: v13 :: v14 :: v15 :: v16 :: r) 16 (.ref x)) st M; rw [hz]; exact h⟩
theorem p_iinc_16 {v0 v1 v2 v3 v4 v5 v6 v7 v8 v9 v10 v11 v12 v13 v14 v15 : Value} {r : List Value} {x v : Int32} {n : Int} (hv : x + Int32.ofInt n = v) (hz : zsl (v0 :: v1 :: v2 :: v3 :: v4 :: v5 :: v6 :: v7 :: v8 :: v9 :: v10 :: v11 :: v12 :: v13 :: v14 :: v15 :: .int x :: r) 16 (.int v) = v0 :: v1 :: v2 :: v3 :: v4 :: v5 :: v6 :: v7 :: v8 :: v9 :: v10 :: v11 :: v12 :: v13 :: v14 :: v15 :: .int v :: r) (h : zwp NC sc zinfo C J fin np es (v0 :: v1 :: v2 :: v3 :: v4 :: v5 :: v6 :: v7 :: v8 :: v9 :: v10 :: v11 :: v12 :: v13 :: v14 :: v15 :: .int v :: r) (st) M) : zwp NC sc zinfo C J fin np ((pc, .iinc 16 n, len, a, b, t) :: es) (v0 :: v1 :: v2 :: v3 :: v4 :: v5 :: v6 :: v7 :: v8 :: v9 :: v10 :: v11 :: v12 :: v13 :: v14 :: v15 :: .int x :: r) (st) M := by subst hv; exact ⟨by simp, by rw [hz]; exact h⟩
theorem p_iadd {x y : Int32} (h : zwp NC sc zinfo C J fin np es (L) (.int (x + y) :: st) M) : zwp NC sc zinfo C J fin np ((pc, .iadd, len, a, b, t) :: es) (L) (.int y :: .int x :: st) M := h
theorem p_iaddv {x y v : Int32} (hv : x + y = v) (h : zwp NC sc zinfo C J fin np es (L) (.int v :: st) M) : zwp NC sc zinfo C J fin np ((pc, .iadd, len, a, b, t) :: es) (L) (.int y :: .int x :: st) M := by subst hv; exact h
theorem p_isub {x y : Int32} (h : zwp NC sc zinfo C J fin np es (L) (.int (x - y) :: st) M) : zwp NC sc zinfo C J fin np ((pc, .isub, len, a, b, t) :: es) (L) (.int y :: .int x :: st) M := h
theorem p_isubv {x y v : Int32} (hv : x - y = v) (h : zwp NC sc zinfo C J fin np es (L) (.int v :: st) M) : zwp NC sc zinfo C J fin np ((pc, .isub, len, a, b, t) :: es) (L) (.int y :: .int x :: st) M := by subst hv; exact h
theorem p_imul {x y : Int32} (h : zwp NC sc zinfo C J fin np es (L) (.int (x * y) :: st) M) : zwp NC sc zinfo C J fin np ((pc, .imul, len, a, b, t) :: es) (L) (.int y :: .int x :: st) M := h
theorem p_imulv {x y v : Int32} (hv : x * y = v) (h : zwp NC sc zinfo C J fin np es (L) (.int v :: st) M) : zwp NC sc zinfo C J fin np ((pc, .imul, len, a, b, t) :: es) (L) (.int y :: .int x :: st) M := by subst hv; exact h
theorem p_iand {x y : Int32} (h : zwp NC sc zinfo C J fin np es (L) (.int (x &&& y) :: st) M) : zwp NC sc zinfo C J fin np ((pc, .iand, len, a, b, t) :: es) (L) (.int y :: .int x :: st) M := h
theorem p_iandv {x y v : Int32} (hv : x &&& y = v) (h : zwp NC sc zinfo C J fin np es (L) (.int v :: st) M) : zwp NC sc zinfo C J fin np ((pc, .iand, len, a, b, t) :: es) (L) (.int y :: .int x :: st) M := by subst hv; exact h
theorem p_ior {x y : Int32} (h : zwp NC sc zinfo C J fin np es (L) (.int (x ||| y) :: st) M) : zwp NC sc zinfo C J fin np ((pc, .ior, len, a, b, t) :: es) (L) (.int y :: .int x :: st) M := h
theorem p_iorv {x y v : Int32} (hv : x ||| y = v) (h : zwp NC sc zinfo C J fin np es (L) (.int v :: st) M) : zwp NC sc zinfo C J fin np ((pc, .ior, len, a, b, t) :: es) (L) (.int y :: .int x :: st) M := by subst hv; exact h
theorem p_ixor {x y : Int32} (h : zwp NC sc zinfo C J fin np es (L) (.int (x ^^^ y) :: st) M) : zwp NC sc zinfo C J fin np ((pc, .ixor, len, a, b, t) :: es) (L) (.int y :: .int x :: st) M := h
theorem p_ixorv {x y v : Int32} (hv : x ^^^ y = v) (h : zwp NC sc zinfo C J fin np es (L) (.int v :: st) M) : zwp NC sc zinfo C J fin np ((pc, .ixor, len, a, b, t) :: es) (L) (.int y :: .int x :: st) M := by subst hv; exact h
theorem p_ishl {x y : Int32} (h : zwp NC sc zinfo C J fin np es (L) (.int (x <<< (y &&& 31)) :: st) M) : zwp NC sc zinfo C J fin np ((pc, .ishl, len, a, b, t) :: es) (L) (.int y :: .int x :: st) M := h
theorem p_ishlv {x y v : Int32} (hv : x <<< (y &&& 31) = v) (h : zwp NC sc zinfo C J fin np es (L) (.int v :: st) M) : zwp NC sc zinfo C J fin np ((pc, .ishl, len, a, b, t) :: es) (L) (.int y :: .int x :: st) M := by subst hv; exact h
theorem p_ishr {x y : Int32} (h : zwp NC sc zinfo C J fin np es (L) (.int (x >>> (y &&& 31)) :: st) M) : zwp NC sc zinfo C J fin np ((pc, .ishr, len, a, b, t) :: es) (L) (.int y :: .int x :: st) M := h
theorem p_ishrv {x y v : Int32} (hv : x >>> (y &&& 31) = v) (h : zwp NC sc zinfo C J fin np es (L) (.int v :: st) M) : zwp NC sc zinfo C J fin np ((pc, .ishr, len, a, b, t) :: es) (L) (.int y :: .int x :: st) M := by subst hv; exact h
theorem p_iushr {x y : Int32} (h : zwp NC sc zinfo C J fin np es (L) (.int ((x.toUInt32 >>> (y.toUInt32 &&& Int32.toUInt32 31)).toInt32) :: st) M) : zwp NC sc zinfo C J fin np ((pc, .iushr, len, a, b, t) :: es) (L) (.int y :: .int x :: st) M := h
theorem p_iushrv {x y v : Int32} (hv : (x.toUInt32 >>> (y.toUInt32 &&& Int32.toUInt32 31)).toInt32 = v) (h : zwp NC sc zinfo C J fin np es (L) (.int v :: st) M) : zwp NC sc zinfo C J fin np ((pc, .iushr, len, a, b, t) :: es) (L) (.int y :: .int x :: st) M := by subst hv; exact h
theorem p_ineg {x v : Int32} (hv : -x = v) (h : zwp NC sc zinfo C J fin np es (L) (.int v :: st) M) : zwp NC sc zinfo C J fin np ((pc, .ineg, len, a, b, t) :: es) (L) (.int x :: st) M := by subst hv; exact h
theorem p_i2b {x v : Int32} (hv : x.toInt8.toInt32 = v) (h : zwp NC sc zinfo C J fin np es (L) (.int v :: st) M) : zwp NC sc zinfo C J fin np ((pc, .i2b, len, a, b, t) :: es) (L) (.int x :: st) M := by subst hv; exact h
theorem p_i2l {x : Int32} (h : zwp NC sc zinfo C J fin np es (L) (.long x.toInt64 :: st) M) : zwp NC sc zinfo C J fin np ((pc, .i2l, len, a, b, t) :: es) (L) (.int x :: st) M := h
theorem p_l2i {x : Int64} {v : Int32} (hv : x.toInt32 = v) (h : zwp NC sc zinfo C J fin np es (L) (.int v :: st) M) : zwp NC sc zinfo C J fin np ((pc, .l2i, len, a, b, t) :: es) (L) (.long x :: st) M := by subst hv; exact h
theorem p_land {x y : Int64} (h : zwp NC sc zinfo C J fin np es (L) (.long (x &&& y) :: st) M) : zwp NC sc zinfo C J fin np ((pc, .land, len, a, b, t) :: es) (L) (.long y :: .long x :: st) M := h
theorem p_lor {x y : Int64} (h : zwp NC sc zinfo C J fin np es (L) (.long (x ||| y) :: st) M) : zwp NC sc zinfo C J fin np ((pc, .lor, len, a, b, t) :: es) (L) (.long y :: .long x :: st) M := h
theorem p_lshl {x : Int64} {y : Int32} (h : zwp NC sc zinfo C J fin np es (L) (.long (x <<< (y.toInt64 &&& 63)) :: st) M) : zwp NC sc zinfo C J fin np ((pc, .lshl, len, a, b, t) :: es) (L) (.int y :: .long x :: st) M := h
theorem p_lshr {x : Int64} {y : Int32} (h : zwp NC sc zinfo C J fin np es (L) (.long (x >>> (y.toInt64 &&& 63)) :: st) M) : zwp NC sc zinfo C J fin np ((pc, .lshr, len, a, b, t) :: es) (L) (.int y :: .long x :: st) M := h
theorem p_lushr {x : Int64} {y : Int32} (h : zwp NC sc zinfo C J fin np es (L) (.long ((x.toUInt64 >>> (y.toInt64.toUInt64 &&& Int64.toUInt64 63)).toInt64) :: st) M) : zwp NC sc zinfo C J fin np ((pc, .lushr, len, a, b, t) :: es) (L) (.int y :: .long x :: st) M := h
theorem p_irem {x y v : Int32} (hy : ¬ y = 0) (hv : x - x / y * y = v) (h : zwp NC sc zinfo C J fin np es (L) (.int v :: st) M) : zwp NC sc zinfo C J fin np ((pc, .irem, len, a, b, t) :: es) (L) (.int y :: .int x :: st) M := by subst hv; exact ⟨hy, h⟩
theorem p_dupi {x : Int32} (h : zwp NC sc zinfo C J fin np es (L) (.int x :: .int x :: st) M) : zwp NC sc zinfo C J fin np ((pc, .dup, len, a, b, t) :: es) (L) (.int x :: st) M := ⟨rfl, h⟩
theorem p_dupa {x : Nat} (h : zwp NC sc zinfo C J fin np es (L) (.ref x :: .ref x :: st) M) : zwp NC sc zinfo C J fin np ((pc, .dup, len, a, b, t) :: es) (L) (.ref x :: st) M := ⟨rfl, h⟩
theorem p_dup2 {x : Int32} {y : Nat} (h : zwp NC sc zinfo C J fin np es (L) (.int x :: .ref y :: .int x :: .ref y :: st) M) : zwp NC sc zinfo C J fin np ((pc, .dup2, len, a, b, t) :: es) (L) (.int x :: .ref y :: st) M := ⟨rfl, rfl, h⟩
theorem p_goto {off : Int} {tgt : Nat} (ht : (pc : Int) + off = (tgt : Int)) (h : J tgt L st M) : zwp NC sc zinfo C J fin np ((pc, .goto off, len, a, b, t) :: es) L st M := by
  dsimp only [zwp, zop, zjmp]
  rw [ht]
  exact ⟨rfl, h⟩
theorem p_if_eq {x : Int32} {off : Int} {tgt : Nat} (ht : (pc : Int) + off = (tgt : Int)) (h1 : x = 0 → J tgt L st M) (h2 : ¬ (x = 0) → zwp NC sc zinfo C J fin np es L st M) : zwp NC sc zinfo C J fin np ((pc, .ifCond .eq off, len, a, b, t) :: es) L (.int x :: st) M := by
  refine ⟨by rw [ht]; rfl, fun q => ?_, h2⟩
  rw [ht]
  exact h1 q
theorem p_icmp_eq {x y : Int32} {off : Int} {tgt : Nat} (ht : (pc : Int) + off = (tgt : Int)) (h1 : x = y → J tgt L st M) (h2 : ¬ (x = y) → zwp NC sc zinfo C J fin np es L st M) : zwp NC sc zinfo C J fin np ((pc, .if_icmp .eq off, len, a, b, t) :: es) L (.int y :: .int x :: st) M := by
  refine ⟨by rw [ht]; rfl, fun q => ?_, h2⟩
  rw [ht]
  exact h1 q
theorem p_if_ne {x : Int32} {off : Int} {tgt : Nat} (ht : (pc : Int) + off = (tgt : Int)) (h1 : ¬ x = 0 → J tgt L st M) (h2 : ¬ (¬ x = 0) → zwp NC sc zinfo C J fin np es L st M) : zwp NC sc zinfo C J fin np ((pc, .ifCond .ne off, len, a, b, t) :: es) L (.int x :: st) M := by
  refine ⟨by rw [ht]; rfl, fun q => ?_, h2⟩
  rw [ht]
  exact h1 q
theorem p_icmp_ne {x y : Int32} {off : Int} {tgt : Nat} (ht : (pc : Int) + off = (tgt : Int)) (h1 : ¬ x = y → J tgt L st M) (h2 : ¬ (¬ x = y) → zwp NC sc zinfo C J fin np es L st M) : zwp NC sc zinfo C J fin np ((pc, .if_icmp .ne off, len, a, b, t) :: es) L (.int y :: .int x :: st) M := by
  refine ⟨by rw [ht]; rfl, fun q => ?_, h2⟩
  rw [ht]
  exact h1 q
theorem p_if_lt {x : Int32} {off : Int} {tgt : Nat} (ht : (pc : Int) + off = (tgt : Int)) (h1 : x < 0 → J tgt L st M) (h2 : ¬ (x < 0) → zwp NC sc zinfo C J fin np es L st M) : zwp NC sc zinfo C J fin np ((pc, .ifCond .lt off, len, a, b, t) :: es) L (.int x :: st) M := by
  refine ⟨by rw [ht]; rfl, fun q => ?_, h2⟩
  rw [ht]
  exact h1 q
theorem p_icmp_lt {x y : Int32} {off : Int} {tgt : Nat} (ht : (pc : Int) + off = (tgt : Int)) (h1 : x < y → J tgt L st M) (h2 : ¬ (x < y) → zwp NC sc zinfo C J fin np es L st M) : zwp NC sc zinfo C J fin np ((pc, .if_icmp .lt off, len, a, b, t) :: es) L (.int y :: .int x :: st) M := by
  refine ⟨by rw [ht]; rfl, fun q => ?_, h2⟩
  rw [ht]
  exact h1 q
theorem p_if_ge {x : Int32} {off : Int} {tgt : Nat} (ht : (pc : Int) + off = (tgt : Int)) (h1 : 0 ≤ x → J tgt L st M) (h2 : ¬ (0 ≤ x) → zwp NC sc zinfo C J fin np es L st M) : zwp NC sc zinfo C J fin np ((pc, .ifCond .ge off, len, a, b, t) :: es) L (.int x :: st) M := by
  refine ⟨by rw [ht]; rfl, fun q => ?_, h2⟩
  rw [ht]
  exact h1 q
theorem p_icmp_ge {x y : Int32} {off : Int} {tgt : Nat} (ht : (pc : Int) + off = (tgt : Int)) (h1 : y ≤ x → J tgt L st M) (h2 : ¬ (y ≤ x) → zwp NC sc zinfo C J fin np es L st M) : zwp NC sc zinfo C J fin np ((pc, .if_icmp .ge off, len, a, b, t) :: es) L (.int y :: .int x :: st) M := by
  refine ⟨by rw [ht]; rfl, fun q => ?_, h2⟩
  rw [ht]
  exact h1 q
theorem p_if_gt {x : Int32} {off : Int} {tgt : Nat} (ht : (pc : Int) + off = (tgt : Int)) (h1 : 0 < x → J tgt L st M) (h2 : ¬ (0 < x) → zwp NC sc zinfo C J fin np es L st M) : zwp NC sc zinfo C J fin np ((pc, .ifCond .gt off, len, a, b, t) :: es) L (.int x :: st) M := by
  refine ⟨by rw [ht]; rfl, fun q => ?_, h2⟩
  rw [ht]
  exact h1 q
theorem p_icmp_gt {x y : Int32} {off : Int} {tgt : Nat} (ht : (pc : Int) + off = (tgt : Int)) (h1 : y < x → J tgt L st M) (h2 : ¬ (y < x) → zwp NC sc zinfo C J fin np es L st M) : zwp NC sc zinfo C J fin np ((pc, .if_icmp .gt off, len, a, b, t) :: es) L (.int y :: .int x :: st) M := by
  refine ⟨by rw [ht]; rfl, fun q => ?_, h2⟩
  rw [ht]
  exact h1 q
theorem p_if_le {x : Int32} {off : Int} {tgt : Nat} (ht : (pc : Int) + off = (tgt : Int)) (h1 : x ≤ 0 → J tgt L st M) (h2 : ¬ (x ≤ 0) → zwp NC sc zinfo C J fin np es L st M) : zwp NC sc zinfo C J fin np ((pc, .ifCond .le off, len, a, b, t) :: es) L (.int x :: st) M := by
  refine ⟨by rw [ht]; rfl, fun q => ?_, h2⟩
  rw [ht]
  exact h1 q
theorem p_icmp_le {x y : Int32} {off : Int} {tgt : Nat} (ht : (pc : Int) + off = (tgt : Int)) (h1 : x ≤ y → J tgt L st M) (h2 : ¬ (x ≤ y) → zwp NC sc zinfo C J fin np es L st M) : zwp NC sc zinfo C J fin np ((pc, .if_icmp .le off, len, a, b, t) :: es) L (.int y :: .int x :: st) M := by
  refine ⟨by rw [ht]; rfl, fun q => ?_, h2⟩
  rw [ht]
  exact h1 q
theorem p_icmpN_eq {x y : Nat} {off : Int} {tgt : Nat} (ht : (pc : Int) + off = (tgt : Int)) (hx : x < 2 ^ 31) (hy : y < 2 ^ 31) (h1 : x = y → J tgt L st M) (h2 : ¬ (x = y) → zwp NC sc zinfo C J fin np es L st M) : zwp NC sc zinfo C J fin np ((pc, .if_icmp .eq off, len, a, b, t) :: es) L (.int (nI y) :: .int (nI x) :: st) M := p_icmp_eq ht (fun q => h1 ((nI_eq hx hy).mp q)) (fun q => h2 (fun z => q ((nI_eq hx hy).mpr z)))
theorem p_ifN_eq {x : Nat} {off : Int} {tgt : Nat} (ht : (pc : Int) + off = (tgt : Int)) (hx : x < 2 ^ 31) (h1 : x = 0 → J tgt L st M) (h2 : ¬ (x = 0) → zwp NC sc zinfo C J fin np es L st M) : zwp NC sc zinfo C J fin np ((pc, .ifCond .eq off, len, a, b, t) :: es) L (.int (nI x) :: st) M := p_if_eq ht (fun q => h1 ((show _ from (nI_eq hx (by decide)) : _ ↔ _).mp (by rw [nI_0]; exact q))) (fun q => h2 (fun z => q (by have w := (show _ from (nI_eq hx (by decide)) : _ ↔ _).mpr z; rwa [nI_0] at w)))
theorem p_icmpN_ne {x y : Nat} {off : Int} {tgt : Nat} (ht : (pc : Int) + off = (tgt : Int)) (hx : x < 2 ^ 31) (hy : y < 2 ^ 31) (h1 : ¬ x = y → J tgt L st M) (h2 : ¬ (¬ x = y) → zwp NC sc zinfo C J fin np es L st M) : zwp NC sc zinfo C J fin np ((pc, .if_icmp .ne off, len, a, b, t) :: es) L (.int (nI y) :: .int (nI x) :: st) M := p_icmp_ne ht (fun q => h1 ((not_congr (nI_eq hx hy)).mp q)) (fun q => h2 (fun z => q ((not_congr (nI_eq hx hy)).mpr z)))
theorem p_ifN_ne {x : Nat} {off : Int} {tgt : Nat} (ht : (pc : Int) + off = (tgt : Int)) (hx : x < 2 ^ 31) (h1 : ¬ x = 0 → J tgt L st M) (h2 : ¬ (¬ x = 0) → zwp NC sc zinfo C J fin np es L st M) : zwp NC sc zinfo C J fin np ((pc, .ifCond .ne off, len, a, b, t) :: es) L (.int (nI x) :: st) M := p_if_ne ht (fun q => h1 ((show _ from (not_congr (nI_eq hx (by decide))) : _ ↔ _).mp (by rw [nI_0]; exact q))) (fun q => h2 (fun z => q (by have w := (show _ from (not_congr (nI_eq hx (by decide))) : _ ↔ _).mpr z; rwa [nI_0] at w)))
theorem p_icmpN_lt {x y : Nat} {off : Int} {tgt : Nat} (ht : (pc : Int) + off = (tgt : Int)) (hx : x < 2 ^ 31) (hy : y < 2 ^ 31) (h1 : x < y → J tgt L st M) (h2 : ¬ (x < y) → zwp NC sc zinfo C J fin np es L st M) : zwp NC sc zinfo C J fin np ((pc, .if_icmp .lt off, len, a, b, t) :: es) L (.int (nI y) :: .int (nI x) :: st) M := p_icmp_lt ht (fun q => h1 ((nI_ltI hx hy).mp q)) (fun q => h2 (fun z => q ((nI_ltI hx hy).mpr z)))
theorem p_ifN_lt {x : Nat} {off : Int} {tgt : Nat} (ht : (pc : Int) + off = (tgt : Int)) (hx : x < 2 ^ 31) (h1 : x < 0 → J tgt L st M) (h2 : ¬ (x < 0) → zwp NC sc zinfo C J fin np es L st M) : zwp NC sc zinfo C J fin np ((pc, .ifCond .lt off, len, a, b, t) :: es) L (.int (nI x) :: st) M := p_if_lt ht (fun q => h1 ((show _ from (nI_ltI hx (by decide)) : _ ↔ _).mp (by rw [nI_0]; exact q))) (fun q => h2 (fun z => q (by have w := (show _ from (nI_ltI hx (by decide)) : _ ↔ _).mpr z; rwa [nI_0] at w)))
theorem p_icmpN_ge {x y : Nat} {off : Int} {tgt : Nat} (ht : (pc : Int) + off = (tgt : Int)) (hx : x < 2 ^ 31) (hy : y < 2 ^ 31) (h1 : y ≤ x → J tgt L st M) (h2 : ¬ (y ≤ x) → zwp NC sc zinfo C J fin np es L st M) : zwp NC sc zinfo C J fin np ((pc, .if_icmp .ge off, len, a, b, t) :: es) L (.int (nI y) :: .int (nI x) :: st) M := p_icmp_ge ht (fun q => h1 ((nI_leI hy hx).mp q)) (fun q => h2 (fun z => q ((nI_leI hy hx).mpr z)))
theorem p_ifN_ge {x : Nat} {off : Int} {tgt : Nat} (ht : (pc : Int) + off = (tgt : Int)) (hx : x < 2 ^ 31) (h1 : 0 ≤ x → J tgt L st M) (h2 : ¬ (0 ≤ x) → zwp NC sc zinfo C J fin np es L st M) : zwp NC sc zinfo C J fin np ((pc, .ifCond .ge off, len, a, b, t) :: es) L (.int (nI x) :: st) M := p_if_ge ht (fun q => h1 ((show _ from (nI_leI (by decide) hx) : _ ↔ _).mp (by rw [nI_0]; exact q))) (fun q => h2 (fun z => q (by have w := (show _ from (nI_leI (by decide) hx) : _ ↔ _).mpr z; rwa [nI_0] at w)))
theorem p_icmpN_gt {x y : Nat} {off : Int} {tgt : Nat} (ht : (pc : Int) + off = (tgt : Int)) (hx : x < 2 ^ 31) (hy : y < 2 ^ 31) (h1 : y < x → J tgt L st M) (h2 : ¬ (y < x) → zwp NC sc zinfo C J fin np es L st M) : zwp NC sc zinfo C J fin np ((pc, .if_icmp .gt off, len, a, b, t) :: es) L (.int (nI y) :: .int (nI x) :: st) M := p_icmp_gt ht (fun q => h1 ((nI_ltI hy hx).mp q)) (fun q => h2 (fun z => q ((nI_ltI hy hx).mpr z)))
theorem p_ifN_gt {x : Nat} {off : Int} {tgt : Nat} (ht : (pc : Int) + off = (tgt : Int)) (hx : x < 2 ^ 31) (h1 : 0 < x → J tgt L st M) (h2 : ¬ (0 < x) → zwp NC sc zinfo C J fin np es L st M) : zwp NC sc zinfo C J fin np ((pc, .ifCond .gt off, len, a, b, t) :: es) L (.int (nI x) :: st) M := p_if_gt ht (fun q => h1 ((show _ from (nI_ltI (by decide) hx) : _ ↔ _).mp (by rw [nI_0]; exact q))) (fun q => h2 (fun z => q (by have w := (show _ from (nI_ltI (by decide) hx) : _ ↔ _).mpr z; rwa [nI_0] at w)))
theorem p_icmpN_le {x y : Nat} {off : Int} {tgt : Nat} (ht : (pc : Int) + off = (tgt : Int)) (hx : x < 2 ^ 31) (hy : y < 2 ^ 31) (h1 : x ≤ y → J tgt L st M) (h2 : ¬ (x ≤ y) → zwp NC sc zinfo C J fin np es L st M) : zwp NC sc zinfo C J fin np ((pc, .if_icmp .le off, len, a, b, t) :: es) L (.int (nI y) :: .int (nI x) :: st) M := p_icmp_le ht (fun q => h1 ((nI_leI hx hy).mp q)) (fun q => h2 (fun z => q ((nI_leI hx hy).mpr z)))
theorem p_ifN_le {x : Nat} {off : Int} {tgt : Nat} (ht : (pc : Int) + off = (tgt : Int)) (hx : x < 2 ^ 31) (h1 : x ≤ 0 → J tgt L st M) (h2 : ¬ (x ≤ 0) → zwp NC sc zinfo C J fin np es L st M) : zwp NC sc zinfo C J fin np ((pc, .ifCond .le off, len, a, b, t) :: es) L (.int (nI x) :: st) M := p_if_le ht (fun q => h1 ((show _ from (nI_leI hx (by decide)) : _ ↔ _).mp (by rw [nI_0]; exact q))) (fun q => h2 (fun z => q (by have w := (show _ from (nI_leI hx (by decide)) : _ ↔ _).mpr z; rwa [nI_0] at w)))
theorem p_iaddN {x y : Nat} (h : zwp NC sc zinfo C J fin np es (L) (.int (nI (x + y)) :: st) M) : zwp NC sc zinfo C J fin np ((pc, .iadd, len, a, b, t) :: es) (L) (.int (nI y) :: .int (nI x) :: st) M := p_iaddv (nI_add x y) h
theorem p_imulN {x y : Nat} (h : zwp NC sc zinfo C J fin np es (L) (.int (nI (x * y)) :: st) M) : zwp NC sc zinfo C J fin np ((pc, .imul, len, a, b, t) :: es) (L) (.int (nI y) :: .int (nI x) :: st) M := p_imulv (zN_mul x y) h
theorem p_iandN {x y : Nat} (h : zwp NC sc zinfo C J fin np es (L) (.int (nI (x &&& y)) :: st) M) : zwp NC sc zinfo C J fin np ((pc, .iand, len, a, b, t) :: es) (L) (.int (nI y) :: .int (nI x) :: st) M := p_iandv (zN_and x y) h
theorem p_iorN {x y : Nat} (h : zwp NC sc zinfo C J fin np es (L) (.int (nI (x ||| y)) :: st) M) : zwp NC sc zinfo C J fin np ((pc, .ior, len, a, b, t) :: es) (L) (.int (nI y) :: .int (nI x) :: st) M := p_iorv (zN_or x y) h
theorem p_ixorN {x y : Nat} (h : zwp NC sc zinfo C J fin np es (L) (.int (nI (x ^^^ y)) :: st) M) : zwp NC sc zinfo C J fin np ((pc, .ixor, len, a, b, t) :: es) (L) (.int (nI y) :: .int (nI x) :: st) M := p_ixorv (zN_xor x y) h
theorem p_isubN {x y : Nat} (hxy : y ≤ x) (h : zwp NC sc zinfo C J fin np es (L) (.int (nI (x - y)) :: st) M) : zwp NC sc zinfo C J fin np ((pc, .isub, len, a, b, t) :: es) (L) (.int (nI y) :: .int (nI x) :: st) M := p_isubv (zN_sub hxy) h
theorem p_ishlN {x y : Nat} (hy : y < 32) (h : zwp NC sc zinfo C J fin np es (L) (.int (nI (x <<< y)) :: st) M) : zwp NC sc zinfo C J fin np ((pc, .ishl, len, a, b, t) :: es) (L) (.int (nI y) :: .int (nI x) :: st) M := p_ishlv (zN_shl x hy) h
theorem p_ishrN {x y : Nat} (hx : x < 2 ^ 31) (hy : y < 32) (h : zwp NC sc zinfo C J fin np es (L) (.int (nI (x >>> y)) :: st) M) : zwp NC sc zinfo C J fin np ((pc, .ishr, len, a, b, t) :: es) (L) (.int (nI y) :: .int (nI x) :: st) M := p_ishrv (zN_shr hx hy) h
theorem p_getr {ix k q : Nat} {fs : List (Option Nat)} (h1 : zlay NC k = some (.inl (a, fs))) (h2 : zget fs b = some (some q)) (h : zwp NC sc zinfo C J fin np es L (.ref q :: st) M) : zwp NC sc zinfo C J fin np ((pc, .getfield ix, len, a, b, t) :: es) L (.ref k :: st) M := by
  dsimp only [zwp, zop, zgf]
  rw [h1]
  refine ⟨rfl, ?_⟩
  rw [h2]
  exact h
theorem p_geti {ix k : Nat} {v : Int32} {fs : List (Option Nat)} (h1 : zlay NC k = some (.inl (a, fs))) (h2 : zget fs b = some none) (hv : M k b = v) (h : zwp NC sc zinfo C J fin np es L (.int v :: st) M) : zwp NC sc zinfo C J fin np ((pc, .getfield ix, len, a, b, t) :: es) L (.ref k :: st) M := by
  subst hv
  dsimp only [zwp, zop, zgf]
  rw [h1]
  refine ⟨rfl, ?_⟩
  rw [h2]
  exact h
theorem p_put {ix k : Nat} {x : Int32} {fs : List (Option Nat)} (h1 : zlay NC k = some (.inl (a, fs))) (h2 : zget fs b = some none) (h3 : a = 1 ∧ b = 8 → x = 0 ∨ x = 1) (h : zwp NC sc zinfo C J fin np es L st (zup M k b x)) : zwp NC sc zinfo C J fin np ((pc, .putfield ix, len, a, b, t) :: es) L (.int x :: .ref k :: st) M := by
  dsimp only [zwp, zop, zpf]
  rw [h1]
  refine ⟨rfl, ?_⟩
  rw [h2]
  exact ⟨h3, h⟩
theorem p_gets {ix : Nat} (h1 : 101 ≤ a ∧ a ≤ 103) (h : zwp NC sc zinfo C J fin np es L (.ref a :: st) M) : zwp NC sc zinfo C J fin np ((pc, .getstatic ix, len, a, b, t) :: es) L st M := ⟨h1, h⟩
theorem p_iald {k n i : Nat} {v : Int32} {qs : List Nat} (h1 : zlay NC k = some (.inr (n, .int, qs))) (hi : i < n) (hn : n < 2 ^ 31) (hv : M k i = v) (h : zwp NC sc zinfo C J fin np es L (.int v :: st) M) : zwp NC sc zinfo C J fin np ((pc, .iaload, len, a, b, t) :: es) L (.int (nI i) :: .ref k :: st) M := by
  subst hv
  dsimp only [zwp, zop, zald]
  rw [h1]
  refine ⟨vp_in_nI hi hn, ?_⟩
  rw [nI_clamp (Nat.lt_trans hi hn)]
  exact h
theorem p_rald {k i : Nat} {v : Int32} (h1 : zlay NC k = none) (hk : 100 ≤ k ∧ k ≤ 103) (hi : i < (zro sc k).1) (hn : (zro sc k).1 < 2 ^ 31) (hv : (zro sc k).2 i = v) (h : zwp NC sc zinfo C J fin np es L (.int v :: st) M) : zwp NC sc zinfo C J fin np ((pc, .iaload, len, a, b, t) :: es) L (.int (nI i) :: .ref k :: st) M := by
  subst hv
  dsimp only [zwp, zop, zald]
  rw [h1]
  refine ⟨hk.1, hk.2, vp_in_nI hi hn, ?_⟩
  rw [nI_clamp (Nat.lt_trans hi hn)]
  exact h
theorem p_bald {k n i : Nat} {v : Int32} {qs : List Nat} (h1 : zlay NC k = some (.inr (n, .byte, qs))) (hi : i < n) (hn : n < 2 ^ 31) (hv : M k i = v) (h : zwp NC sc zinfo C J fin np es L (.int v :: st) M) : zwp NC sc zinfo C J fin np ((pc, .baload, len, a, b, t) :: es) L (.int (nI i) :: .ref k :: st) M := by
  subst hv
  dsimp only [zwp, zop, zbld]
  rw [h1]
  refine ⟨vp_in_nI hi hn, ?_⟩
  rw [nI_clamp (Nat.lt_trans hi hn)]
  exact h
theorem p_zald {k n i : Nat} {v : Int32} {qs : List Nat} (h1 : zlay NC k = some (.inr (n, .boolean, qs))) (hi : i < n) (hn : n < 2 ^ 31) (hv : M k i = v) (h : zwp NC sc zinfo C J fin np es L (.int v :: st) M) : zwp NC sc zinfo C J fin np ((pc, .baload, len, a, b, t) :: es) L (.int (nI i) :: .ref k :: st) M := by
  subst hv
  dsimp only [zwp, zop, zbld]
  rw [h1]
  refine ⟨vp_in_nI hi hn, ?_⟩
  rw [nI_clamp (Nat.lt_trans hi hn)]
  exact h
theorem p_iast {k n i : Nat} {x : Int32} {qs : List Nat} (h1 : zlay NC k = some (.inr (n, .int, qs))) (hi : i < n) (hn : n < 2 ^ 31) (h : zwp NC sc zinfo C J fin np es L st (zup M k i x)) : zwp NC sc zinfo C J fin np ((pc, .iastore, len, a, b, t) :: es) L (.int x :: .int (nI i) :: .ref k :: st) M := by
  dsimp only [zwp, zop, zast]
  rw [h1]
  refine ⟨vp_in_nI hi hn, ?_⟩
  rw [nI_clamp (Nat.lt_trans hi hn)]
  exact h
theorem p_bast {k n i : Nat} {x v : Int32} {qs : List Nat} (h1 : zlay NC k = some (.inr (n, .byte, qs))) (hi : i < n) (hn : n < 2 ^ 31) (hv : vp_nar .byte x = v) (h : zwp NC sc zinfo C J fin np es L st (zup M k i v)) : zwp NC sc zinfo C J fin np ((pc, .bastore, len, a, b, t) :: es) L (.int x :: .int (nI i) :: .ref k :: st) M := by
  subst hv
  dsimp only [zwp, zop, zbst]
  rw [h1]
  refine ⟨vp_in_nI hi hn, ?_⟩
  rw [nI_clamp (Nat.lt_trans hi hn)]
  exact h
theorem p_zast {k n i : Nat} {x v : Int32} {qs : List Nat} (h1 : zlay NC k = some (.inr (n, .boolean, qs))) (hi : i < n) (hn : n < 2 ^ 31) (hv : vp_nar .boolean x = v) (h : zwp NC sc zinfo C J fin np es L st (zup M k i v)) : zwp NC sc zinfo C J fin np ((pc, .bastore, len, a, b, t) :: es) L (.int x :: .int (nI i) :: .ref k :: st) M := by
  subst hv
  dsimp only [zwp, zop, zbst]
  rw [h1]
  refine ⟨vp_in_nI hi hn, ?_⟩
  rw [nI_clamp (Nat.lt_trans hi hn)]
  exact h
theorem p_aald {k n i q : Nat} {C0 : String} {qs : List Nat} (h1 : zlay NC k = some (.inr (n, .object C0, qs))) (hi : i < n) (hn : n < 2 ^ 31) (hq : zget qs i = some q) (h : zwp NC sc zinfo C J fin np es L (.ref q :: st) M) : zwp NC sc zinfo C J fin np ((pc, .aaload, len, a, b, t) :: es) L (.int (nI i) :: .ref k :: st) M := by
  dsimp only [zwp, zop, zrld]
  rw [h1]
  refine ⟨vp_in_nI hi hn, ?_⟩
  rw [nI_clamp (Nat.lt_trans hi hn), hq]
  exact h
theorem p_alen {k n : Nat} {ty : FieldType} {qs : List Nat} (h1 : zlay NC k = some (.inr (n, ty, qs))) (h : zwp NC sc zinfo C J fin np es L (.int (nI n) :: st) M) : zwp NC sc zinfo C J fin np ((pc, .arraylength, len, a, b, t) :: es) L (.ref k :: st) M := by
  dsimp only [zwp, zop, zlen]
  rw [h1]
  exact h
theorem p_rlen {k : Nat} (h1 : zlay NC k = none) (hk : 100 ≤ k ∧ k ≤ 103) (h : zwp NC sc zinfo C J fin np es L (.int (nI (zro sc k).1) :: st) M) : zwp NC sc zinfo C J fin np ((pc, .arraylength, len, a, b, t) :: es) L (.ref k :: st) M := by
  dsimp only [zwp, zop, zlen]
  rw [h1]
  exact ⟨hk.1, hk.2, h⟩
theorem p_cs0i {v : Int32} {i : zI} {ix : Nat} {M1 : zM} (hi : zinfo a = some i) (hs : i.2.2.2.2.2.1 = true) (hn : i.2.2.2.2.2.2.2.1 = 0) (h8 : Nat.ble (zslots st) 8 = true) (h88 : Nat.beq a 88 = false) (hc : C a [] M (some (.int v)) M1) (h : zwp NC sc zinfo C J fin np es L (.int v :: st) M1) : zwp NC sc zinfo C J fin np ((pc, .invokestatic ix, len, a, b, t) :: es) L (st) M := by
  show (bif Nat.beq a 88 then zmx _ _ else zcs zinfo C a _ _ _)
  rw [h88]
  show zcs zinfo C a _ _ _
  unfold zcs
  rw [hi]
  refine ⟨hs, ?_⟩
  rw [hn]
  exact ⟨Nat.le_of_ble_eq_true h8, _, _, hc, h⟩
theorem p_cv0i {v : Int32} {i : zI} {ix k : Nat} {fs : List (Option Nat)} {M1 : zM} (hi : zinfo a = some i) (hs : i.2.2.2.2.2.1 = false) (hn : i.2.2.2.2.2.2.2.1 = 0) (h8 : Nat.ble (zslots st) 8 = true) (hk : zlay NC k = some (.inl (i.2.2.2.2.2.2.1, fs))) (hc : C a [.ref k] M (some (.int v)) M1) (h : zwp NC sc zinfo C J fin np es L (.int v :: st) M1) : zwp NC sc zinfo C J fin np ((pc, .invokevirtual ix, len, a, b, t) :: es) L (.ref k :: st) M := by
  show zcv NC zinfo C a _ _ _
  unfold zcv
  rw [hi]
  refine ⟨hs, ?_⟩
  rw [hn]
  refine ⟨Nat.le_of_ble_eq_true h8, ?_⟩
  rw [hk]
  exact ⟨rfl, _, _, hc, h⟩
theorem p_cs0v {i : zI} {ix : Nat} {M1 : zM} (hi : zinfo a = some i) (hs : i.2.2.2.2.2.1 = true) (hn : i.2.2.2.2.2.2.2.1 = 0) (h8 : Nat.ble (zslots st) 8 = true) (h88 : Nat.beq a 88 = false) (hc : C a [] M (none) M1) (h : zwp NC sc zinfo C J fin np es L (st) M1) : zwp NC sc zinfo C J fin np ((pc, .invokestatic ix, len, a, b, t) :: es) L (st) M := by
  show (bif Nat.beq a 88 then zmx _ _ else zcs zinfo C a _ _ _)
  rw [h88]
  show zcs zinfo C a _ _ _
  unfold zcs
  rw [hi]
  refine ⟨hs, ?_⟩
  rw [hn]
  exact ⟨Nat.le_of_ble_eq_true h8, _, _, hc, h⟩
theorem p_cv0v {i : zI} {ix k : Nat} {fs : List (Option Nat)} {M1 : zM} (hi : zinfo a = some i) (hs : i.2.2.2.2.2.1 = false) (hn : i.2.2.2.2.2.2.2.1 = 0) (h8 : Nat.ble (zslots st) 8 = true) (hk : zlay NC k = some (.inl (i.2.2.2.2.2.2.1, fs))) (hc : C a [.ref k] M (none) M1) (h : zwp NC sc zinfo C J fin np es L (st) M1) : zwp NC sc zinfo C J fin np ((pc, .invokevirtual ix, len, a, b, t) :: es) L (.ref k :: st) M := by
  show zcv NC zinfo C a _ _ _
  unfold zcv
  rw [hi]
  refine ⟨hs, ?_⟩
  rw [hn]
  refine ⟨Nat.le_of_ble_eq_true h8, ?_⟩
  rw [hk]
  exact ⟨rfl, _, _, hc, h⟩
theorem p_cs0a {v : Nat} {i : zI} {ix : Nat} {M1 : zM} (hi : zinfo a = some i) (hs : i.2.2.2.2.2.1 = true) (hn : i.2.2.2.2.2.2.2.1 = 0) (h8 : Nat.ble (zslots st) 8 = true) (h88 : Nat.beq a 88 = false) (hc : C a [] M (some (.ref v)) M1) (h : zwp NC sc zinfo C J fin np es L (.ref v :: st) M1) : zwp NC sc zinfo C J fin np ((pc, .invokestatic ix, len, a, b, t) :: es) L (st) M := by
  show (bif Nat.beq a 88 then zmx _ _ else zcs zinfo C a _ _ _)
  rw [h88]
  show zcs zinfo C a _ _ _
  unfold zcs
  rw [hi]
  refine ⟨hs, ?_⟩
  rw [hn]
  exact ⟨Nat.le_of_ble_eq_true h8, _, _, hc, h⟩
theorem p_cv0a {v : Nat} {i : zI} {ix k : Nat} {fs : List (Option Nat)} {M1 : zM} (hi : zinfo a = some i) (hs : i.2.2.2.2.2.1 = false) (hn : i.2.2.2.2.2.2.2.1 = 0) (h8 : Nat.ble (zslots st) 8 = true) (hk : zlay NC k = some (.inl (i.2.2.2.2.2.2.1, fs))) (hc : C a [.ref k] M (some (.ref v)) M1) (h : zwp NC sc zinfo C J fin np es L (.ref v :: st) M1) : zwp NC sc zinfo C J fin np ((pc, .invokevirtual ix, len, a, b, t) :: es) L (.ref k :: st) M := by
  show zcv NC zinfo C a _ _ _
  unfold zcv
  rw [hi]
  refine ⟨hs, ?_⟩
  rw [hn]
  refine ⟨Nat.le_of_ble_eq_true h8, ?_⟩
  rw [hk]
  exact ⟨rfl, _, _, hc, h⟩
theorem p_cs1i {w0 : Value} {v : Int32} {i : zI} {ix : Nat} {M1 : zM} (hi : zinfo a = some i) (hs : i.2.2.2.2.2.1 = true) (hn : i.2.2.2.2.2.2.2.1 = 1) (h8 : Nat.ble (zslots st) 8 = true) (h88 : Nat.beq a 88 = false) (hc : C a [w0] M (some (.int v)) M1) (h : zwp NC sc zinfo C J fin np es L (.int v :: st) M1) : zwp NC sc zinfo C J fin np ((pc, .invokestatic ix, len, a, b, t) :: es) L (w0 :: st) M := by
  show (bif Nat.beq a 88 then zmx _ _ else zcs zinfo C a _ _ _)
  rw [h88]
  show zcs zinfo C a _ _ _
  unfold zcs
  rw [hi]
  refine ⟨hs, ?_⟩
  rw [hn]
  exact ⟨Nat.le_of_ble_eq_true h8, _, _, hc, h⟩
theorem p_cv1i {w0 : Value} {v : Int32} {i : zI} {ix k : Nat} {fs : List (Option Nat)} {M1 : zM} (hi : zinfo a = some i) (hs : i.2.2.2.2.2.1 = false) (hn : i.2.2.2.2.2.2.2.1 = 1) (h8 : Nat.ble (zslots st) 8 = true) (hk : zlay NC k = some (.inl (i.2.2.2.2.2.2.1, fs))) (hc : C a [.ref k, w0] M (some (.int v)) M1) (h : zwp NC sc zinfo C J fin np es L (.int v :: st) M1) : zwp NC sc zinfo C J fin np ((pc, .invokevirtual ix, len, a, b, t) :: es) L (w0 :: .ref k :: st) M := by
  show zcv NC zinfo C a _ _ _
  unfold zcv
  rw [hi]
  refine ⟨hs, ?_⟩
  rw [hn]
  refine ⟨Nat.le_of_ble_eq_true h8, ?_⟩
  rw [hk]
  exact ⟨rfl, _, _, hc, h⟩
theorem p_cs1v {w0 : Value} {i : zI} {ix : Nat} {M1 : zM} (hi : zinfo a = some i) (hs : i.2.2.2.2.2.1 = true) (hn : i.2.2.2.2.2.2.2.1 = 1) (h8 : Nat.ble (zslots st) 8 = true) (h88 : Nat.beq a 88 = false) (hc : C a [w0] M (none) M1) (h : zwp NC sc zinfo C J fin np es L (st) M1) : zwp NC sc zinfo C J fin np ((pc, .invokestatic ix, len, a, b, t) :: es) L (w0 :: st) M := by
  show (bif Nat.beq a 88 then zmx _ _ else zcs zinfo C a _ _ _)
  rw [h88]
  show zcs zinfo C a _ _ _
  unfold zcs
  rw [hi]
  refine ⟨hs, ?_⟩
  rw [hn]
  exact ⟨Nat.le_of_ble_eq_true h8, _, _, hc, h⟩
theorem p_cv1v {w0 : Value} {i : zI} {ix k : Nat} {fs : List (Option Nat)} {M1 : zM} (hi : zinfo a = some i) (hs : i.2.2.2.2.2.1 = false) (hn : i.2.2.2.2.2.2.2.1 = 1) (h8 : Nat.ble (zslots st) 8 = true) (hk : zlay NC k = some (.inl (i.2.2.2.2.2.2.1, fs))) (hc : C a [.ref k, w0] M (none) M1) (h : zwp NC sc zinfo C J fin np es L (st) M1) : zwp NC sc zinfo C J fin np ((pc, .invokevirtual ix, len, a, b, t) :: es) L (w0 :: .ref k :: st) M := by
  show zcv NC zinfo C a _ _ _
  unfold zcv
  rw [hi]
  refine ⟨hs, ?_⟩
  rw [hn]
  refine ⟨Nat.le_of_ble_eq_true h8, ?_⟩
  rw [hk]
  exact ⟨rfl, _, _, hc, h⟩
theorem p_cs1a {w0 : Value} {v : Nat} {i : zI} {ix : Nat} {M1 : zM} (hi : zinfo a = some i) (hs : i.2.2.2.2.2.1 = true) (hn : i.2.2.2.2.2.2.2.1 = 1) (h8 : Nat.ble (zslots st) 8 = true) (h88 : Nat.beq a 88 = false) (hc : C a [w0] M (some (.ref v)) M1) (h : zwp NC sc zinfo C J fin np es L (.ref v :: st) M1) : zwp NC sc zinfo C J fin np ((pc, .invokestatic ix, len, a, b, t) :: es) L (w0 :: st) M := by
  show (bif Nat.beq a 88 then zmx _ _ else zcs zinfo C a _ _ _)
  rw [h88]
  show zcs zinfo C a _ _ _
  unfold zcs
  rw [hi]
  refine ⟨hs, ?_⟩
  rw [hn]
  exact ⟨Nat.le_of_ble_eq_true h8, _, _, hc, h⟩
theorem p_cv1a {w0 : Value} {v : Nat} {i : zI} {ix k : Nat} {fs : List (Option Nat)} {M1 : zM} (hi : zinfo a = some i) (hs : i.2.2.2.2.2.1 = false) (hn : i.2.2.2.2.2.2.2.1 = 1) (h8 : Nat.ble (zslots st) 8 = true) (hk : zlay NC k = some (.inl (i.2.2.2.2.2.2.1, fs))) (hc : C a [.ref k, w0] M (some (.ref v)) M1) (h : zwp NC sc zinfo C J fin np es L (.ref v :: st) M1) : zwp NC sc zinfo C J fin np ((pc, .invokevirtual ix, len, a, b, t) :: es) L (w0 :: .ref k :: st) M := by
  show zcv NC zinfo C a _ _ _
  unfold zcv
  rw [hi]
  refine ⟨hs, ?_⟩
  rw [hn]
  refine ⟨Nat.le_of_ble_eq_true h8, ?_⟩
  rw [hk]
  exact ⟨rfl, _, _, hc, h⟩
theorem p_cs2i {w0 w1 : Value} {v : Int32} {i : zI} {ix : Nat} {M1 : zM} (hi : zinfo a = some i) (hs : i.2.2.2.2.2.1 = true) (hn : i.2.2.2.2.2.2.2.1 = 2) (h8 : Nat.ble (zslots st) 8 = true) (h88 : Nat.beq a 88 = false) (hc : C a [w0, w1] M (some (.int v)) M1) (h : zwp NC sc zinfo C J fin np es L (.int v :: st) M1) : zwp NC sc zinfo C J fin np ((pc, .invokestatic ix, len, a, b, t) :: es) L (w1 :: w0 :: st) M := by
  show (bif Nat.beq a 88 then zmx _ _ else zcs zinfo C a _ _ _)
  rw [h88]
  show zcs zinfo C a _ _ _
  unfold zcs
  rw [hi]
  refine ⟨hs, ?_⟩
  rw [hn]
  exact ⟨Nat.le_of_ble_eq_true h8, _, _, hc, h⟩
theorem p_cv2i {w0 w1 : Value} {v : Int32} {i : zI} {ix k : Nat} {fs : List (Option Nat)} {M1 : zM} (hi : zinfo a = some i) (hs : i.2.2.2.2.2.1 = false) (hn : i.2.2.2.2.2.2.2.1 = 2) (h8 : Nat.ble (zslots st) 8 = true) (hk : zlay NC k = some (.inl (i.2.2.2.2.2.2.1, fs))) (hc : C a [.ref k, w0, w1] M (some (.int v)) M1) (h : zwp NC sc zinfo C J fin np es L (.int v :: st) M1) : zwp NC sc zinfo C J fin np ((pc, .invokevirtual ix, len, a, b, t) :: es) L (w1 :: w0 :: .ref k :: st) M := by
  show zcv NC zinfo C a _ _ _
  unfold zcv
  rw [hi]
  refine ⟨hs, ?_⟩
  rw [hn]
  refine ⟨Nat.le_of_ble_eq_true h8, ?_⟩
  rw [hk]
  exact ⟨rfl, _, _, hc, h⟩
theorem p_cs2v {w0 w1 : Value} {i : zI} {ix : Nat} {M1 : zM} (hi : zinfo a = some i) (hs : i.2.2.2.2.2.1 = true) (hn : i.2.2.2.2.2.2.2.1 = 2) (h8 : Nat.ble (zslots st) 8 = true) (h88 : Nat.beq a 88 = false) (hc : C a [w0, w1] M (none) M1) (h : zwp NC sc zinfo C J fin np es L (st) M1) : zwp NC sc zinfo C J fin np ((pc, .invokestatic ix, len, a, b, t) :: es) L (w1 :: w0 :: st) M := by
  show (bif Nat.beq a 88 then zmx _ _ else zcs zinfo C a _ _ _)
  rw [h88]
  show zcs zinfo C a _ _ _
  unfold zcs
  rw [hi]
  refine ⟨hs, ?_⟩
  rw [hn]
  exact ⟨Nat.le_of_ble_eq_true h8, _, _, hc, h⟩
theorem p_cv2v {w0 w1 : Value} {i : zI} {ix k : Nat} {fs : List (Option Nat)} {M1 : zM} (hi : zinfo a = some i) (hs : i.2.2.2.2.2.1 = false) (hn : i.2.2.2.2.2.2.2.1 = 2) (h8 : Nat.ble (zslots st) 8 = true) (hk : zlay NC k = some (.inl (i.2.2.2.2.2.2.1, fs))) (hc : C a [.ref k, w0, w1] M (none) M1) (h : zwp NC sc zinfo C J fin np es L (st) M1) : zwp NC sc zinfo C J fin np ((pc, .invokevirtual ix, len, a, b, t) :: es) L (w1 :: w0 :: .ref k :: st) M := by
  show zcv NC zinfo C a _ _ _
  unfold zcv
  rw [hi]
  refine ⟨hs, ?_⟩
  rw [hn]
  refine ⟨Nat.le_of_ble_eq_true h8, ?_⟩
  rw [hk]
  exact ⟨rfl, _, _, hc, h⟩
theorem p_cs2a {w0 w1 : Value} {v : Nat} {i : zI} {ix : Nat} {M1 : zM} (hi : zinfo a = some i) (hs : i.2.2.2.2.2.1 = true) (hn : i.2.2.2.2.2.2.2.1 = 2) (h8 : Nat.ble (zslots st) 8 = true) (h88 : Nat.beq a 88 = false) (hc : C a [w0, w1] M (some (.ref v)) M1) (h : zwp NC sc zinfo C J fin np es L (.ref v :: st) M1) : zwp NC sc zinfo C J fin np ((pc, .invokestatic ix, len, a, b, t) :: es) L (w1 :: w0 :: st) M := by
  show (bif Nat.beq a 88 then zmx _ _ else zcs zinfo C a _ _ _)
  rw [h88]
  show zcs zinfo C a _ _ _
  unfold zcs
  rw [hi]
  refine ⟨hs, ?_⟩
  rw [hn]
  exact ⟨Nat.le_of_ble_eq_true h8, _, _, hc, h⟩
theorem p_cv2a {w0 w1 : Value} {v : Nat} {i : zI} {ix k : Nat} {fs : List (Option Nat)} {M1 : zM} (hi : zinfo a = some i) (hs : i.2.2.2.2.2.1 = false) (hn : i.2.2.2.2.2.2.2.1 = 2) (h8 : Nat.ble (zslots st) 8 = true) (hk : zlay NC k = some (.inl (i.2.2.2.2.2.2.1, fs))) (hc : C a [.ref k, w0, w1] M (some (.ref v)) M1) (h : zwp NC sc zinfo C J fin np es L (.ref v :: st) M1) : zwp NC sc zinfo C J fin np ((pc, .invokevirtual ix, len, a, b, t) :: es) L (w1 :: w0 :: .ref k :: st) M := by
  show zcv NC zinfo C a _ _ _
  unfold zcv
  rw [hi]
  refine ⟨hs, ?_⟩
  rw [hn]
  refine ⟨Nat.le_of_ble_eq_true h8, ?_⟩
  rw [hk]
  exact ⟨rfl, _, _, hc, h⟩
theorem p_cs3i {w0 w1 w2 : Value} {v : Int32} {i : zI} {ix : Nat} {M1 : zM} (hi : zinfo a = some i) (hs : i.2.2.2.2.2.1 = true) (hn : i.2.2.2.2.2.2.2.1 = 3) (h8 : Nat.ble (zslots st) 8 = true) (h88 : Nat.beq a 88 = false) (hc : C a [w0, w1, w2] M (some (.int v)) M1) (h : zwp NC sc zinfo C J fin np es L (.int v :: st) M1) : zwp NC sc zinfo C J fin np ((pc, .invokestatic ix, len, a, b, t) :: es) L (w2 :: w1 :: w0 :: st) M := by
  show (bif Nat.beq a 88 then zmx _ _ else zcs zinfo C a _ _ _)
  rw [h88]
  show zcs zinfo C a _ _ _
  unfold zcs
  rw [hi]
  refine ⟨hs, ?_⟩
  rw [hn]
  exact ⟨Nat.le_of_ble_eq_true h8, _, _, hc, h⟩
theorem p_cv3i {w0 w1 w2 : Value} {v : Int32} {i : zI} {ix k : Nat} {fs : List (Option Nat)} {M1 : zM} (hi : zinfo a = some i) (hs : i.2.2.2.2.2.1 = false) (hn : i.2.2.2.2.2.2.2.1 = 3) (h8 : Nat.ble (zslots st) 8 = true) (hk : zlay NC k = some (.inl (i.2.2.2.2.2.2.1, fs))) (hc : C a [.ref k, w0, w1, w2] M (some (.int v)) M1) (h : zwp NC sc zinfo C J fin np es L (.int v :: st) M1) : zwp NC sc zinfo C J fin np ((pc, .invokevirtual ix, len, a, b, t) :: es) L (w2 :: w1 :: w0 :: .ref k :: st) M := by
  show zcv NC zinfo C a _ _ _
  unfold zcv
  rw [hi]
  refine ⟨hs, ?_⟩
  rw [hn]
  refine ⟨Nat.le_of_ble_eq_true h8, ?_⟩
  rw [hk]
  exact ⟨rfl, _, _, hc, h⟩
theorem p_cs3v {w0 w1 w2 : Value} {i : zI} {ix : Nat} {M1 : zM} (hi : zinfo a = some i) (hs : i.2.2.2.2.2.1 = true) (hn : i.2.2.2.2.2.2.2.1 = 3) (h8 : Nat.ble (zslots st) 8 = true) (h88 : Nat.beq a 88 = false) (hc : C a [w0, w1, w2] M (none) M1) (h : zwp NC sc zinfo C J fin np es L (st) M1) : zwp NC sc zinfo C J fin np ((pc, .invokestatic ix, len, a, b, t) :: es) L (w2 :: w1 :: w0 :: st) M := by
  show (bif Nat.beq a 88 then zmx _ _ else zcs zinfo C a _ _ _)
  rw [h88]
  show zcs zinfo C a _ _ _
  unfold zcs
  rw [hi]
  refine ⟨hs, ?_⟩
  rw [hn]
  exact ⟨Nat.le_of_ble_eq_true h8, _, _, hc, h⟩
theorem p_cv3v {w0 w1 w2 : Value} {i : zI} {ix k : Nat} {fs : List (Option Nat)} {M1 : zM} (hi : zinfo a = some i) (hs : i.2.2.2.2.2.1 = false) (hn : i.2.2.2.2.2.2.2.1 = 3) (h8 : Nat.ble (zslots st) 8 = true) (hk : zlay NC k = some (.inl (i.2.2.2.2.2.2.1, fs))) (hc : C a [.ref k, w0, w1, w2] M (none) M1) (h : zwp NC sc zinfo C J fin np es L (st) M1) : zwp NC sc zinfo C J fin np ((pc, .invokevirtual ix, len, a, b, t) :: es) L (w2 :: w1 :: w0 :: .ref k :: st) M := by
  show zcv NC zinfo C a _ _ _
  unfold zcv
  rw [hi]
  refine ⟨hs, ?_⟩
  rw [hn]
  refine ⟨Nat.le_of_ble_eq_true h8, ?_⟩
  rw [hk]
  exact ⟨rfl, _, _, hc, h⟩
theorem p_cs3a {w0 w1 w2 : Value} {v : Nat} {i : zI} {ix : Nat} {M1 : zM} (hi : zinfo a = some i) (hs : i.2.2.2.2.2.1 = true) (hn : i.2.2.2.2.2.2.2.1 = 3) (h8 : Nat.ble (zslots st) 8 = true) (h88 : Nat.beq a 88 = false) (hc : C a [w0, w1, w2] M (some (.ref v)) M1) (h : zwp NC sc zinfo C J fin np es L (.ref v :: st) M1) : zwp NC sc zinfo C J fin np ((pc, .invokestatic ix, len, a, b, t) :: es) L (w2 :: w1 :: w0 :: st) M := by
  show (bif Nat.beq a 88 then zmx _ _ else zcs zinfo C a _ _ _)
  rw [h88]
  show zcs zinfo C a _ _ _
  unfold zcs
  rw [hi]
  refine ⟨hs, ?_⟩
  rw [hn]
  exact ⟨Nat.le_of_ble_eq_true h8, _, _, hc, h⟩
theorem p_cv3a {w0 w1 w2 : Value} {v : Nat} {i : zI} {ix k : Nat} {fs : List (Option Nat)} {M1 : zM} (hi : zinfo a = some i) (hs : i.2.2.2.2.2.1 = false) (hn : i.2.2.2.2.2.2.2.1 = 3) (h8 : Nat.ble (zslots st) 8 = true) (hk : zlay NC k = some (.inl (i.2.2.2.2.2.2.1, fs))) (hc : C a [.ref k, w0, w1, w2] M (some (.ref v)) M1) (h : zwp NC sc zinfo C J fin np es L (.ref v :: st) M1) : zwp NC sc zinfo C J fin np ((pc, .invokevirtual ix, len, a, b, t) :: es) L (w2 :: w1 :: w0 :: .ref k :: st) M := by
  show zcv NC zinfo C a _ _ _
  unfold zcv
  rw [hi]
  refine ⟨hs, ?_⟩
  rw [hn]
  refine ⟨Nat.le_of_ble_eq_true h8, ?_⟩
  rw [hk]
  exact ⟨rfl, _, _, hc, h⟩
theorem p_cs4i {w0 w1 w2 w3 : Value} {v : Int32} {i : zI} {ix : Nat} {M1 : zM} (hi : zinfo a = some i) (hs : i.2.2.2.2.2.1 = true) (hn : i.2.2.2.2.2.2.2.1 = 4) (h8 : Nat.ble (zslots st) 8 = true) (h88 : Nat.beq a 88 = false) (hc : C a [w0, w1, w2, w3] M (some (.int v)) M1) (h : zwp NC sc zinfo C J fin np es L (.int v :: st) M1) : zwp NC sc zinfo C J fin np ((pc, .invokestatic ix, len, a, b, t) :: es) L (w3 :: w2 :: w1 :: w0 :: st) M := by
  show (bif Nat.beq a 88 then zmx _ _ else zcs zinfo C a _ _ _)
  rw [h88]
  show zcs zinfo C a _ _ _
  unfold zcs
  rw [hi]
  refine ⟨hs, ?_⟩
  rw [hn]
  exact ⟨Nat.le_of_ble_eq_true h8, _, _, hc, h⟩
theorem p_cv4i {w0 w1 w2 w3 : Value} {v : Int32} {i : zI} {ix k : Nat} {fs : List (Option Nat)} {M1 : zM} (hi : zinfo a = some i) (hs : i.2.2.2.2.2.1 = false) (hn : i.2.2.2.2.2.2.2.1 = 4) (h8 : Nat.ble (zslots st) 8 = true) (hk : zlay NC k = some (.inl (i.2.2.2.2.2.2.1, fs))) (hc : C a [.ref k, w0, w1, w2, w3] M (some (.int v)) M1) (h : zwp NC sc zinfo C J fin np es L (.int v :: st) M1) : zwp NC sc zinfo C J fin np ((pc, .invokevirtual ix, len, a, b, t) :: es) L (w3 :: w2 :: w1 :: w0 :: .ref k :: st) M := by
  show zcv NC zinfo C a _ _ _
  unfold zcv
  rw [hi]
  refine ⟨hs, ?_⟩
  rw [hn]
  refine ⟨Nat.le_of_ble_eq_true h8, ?_⟩
  rw [hk]
  exact ⟨rfl, _, _, hc, h⟩
theorem p_cs4v {w0 w1 w2 w3 : Value} {i : zI} {ix : Nat} {M1 : zM} (hi : zinfo a = some i) (hs : i.2.2.2.2.2.1 = true) (hn : i.2.2.2.2.2.2.2.1 = 4) (h8 : Nat.ble (zslots st) 8 = true) (h88 : Nat.beq a 88 = false) (hc : C a [w0, w1, w2, w3] M (none) M1) (h : zwp NC sc zinfo C J fin np es L (st) M1) : zwp NC sc zinfo C J fin np ((pc, .invokestatic ix, len, a, b, t) :: es) L (w3 :: w2 :: w1 :: w0 :: st) M := by
  show (bif Nat.beq a 88 then zmx _ _ else zcs zinfo C a _ _ _)
  rw [h88]
  show zcs zinfo C a _ _ _
  unfold zcs
  rw [hi]
  refine ⟨hs, ?_⟩
  rw [hn]
  exact ⟨Nat.le_of_ble_eq_true h8, _, _, hc, h⟩
theorem p_cv4v {w0 w1 w2 w3 : Value} {i : zI} {ix k : Nat} {fs : List (Option Nat)} {M1 : zM} (hi : zinfo a = some i) (hs : i.2.2.2.2.2.1 = false) (hn : i.2.2.2.2.2.2.2.1 = 4) (h8 : Nat.ble (zslots st) 8 = true) (hk : zlay NC k = some (.inl (i.2.2.2.2.2.2.1, fs))) (hc : C a [.ref k, w0, w1, w2, w3] M (none) M1) (h : zwp NC sc zinfo C J fin np es L (st) M1) : zwp NC sc zinfo C J fin np ((pc, .invokevirtual ix, len, a, b, t) :: es) L (w3 :: w2 :: w1 :: w0 :: .ref k :: st) M := by
  show zcv NC zinfo C a _ _ _
  unfold zcv
  rw [hi]
  refine ⟨hs, ?_⟩
  rw [hn]
  refine ⟨Nat.le_of_ble_eq_true h8, ?_⟩
  rw [hk]
  exact ⟨rfl, _, _, hc, h⟩
theorem p_cs4a {w0 w1 w2 w3 : Value} {v : Nat} {i : zI} {ix : Nat} {M1 : zM} (hi : zinfo a = some i) (hs : i.2.2.2.2.2.1 = true) (hn : i.2.2.2.2.2.2.2.1 = 4) (h8 : Nat.ble (zslots st) 8 = true) (h88 : Nat.beq a 88 = false) (hc : C a [w0, w1, w2, w3] M (some (.ref v)) M1) (h : zwp NC sc zinfo C J fin np es L (.ref v :: st) M1) : zwp NC sc zinfo C J fin np ((pc, .invokestatic ix, len, a, b, t) :: es) L (w3 :: w2 :: w1 :: w0 :: st) M := by
  show (bif Nat.beq a 88 then zmx _ _ else zcs zinfo C a _ _ _)
  rw [h88]
  show zcs zinfo C a _ _ _
  unfold zcs
  rw [hi]
  refine ⟨hs, ?_⟩
  rw [hn]
  exact ⟨Nat.le_of_ble_eq_true h8, _, _, hc, h⟩
theorem p_cv4a {w0 w1 w2 w3 : Value} {v : Nat} {i : zI} {ix k : Nat} {fs : List (Option Nat)} {M1 : zM} (hi : zinfo a = some i) (hs : i.2.2.2.2.2.1 = false) (hn : i.2.2.2.2.2.2.2.1 = 4) (h8 : Nat.ble (zslots st) 8 = true) (hk : zlay NC k = some (.inl (i.2.2.2.2.2.2.1, fs))) (hc : C a [.ref k, w0, w1, w2, w3] M (some (.ref v)) M1) (h : zwp NC sc zinfo C J fin np es L (.ref v :: st) M1) : zwp NC sc zinfo C J fin np ((pc, .invokevirtual ix, len, a, b, t) :: es) L (w3 :: w2 :: w1 :: w0 :: .ref k :: st) M := by
  show zcv NC zinfo C a _ _ _
  unfold zcv
  rw [hi]
  refine ⟨hs, ?_⟩
  rw [hn]
  refine ⟨Nat.le_of_ble_eq_true h8, ?_⟩
  rw [hk]
  exact ⟨rfl, _, _, hc, h⟩
theorem p_cs5i {w0 w1 w2 w3 w4 : Value} {v : Int32} {i : zI} {ix : Nat} {M1 : zM} (hi : zinfo a = some i) (hs : i.2.2.2.2.2.1 = true) (hn : i.2.2.2.2.2.2.2.1 = 5) (h8 : Nat.ble (zslots st) 8 = true) (h88 : Nat.beq a 88 = false) (hc : C a [w0, w1, w2, w3, w4] M (some (.int v)) M1) (h : zwp NC sc zinfo C J fin np es L (.int v :: st) M1) : zwp NC sc zinfo C J fin np ((pc, .invokestatic ix, len, a, b, t) :: es) L (w4 :: w3 :: w2 :: w1 :: w0 :: st) M := by
  show (bif Nat.beq a 88 then zmx _ _ else zcs zinfo C a _ _ _)
  rw [h88]
  show zcs zinfo C a _ _ _
  unfold zcs
  rw [hi]
  refine ⟨hs, ?_⟩
  rw [hn]
  exact ⟨Nat.le_of_ble_eq_true h8, _, _, hc, h⟩
theorem p_cv5i {w0 w1 w2 w3 w4 : Value} {v : Int32} {i : zI} {ix k : Nat} {fs : List (Option Nat)} {M1 : zM} (hi : zinfo a = some i) (hs : i.2.2.2.2.2.1 = false) (hn : i.2.2.2.2.2.2.2.1 = 5) (h8 : Nat.ble (zslots st) 8 = true) (hk : zlay NC k = some (.inl (i.2.2.2.2.2.2.1, fs))) (hc : C a [.ref k, w0, w1, w2, w3, w4] M (some (.int v)) M1) (h : zwp NC sc zinfo C J fin np es L (.int v :: st) M1) : zwp NC sc zinfo C J fin np ((pc, .invokevirtual ix, len, a, b, t) :: es) L (w4 :: w3 :: w2 :: w1 :: w0 :: .ref k :: st) M := by
  show zcv NC zinfo C a _ _ _
  unfold zcv
  rw [hi]
  refine ⟨hs, ?_⟩
  rw [hn]
  refine ⟨Nat.le_of_ble_eq_true h8, ?_⟩
  rw [hk]
  exact ⟨rfl, _, _, hc, h⟩
theorem p_cs5v {w0 w1 w2 w3 w4 : Value} {i : zI} {ix : Nat} {M1 : zM} (hi : zinfo a = some i) (hs : i.2.2.2.2.2.1 = true) (hn : i.2.2.2.2.2.2.2.1 = 5) (h8 : Nat.ble (zslots st) 8 = true) (h88 : Nat.beq a 88 = false) (hc : C a [w0, w1, w2, w3, w4] M (none) M1) (h : zwp NC sc zinfo C J fin np es L (st) M1) : zwp NC sc zinfo C J fin np ((pc, .invokestatic ix, len, a, b, t) :: es) L (w4 :: w3 :: w2 :: w1 :: w0 :: st) M := by
  show (bif Nat.beq a 88 then zmx _ _ else zcs zinfo C a _ _ _)
  rw [h88]
  show zcs zinfo C a _ _ _
  unfold zcs
  rw [hi]
  refine ⟨hs, ?_⟩
  rw [hn]
  exact ⟨Nat.le_of_ble_eq_true h8, _, _, hc, h⟩
theorem p_cv5v {w0 w1 w2 w3 w4 : Value} {i : zI} {ix k : Nat} {fs : List (Option Nat)} {M1 : zM} (hi : zinfo a = some i) (hs : i.2.2.2.2.2.1 = false) (hn : i.2.2.2.2.2.2.2.1 = 5) (h8 : Nat.ble (zslots st) 8 = true) (hk : zlay NC k = some (.inl (i.2.2.2.2.2.2.1, fs))) (hc : C a [.ref k, w0, w1, w2, w3, w4] M (none) M1) (h : zwp NC sc zinfo C J fin np es L (st) M1) : zwp NC sc zinfo C J fin np ((pc, .invokevirtual ix, len, a, b, t) :: es) L (w4 :: w3 :: w2 :: w1 :: w0 :: .ref k :: st) M := by
  show zcv NC zinfo C a _ _ _
  unfold zcv
  rw [hi]
  refine ⟨hs, ?_⟩
  rw [hn]
  refine ⟨Nat.le_of_ble_eq_true h8, ?_⟩
  rw [hk]
  exact ⟨rfl, _, _, hc, h⟩
theorem p_cs5a {w0 w1 w2 w3 w4 : Value} {v : Nat} {i : zI} {ix : Nat} {M1 : zM} (hi : zinfo a = some i) (hs : i.2.2.2.2.2.1 = true) (hn : i.2.2.2.2.2.2.2.1 = 5) (h8 : Nat.ble (zslots st) 8 = true) (h88 : Nat.beq a 88 = false) (hc : C a [w0, w1, w2, w3, w4] M (some (.ref v)) M1) (h : zwp NC sc zinfo C J fin np es L (.ref v :: st) M1) : zwp NC sc zinfo C J fin np ((pc, .invokestatic ix, len, a, b, t) :: es) L (w4 :: w3 :: w2 :: w1 :: w0 :: st) M := by
  show (bif Nat.beq a 88 then zmx _ _ else zcs zinfo C a _ _ _)
  rw [h88]
  show zcs zinfo C a _ _ _
  unfold zcs
  rw [hi]
  refine ⟨hs, ?_⟩
  rw [hn]
  exact ⟨Nat.le_of_ble_eq_true h8, _, _, hc, h⟩
theorem p_cv5a {w0 w1 w2 w3 w4 : Value} {v : Nat} {i : zI} {ix k : Nat} {fs : List (Option Nat)} {M1 : zM} (hi : zinfo a = some i) (hs : i.2.2.2.2.2.1 = false) (hn : i.2.2.2.2.2.2.2.1 = 5) (h8 : Nat.ble (zslots st) 8 = true) (hk : zlay NC k = some (.inl (i.2.2.2.2.2.2.1, fs))) (hc : C a [.ref k, w0, w1, w2, w3, w4] M (some (.ref v)) M1) (h : zwp NC sc zinfo C J fin np es L (.ref v :: st) M1) : zwp NC sc zinfo C J fin np ((pc, .invokevirtual ix, len, a, b, t) :: es) L (w4 :: w3 :: w2 :: w1 :: w0 :: .ref k :: st) M := by
  show zcv NC zinfo C a _ _ _
  unfold zcv
  rw [hi]
  refine ⟨hs, ?_⟩
  rw [hn]
  refine ⟨Nat.le_of_ble_eq_true h8, ?_⟩
  rw [hk]
  exact ⟨rfl, _, _, hc, h⟩
theorem p_max {x y : Int32} {ix : Nat} (h88 : Nat.beq a 88 = true) (h8 : Nat.ble (zslots st) 8 = true) (h : zwp NC sc zinfo C J fin np es L (.int (if x < y then y else x) :: st) M) : zwp NC sc zinfo C J fin np ((pc, .invokestatic ix, len, a, b, t) :: es) L (.int y :: .int x :: st) M := by
  show (bif Nat.beq a 88 then zmx _ _ else zcs zinfo C a _ _ _)
  rw [h88]
  exact ⟨Nat.le_of_ble_eq_true h8, h⟩
end ZP
section ZQ
variable {NC : Nat} {sc : Nat × (Nat → Int32)} {C : Nat → List Value → zM → Option Value → zM → Prop} {J : Nat → List Value → List Value → zM → Prop} {np pc len a b t k : Nat} {r : Option Value} {es : List zE} {L st : List Value} {M M' : zM}
theorem p_iret {v : Int32} (hf : zfit k (some (.int v))) (hr : some (.int v) = r) (hM : M = M') : zwp NC sc zinfo C J (zfin k r M') np ((pc, .ireturn, len, a, b, t) :: es) L [.int v] M := ⟨hf, hr, hM⟩
theorem p_aret {v : Nat} (hf : zfit k (some (.ref v))) (hr : some (.ref v) = r) (hM : M = M') : zwp NC sc zinfo C J (zfin k r M') np ((pc, .areturn, len, a, b, t) :: es) L [.ref v] M := ⟨hf, hr, hM⟩
theorem p_vret (hf : zfit k none) (hr : none = r) (hM : M = M') : zwp NC sc zinfo C J (zfin k r M') np ((pc, .return_, len, a, b, t) :: es) L [] M := ⟨hf, hr, hM⟩
end ZQ
end
section
/-! a local that is forgotten (null) may hold anything -/
def zsub : List Value → List Value → Prop
  | [], [] => True
  | a :: r, b :: s => (a = b ∨ a = .null) ∧ zsub r s
  | _, _ => False
theorem zsub_rf : ∀ L : List Value, zsub L L
  | [] => trivial
  | _ :: r => ⟨Or.inl rfl, zsub_rf r⟩
theorem zsub_len : ∀ {A L : List Value}, zsub A L → A.length = L.length
  | [], [], _ => rfl
  | _ :: r, _ :: s, h => by simp [zsub_len h.2]
  | [], _ :: _, h => h.elim
  | _ :: _, [], h => h.elim
theorem zsub_get {v : Value} (hv : ¬ v = .null) : ∀ {A L : List Value} {i : Nat}, zsub A L → zget A i = some v → zget L i = some v
  | [], [], _, _, h => h
  | a :: r, b :: s, 0, h, g => by
    simp only [zget, Option.some.injEq] at g ⊢
    rcases h.1 with e | e
    · rw [← e]; exact g
    · exact absurd (g.symm.trans e) hv
  | _ :: r, _ :: s, i + 1, h, g => zsub_get hv (A := r) (L := s) (i := i) h.2 g
  | [], _ :: _, _, h, _ => h.elim
  | _ :: _, [], _, h, _ => h.elim
theorem zsub_sl (v : Value) : ∀ {A L : List Value} {i : Nat}, zsub A L → zsub (zsl A i v) (zsl L i v)
  | [], [], _, _ => by simp [zsl, zsub]
  | a :: r, b :: s, 0, h => ⟨Or.inl rfl, h.2⟩
  | a :: r, b :: s, i + 1, h => by
    have ih := zsub_sl v (A := r) (L := s) (i := i) h.2
    rcases h.1 with e | e
    · subst e
      rcases zsl_cons a r i v with e1 | ⟨e1, n1⟩ <;> rcases zsl_cons a s i v with e2 | ⟨e2, n2⟩
      · rw [e1, e2]; exact ⟨Or.inl rfl, ih⟩
      · rw [e1, e2]; exact ⟨Or.inr rfl, ih⟩
      · cases a <;> cases i <;> first | (rw [e1, e2]; exact ⟨Or.inl rfl, ih⟩) | (exfalso; simp [zsl] at e2; done) | (exfalso; simp [Value.category] at n1; done)
      · rw [e1, e2]; exact ⟨Or.inl rfl, ih⟩
    · subst e
      rcases zsl_cons b s i v with e2 | ⟨e2, n2⟩
      · rw [e2]; cases i <;> exact ⟨Or.inl rfl, ih⟩
      · rw [e2]; cases i <;> exact ⟨Or.inr rfl, ih⟩
  | [], _ :: _, _, h => h.elim
  | _ :: _, [], _, h => h.elim
section ZM
variable {NC : Nat} {sc : Nat × (Nat → Int32)} {C : Nat → List Value → zM → Option Value → zM → Prop} {J J' : Nat → List Value → List Value → zM → Prop} {fin : Option Value → zM → Prop} {κ κ' : List Value → List Value → zM → Prop}
set_option maxHeartbeats 2000000 in
theorem zop_forget (hJ0 : ∀ t A L st M, J t A st M → zsub A L → J' t L st M) (hκ0 : ∀ A L st M, κ A st M → zsub A L → κ' L st M) {E : zE} {A L st : List Value} {M : zM} (hs : zsub A L) (h : zop NC sc zinfo C J fin κ E A st M) : zop NC sc zinfo C J' fin κ' E L st M := by
  have hκ : ∀ st M, κ A st M → κ' L st M := fun st M h => hκ0 A L st M h hs
  have hJ : ∀ t st M, J t A st M → J' t L st M := fun t st M h => hJ0 t A L st M h hs
  obtain ⟨pc, i, len, a, b, t⟩ := E
  cases i
  all_goals (try dsimp only [zop] at h ⊢)
  case iconst n => exact hκ _ _ h
  case bipush n => exact hκ _ _ h
  case sipush n => exact hκ _ _ h
  case ldc n => exact hκ _ _ h
  case ldc_w n => exact hκ _ _ h
  case ldc2_w n => exact hκ _ _ h
  case iload_n i =>
    obtain ⟨x, h1, h2⟩ := zldI_x h
    unfold zldI
    rw [zsub_get (by simp) hs h1]
    exact hκ _ _ h2
  case iload i =>
    obtain ⟨x, h1, h2⟩ := zldI_x h
    unfold zldI
    rw [zsub_get (by simp) hs h1]
    exact hκ _ _ h2
  case lload_n i =>
    obtain ⟨x, h1, h2⟩ := zldJ_x h
    unfold zldJ
    rw [zsub_get (by simp) hs h1]
    exact hκ _ _ h2
  case aload_n i =>
    obtain ⟨x, h1, h2⟩ := zldA_x h
    unfold zldA
    rw [zsub_get (by simp) hs h1]
    exact hκ _ _ h2
  case aload i =>
    obtain ⟨x, h1, h2⟩ := zldA_x h
    unfold zldA
    rw [zsub_get (by simp) hs h1]
    exact hκ _ _ h2
  case istore_n i =>
    obtain ⟨x, r, rfl, h1, h2⟩ := zstI_x h
    exact ⟨by rw [← zsub_len hs]; exact h1, hκ0 _ _ _ _ h2 (zsub_sl _ hs)⟩
  case istore i =>
    obtain ⟨x, r, rfl, h1, h2⟩ := zstI_x h
    exact ⟨by rw [← zsub_len hs]; exact h1, hκ0 _ _ _ _ h2 (zsub_sl _ hs)⟩
  case astore_n i =>
    obtain ⟨x, r, rfl, h1, h2⟩ := zstA_x h
    exact ⟨by rw [← zsub_len hs]; exact h1, hκ0 _ _ _ _ h2 (zsub_sl _ hs)⟩
  case astore i =>
    obtain ⟨x, r, rfl, h1, h2⟩ := zstA_x h
    exact ⟨by rw [← zsub_len hs]; exact h1, hκ0 _ _ _ _ h2 (zsub_sl _ hs)⟩
  case iinc i n =>
    obtain ⟨x, h0, h1, h2⟩ := zinc_x h
    unfold zinc
    rw [zsub_get (by simp) hs h0]
    exact ⟨by rw [← zsub_len hs]; exact h1, hκ0 _ _ _ _ h2 (zsub_sl _ hs)⟩
  case iadd =>
    obtain ⟨x, y, r, rfl, h1⟩ := zb2_x h
    exact hκ _ _ h1
  case isub =>
    obtain ⟨x, y, r, rfl, h1⟩ := zb2_x h
    exact hκ _ _ h1
  case imul =>
    obtain ⟨x, y, r, rfl, h1⟩ := zb2_x h
    exact hκ _ _ h1
  case iand =>
    obtain ⟨x, y, r, rfl, h1⟩ := zb2_x h
    exact hκ _ _ h1
  case ior =>
    obtain ⟨x, y, r, rfl, h1⟩ := zb2_x h
    exact hκ _ _ h1
  case ixor =>
    obtain ⟨x, y, r, rfl, h1⟩ := zb2_x h
    exact hκ _ _ h1
  case ishl =>
    obtain ⟨x, y, r, rfl, h1⟩ := zb2_x h
    exact hκ _ _ h1
  case ishr =>
    obtain ⟨x, y, r, rfl, h1⟩ := zb2_x h
    exact hκ _ _ h1
  case iushr =>
    obtain ⟨x, y, r, rfl, h1⟩ := zb2_x h
    exact hκ _ _ h1
  case ineg =>
    obtain ⟨x, r, rfl, h1⟩ := zu1_x h
    exact hκ _ _ h1
  case i2b =>
    obtain ⟨x, r, rfl, h1⟩ := zu1_x h
    exact hκ _ _ h1
  case i2l =>
    obtain ⟨x, r, rfl, h1⟩ := zi2l_x h
    exact hκ _ _ h1
  case l2i =>
    obtain ⟨x, r, rfl, h1⟩ := zl2i_x h
    exact hκ _ _ h1
  case land =>
    obtain ⟨x, y, r, rfl, h1⟩ := zl2_x h
    exact hκ _ _ h1
  case lor =>
    obtain ⟨x, y, r, rfl, h1⟩ := zl2_x h
    exact hκ _ _ h1
  case lshl =>
    obtain ⟨x, y, r, rfl, h1⟩ := zls_x h
    exact hκ _ _ h1
  case lshr =>
    obtain ⟨x, y, r, rfl, h1⟩ := zls_x h
    exact hκ _ _ h1
  case lushr =>
    obtain ⟨x, y, r, rfl, h1⟩ := zls_x h
    exact hκ _ _ h1
  case irem =>
    obtain ⟨x, y, r, rfl, h0, h1⟩ := zrem_x h
    exact ⟨h0, hκ _ _ h1⟩
  case dup =>
    obtain ⟨v, r, rfl, h0, h1⟩ := zdup_x h
    exact ⟨h0, hκ _ _ h1⟩
  case dup2 =>
    obtain ⟨v, w, r, rfl, h0, h1, h2⟩ := zdup2_x h
    exact ⟨h0, h1, hκ _ _ h2⟩
  case goto off => exact zjmp_m h (fun t => hJ _ _ _)
  case ifCond cd off =>
    obtain ⟨x, r, rfl, h0, h1, h2⟩ := zifc_x h
    exact ⟨h0, fun q => hJ _ _ _ (h1 q), fun q => hκ _ _ (h2 q)⟩
  case if_icmp cd off =>
    obtain ⟨x, y, r, rfl, h0, h1, h2⟩ := zicm_x h
    exact ⟨h0, fun q => hJ _ _ _ (h1 q), fun q => hκ _ _ (h2 q)⟩
  case tableswitch df lo hi offs =>
    obtain ⟨x, r, rfl, h1, h2⟩ := zts_x h
    exact ⟨fun q => zjmp_m (h1 q) (fun t => hJ _ _ _), fun q1 q2 => by
      obtain ⟨off, h3, h4⟩ := h2 q1 q2
      exact ⟨off, h3, zjmp_m h4 (fun t => hJ _ _ _)⟩⟩
  case lookupswitch df ps =>
    obtain ⟨x, r, rfl, h1, h2⟩ := zlks_x h
    exact ⟨h1, zjmp_m h2 (fun t => hJ _ _ _)⟩
  case getfield ix =>
    obtain ⟨k, r, fs, q, rfl, h1, h2, h3⟩ := zgf_x h
    unfold zgf
    dsimp only
    rw [h1]
    refine ⟨rfl, ?_⟩
    rw [h2]
    cases q <;> exact hκ _ _ h3
  case putfield ix =>
    obtain ⟨x, k, r, fs, rfl, h1, h2, h4, h3⟩ := zpf_x h
    unfold zpf
    dsimp only
    rw [h1]
    refine ⟨rfl, ?_⟩
    rw [h2]
    exact ⟨h4, hκ _ _ h3⟩
  case getstatic ix => exact ⟨h.1, hκ _ _ h.2⟩
  case iaload =>
    have h0 : zald NC sc M st (fun r => κ A r M) := h
    show zald NC sc M st (fun r => κ' L r M)
    unfold zald at h0 ⊢
    split at h0
    · split at h0
      · exact ⟨h0.1, hκ _ _ h0.2⟩
      · exact ⟨h0.1, h0.2.1, h0.2.2.1, hκ _ _ h0.2.2.2⟩
      · exact h0.elim
    · exact h0.elim
  case baload =>
    have h0 : zbld NC M st (fun r => κ A r M) := h
    show zbld NC M st (fun r => κ' L r M)
    unfold zbld at h0 ⊢
    split at h0
    · split at h0
      · exact ⟨h0.1, hκ _ _ h0.2⟩
      · exact ⟨h0.1, hκ _ _ h0.2⟩
      · exact h0.elim
    · exact h0.elim
  case iastore =>
    have h0 : zast NC M st (fun r M' => κ A r M') := h
    show zast NC M st (fun r M' => κ' L r M')
    unfold zast at h0 ⊢
    split at h0
    · split at h0
      · exact ⟨h0.1, hκ _ _ h0.2⟩
      · exact h0.elim
    · exact h0.elim
  case bastore =>
    have h0 : zbst NC M st (fun r M' => κ A r M') := h
    show zbst NC M st (fun r M' => κ' L r M')
    unfold zbst at h0 ⊢
    split at h0
    · split at h0
      · exact ⟨h0.1, hκ _ _ h0.2⟩
      · exact ⟨h0.1, hκ _ _ h0.2⟩
      · exact h0.elim
    · exact h0.elim
  case aaload =>
    have h0 : zrld NC st (fun r => κ A r M) := h
    show zrld NC st (fun r => κ' L r M)
    unfold zrld at h0 ⊢
    split at h0
    · split at h0
      · refine ⟨h0.1, ?_⟩
        have h1 := h0.2
        split at h1
        · exact hκ _ _ h1
        · exact h1.elim
      · exact h0.elim
    · exact h0.elim
  case arraylength =>
    have h0 : zlen NC sc st (fun r => κ A r M) := h
    show zlen NC sc st (fun r => κ' L r M)
    unfold zlen at h0 ⊢
    split at h0
    · split at h0
      · exact hκ _ _ h0
      · exact ⟨h0.1, h0.2.1, hκ _ _ h0.2.2⟩
      · exact h0.elim
    · exact h0.elim
  case invokestatic ix =>
    have h0 : (bif Nat.beq a 88 then zmx st (fun st' => κ A st' M) else zcs zinfo C a st M (fun r M' => κ A r M')) := h
    show (bif Nat.beq a 88 then zmx st (fun st' => κ' L st' M) else zcs zinfo C a st M (fun r M' => κ' L r M'))
    cases h88 : Nat.beq a 88 with
    | true =>
      rw [h88] at h0
      have h0' : zmx st (fun st' => κ A st' M) := h0
      obtain ⟨x, y, r, rfl, h1, h2⟩ := zmx_x h0'
      exact ⟨h1, hκ _ _ h2⟩
    | false =>
      rw [h88] at h0
      have h0' : zcs zinfo C a st M (fun r M' => κ A r M') := h0
      obtain ⟨i, as, r, v, M', hi, hst, hpop, hsl, hCk, h3⟩ := zcs_x h0'
      show zcs zinfo C a st M (fun r M' => κ' L r M')
      unfold zcs
      rw [hi]
      refine ⟨hst, ?_⟩
      rw [hpop]
      exact ⟨hsl, v, M', hCk, hκ _ _ h3⟩
  case invokevirtual ix =>
    obtain ⟨i, as, k, r, fs, v, M', hi, hst, hpop, hsl, hly, hCk, h3⟩ := zcv_x h
    unfold zcv
    rw [hi]
    refine ⟨hst, ?_⟩
    rw [hpop]
    refine ⟨hsl, ?_⟩
    rw [hly]
    exact ⟨rfl, v, M', hCk, hκ _ _ h3⟩
  case ireturn => exact h
  case areturn => exact h
  case return_ => exact h
  all_goals exact h.elim
theorem zwp_forget {np : Nat} (hJ : ∀ t A L st M, J t A st M → zsub A L → J' t L st M) : ∀ (es : List zE) (A L st : List Value) (M : zM), zsub A L → zwp NC sc zinfo C J fin np es A st M → zwp NC sc zinfo C J' fin np es L st M := by
  intro es
  induction es with
  | nil => intro A L st M hs h; exact hJ _ _ _ _ _ h hs
  | cons E es ih => intro A L st M hs h; exact zop_forget hJ (fun A L st M h hs => ih A L st M hs h) hs h
end ZM
theorem zK.forget {NC : Nat} {sc : Nat × (Nat → Int32)} {C : Nat → List Value → zM → Option Value → zM → Prop} {k : Nat} {r : Option Value} {M' : zM} {pc : Nat} (A : List Value) {L st : List Value} {M : zM} (hs : zsub A L) (h : zK NC sc C k r M' pc A st M) : zK NC sc C k r M' pc L st M := by
  refine h (fun pc A st M => ∀ L, zsub A L → zK NC sc C k r M' pc L st M) ?_ L hs
  intro pc A st M es np hb hw L hs
  exact zK.blk hb (zwp_forget (fun t A L st M hj hs => hj L hs) es A L st M hs hw)
end
section
theorem zN_inc (x n : Nat) : nI x + Int32.ofInt (n : Int) = nI (x + n) := nI_add x n
theorem zN_dec {x : Nat} (h : 1 ≤ x) : nI x + Int32.ofInt (-1) = nI (x - 1) := by
  have : nI x = nI (x - 1) + 1 := by rw [nI_1]; congr 1; omega
  rw [this, show Int32.ofInt (-1) = -1 from rfl, Int32.add_assoc, show (1 : Int32) + -1 = 0 from rfl, Int32.add_zero]
def zB (b : Bool) : Int32 := bif b then 1 else 0
theorem zB_0 : nI 0 = zB false := rfl
theorem zB_1 : nI 1 = zB true := rfl
theorem zB_or (b : Bool) : zB b = 0 ∨ zB b = 1 := by cases b <;> simp [zB]
section ZPB
variable {NC : Nat} {sc : Nat × (Nat → Int32)} {C : Nat → List Value → zM → Option Value → zM → Prop} {J : Nat → List Value → List Value → zM → Prop} {fin : Option Value → zM → Prop} {np pc len a b t : Nat} {es : List zE} {L st : List Value} {M : zM}
theorem p_ifB_eq {x : Bool} {off : Int} {tgt : Nat} (ht : (pc : Int) + off = (tgt : Int)) (h1 : x = false → J tgt L st M) (h2 : x = true → zwp NC sc zinfo C J fin np es L st M) : zwp NC sc zinfo C J fin np ((pc, .ifCond .eq off, len, a, b, t) :: es) L (.int (zB x) :: st) M :=
  p_if_eq ht (fun q => h1 (by cases x <;> simp [zB] at q ⊢)) (fun q => h2 (by cases x <;> simp [zB] at q ⊢))
theorem p_ifB_ne {x : Bool} {off : Int} {tgt : Nat} (ht : (pc : Int) + off = (tgt : Int)) (h1 : x = true → J tgt L st M) (h2 : x = false → zwp NC sc zinfo C J fin np es L st M) : zwp NC sc zinfo C J fin np ((pc, .ifCond .ne off, len, a, b, t) :: es) L (.int (zB x) :: st) M :=
  p_if_ne ht (fun q => h1 (by cases x <;> simp [zB] at q ⊢)) (fun q => h2 (by cases x <;> simp [zB] at q ⊢))
end ZPB
/-- all ones -/
abbrev zFF : Nat := 4294967295
theorem zN_neg {b : Nat} (h : b < 2) : -(nI b) = nI (b * zFF) := by
  rcases (show b = 0 ∨ b = 1 by omega) with rfl | rfl <;> decide
def pkN (x y z : Nat) : Nat := x &&& y ||| (x ^^^ zFF) &&& z
theorem zb_lt (t r : Nat) : t >>> r &&& 1 < 2 := by
  rw [Nat.and_one_is_mod]; omega
def z22 (p : Nat) : Nat := 1 <<< (1 <<< p)
def zrep (p : Nat) : Nat := if p = 0 then 255 else if p = 1 then 85 else if p = 2 then 17 else 1
def zpl (p : Nat) : Nat := if p = 0 then 170 else if p = 1 then 204 else 240
theorem z22_lt {p : Nat} (h : p < 4) : 1 < z22 p ∧ z22 p ≤ 256 := by
  rcases (show p = 0 ∨ p = 1 ∨ p = 2 ∨ p = 3 by omega) with rfl | rfl | rfl | rfl <;> decide
theorem zsh_lt {p : Nat} (h : p < 4) : 1 ≤ 1 <<< p ∧ 1 <<< p ≤ 8 := by
  rcases (show p = 0 ∨ p = 1 ∨ p = 2 ∨ p = 3 by omega) with rfl | rfl | rfl | rfl <;> decide
def zfits (x y : Int32) : Bool := decide (¬ x < 0) && decide (¬ nI 3 < x) && decide (¬ y < 0) && decide (¬ nI (z22 x.toNatClampNeg - 1) < y)
set_option maxRecDepth 100000 in
set_option maxHeartbeats 4000000 in
theorem c_3 {sc : Nat × (Nat → Int32)} {d : Nat} {M : zM} {t r : Nat} (ht : t < 2 ^ 31) (hr : r < 32) : zC 47 sc (d + 1) 3 [.int (nI t), .int (nI r)] M (some (.int (nI (t >>> r &&& 1)))) (M) := by
  refine z_enter (L := [.int (nI t), .int (nI r)]) rfl rfl rfl ?_
  refine zK.blk rfl ?_
  refine p_iloadn_0 ?_
  refine p_iloadn_1 ?_
  refine p_ishrN (by omega) (by omega) ?_
  refine p_iconst (v := nI 1) (by decide) ?_
  refine p_iandN ?_
  exact p_iret trivial rfl rfl
set_option maxRecDepth 100000 in
set_option maxHeartbeats 4000000 in
theorem c_1 {sc : Nat × (Nat → Int32)} {d : Nat} {M : zM} {p : Nat} (hp : p < 4) : zC 47 sc (d + 1) 1 [.int (nI p)] M (some (.int (nI (z22 p - 1)))) (M) := by
  have hp2 := zsh_lt hp
  have hp3 := z22_lt hp
  unfold z22 at hp3 ⊢
  refine z_enter (L := [.int (nI p)]) rfl rfl rfl ?_
  refine zK.blk rfl ?_
  refine p_iconst (v := nI 1) (by decide) ?_
  refine p_iconst (v := nI 1) (by decide) ?_
  refine p_iloadn_0 ?_
  refine p_ishlN (by omega) ?_
  refine p_ishlN (by omega) ?_
  refine p_iconst (v := nI 1) (by decide) ?_
  refine p_isubN (by omega) ?_
  exact p_iret trivial rfl rfl
set_option maxRecDepth 100000 in
set_option maxHeartbeats 4000000 in
theorem c_2 {sc : Nat × (Nat → Int32)} {d : Nat} {M : zM} {p : Nat} (hp : p < 4) : zC 47 sc (d + 1) 2 [.int (nI p)] M (some (.int (nI (zpl p)))) (M) := by
  refine z_enter (L := [.int (nI p)]) rfl rfl rfl ?_
  refine zK.blk rfl ?_
  refine p_iloadn_0 ?_
  refine p_ifN_ne (tgt := 10) (by decide) (by omega) (fun hc1 => ?_) (fun hc1 => ?_)
  · skip
    refine zK.blk rfl ?_
    refine p_iloadn_0 ?_
    refine p_iconst (v := nI 1) (by decide) ?_
    refine p_icmpN_ne (tgt := 21) (by decide) (by omega) (by omega) (fun hc12 => ?_) (fun hc12 => ?_)
    · skip
      refine zK.blk rfl ?_
      refine p_sipush (v := nI 240) (by decide) ?_
      refine zK.blk rfl ?_
      exact p_iret trivial (by unfold zpl; congr 3; split <;> (try split) <;> omega) rfl
    · skip
      refine p_sipush (v := nI 204) (by decide) ?_
      refine p_goto (tgt := 24) (by decide) ?_
      refine zK.blk rfl ?_
      exact p_iret trivial (by unfold zpl; congr 3; split <;> (try split) <;> omega) rfl
  · skip
    refine p_sipush (v := nI 170) (by decide) ?_
    refine p_goto (tgt := 24) (by decide) ?_
    refine zK.blk rfl ?_
    exact p_iret trivial (by unfold zpl; congr 3; split <;> (try split) <;> omega) rfl

set_option maxRecDepth 100000 in
set_option maxHeartbeats 4000000 in
theorem c_2s {sc : Nat × (Nat → Int32)} {d : Nat} {M : zM} {p : Nat} (hp : p < 4) : zC 33 sc (d + 1) 2 [.int (nI p)] M (some (.int (nI (zpl p)))) (M) := by
  refine z_enter (L := [.int (nI p)]) rfl rfl rfl ?_
  refine zK.blk rfl ?_
  refine p_iloadn_0 ?_
  refine p_ifN_ne (tgt := 10) (by decide) (by omega) (fun hc1 => ?_) (fun hc1 => ?_)
  · skip
    refine zK.blk rfl ?_
    refine p_iloadn_0 ?_
    refine p_iconst (v := nI 1) (by decide) ?_
    refine p_icmpN_ne (tgt := 21) (by decide) (by omega) (by omega) (fun hc12 => ?_) (fun hc12 => ?_)
    · skip
      refine zK.blk rfl ?_
      refine p_sipush (v := nI 240) (by decide) ?_
      refine zK.blk rfl ?_
      exact p_iret trivial (by unfold zpl; congr 3; split <;> (try split) <;> omega) rfl
    · skip
      refine p_sipush (v := nI 204) (by decide) ?_
      refine p_goto (tgt := 24) (by decide) ?_
      refine zK.blk rfl ?_
      exact p_iret trivial (by unfold zpl; congr 3; split <;> (try split) <;> omega) rfl
  · skip
    refine p_sipush (v := nI 170) (by decide) ?_
    refine p_goto (tgt := 24) (by decide) ?_
    refine zK.blk rfl ?_
    exact p_iret trivial (by unfold zpl; congr 3; split <;> (try split) <;> omega) rfl
set_option maxRecDepth 100000 in
set_option maxHeartbeats 4000000 in
theorem c_5 {sc : Nat × (Nat → Int32)} {d : Nat} {M : zM} {x y z : Nat} : zC 47 sc (d + 1) 5 [.int (nI x), .int (nI y), .int (nI z)] M (some (.int (nI (pkN x y z)))) (M) := by
  refine z_enter (L := [.int (nI x), .int (nI y), .int (nI z)]) rfl rfl rfl ?_
  refine zK.blk rfl ?_
  refine p_iloadn_0 ?_
  refine p_iloadn_1 ?_
  refine p_iandN ?_
  refine p_iloadn_0 ?_
  refine p_iconst (v := nI zFF) (by decide) ?_
  refine p_ixorN ?_
  refine p_iloadn_2 ?_
  refine p_iandN ?_
  refine p_iorN ?_
  exact p_iret trivial rfl rfl
set_option maxRecDepth 100000 in
set_option maxHeartbeats 4000000 in
theorem c_4 {sc : Nat × (Nat → Int32)} {d : Nat} {M : zM} {p t : Nat} (hp : p < 4) : zC 47 sc (d + 1) 4 [.int (nI p), .int (nI t)] M (some (.int (nI (t * zrep p)))) (M) := by
  refine z_enter (L := [.int (nI p), .int (nI t)]) rfl rfl rfl ?_
  refine zK.blk rfl ?_
  refine p_iloadn_0 ?_
  refine p_ifN_lt (tgt := 19) (by decide) (by omega) (fun hc1 => ?_) (fun hc1 => ?_)
  · skip
    exact absurd hc1 (by omega) --STOP
  · skip
    refine p_iloadn_0 ?_
    refine p_iconst (v := nI 3) (by decide) ?_
    refine p_icmpN_gt (tgt := 19) (by decide) (by omega) (by omega) (fun hc6 => ?_) (fun hc6 => ?_)
    · skip
      exact absurd hc6 (by omega) --STOP
    · skip
      refine p_iloadn_1 ?_
      refine p_gets (by decide) ?_
      refine p_iloadn_0 ?_
      refine p_rald (v := nI (zrep p)) rfl (by decide) (by show p < 4; omega) (by show 4 < 2 ^ 31; decide) (by rcases (show p = 0 ∨ p = 1 ∨ p = 2 ∨ p = 3 by omega) with rfl | rfl | rfl | rfl <;> rfl) ?_
      refine p_imulN ?_
      refine p_goto (tgt := 20) (by decide) ?_
      refine zK.blk rfl ?_
      exact p_iret trivial rfl rfl
set_option maxRecDepth 100000 in
set_option maxHeartbeats 4000000 in
theorem c_0 {sc : Nat × (Nat → Int32)} {d : Nat} {M : zM} {x y : Int32} : zC 47 sc (d + 2) 0 [.int x, .int y] M (some (.int (zB (zfits x y)))) (M) := by
  refine z_enter (L := [.int x, .int y]) rfl rfl rfl ?_
  refine zK.blk rfl ?_
  refine p_iloadn_0 ?_
  refine p_if_lt (tgt := 25) (by decide) (fun hc1 => ?_) (fun hc1 => ?_)
  · skip
    refine zK.blk rfl ?_
    refine p_iconst (v := nI 0) (by decide) ?_
    refine zK.blk rfl ?_
    exact p_iret (by first | exact Or.inl rfl | exact Or.inr rfl) (by (first | rw [zB_0] | rw [zB_1]); congr 3; unfold zfits; (try rw [nI_clamp (by omega)]); simp_all) rfl
  · skip
    refine p_iloadn_0 ?_
    refine p_iconst (v := nI 3) (by decide) ?_
    refine p_icmp_gt (tgt := 25) (by decide) (fun hc6 => ?_) (fun hc6 => ?_)
    · skip
      refine zK.blk rfl ?_
      refine p_iconst (v := nI 0) (by decide) ?_
      refine zK.blk rfl ?_
      exact p_iret (by first | exact Or.inl rfl | exact Or.inr rfl) (by (first | rw [zB_0] | rw [zB_1]); congr 3; unfold zfits; (try rw [nI_clamp (by omega)]); simp_all) rfl
    · skip
      obtain ⟨p, hp, rfl⟩ := nI_of2 (M := nI 3) (n := 3) (by decide) hc1 (Int32.not_lt.mp hc6)
      have hp2 := z22_lt (show p < 4 by omega)
      refine p_iloadn_1 ?_
      refine p_if_lt (tgt := 25) (by decide) (fun hc10 => ?_) (fun hc10 => ?_)
      · skip
        refine zK.blk rfl ?_
        refine p_iconst (v := nI 0) (by decide) ?_
        refine zK.blk rfl ?_
        exact p_iret (by first | exact Or.inl rfl | exact Or.inr rfl) (by (first | rw [zB_0] | rw [zB_1]); congr 3; unfold zfits; (try rw [nI_clamp (by omega)]); simp_all) rfl
      · skip
        refine p_iloadn_1 ?_
        refine p_iloadn_0 ?_
        refine p_cs1i rfl rfl rfl rfl rfl (c_1 (p := p) (by omega)) ?_
        refine p_icmp_gt (tgt := 25) (by decide) (fun hc18 => ?_) (fun hc18 => ?_)
        · skip
          refine zK.blk rfl ?_
          refine p_iconst (v := nI 0) (by decide) ?_
          refine zK.blk rfl ?_
          exact p_iret (by first | exact Or.inl rfl | exact Or.inr rfl) (by (first | rw [zB_0] | rw [zB_1]); congr 3; unfold zfits; (try rw [nI_clamp (by omega)]); simp_all) rfl
        · skip
          refine p_iconst (v := nI 1) (by decide) ?_
          refine p_goto (tgt := 26) (by decide) ?_
          refine zK.blk rfl ?_
          exact p_iret (by first | exact Or.inl rfl | exact Or.inr rfl) (by (first | rw [zB_0] | rw [zB_1]); congr 3; unfold zfits; (try rw [nI_clamp (by omega)]); simp_all) rfl
def zttN (t a b : Nat) : Nat := pkN b (pkN a ((t >>> 3 &&& 1) * zFF) ((t >>> 2 &&& 1) * zFF)) (pkN a ((t >>> 1 &&& 1) * zFF) ((t >>> 0 &&& 1) * zFF))
set_option maxRecDepth 100000 in
set_option maxHeartbeats 4000000 in
theorem c_6 {sc : Nat × (Nat → Int32)} {d : Nat} {M : zM} {t a b : Nat} (ht : t < 2 ^ 31) : zC 47 sc (d + 2) 6 [.int (nI t), .int (nI a), .int (nI b)] M (some (.int (nI (zttN t a b)))) (M) := by
  refine z_enter (L := [.int (nI t), .int (nI a), .int (nI b), .null, .null]) rfl rfl rfl ?_
  refine zK.blk rfl ?_
  refine p_iloadn_1 ?_
  refine p_iloadn_0 ?_
  refine p_iconst (v := nI 3) (by decide) ?_
  refine p_cs2i rfl rfl rfl rfl rfl (c_3 (by omega) (by omega)) ?_
  refine p_ineg (zN_neg (zb_lt _ _)) ?_
  refine p_iloadn_0 ?_
  refine p_iconst (v := nI 2) (by decide) ?_
  refine p_cs2i rfl rfl rfl rfl rfl (c_3 (by omega) (by omega)) ?_
  refine p_ineg (zN_neg (zb_lt _ _)) ?_
  refine p_cs3i rfl rfl rfl rfl rfl (c_5) ?_
  refine p_istoren_3 rfl ?_
  refine p_iloadn_1 ?_
  refine p_iloadn_0 ?_
  refine p_iconst (v := nI 1) (by decide) ?_
  refine p_cs2i rfl rfl rfl rfl rfl (c_3 (by omega) (by omega)) ?_
  refine p_ineg (zN_neg (zb_lt _ _)) ?_
  refine p_iloadn_0 ?_
  refine p_iconst (v := nI 0) (by decide) ?_
  refine p_cs2i rfl rfl rfl rfl rfl (c_3 (by omega) (by omega)) ?_
  refine p_ineg (zN_neg (zb_lt _ _)) ?_
  refine p_cs3i rfl rfl rfl rfl rfl (c_5) ?_
  refine p_istore_4 rfl ?_
  refine p_iloadn_2 ?_
  refine p_iloadn_3 ?_
  refine p_iload_4 ?_
  refine p_cs3i rfl rfl rfl rfl rfl (c_5) ?_
  exact p_iret trivial rfl rfl
set_option maxRecDepth 100000 in
set_option maxHeartbeats 4000000 in
theorem c_7 {sc : Nat × (Nat → Int32)} {d : Nat} {M : zM} {w a b c : Nat} (hw : w < 2 ^ 31) : zC 47 sc (d + 3) 7 [.int (nI w), .int (nI a), .int (nI b), .int (nI c)] M (some (.int (nI (pkN c (zttN (w >>> 4) a b) (zttN w a b))))) (M) := by
  have hw4 : w >>> 4 < 2 ^ 31 := Nat.lt_of_le_of_lt (Nat.shiftRight_le w 4) hw
  refine z_enter (L := [.int (nI w), .int (nI a), .int (nI b), .int (nI c)]) rfl rfl rfl ?_
  refine zK.blk rfl ?_
  refine p_iloadn_3 ?_
  refine p_iloadn_0 ?_
  refine p_iconst (v := nI 4) (by decide) ?_
  refine p_ishrN (by omega) (by omega) ?_
  refine p_iloadn_1 ?_
  refine p_iloadn_2 ?_
  refine p_cs3i rfl rfl rfl rfl rfl (c_6 (by omega)) ?_
  refine p_iloadn_0 ?_
  refine p_iloadn_1 ?_
  refine p_iloadn_2 ?_
  refine p_cs3i rfl rfl rfl rfl rfl (c_6 (by omega)) ?_
  refine p_cs3i rfl rfl rfl rfl rfl (c_5) ?_
  exact p_iret trivial rfl rfl
end
section
/-- j turns from i on -/
def zfor {α : Type} (f : Nat → α → α) : Nat → Nat → α → α
  | 0, _, a => a
  | j + 1, i, a => zfor f j (i + 1) (f i a)
theorem zfor_step {α : Type} {f : Nat → α → α} {j i : Nat} {a a' : α} (h : f i a = a') : zfor f (j + 1) i a = zfor f j (i + 1) a' := by rw [← h]; rfl
theorem zshr_lt {t i b : Nat} (h : t < b) : t >>> i < b := Nat.lt_of_le_of_lt (Nat.shiftRight_le t i) h
def ohF (t last i h : Nat) : Nat := h ||| (1 - (t >>> (last - i) &&& 1)) <<< i
def ohN (p t : Nat) : Nat := zfor (ohF t (1 <<< p - 1)) (1 <<< p) 0 0
set_option maxRecDepth 100000 in
set_option maxHeartbeats 4000000 in
theorem lp_10_11 {sc : Nat × (Nat → Int32)} {d : Nat} {M : zM} {r : Option Value} {M' : zM} {p t last : Nat} (ht : t < 2 ^ 31) (hl : last < 8) : ∀ (j i h : Nat), i + j = last + 1 → zK 47 sc (zC 47 sc (d + 1)) 10 r M' 39 [.int (nI p), .int (nI t), .int (nI last), .int (nI (zfor (ohF t last) j i h)), .int (nI (last + 1))] [] (M) → zK 47 sc (zC 47 sc (d + 1)) 10 r M' 11 [.int (nI p), .int (nI t), .int (nI last), .int (nI h), .int (nI i)] [] (M) := by
  intro j
  induction j with
  | zero =>
    intro i h  hj hk
    have hin : i = last + 1 := by omega
    subst hin
    refine zK.blk rfl ?_
    refine p_iload_4 ?_
    refine p_iloadn_2 ?_
    refine p_icmpN_gt (tgt := 39) (by decide) (by omega) (by omega) (fun hc14 => ?_) (fun hc14 => ?_)
    · skip
      exact hk
    · skip
      exact absurd hc14 (by omega) --STOP
  | succ j ih =>
    intro i h  hj hk
    refine zK.blk rfl ?_
    refine p_iload_4 ?_
    refine p_iloadn_2 ?_
    refine p_icmpN_gt (tgt := 39) (by decide) (by omega) (by omega) (fun hc14 => ?_) (fun hc14 => ?_)
    · skip
      exact absurd hc14 (by omega) --STOP
    · skip
      refine p_iloadn_3 ?_
      refine p_iconst (v := nI 1) (by decide) ?_
      refine p_iloadn_1 ?_
      refine p_iloadn_2 ?_
      refine p_iload_4 ?_
      refine p_isubN (by omega) ?_
      refine p_cs2i rfl rfl rfl rfl rfl (c_3 (by omega) (by omega)) ?_
      have hb1 := zb_lt t (last - i)
      refine p_isubN (by omega) ?_
      refine p_iload_4 ?_
      refine p_ishlN (by omega) ?_
      refine p_iorN ?_
      refine p_istoren_3 rfl ?_
      refine p_iinc_4 (zN_inc _ 1) rfl ?_
      refine p_goto (tgt := 11) (by decide) ?_
      exact ih _ _ (by omega) hk
set_option maxRecDepth 100000 in
set_option maxHeartbeats 4000000 in
theorem c_10 {sc : Nat × (Nat → Int32)} {d : Nat} {M : zM} {p t : Nat} (hp : p < 4) (ht : t < 2 ^ 31) : zC 47 sc (d + 2) 10 [.int (nI p), .int (nI t)] M (some (.int (nI (ohN p t)))) (M) := by
  have hp2 := zsh_lt hp
  refine z_enter (L := [.int (nI p), .int (nI t), .null, .null, .null]) rfl rfl rfl ?_
  refine zK.blk rfl ?_
  refine p_iconst (v := nI 1) (by decide) ?_
  refine p_iloadn_0 ?_
  refine p_ishlN (by omega) ?_
  refine p_iconst (v := nI 1) (by decide) ?_
  refine p_isubN (by omega) ?_
  refine p_istoren_2 rfl ?_
  refine p_iconst (v := nI 0) (by decide) ?_
  refine p_istoren_3 rfl ?_
  refine p_iconst (v := nI 0) (by decide) ?_
  refine p_istore_4 rfl ?_
  refine lp_10_11 ht (by omega) (1 <<< p) 0 0 (by omega) ?_
  refine zK.blk rfl ?_
  refine p_iloadn_3 ?_
  exact p_iret trivial rfl rfl
def mpF1 (t pl row b : Nat) : Nat := if t >>> row &&& 1 = t >>> (row ^^^ 1 <<< pl) &&& 1 then b else b ||| 1 <<< pl
def mpF (p t pl b : Nat) : Nat := zfor (mpF1 t pl) (1 <<< p) 0 b
def mpN (p t : Nat) : Nat := zfor (mpF p t) p 0 0
theorem zx_lt {row pl : Nat} (h : row < 8) (hp : pl < 3) : row ^^^ 1 <<< pl < 32 := by
  revert h; revert row; rcases (show pl = 0 ∨ pl = 1 ∨ pl = 2 by omega) with rfl | rfl | rfl <;> decide
theorem zo_lt {row pl : Nat} (h : row < 8) (hp : pl < 3) : row ||| 1 <<< pl < 32 := by
  revert h; revert row; rcases (show pl = 0 ∨ pl = 1 ∨ pl = 2 by omega) with rfl | rfl | rfl <;> decide
set_option maxRecDepth 100000 in
set_option maxHeartbeats 4000000 in
theorem lp_11_12 {sc : Nat × (Nat → Int32)} {d : Nat} {M : zM} {r : Option Value} {M' : zM} {p t pl : Nat} (hp : p < 4) (hpl : pl < p) (ht : t < 2 ^ 31) : ∀ (j i b : Nat), i + j = 1 <<< p → zK 47 sc (zC 47 sc (d + 1)) 11 r M' 51 [.int (nI p), .int (nI t), .int (nI (zfor (mpF1 t pl) j i b)), .int (nI pl), .int (nI (1 <<< p))] [] (M) → zK 47 sc (zC 47 sc (d + 1)) 11 r M' 12 [.int (nI p), .int (nI t), .int (nI b), .int (nI pl), .int (nI i)] [] (M) := by
  intro j
  induction j with
  | zero =>
    intro i b  hj hk
    have hin : i = 1 <<< p := by omega
    subst hin
    have hp2 := zsh_lt hp
    refine zK.blk rfl ?_
    refine p_iload_4 ?_
    refine p_iconst (v := nI 1) (by decide) ?_
    refine p_iloadn_0 ?_
    refine p_ishlN (by omega) ?_
    refine p_icmpN_ge (tgt := 51) (by decide) (by omega) (by omega) (fun hc17 => ?_) (fun hc17 => ?_)
    · skip
      exact hk
    · skip
      exact absurd hc17 (by omega) --STOP
  | succ j ih =>
    intro i b  hj hk
    have hp2 := zsh_lt hp
    have hx := zx_lt (show i < 8 by omega) (show pl < 3 by omega)
    have hb1 := zb_lt t i
    have hb2 := zb_lt t (i ^^^ 1 <<< pl)
    refine zK.blk rfl ?_
    refine p_iload_4 ?_
    refine p_iconst (v := nI 1) (by decide) ?_
    refine p_iloadn_0 ?_
    refine p_ishlN (by omega) ?_
    refine p_icmpN_ge (tgt := 51) (by decide) (by omega) (by omega) (fun hc17 => ?_) (fun hc17 => ?_)
    · skip
      exact absurd hc17 (by omega) --STOP
    · skip
      refine p_iloadn_1 ?_
      refine p_iload_4 ?_
      refine p_cs2i rfl rfl rfl rfl rfl (c_3 (by omega) (by omega)) ?_
      refine p_iloadn_1 ?_
      refine p_iload_4 ?_
      refine p_iconst (v := nI 1) (by decide) ?_
      refine p_iloadn_3 ?_
      refine p_ishlN (by omega) ?_
      refine p_ixorN ?_
      refine p_cs2i rfl rfl rfl rfl rfl (c_3 (by omega) (by omega)) ?_
      refine p_icmpN_eq (tgt := 45) (by decide) (by omega) (by omega) (fun hc36 => ?_) (fun hc36 => ?_)
      · skip
        rw [zfor_step (f := mpF1 t pl) (a' := b) (by unfold mpF1; rw [if_pos hc36])] at hk
        refine zK.blk rfl ?_
        refine p_iinc_4 (zN_inc _ 1) rfl ?_
        refine p_goto (tgt := 12) (by decide) ?_
        exact ih _ _ (by omega) hk
      · skip
        rw [zfor_step (f := mpF1 t pl) (a' := b ||| 1 <<< pl) (by unfold mpF1; rw [if_neg hc36])] at hk
        refine p_iloadn_2 ?_
        refine p_iconst (v := nI 1) (by decide) ?_
        refine p_iloadn_3 ?_
        refine p_ishlN (by omega) ?_
        refine p_iorN ?_
        refine p_istoren_2 rfl ?_
        refine zK.blk rfl ?_
        refine p_iinc_4 (zN_inc _ 1) rfl ?_
        refine p_goto (tgt := 12) (by decide) ?_
        exact ih _ _ (by omega) hk
end
section
set_option maxRecDepth 100000 in
set_option maxHeartbeats 4000000 in
theorem lp_11_4 {sc : Nat × (Nat → Int32)} {d : Nat} {M : zM} {r : Option Value} {M' : zM} {p t : Nat} (hp : p < 4) (ht : t < 2 ^ 31) : ∀ (j i b : Nat), i + j = p → zK 47 sc (zC 47 sc (d + 1)) 11 r M' 57 [.int (nI p), .int (nI t), .int (nI (zfor (mpF p t) j i b)), .int (nI p), .null] [] (M) → zK 47 sc (zC 47 sc (d + 1)) 11 r M' 4 [.int (nI p), .int (nI t), .int (nI b), .int (nI i), .null] [] (M) := by
  intro j
  induction j with
  | zero =>
    intro i b  hj hk
    obtain rfl : i = p := by omega
    refine zK.blk rfl ?_
    refine p_iloadn_3 ?_
    refine p_iloadn_0 ?_
    refine p_icmpN_ge (tgt := 57) (by decide) (by omega) (by omega) (fun hc6 => ?_) (fun hc6 => ?_)
    · skip
      exact hk
    · skip
      exact absurd hc6 (by omega) --STOP
  | succ j ih =>
    intro i b  hj hk
    refine zK.blk rfl ?_
    refine p_iloadn_3 ?_
    refine p_iloadn_0 ?_
    refine p_icmpN_ge (tgt := 57) (by decide) (by omega) (by omega) (fun hc6 => ?_) (fun hc6 => ?_)
    · skip
      exact absurd hc6 (by omega) --STOP
    · skip
      refine p_iconst (v := nI 0) (by decide) ?_
      refine p_istore_4 rfl ?_
      refine lp_11_12 hp (by omega) ht (1 <<< p) 0 b (by omega) ?_
      refine zK.blk rfl ?_
      refine p_iinc_3 (zN_inc _ 1) rfl ?_
      refine p_goto (tgt := 4) (by decide) ?_
      refine zK.forget _ ?_ (ih _ _ (by omega) hk)
      exact ⟨Or.inl rfl, Or.inl rfl, Or.inl rfl, Or.inl rfl, Or.inr rfl, trivial⟩
set_option maxRecDepth 100000 in
set_option maxHeartbeats 4000000 in
theorem c_11 {sc : Nat × (Nat → Int32)} {d : Nat} {M : zM} {p t : Nat} (hp : p < 4) (ht : t < 2 ^ 31) : zC 47 sc (d + 2) 11 [.int (nI p), .int (nI t)] M (some (.int (nI (mpN p t)))) (M) := by
  refine z_enter (L := [.int (nI p), .int (nI t), .null, .null, .null]) rfl rfl rfl ?_
  refine zK.blk rfl ?_
  refine p_iconst (v := nI 0) (by decide) ?_
  refine p_istoren_2 rfl ?_
  refine p_iconst (v := nI 0) (by decide) ?_
  refine p_istoren_3 rfl ?_
  refine lp_11_4 hp ht p 0 0 (by omega) ?_
  refine zK.blk rfl ?_
  refine p_iloadn_2 ?_
  exact p_iret trivial rfl rfl
def zall (f : Nat → Bool) : Nat → Nat → Bool
  | 0, _ => true
  | j + 1, i => f i && zall f j (i + 1)
theorem zall_t {f : Nat → Bool} {j i : Nat} (h : f i = true) : zall f (j + 1) i = zall f j (i + 1) := by simp [zall, h]
theorem zall_f {f : Nat → Bool} {j i : Nat} (h : f i = false) : zall f (j + 1) i = false := by simp [zall, h]
def irF (t pl row : Nat) : Bool := decide (t >>> row &&& 1 ≤ t >>> (row ||| 1 <<< pl) &&& 1)
def irP (p t pl : Nat) : Bool := zall (irF t pl) (1 <<< p) 0
def irN (p t : Nat) : Bool := zall (irP p t) p 0
set_option maxRecDepth 100000 in
set_option maxHeartbeats 4000000 in
theorem lp_13_9 {sc : Nat × (Nat → Int32)} {d : Nat} {M : zM} {r : Option Value} {M' : zM} {p t pl : Nat} (hp : p < 4) (hpl : pl < p) (ht : t < 2 ^ 31) : ∀ (j i : Nat), i + j = 1 <<< p → (zall (irF t pl) j i = true → zK 47 sc (zC 47 sc (d + 1)) 13 r M' 41 [.int (nI p), .int (nI t), .int (nI pl), .int (nI (1 <<< p))] [] M) → (zall (irF t pl) j i = false → some (.int (nI 0)) = r ∧ M = M') → zK 47 sc (zC 47 sc (d + 1)) 13 r M' 9 [.int (nI p), .int (nI t), .int (nI pl), .int (nI i)] [] M := by
  intro j
  induction j with
  | zero =>
    intro i hj h1 h2
    have hin : i = 1 <<< p := by omega
    subst hin
    have hp2 := zsh_lt hp
    refine zK.blk rfl ?_
    refine p_iloadn_3 ?_
    refine p_iconst (v := nI 1) (by decide) ?_
    refine p_iloadn_0 ?_
    refine p_ishlN (by omega) ?_
    refine p_icmpN_ge (tgt := 41) (by decide) (by omega) (by omega) (fun hc13 => ?_) (fun hc13 => ?_)
    · skip
      exact h1 rfl
    · skip
      exact absurd hc13 (by omega) --STOP
  | succ j ih =>
    intro i hj h1 h2
    have hp2 := zsh_lt hp
    have hx := zo_lt (show i < 8 by omega) (show pl < 3 by omega)
    have hb1 := zb_lt t i
    have hb2 := zb_lt t (i ||| 1 <<< pl)
    refine zK.blk rfl ?_
    refine p_iloadn_3 ?_
    refine p_iconst (v := nI 1) (by decide) ?_
    refine p_iloadn_0 ?_
    refine p_ishlN (by omega) ?_
    refine p_icmpN_ge (tgt := 41) (by decide) (by omega) (by omega) (fun hc13 => ?_) (fun hc13 => ?_)
    · skip
      exact absurd hc13 (by omega) --STOP
    · skip
      refine p_iloadn_1 ?_
      refine p_iloadn_3 ?_
      refine p_cs2i rfl rfl rfl rfl rfl (c_3 (by omega) (by omega)) ?_
      refine p_iloadn_1 ?_
      refine p_iloadn_3 ?_
      refine p_iconst (v := nI 1) (by decide) ?_
      refine p_iloadn_2 ?_
      refine p_ishlN (by omega) ?_
      refine p_iorN ?_
      refine p_cs2i rfl rfl rfl rfl rfl (c_3 (by omega) (by omega)) ?_
      refine p_icmpN_le (tgt := 35) (by decide) (by omega) (by omega) (fun hc30 => ?_) (fun hc30 => ?_)
      · skip
        have e : irF t pl i = true := by unfold irF; exact decide_eq_true hc30
        rw [zall_t e] at h1 h2
        refine zK.blk rfl ?_
        refine p_iinc_3 (zN_inc _ 1) rfl ?_
        refine p_goto (tgt := 9) (by decide) ?_
        exact ih _ (by omega) h1 h2
      · skip
        have e : irF t pl i = false := by unfold irF; exact decide_eq_false hc30
        refine p_iconst (v := nI 0) (by decide) ?_
        exact p_iret (Or.inl rfl) (h2 (zall_f e)).1 (h2 (zall_f e)).2
set_option maxRecDepth 100000 in
set_option maxHeartbeats 4000000 in
theorem lp_13_2 {sc : Nat × (Nat → Int32)} {d : Nat} {M : zM} {r : Option Value} {M' : zM} {p t : Nat} (hp : p < 4) (ht : t < 2 ^ 31) : ∀ (j i : Nat), i + j = p → (zall (irP p t) j i = true → zK 47 sc (zC 47 sc (d + 1)) 13 r M' 47 [.int (nI p), .int (nI t), .int (nI p), .null] [] M) → (zall (irP p t) j i = false → some (.int (nI 0)) = r ∧ M = M') → zK 47 sc (zC 47 sc (d + 1)) 13 r M' 2 [.int (nI p), .int (nI t), .int (nI i), .null] [] M := by
  intro j
  induction j with
  | zero =>
    intro i hj h1 h2
    have hin : i = p := by omega
    subst hin
    refine zK.blk rfl ?_
    refine p_iloadn_2 ?_
    refine p_iloadn_0 ?_
    refine p_icmpN_ge (tgt := 47) (by decide) (by omega) (by omega) (fun hc4 => ?_) (fun hc4 => ?_)
    · skip
      exact h1 rfl
    · skip
      exact absurd hc4 (by omega) --STOP
  | succ j ih =>
    intro i hj h1 h2
    refine zK.blk rfl ?_
    refine p_iloadn_2 ?_
    refine p_iloadn_0 ?_
    refine p_icmpN_ge (tgt := 47) (by decide) (by omega) (by omega) (fun hc4 => ?_) (fun hc4 => ?_)
    · skip
      exact absurd hc4 (by omega) --STOP
    · skip
      refine p_iconst (v := nI 0) (by decide) ?_
      refine p_istoren_3 rfl ?_
      refine lp_13_9 hp (by omega) ht (1 <<< p) 0 (by omega) (fun e => ?_) (fun e => h2 (zall_f e))
      have e' : irP p t i = true := e
      rw [zall_t e'] at h1 h2
      refine zK.blk rfl ?_
      refine p_iinc_2 (zN_inc _ 1) rfl ?_
      refine p_goto (tgt := 2) (by decide) ?_
      refine zK.forget _ ?_ (ih _ (by omega) h1 h2)
      exact ⟨Or.inl rfl, Or.inl rfl, Or.inl rfl, Or.inr rfl, trivial⟩
set_option maxRecDepth 100000 in
set_option maxHeartbeats 4000000 in
theorem c_13 {sc : Nat × (Nat → Int32)} {d : Nat} {M : zM} {p t : Nat} (hp : p < 4) (ht : t < 2 ^ 31) : zC 47 sc (d + 2) 13 [.int (nI p), .int (nI t)] M (some (.int (zB (irN p t)))) (M) := by
  refine z_enter (L := [.int (nI p), .int (nI t), .null, .null]) rfl rfl rfl ?_
  refine zK.blk rfl ?_
  refine p_iconst (v := nI 0) (by decide) ?_
  refine p_istoren_2 rfl ?_
  refine lp_13_2 hp ht p 0 (by omega) (fun e => ?_) (fun e => ⟨by unfold irN; rw [e]; rfl, rfl⟩)
  refine zK.blk rfl ?_
  refine p_iconst (v := nI 1) (by decide) ?_
  exact p_iret (Or.inr rfl) (by unfold irN; rw [e]; rfl) rfl
def isF (p t s i a : Nat) : Nat := if t >>> (1 <<< i) &&& 1 = s then a else a ^^^ (zpl i &&& (z22 p - 1))
def isV (p t : Nat) : Nat := zfor (isF p t (t >>> 0 &&& 1)) p 0 (if t >>> 0 &&& 1 = 1 then z22 p - 1 else 0)
def isN (p t : Nat) : Bool := decide (isV p t = t)
theorem zx_b {a b n : Nat} (ha : a < 2 ^ n) (hb : b < 2 ^ n) : a ^^^ b < 2 ^ n := Nat.xor_lt_two_pow ha hb
set_option maxRecDepth 100000 in
set_option maxHeartbeats 4000000 in
theorem lp_14_23 {sc : Nat × (Nat → Int32)} {d : Nat} {M : zM} {r : Option Value} {M' : zM} {p t s : Nat} (hp : p < 4) (ht : t < 2 ^ 31) (hs : s < 2) : ∀ (j i a : Nat), i + j = p → zK 47 sc (zC 47 sc (d + 1)) 14 r M' 60 [.int (nI p), .int (nI t), .int (nI s), .int (nI (zfor (isF p t s) j i a)), .int (nI p)] [] (M) → zK 47 sc (zC 47 sc (d + 1)) 14 r M' 23 [.int (nI p), .int (nI t), .int (nI s), .int (nI a), .int (nI i)] [] (M) := by
  intro j
  induction j with
  | zero =>
    intro i a  hj hk
    obtain rfl : i = p := by omega
    refine zK.blk rfl ?_
    refine p_iload_4 ?_
    refine p_iloadn_0 ?_
    refine p_icmpN_ge (tgt := 60) (by decide) (by omega) (by omega) (fun hc26 => ?_) (fun hc26 => ?_)
    · skip
      exact hk
    · skip
      exact absurd hc26 (by omega) --STOP
  | succ j ih =>
    intro i a  hj hk
    have hp2 := zsh_lt (show i < 4 by omega)
    have hb1 := zb_lt t (1 <<< i)
    refine zK.blk rfl ?_
    refine p_iload_4 ?_
    refine p_iloadn_0 ?_
    refine p_icmpN_ge (tgt := 60) (by decide) (by omega) (by omega) (fun hc26 => ?_) (fun hc26 => ?_)
    · skip
      exact absurd hc26 (by omega) --STOP
    · skip
      refine p_iloadn_1 ?_
      refine p_iconst (v := nI 1) (by decide) ?_
      refine p_iload_4 ?_
      refine p_ishlN (by omega) ?_
      refine p_cs2i rfl rfl rfl rfl rfl (c_3 (by omega) (by omega)) ?_
      refine p_iloadn_2 ?_
      refine p_icmpN_eq (tgt := 54) (by decide) (by omega) (by omega) (fun hc38 => ?_) (fun hc38 => ?_)
      · skip
        rw [zfor_step (f := isF p t s) (a' := a) (by unfold isF; rw [if_pos hc38])] at hk
        refine zK.blk rfl ?_
        refine p_iinc_4 (zN_inc _ 1) rfl ?_
        refine p_goto (tgt := 23) (by decide) ?_
        exact ih _ _ (by omega) hk
      · skip
        rw [zfor_step (f := isF p t s) (a' := a ^^^ (zpl i &&& (z22 p - 1))) (by unfold isF; rw [if_neg hc38])] at hk
        refine p_iloadn_3 ?_
        refine p_iload_4 ?_
        refine p_cs1i rfl rfl rfl rfl rfl (c_2 (by omega)) ?_
        refine p_iloadn_0 ?_
        refine p_cs1i rfl rfl rfl rfl rfl (c_1 (by omega)) ?_
        refine p_iandN ?_
        refine p_ixorN ?_
        refine p_istoren_3 rfl ?_
        refine zK.blk rfl ?_
        refine p_iinc_4 (zN_inc _ 1) rfl ?_
        refine p_goto (tgt := 23) (by decide) ?_
        exact ih _ _ (by omega) hk
theorem isV_lt : ∀ p, p < 4 → ∀ t, t < z22 p → isV p t < 256 := by decide +kernel
set_option maxRecDepth 100000 in
set_option maxHeartbeats 4000000 in
theorem c_14 {sc : Nat × (Nat → Int32)} {d : Nat} {M : zM} {p t : Nat} (hp : p < 4) (ht : t < z22 p) : zC 47 sc (d + 2) 14 [.int (nI p), .int (nI t)] M (some (.int (zB (isN p t)))) (M) := by
  have hz := z22_lt hp
  have hb0 := zb_lt t 0
  refine z_enter (L := [.int (nI p), .int (nI t), .null, .null, .null]) rfl rfl rfl ?_
  refine zK.blk rfl ?_
  refine p_iloadn_1 ?_
  refine p_iconst (v := nI 0) (by decide) ?_
  refine p_cs2i rfl rfl rfl rfl rfl (c_3 (by omega) (by omega)) ?_
  refine p_istoren_2 rfl ?_
  refine p_iloadn_2 ?_
  refine p_iconst (v := nI 1) (by decide) ?_
  refine p_icmpN_ne (tgt := 18) (by decide) (by omega) (by omega) (fun hc8 => ?_) (fun hc8 => ?_)
  · skip
    refine zK.blk rfl ?_
    refine p_iconst (v := nI 0) (by decide) ?_
    refine zK.blk rfl ?_
    refine p_istoren_3 rfl ?_
    refine p_iconst (v := nI 0) (by decide) ?_
    refine p_istore_4 rfl ?_
    refine lp_14_23 hp (by omega) (zb_lt t 0) p 0 _ (by omega) ?_
    have hv : zfor (isF p t (t >>> 0 &&& 1)) p 0 (0) = isV p t := by unfold isV; rw [if_neg hc8]
    rw [hv]
    have hlt := isV_lt p hp t ht
    refine zK.blk rfl ?_
    refine p_iloadn_3 ?_
    refine p_iloadn_1 ?_
    refine p_icmpN_ne (tgt := 69) (by decide) (by omega) (by omega) (fun hc62 => ?_) (fun hc62 => ?_)
    · skip
      refine zK.blk rfl ?_
      refine p_iconst (v := nI 0) (by decide) ?_
      refine zK.blk rfl ?_
      exact p_iret (by first | exact Or.inl rfl | exact Or.inr rfl) (by unfold isN; first | rw [decide_eq_true (by omega)]; rfl | rw [decide_eq_false (by omega)]; rfl) rfl
    · skip
      refine p_iconst (v := nI 1) (by decide) ?_
      refine p_goto (tgt := 70) (by decide) ?_
      refine zK.blk rfl ?_
      exact p_iret (by first | exact Or.inl rfl | exact Or.inr rfl) (by unfold isN; first | rw [decide_eq_true (by omega)]; rfl | rw [decide_eq_false (by omega)]; rfl) rfl
    --STOP
  · skip
    refine p_iloadn_0 ?_
    refine p_cs1i rfl rfl rfl rfl rfl (c_1 (by omega)) ?_
    refine p_goto (tgt := 19) (by decide) ?_
    refine zK.blk rfl ?_
    refine p_istoren_3 rfl ?_
    refine p_iconst (v := nI 0) (by decide) ?_
    refine p_istore_4 rfl ?_
    refine lp_14_23 hp (by omega) (zb_lt t 0) p 0 _ (by omega) ?_
    have hv : zfor (isF p t (t >>> 0 &&& 1)) p 0 (z22 p - 1) = isV p t := by unfold isV; rw [if_pos (by omega)]
    rw [hv]
    have hlt := isV_lt p hp t ht
    refine zK.blk rfl ?_
    refine p_iloadn_3 ?_
    refine p_iloadn_1 ?_
    refine p_icmpN_ne (tgt := 69) (by decide) (by omega) (by omega) (fun hc62 => ?_) (fun hc62 => ?_)
    · skip
      refine zK.blk rfl ?_
      refine p_iconst (v := nI 0) (by decide) ?_
      refine zK.blk rfl ?_
      exact p_iret (by first | exact Or.inl rfl | exact Or.inr rfl) (by unfold isN; first | rw [decide_eq_true (by omega)]; rfl | rw [decide_eq_false (by omega)]; rfl) rfl
    · skip
      refine p_iconst (v := nI 1) (by decide) ?_
      refine p_goto (tgt := 70) (by decide) ?_
      refine zK.blk rfl ?_
      exact p_iret (by first | exact Or.inl rfl | exact Or.inr rfl) (by unfold isN; first | rw [decide_eq_true (by omega)]; rfl | rw [decide_eq_false (by omega)]; rfl) rfl
    --STOP
end
section
def kb5 (p t b : Nat) : Nat := if isN p t = true then b ||| 16 else b
def kb4 (p t b : Nat) : Nat := kb5 p t (if irN p t = true then b ||| 8 else b)
def kb3 (p t b : Nat) : Nat := kb4 p t (if ohN p t = t then b ||| 4 else b)
def kb2 (p t b : Nat) : Nat := kb3 p t (if t >>> (1 <<< p - 1) &&& 1 = 1 then b ||| 2 else b)
def kbN (p t : Nat) : Nat := kb2 p t (if t >>> 0 &&& 1 = 0 then 0 ||| 1 else 0)
theorem ohN_lt : ∀ p, p < 4 → ∀ t, t < z22 p → ohN p t < 256 := by decide +kernel
set_option maxRecDepth 100000 in
set_option maxHeartbeats 4000000 in
theorem st_12_57 {sc : Nat × (Nat → Int32)} {d : Nat} {M : zM} {p t : Nat} (hp : p < 4) (ht : t < z22 p) (b : Nat) : zK 47 sc (zC 47 sc (d + 2)) 12 (some (.int (nI (kb5 p t b)))) M 57 [.int (nI p), .int (nI t), .int (nI b)] [] M := by
  have hz := z22_lt hp
  have hs := zsh_lt hp
  refine zK.blk rfl ?_
  refine p_iloadn_0 ?_
  refine p_iloadn_1 ?_
  refine p_cs2i rfl rfl rfl rfl rfl (c_14 hp ht) ?_
  refine p_ifB_eq (tgt := 70) (by decide) (fun hc62 => ?_) (fun hc62 => ?_)
  · skip
    refine zK.blk rfl ?_
    refine p_iloadn_2 ?_
    exact p_iret trivial (by unfold kb5; simp [hc62]) rfl
  · skip
    refine p_iloadn_2 ?_
    refine p_bipush (v := nI 16) (by decide) ?_
    refine p_iorN ?_
    refine p_istoren_2 rfl ?_
    refine zK.blk rfl ?_
    refine p_iloadn_2 ?_
    exact p_iret trivial (by unfold kb5; simp [hc62]) rfl
set_option maxRecDepth 100000 in
set_option maxHeartbeats 4000000 in
theorem st_12_44 {sc : Nat × (Nat → Int32)} {d : Nat} {M : zM} {p t : Nat} (hp : p < 4) (ht : t < z22 p) (b : Nat) : zK 47 sc (zC 47 sc (d + 2)) 12 (some (.int (nI (kb4 p t b)))) M 44 [.int (nI p), .int (nI t), .int (nI b)] [] M := by
  have hz := z22_lt hp
  have hs := zsh_lt hp
  refine zK.blk rfl ?_
  refine p_iloadn_0 ?_
  refine p_iloadn_1 ?_
  refine p_cs2i rfl rfl rfl rfl rfl (c_13 hp (by omega)) ?_
  refine p_ifB_eq (tgt := 57) (by decide) (fun hc49 => ?_) (fun hc49 => ?_)
  · skip
    unfold kb4; rw [if_neg (by simp [hc49])]
    exact st_12_57 hp ht _
  · skip
    unfold kb4; rw [if_pos hc49]
    refine p_iloadn_2 ?_
    refine p_bipush (v := nI 8) (by decide) ?_
    refine p_iorN ?_
    refine p_istoren_2 rfl ?_
    exact st_12_57 hp ht _
set_option maxRecDepth 100000 in
set_option maxHeartbeats 4000000 in
theorem st_12_31 {sc : Nat × (Nat → Int32)} {d : Nat} {M : zM} {p t : Nat} (hp : p < 4) (ht : t < z22 p) (b : Nat) : zK 47 sc (zC 47 sc (d + 2)) 12 (some (.int (nI (kb3 p t b)))) M 31 [.int (nI p), .int (nI t), .int (nI b)] [] M := by
  have hz := z22_lt hp
  have hs := zsh_lt hp
  have ho := ohN_lt p hp t ht
  refine zK.blk rfl ?_
  refine p_iloadn_0 ?_
  refine p_iloadn_1 ?_
  refine p_cs2i rfl rfl rfl rfl rfl (c_10 hp (by omega)) ?_
  refine p_iloadn_1 ?_
  refine p_icmpN_ne (tgt := 44) (by decide) (by omega) (by omega) (fun hc37 => ?_) (fun hc37 => ?_)
  · skip
    unfold kb3; rw [if_neg hc37]
    exact st_12_44 hp ht _
  · skip
    unfold kb3; rw [if_pos (by omega)]
    refine p_iloadn_2 ?_
    refine p_iconst (v := nI 4) (by decide) ?_
    refine p_iorN ?_
    refine p_istoren_2 rfl ?_
    exact st_12_44 hp ht _
set_option maxRecDepth 100000 in
set_option maxHeartbeats 4000000 in
theorem st_12_14 {sc : Nat × (Nat → Int32)} {d : Nat} {M : zM} {p t : Nat} (hp : p < 4) (ht : t < z22 p) (b : Nat) : zK 47 sc (zC 47 sc (d + 2)) 12 (some (.int (nI (kb2 p t b)))) M 14 [.int (nI p), .int (nI t), .int (nI b)] [] M := by
  have hz := z22_lt hp
  have hs := zsh_lt hp
  have hb1 := zb_lt t (1 <<< p - 1)
  refine zK.blk rfl ?_
  refine p_iloadn_1 ?_
  refine p_iconst (v := nI 1) (by decide) ?_
  refine p_iloadn_0 ?_
  refine p_ishlN (by omega) ?_
  refine p_iconst (v := nI 1) (by decide) ?_
  refine p_isubN (by omega) ?_
  refine p_cs2i rfl rfl rfl rfl rfl (c_3 (by omega) (by omega)) ?_
  refine p_iconst (v := nI 1) (by decide) ?_
  refine p_icmpN_ne (tgt := 31) (by decide) (by omega) (by omega) (fun hc24 => ?_) (fun hc24 => ?_)
  · skip
    unfold kb2; rw [if_neg hc24]
    exact st_12_31 hp ht _
  · skip
    unfold kb2; rw [if_pos (by omega)]
    refine p_iloadn_2 ?_
    refine p_iconst (v := nI 2) (by decide) ?_
    refine p_iorN ?_
    refine p_istoren_2 rfl ?_
    exact st_12_31 hp ht _
set_option maxRecDepth 100000 in
set_option maxHeartbeats 4000000 in
theorem c_12 {sc : Nat × (Nat → Int32)} {d : Nat} {M : zM} {p t : Nat} (hp : p < 4) (ht : t < z22 p) : zC 47 sc (d + 3) 12 [.int (nI p), .int (nI t)] M (some (.int (nI (kbN p t)))) (M) := by
  have hz := z22_lt hp
  have hs := zsh_lt hp
  have hb1 := zb_lt t 0
  refine z_enter (L := [.int (nI p), .int (nI t), .null]) rfl rfl rfl ?_
  refine zK.blk rfl ?_
  refine p_iconst (v := nI 0) (by decide) ?_
  refine p_istoren_2 rfl ?_
  refine p_iloadn_1 ?_
  refine p_iconst (v := nI 0) (by decide) ?_
  refine p_cs2i rfl rfl rfl rfl rfl (c_3 (by omega) (by omega)) ?_
  refine p_ifN_ne (tgt := 14) (by decide) (by omega) (fun hc7 => ?_) (fun hc7 => ?_)
  · skip
    unfold kbN; rw [if_neg hc7]
    exact st_12_14 hp ht _
  · skip
    unfold kbN; rw [if_pos (by omega)]
    refine p_iloadn_2 ?_
    refine p_iconst (v := nI 1) (by decide) ?_
    refine p_iorN ?_
    refine p_istoren_2 rfl ?_
    exact st_12_14 hp ht _
def plF (i row v : Nat) : Nat := v ||| (row >>> i &&& 1) <<< row
def plN (n i : Nat) : Nat := zfor (plF i) (1 <<< n) 0 0
set_option maxRecDepth 100000 in
set_option maxHeartbeats 4000000 in
theorem lp_99_4 {sc : Nat × (Nat → Int32)} {d : Nat} {M : zM} {r : Option Value} {M' : zM} {n q : Nat} (hn : n < 4) (hq : q < 32) : ∀ (j i v : Nat), i + j = 1 <<< n → zK 47 sc (zC 47 sc (d + 0)) 99 r M' 27 [.int (nI n), .int (nI q), .int (nI (zfor (plF q) j i v)), .int (nI (1 <<< n))] [] (M) → zK 47 sc (zC 47 sc (d + 0)) 99 r M' 4 [.int (nI n), .int (nI q), .int (nI v), .int (nI i)] [] (M) := by
  intro j
  induction j with
  | zero =>
    intro i v  hj hk
    have hin : i = 1 <<< n := by omega
    subst hin
    have hs := zsh_lt hn
    refine zK.blk rfl ?_
    refine p_iloadn_3 ?_
    refine p_iconst (v := nI 1) (by decide) ?_
    refine p_iloadn_0 ?_
    refine p_ishlN (by omega) ?_
    refine p_icmpN_ge (tgt := 27) (by decide) (by omega) (by omega) (fun hc8 => ?_) (fun hc8 => ?_)
    · skip
      exact hk
    · skip
      exact absurd hc8 (by omega) --STOP
  | succ j ih =>
    intro i v  hj hk
    have hs := zsh_lt hn
    refine zK.blk rfl ?_
    refine p_iloadn_3 ?_
    refine p_iconst (v := nI 1) (by decide) ?_
    refine p_iloadn_0 ?_
    refine p_ishlN (by omega) ?_
    refine p_icmpN_ge (tgt := 27) (by decide) (by omega) (by omega) (fun hc8 => ?_) (fun hc8 => ?_)
    · skip
      exact absurd hc8 (by omega) --STOP
    · skip
      refine p_iloadn_2 ?_
      refine p_iloadn_3 ?_
      refine p_iloadn_1 ?_
      refine p_ishrN (by omega) (by omega) ?_
      refine p_iconst (v := nI 1) (by decide) ?_
      refine p_iandN ?_
      refine p_iloadn_3 ?_
      refine p_ishlN (by omega) ?_
      refine p_iorN ?_
      refine p_istoren_2 rfl ?_
      refine p_iinc_3 (zN_inc _ 1) rfl ?_
      refine p_goto (tgt := 4) (by decide) ?_
      exact ih _ _ (by omega) hk
set_option maxRecDepth 100000 in
set_option maxHeartbeats 4000000 in
theorem c_99 {sc : Nat × (Nat → Int32)} {d : Nat} {M : zM} {n q : Nat} (hn : n < 4) (hq : q < 32) : zC 47 sc (d + 1) 99 [.int (nI n), .int (nI q)] M (some (.int (nI (plN n q)))) (M) := by
  refine z_enter (L := [.int (nI n), .int (nI q), .null, .null]) rfl rfl rfl ?_
  refine zK.blk rfl ?_
  refine p_iconst (v := nI 0) (by decide) ?_
  refine p_istoren_2 rfl ?_
  refine p_iconst (v := nI 0) (by decide) ?_
  refine p_istoren_3 rfl ?_
  refine lp_99_4 hn hq (1 <<< n) 0 0 (by omega) ?_
  refine zK.blk rfl ?_
  refine p_iloadn_2 ?_
  exact p_iret trivial rfl rfl
def moF (t i v : Nat) : Nat := v ||| (1 - (t >>> (7 - i) &&& 1)) <<< i
def moN (t : Nat) : Nat := zfor (moF t) 8 0 0
set_option maxRecDepth 100000 in
set_option maxHeartbeats 4000000 in
theorem lp_130_4 {sc : Nat × (Nat → Int32)} {d : Nat} {M : zM} {r : Option Value} {M' : zM} {t : Nat} (ht : t < 2 ^ 31) : ∀ (j i v : Nat), i + j = 8 → zK 47 sc (zC 47 sc (d + 0)) 130 r M' 31 [.int (nI t), .int (nI (zfor (moF t) j i v)), .int (nI 8)] [] (M) → zK 47 sc (zC 47 sc (d + 0)) 130 r M' 4 [.int (nI t), .int (nI v), .int (nI i)] [] (M) := by
  intro j
  induction j with
  | zero =>
    intro i v  hj hk
    obtain rfl : i = 8 := by omega
    refine zK.blk rfl ?_
    refine p_iloadn_2 ?_
    refine p_bipush (v := nI 8) (by decide) ?_
    refine p_icmpN_ge (tgt := 31) (by decide) (by omega) (by omega) (fun hc7 => ?_) (fun hc7 => ?_)
    · skip
      exact hk
    · skip
      exact absurd hc7 (by omega) --STOP
  | succ j ih =>
    intro i v  hj hk
    refine zK.blk rfl ?_
    refine p_iloadn_2 ?_
    refine p_bipush (v := nI 8) (by decide) ?_
    refine p_icmpN_ge (tgt := 31) (by decide) (by omega) (by omega) (fun hc7 => ?_) (fun hc7 => ?_)
    · skip
      exact absurd hc7 (by omega) --STOP
    · skip
      refine p_iloadn_1 ?_
      refine p_iconst (v := nI 1) (by decide) ?_
      refine p_iloadn_0 ?_
      refine p_bipush (v := nI 7) (by decide) ?_
      refine p_iloadn_2 ?_
      refine p_isubN (by omega) ?_
      refine p_ishrN (by omega) (by omega) ?_
      refine p_iconst (v := nI 1) (by decide) ?_
      refine p_iandN ?_
      have hb1 := zb_lt t (7 - i)
      refine p_isubN (by omega) ?_
      refine p_iloadn_2 ?_
      refine p_ishlN (by omega) ?_
      refine p_iorN ?_
      refine p_istoren_1 rfl ?_
      refine p_iinc_2 (zN_inc _ 1) rfl ?_
      refine p_goto (tgt := 4) (by decide) ?_
      exact ih _ _ (by omega) hk
set_option maxRecDepth 100000 in
set_option maxHeartbeats 4000000 in
theorem c_130 {sc : Nat × (Nat → Int32)} {d : Nat} {M : zM} {t : Nat} (ht : t < 2 ^ 31) : zC 47 sc (d + 1) 130 [.int (nI t)] M (some (.int (nI (moN t)))) (M) := by
  refine z_enter (L := [.int (nI t), .null, .null]) rfl rfl rfl ?_
  refine zK.blk rfl ?_
  refine p_iconst (v := nI 0) (by decide) ?_
  refine p_istoren_1 rfl ?_
  refine p_iconst (v := nI 0) (by decide) ?_
  refine p_istoren_2 rfl ?_
  refine lp_130_4 ht 8 0 0 (by omega) ?_
  refine zK.blk rfl ?_
  refine p_iloadn_1 ?_
  exact p_iret trivial rfl rfl
def maF1 (t r i v : Nat) : Nat := if t >>> r &&& 1 = t >>> (r ^^^ 1 <<< i) &&& 1 then v ||| 0 else v ||| 1 <<< i
def maF (t r v : Nat) : Nat := zfor (maF1 t r) 3 0 v
def maN (t : Nat) : Nat := zfor (maF t) 8 0 0
set_option maxRecDepth 100000 in
set_option maxHeartbeats 4000000 in
theorem lp_131_12 {sc : Nat × (Nat → Int32)} {d : Nat} {M : zM} {r : Option Value} {M' : zM} {t q : Nat} (ht : t < 2 ^ 31) (hq : q < 8) : ∀ (j i v : Nat), i + j = 3 → zK 47 sc (zC 47 sc (d + 0)) 131 r M' 50 [.int (nI t), .int (nI (zfor (maF1 t q) j i v)), .int (nI q), .int (nI 3)] [] (M) → zK 47 sc (zC 47 sc (d + 0)) 131 r M' 12 [.int (nI t), .int (nI v), .int (nI q), .int (nI i)] [] (M) := by
  intro j
  induction j with
  | zero =>
    intro i v  hj hk
    obtain rfl : i = 3 := by omega
    refine zK.blk rfl ?_
    refine p_iloadn_3 ?_
    refine p_iconst (v := nI 3) (by decide) ?_
    refine p_icmpN_ge (tgt := 50) (by decide) (by omega) (by omega) (fun hc14 => ?_) (fun hc14 => ?_)
    · skip
      exact hk
    · skip
      exact absurd hc14 (by omega) --STOP
  | succ j ih =>
    intro i v  hj hk
    have hx := zx_lt hq (show i < 3 by omega)
    have hb1 := zb_lt t q
    have hb2 := zb_lt t (q ^^^ 1 <<< i)
    refine zK.blk rfl ?_
    refine p_iloadn_3 ?_
    refine p_iconst (v := nI 3) (by decide) ?_
    refine p_icmpN_ge (tgt := 50) (by decide) (by omega) (by omega) (fun hc14 => ?_) (fun hc14 => ?_)
    · skip
      exact absurd hc14 (by omega) --STOP
    · skip
      refine p_iloadn_1 ?_
      refine p_iloadn_0 ?_
      refine p_iloadn_2 ?_
      refine p_ishrN (by omega) (by omega) ?_
      refine p_iconst (v := nI 1) (by decide) ?_
      refine p_iandN ?_
      refine p_iloadn_0 ?_
      refine p_iloadn_2 ?_
      refine p_iconst (v := nI 1) (by decide) ?_
      refine p_iloadn_3 ?_
      refine p_ishlN (by omega) ?_
      refine p_ixorN ?_
      refine p_ishrN (by omega) (by omega) ?_
      refine p_iconst (v := nI 1) (by decide) ?_
      refine p_iandN ?_
      refine p_icmpN_eq (tgt := 41) (by decide) (by omega) (by omega) (fun hc32 => ?_) (fun hc32 => ?_)
      · skip
        rw [zfor_step (f := maF1 t q) (a' := v ||| 0) (by unfold maF1; rw [if_pos hc32])] at hk
        refine zK.blk rfl ?_
        refine p_iconst (v := nI 0) (by decide) ?_
        refine zK.blk rfl ?_
        refine p_iorN ?_
        refine p_istoren_1 rfl ?_
        refine p_iinc_3 (zN_inc _ 1) rfl ?_
        refine p_goto (tgt := 12) (by decide) ?_
        exact ih _ _ (by omega) hk
      · skip
        rw [zfor_step (f := maF1 t q) (a' := v ||| 1 <<< i) (by unfold maF1; rw [if_neg hc32])] at hk
        refine p_iconst (v := nI 1) (by decide) ?_
        refine p_iloadn_3 ?_
        refine p_ishlN (by omega) ?_
        refine p_goto (tgt := 42) (by decide) ?_
        refine zK.blk rfl ?_
        refine p_iorN ?_
        refine p_istoren_1 rfl ?_
        refine p_iinc_3 (zN_inc _ 1) rfl ?_
        refine p_goto (tgt := 12) (by decide) ?_
        exact ih _ _ (by omega) hk
set_option maxRecDepth 100000 in
set_option maxHeartbeats 4000000 in
theorem lp_131_4 {sc : Nat × (Nat → Int32)} {d : Nat} {M : zM} {r : Option Value} {M' : zM} {t : Nat} (ht : t < 2 ^ 31) : ∀ (j i v : Nat), i + j = 8 → zK 47 sc (zC 47 sc (d + 0)) 131 r M' 56 [.int (nI t), .int (nI (zfor (maF t) j i v)), .int (nI 8), .null] [] (M) → zK 47 sc (zC 47 sc (d + 0)) 131 r M' 4 [.int (nI t), .int (nI v), .int (nI i), .null] [] (M) := by
  intro j
  induction j with
  | zero =>
    intro i v  hj hk
    obtain rfl : i = 8 := by omega
    refine zK.blk rfl ?_
    refine p_iloadn_2 ?_
    refine p_bipush (v := nI 8) (by decide) ?_
    refine p_icmpN_ge (tgt := 56) (by decide) (by omega) (by omega) (fun hc7 => ?_) (fun hc7 => ?_)
    · skip
      exact hk
    · skip
      exact absurd hc7 (by omega) --STOP
  | succ j ih =>
    intro i v  hj hk
    refine zK.blk rfl ?_
    refine p_iloadn_2 ?_
    refine p_bipush (v := nI 8) (by decide) ?_
    refine p_icmpN_ge (tgt := 56) (by decide) (by omega) (by omega) (fun hc7 => ?_) (fun hc7 => ?_)
    · skip
      exact absurd hc7 (by omega) --STOP
    · skip
      refine p_iconst (v := nI 0) (by decide) ?_
      refine p_istoren_3 rfl ?_
      refine lp_131_12 ht (by omega) 3 0 v (by omega) ?_
      refine zK.blk rfl ?_
      refine p_iinc_2 (zN_inc _ 1) rfl ?_
      refine p_goto (tgt := 4) (by decide) ?_
      refine zK.forget _ ?_ (ih _ _ (by omega) hk)
      exact ⟨Or.inl rfl, Or.inl rfl, Or.inl rfl, Or.inr rfl, trivial⟩
set_option maxRecDepth 100000 in
set_option maxHeartbeats 4000000 in
theorem c_131 {sc : Nat × (Nat → Int32)} {d : Nat} {M : zM} {t : Nat} (ht : t < 2 ^ 31) : zC 47 sc (d + 1) 131 [.int (nI t)] M (some (.int (nI (maN t)))) (M) := by
  refine z_enter (L := [.int (nI t), .null, .null, .null]) rfl rfl rfl ?_
  refine zK.blk rfl ?_
  refine p_iconst (v := nI 0) (by decide) ?_
  refine p_istoren_1 rfl ?_
  refine p_iconst (v := nI 0) (by decide) ?_
  refine p_istoren_2 rfl ?_
  refine lp_131_4 ht 8 0 0 (by omega) ?_
  refine zK.blk rfl ?_
  refine p_iloadn_1 ?_
  exact p_iret trivial rfl rfl
set_option maxRecDepth 100000 in
set_option maxHeartbeats 4000000 in
theorem c_91 {sc : Nat × (Nat → Int32)} {d : Nat} {M : zM} {p : Nat} (hp : p < 4) : zC 47 sc (d + 1) 91 [.int (nI p)] M (some (.int (nI (z22 p)))) (M) := by
  have hp2 := zsh_lt hp
  have hp3 := z22_lt hp
  unfold z22 at hp3 ⊢
  refine z_enter (L := [.int (nI p)]) rfl rfl rfl ?_
  refine zK.blk rfl ?_
  refine p_iconst (v := nI 1) (by decide) ?_
  refine p_iconst (v := nI 1) (by decide) ?_
  refine p_iloadn_0 ?_
  refine p_ishlN (by omega) ?_
  refine p_ishlN (by omega) ?_
  exact p_iret trivial rfl rfl
def zin (v lo hi : Int32) : Bool := decide (¬ v < lo) && decide (¬ hi < v)
set_option maxRecDepth 100000 in
set_option maxHeartbeats 4000000 in
theorem c_89 {sc : Nat × (Nat → Int32)} {d : Nat} {M : zM} {v lo hi : Int32} : zC 47 sc (d + 1) 89 [.int v, .int lo, .int hi] M (some (.int (zB (zin v lo hi)))) (M) := by
  refine z_enter (L := [.int v, .int lo, .int hi]) rfl rfl rfl ?_
  refine zK.blk rfl ?_
  refine p_iloadn_0 ?_
  refine p_iloadn_1 ?_
  refine p_icmp_lt (tgt := 14) (by decide) (fun hc2 => ?_) (fun hc2 => ?_)
  · skip
    refine zK.blk rfl ?_
    refine p_iconst (v := nI 0) (by decide) ?_
    refine zK.blk rfl ?_
    exact p_iret (by first | exact Or.inl rfl | exact Or.inr rfl) (by (first | rw [zB_0] | rw [zB_1]); congr 3; unfold zin; simp_all) rfl
  · skip
    refine p_iloadn_0 ?_
    refine p_iloadn_2 ?_
    refine p_icmp_gt (tgt := 14) (by decide) (fun hc7 => ?_) (fun hc7 => ?_)
    · skip
      refine zK.blk rfl ?_
      refine p_iconst (v := nI 0) (by decide) ?_
      refine zK.blk rfl ?_
      exact p_iret (by first | exact Or.inl rfl | exact Or.inr rfl) (by (first | rw [zB_0] | rw [zB_1]); congr 3; unfold zin; simp_all) rfl
    · skip
      refine p_iconst (v := nI 1) (by decide) ?_
      refine p_goto (tgt := 15) (by decide) ?_
      refine zK.blk rfl ?_
      exact p_iret (by first | exact Or.inl rfl | exact Or.inr rfl) (by (first | rw [zB_0] | rw [zB_1]); congr 3; unfold zin; simp_all) rfl
end
section
def krF (t q v i ri : Nat) : Nat := if t >>> (q ||| 1 <<< i) &&& 1 < v then ri &&& 0 else ri &&& 1
def kF (n t last q : Nat) (ab : Nat × Nat) : Nat × Nat := (if t >>> (last - q) &&& 1 = t >>> q &&& 1 then ab.1 &&& 0 else ab.1 &&& 1, zfor (krF t q (t >>> q &&& 1)) n 0 ab.2)
def kA (n t : Nat) : Nat × Nat := zfor (kF n t (1 <<< n - 1)) (1 <<< n) 0 (1, 1)
def ksF (s q i v : Nat) : Nat := v + ((s &&& q) >>> i &&& 1)
def kiF (n t s o q b : Nat) : Nat := if zfor (ksF s q) n 0 o % 2 = t >>> q &&& 1 then b &&& 1 else b &&& 0
def koF (n t s o su : Nat) : Nat := su ||| zfor (kiF n t s o) (1 <<< n) 0 1
def kcF (n t s su : Nat) : Nat := zfor (koF n t s) 2 0 su
def kS (n t : Nat) : Nat := zfor (kcF n t) (1 <<< n) 0 0
def kmN (n t : Nat) : Nat := (if t &&& 1 = 0 then 1 else 0) + (if t >>> (1 <<< n - 1) &&& 1 = 1 then 2 else 0) + (if (kA n t).1 = 0 then 0 else 4) + (if (kA n t).2 = 0 then 0 else 8) + (if kS n t = 0 then 0 else 16)
theorem kA_lt : ∀ n, n < 4 → ∀ t, t < z22 n → (kA n t).1 < 2 ∧ (kA n t).2 < 2 ∧ kS n t < 2 := by decide +kernel
theorem kb_km : ∀ n, n < 4 → ∀ t, t < z22 n → kbN n t = kmN n t ∧ kmN n t < 32 := by decide +kernel
theorem mp_ma : ∀ t, t < 256 → mpN 3 t = maN t ∧ maN t < 8 := by decide +kernel
theorem oh_mo : ∀ t, t < 256 → ohN 3 t = moN t ∧ moN t < 256 := by decide +kernel
theorem pl_pl : ∀ n, n < 4 → ∀ i, i < n → plN n i = (zpl i &&& (z22 n - 1)) := by decide +kernel
theorem ks_le (s q : Nat) : ∀ j i v, zfor (ksF s q) j i v ≤ v + j := by
  intro j
  induction j with
  | zero => intro i v; exact Nat.le_refl _
  | succ j ih =>
    intro i v
    have h1 := ih (i + 1) (ksF s q i v)
    have h2 := zb_lt (s &&& q) i
    have h3 : ksF s q i v = v + ((s &&& q) >>> i &&& 1) := rfl
    show zfor (ksF s q) j (i + 1) (ksF s q i v) ≤ _
    omega
theorem zN_mod2 : ∀ a, a < 8 → nI a - nI a / nI 2 * nI 2 = nI (a % 2) := by decide +kernel
theorem zand_lt {a b c : Nat} (h : a < c) : a &&& b < c := Nat.lt_of_le_of_lt Nat.and_le_left h
set_option maxRecDepth 100000 in
set_option maxHeartbeats 4000000 in
theorem lp_94_60 {sc : Nat × (Nat → Int32)} {d : Nat} {M : zM} {r : Option Value} {M' : zM} {n t rw la su tu q v : Nat} (hn : n < 4) (ht : t < 2 ^ 31) (hrw : rw = 1 <<< n) (hla : la = rw - 1) (hq : q < rw) (hv : v < 2) : ∀ (j i ri : Nat), i + j = n → zK 47 sc (zC 47 sc (d + 0)) 94 r M' 98 [.int (nI n), .int (nI t), .int (nI rw), .int (nI la), .int (nI tu), .int (nI (zfor (krF t q v) j i ri)), .int (nI su), .int (nI q), .int (nI v), .int (nI n), .null, .null, .null] [] (M) → zK 47 sc (zC 47 sc (d + 0)) 94 r M' 60 [.int (nI n), .int (nI t), .int (nI rw), .int (nI la), .int (nI tu), .int (nI ri), .int (nI su), .int (nI q), .int (nI v), .int (nI i), .null, .null, .null] [] (M) := by
  intro j
  induction j with
  | zero =>
    intro i ri  hj hk
    obtain rfl : i = n := by omega
    have hs := zsh_lt hn
    refine zK.blk rfl ?_
    refine p_iload_9 ?_
    refine p_iloadn_0 ?_
    refine p_icmpN_ge (tgt := 98) (by decide) (by omega) (by omega) (fun hc63 => ?_) (fun hc63 => ?_)
    · skip
      exact hk
    · skip
      exact absurd hc63 (by omega) --STOP
  | succ j ih =>
    intro i ri  hj hk
    have hs := zsh_lt hn
    have hx := zo_lt (show q < 8 by omega) (show i < 3 by omega)
    have hb1 := zb_lt t (q ||| 1 <<< i)
    refine zK.blk rfl ?_
    refine p_iload_9 ?_
    refine p_iloadn_0 ?_
    refine p_icmpN_ge (tgt := 98) (by decide) (by omega) (by omega) (fun hc63 => ?_) (fun hc63 => ?_)
    · skip
      exact absurd hc63 (by omega) --STOP
    · skip
      refine p_iload_5 ?_
      refine p_iload_8 ?_
      refine p_iloadn_1 ?_
      refine p_iload_7 ?_
      refine p_iconst (v := nI 1) (by decide) ?_
      refine p_iload_9 ?_
      refine p_ishlN (by omega) ?_
      refine p_iorN ?_
      refine p_ishrN (by omega) (by omega) ?_
      refine p_iconst (v := nI 1) (by decide) ?_
      refine p_iandN ?_
      refine p_icmpN_gt (tgt := 88) (by decide) (by omega) (by omega) (fun hc81 => ?_) (fun hc81 => ?_)
      · skip
        rw [zfor_step (f := krF t q v) (a' := ri &&& 0) (by unfold krF; rw [if_pos hc81])] at hk
        refine zK.blk rfl ?_
        refine p_iconst (v := nI 0) (by decide) ?_
        refine zK.blk rfl ?_
        refine p_iandN ?_
        refine p_istore_5 rfl ?_
        refine p_iinc_9 (zN_inc _ 1) rfl ?_
        refine p_goto (tgt := 60) (by decide) ?_
        exact ih _ _ (by omega) hk
      · skip
        rw [zfor_step (f := krF t q v) (a' := ri &&& 1) (by unfold krF; rw [if_neg hc81])] at hk
        refine p_iconst (v := nI 1) (by decide) ?_
        refine p_goto (tgt := 89) (by decide) ?_
        refine zK.blk rfl ?_
        refine p_iandN ?_
        refine p_istore_5 rfl ?_
        refine p_iinc_9 (zN_inc _ 1) rfl ?_
        refine p_goto (tgt := 60) (by decide) ?_
        exact ih _ _ (by omega) hk
set_option maxRecDepth 100000 in
set_option maxHeartbeats 4000000 in
theorem lp_94_20 {sc : Nat × (Nat → Int32)} {d : Nat} {M : zM} {r : Option Value} {M' : zM} {n t rw la su : Nat} (hn : n < 4) (ht : t < 2 ^ 31) (hrw : rw = 1 <<< n) (hla : la = rw - 1) : ∀ (j i tu ri : Nat), i + j = rw → zK 47 sc (zC 47 sc (d + 0)) 94 r M' 104 [.int (nI n), .int (nI t), .int (nI rw), .int (nI la), .int (nI (zfor (kF n t la) j i (tu, ri)).1), .int (nI (zfor (kF n t la) j i (tu, ri)).2), .int (nI su), .int (nI rw), .null, .null, .null, .null, .null] [] (M) → zK 47 sc (zC 47 sc (d + 0)) 94 r M' 20 [.int (nI n), .int (nI t), .int (nI rw), .int (nI la), .int (nI tu), .int (nI ri), .int (nI su), .int (nI i), .null, .null, .null, .null, .null] [] (M) := by
  intro j
  induction j with
  | zero =>
    intro i tu ri  hj hk
    obtain rfl : i = rw := by omega
    have hs := zsh_lt hn
    refine zK.blk rfl ?_
    refine p_iload_7 ?_
    refine p_iloadn_2 ?_
    refine p_icmpN_ge (tgt := 104) (by decide) (by omega) (by omega) (fun hc23 => ?_) (fun hc23 => ?_)
    · skip
      exact hk
    · skip
      exact absurd hc23 (by omega) --STOP
  | succ j ih =>
    intro i tu ri  hj hk
    have hs := zsh_lt hn
    have hb1 := zb_lt t i
    have hb2 := zb_lt t (la - i)
    refine zK.blk rfl ?_
    refine p_iload_7 ?_
    refine p_iloadn_2 ?_
    refine p_icmpN_ge (tgt := 104) (by decide) (by omega) (by omega) (fun hc23 => ?_) (fun hc23 => ?_)
    · skip
      exact absurd hc23 (by omega) --STOP
    · skip
      refine p_iloadn_1 ?_
      refine p_iload_7 ?_
      refine p_ishrN (by omega) (by omega) ?_
      refine p_iconst (v := nI 1) (by decide) ?_
      refine p_iandN ?_
      refine p_istore_8 rfl ?_
      refine p_iload_4 ?_
      refine p_iloadn_1 ?_
      refine p_iloadn_3 ?_
      refine p_iload_7 ?_
      refine p_isubN (by omega) ?_
      refine p_ishrN (by omega) (by omega) ?_
      refine p_iconst (v := nI 1) (by decide) ?_
      refine p_iandN ?_
      refine p_iload_8 ?_
      refine p_icmpN_eq (tgt := 53) (by decide) (by omega) (by omega) (fun hc46 => ?_) (fun hc46 => ?_)
      · skip
        rw [zfor_step (f := kF n t la) (a' := (tu &&& 0, zfor (krF t i (t >>> i &&& 1)) n 0 ri)) (by unfold kF; rw [if_pos hc46])] at hk
        refine zK.blk rfl ?_
        refine p_iconst (v := nI 0) (by decide) ?_
        refine zK.blk rfl ?_
        refine p_iandN ?_
        refine p_istore_4 rfl ?_
        refine p_iconst (v := nI 0) (by decide) ?_
        refine p_istore_9 rfl ?_
        refine lp_94_60 hn ht hrw hla (by omega) hb1 n 0 ri (by omega) ?_
        refine zK.blk rfl ?_
        refine p_iinc_7 (zN_inc _ 1) rfl ?_
        refine p_goto (tgt := 20) (by decide) ?_
        refine zK.forget _ ?_ (ih _ _ _ (by omega) hk)
        exact ⟨Or.inl rfl, Or.inl rfl, Or.inl rfl, Or.inl rfl, Or.inl rfl, Or.inl rfl, Or.inl rfl, Or.inl rfl, Or.inr rfl, Or.inr rfl, Or.inl rfl, Or.inl rfl, Or.inl rfl, trivial⟩
      · skip
        rw [zfor_step (f := kF n t la) (a' := (tu &&& 1, zfor (krF t i (t >>> i &&& 1)) n 0 ri)) (by unfold kF; rw [if_neg hc46])] at hk
        refine p_iconst (v := nI 1) (by decide) ?_
        refine p_goto (tgt := 54) (by decide) ?_
        refine zK.blk rfl ?_
        refine p_iandN ?_
        refine p_istore_4 rfl ?_
        refine p_iconst (v := nI 0) (by decide) ?_
        refine p_istore_9 rfl ?_
        refine lp_94_60 hn ht hrw hla (by omega) hb1 n 0 ri (by omega) ?_
        refine zK.blk rfl ?_
        refine p_iinc_7 (zN_inc _ 1) rfl ?_
        refine p_goto (tgt := 20) (by decide) ?_
        refine zK.forget _ ?_ (ih _ _ _ (by omega) hk)
        exact ⟨Or.inl rfl, Or.inl rfl, Or.inl rfl, Or.inl rfl, Or.inl rfl, Or.inl rfl, Or.inl rfl, Or.inl rfl, Or.inr rfl, Or.inr rfl, Or.inl rfl, Or.inl rfl, Or.inl rfl, trivial⟩
set_option maxRecDepth 100000 in
set_option maxHeartbeats 4000000 in
theorem lp_94_141 {sc : Nat × (Nat → Int32)} {d : Nat} {M : zM} {r : Option Value} {M' : zM} {n t rw la su tu ri s o is q : Nat} (hn : n < 4) (ht : t < 2 ^ 31) (hrw : rw = 1 <<< n) (hla : la = rw - 1) (hs0 : s < rw) (hq : q < rw) : ∀ (j i v : Nat), i + j = n → zK 47 sc (zC 47 sc (d + 0)) 94 r M' 168 [.int (nI n), .int (nI t), .int (nI rw), .int (nI la), .int (nI tu), .int (nI ri), .int (nI su), .int (nI s), .int (nI o), .int (nI is), .int (nI q), .int (nI (zfor (ksF s q) j i v)), .int (nI n)] [] (M) → zK 47 sc (zC 47 sc (d + 0)) 94 r M' 141 [.int (nI n), .int (nI t), .int (nI rw), .int (nI la), .int (nI tu), .int (nI ri), .int (nI su), .int (nI s), .int (nI o), .int (nI is), .int (nI q), .int (nI v), .int (nI i)] [] (M) := by
  intro j
  induction j with
  | zero =>
    intro i v  hj hk
    obtain rfl : i = n := by omega
    have hs := zsh_lt hn
    refine zK.blk rfl ?_
    refine p_iload_12 ?_
    refine p_iloadn_0 ?_
    refine p_icmpN_ge (tgt := 168) (by decide) (by omega) (by omega) (fun hc144 => ?_) (fun hc144 => ?_)
    · skip
      exact hk
    · skip
      exact absurd hc144 (by omega) --STOP
  | succ j ih =>
    intro i v  hj hk
    have hs := zsh_lt hn
    refine zK.blk rfl ?_
    refine p_iload_12 ?_
    refine p_iloadn_0 ?_
    refine p_icmpN_ge (tgt := 168) (by decide) (by omega) (by omega) (fun hc144 => ?_) (fun hc144 => ?_)
    · skip
      exact absurd hc144 (by omega) --STOP
    · skip
      refine p_iload_11 ?_
      refine p_iload_7 ?_
      refine p_iload_10 ?_
      refine p_iandN ?_
      have hsq : s &&& q < 2 ^ 31 := zand_lt (by omega)
      refine p_iload_12 ?_
      refine p_ishrN (by omega) (by omega) ?_
      refine p_iconst (v := nI 1) (by decide) ?_
      refine p_iandN ?_
      refine p_iaddN ?_
      refine p_istore_11 rfl ?_
      refine p_iinc_12 (zN_inc _ 1) rfl ?_
      refine p_goto (tgt := 141) (by decide) ?_
      exact ih _ _ (by omega) hk
set_option maxRecDepth 100000 in
set_option maxHeartbeats 4000000 in
theorem lp_94_128 {sc : Nat × (Nat → Int32)} {d : Nat} {M : zM} {r : Option Value} {M' : zM} {n t rw la su tu ri s o : Nat} (hn : n < 4) (ht : t < 2 ^ 31) (hrw : rw = 1 <<< n) (hla : la = rw - 1) (hs0 : s < rw) (ho : o < 2) : ∀ (j i b : Nat), i + j = rw → zK 47 sc (zC 47 sc (d + 0)) 94 r M' 197 [.int (nI n), .int (nI t), .int (nI rw), .int (nI la), .int (nI tu), .int (nI ri), .int (nI su), .int (nI s), .int (nI o), .int (nI (zfor (kiF n t s o) j i b)), .int (nI rw), .null, .null] [] (M) → zK 47 sc (zC 47 sc (d + 0)) 94 r M' 128 [.int (nI n), .int (nI t), .int (nI rw), .int (nI la), .int (nI tu), .int (nI ri), .int (nI su), .int (nI s), .int (nI o), .int (nI b), .int (nI i), .null, .null] [] (M) := by
  intro j
  induction j with
  | zero =>
    intro i b  hj hk
    obtain rfl : i = rw := by omega
    have hs := zsh_lt hn
    refine zK.blk rfl ?_
    refine p_iload_10 ?_
    refine p_iloadn_2 ?_
    refine p_icmpN_ge (tgt := 197) (by decide) (by omega) (by omega) (fun hc131 => ?_) (fun hc131 => ?_)
    · skip
      exact hk
    · skip
      exact absurd hc131 (by omega) --STOP
  | succ j ih =>
    intro i b  hj hk
    have hs := zsh_lt hn
    have hb1 := zb_lt t i
    have hle := ks_le s i n 0 o
    refine zK.blk rfl ?_
    refine p_iload_10 ?_
    refine p_iloadn_2 ?_
    refine p_icmpN_ge (tgt := 197) (by decide) (by omega) (by omega) (fun hc131 => ?_) (fun hc131 => ?_)
    · skip
      exact absurd hc131 (by omega) --STOP
    · skip
      refine p_iload_8 ?_
      refine p_istore_11 rfl ?_
      refine p_iconst (v := nI 0) (by decide) ?_
      refine p_istore_12 rfl ?_
      refine lp_94_141 hn ht hrw hla hs0 (by omega) n 0 o (by omega) ?_
      refine zK.blk rfl ?_
      refine p_iload_9 ?_
      refine p_iload_11 ?_
      refine p_iconst (v := nI 2) (by decide) ?_
      refine p_irem (v := nI (zfor (ksF s i) n 0 o % 2)) (by decide) (zN_mod2 _ (by omega)) ?_
      refine p_iloadn_1 ?_
      refine p_iload_10 ?_
      refine p_ishrN (by omega) (by omega) ?_
      refine p_iconst (v := nI 1) (by decide) ?_
      refine p_iandN ?_
      refine p_icmpN_ne (tgt := 187) (by decide) (by omega) (by omega) (fun hc180 => ?_) (fun hc180 => ?_)
      · skip
        rw [zfor_step (f := kiF n t s o) (a' := b &&& 0) (by unfold kiF; rw [if_neg hc180])] at hk
        refine zK.blk rfl ?_
        refine p_iconst (v := nI 0) (by decide) ?_
        refine zK.blk rfl ?_
        refine p_iandN ?_
        refine p_istore_9 rfl ?_
        refine p_iinc_10 (zN_inc _ 1) rfl ?_
        refine p_goto (tgt := 128) (by decide) ?_
        refine zK.forget _ ?_ (ih _ _ (by omega) hk)
        exact ⟨Or.inl rfl, Or.inl rfl, Or.inl rfl, Or.inl rfl, Or.inl rfl, Or.inl rfl, Or.inl rfl, Or.inl rfl, Or.inl rfl, Or.inl rfl, Or.inl rfl, Or.inr rfl, Or.inr rfl, trivial⟩
      · skip
        rw [zfor_step (f := kiF n t s o) (a' := b &&& 1) (by unfold kiF; rw [if_pos (by omega)])] at hk
        refine p_iconst (v := nI 1) (by decide) ?_
        refine p_goto (tgt := 188) (by decide) ?_
        refine zK.blk rfl ?_
        refine p_iandN ?_
        refine p_istore_9 rfl ?_
        refine p_iinc_10 (zN_inc _ 1) rfl ?_
        refine p_goto (tgt := 128) (by decide) ?_
        refine zK.forget _ ?_ (ih _ _ (by omega) hk)
        exact ⟨Or.inl rfl, Or.inl rfl, Or.inl rfl, Or.inl rfl, Or.inl rfl, Or.inl rfl, Or.inl rfl, Or.inl rfl, Or.inl rfl, Or.inl rfl, Or.inl rfl, Or.inr rfl, Or.inr rfl, trivial⟩
set_option maxRecDepth 100000 in
set_option maxHeartbeats 4000000 in
theorem lp_94_116 {sc : Nat × (Nat → Int32)} {d : Nat} {M : zM} {r : Option Value} {M' : zM} {n t rw la tu ri s : Nat} (hn : n < 4) (ht : t < 2 ^ 31) (hrw : rw = 1 <<< n) (hla : la = rw - 1) (hs0 : s < rw) : ∀ (j i su : Nat), i + j = 2 → zK 47 sc (zC 47 sc (d + 0)) 94 r M' 210 [.int (nI n), .int (nI t), .int (nI rw), .int (nI la), .int (nI tu), .int (nI ri), .int (nI (zfor (koF n t s) j i su)), .int (nI s), .int (nI 2), .null, .null, .null, .null] [] (M) → zK 47 sc (zC 47 sc (d + 0)) 94 r M' 116 [.int (nI n), .int (nI t), .int (nI rw), .int (nI la), .int (nI tu), .int (nI ri), .int (nI su), .int (nI s), .int (nI i), .null, .null, .null, .null] [] (M) := by
  intro j
  induction j with
  | zero =>
    intro i su  hj hk
    obtain rfl : i = 2 := by omega
    refine zK.blk rfl ?_
    refine p_iload_8 ?_
    refine p_iconst (v := nI 2) (by decide) ?_
    refine p_icmpN_ge (tgt := 210) (by decide) (by omega) (by omega) (fun hc119 => ?_) (fun hc119 => ?_)
    · skip
      exact hk
    · skip
      exact absurd hc119 (by omega) --STOP
  | succ j ih =>
    intro i su  hj hk
    subst hrw
    refine zK.blk rfl ?_
    refine p_iload_8 ?_
    refine p_iconst (v := nI 2) (by decide) ?_
    refine p_icmpN_ge (tgt := 210) (by decide) (by omega) (by omega) (fun hc119 => ?_) (fun hc119 => ?_)
    · skip
      exact absurd hc119 (by omega) --STOP
    · skip
      refine p_iconst (v := nI 1) (by decide) ?_
      refine p_istore_9 rfl ?_
      refine p_iconst (v := nI 0) (by decide) ?_
      refine p_istore_10 rfl ?_
      refine lp_94_128 hn ht rfl hla hs0 (by omega) (1 <<< n) 0 1 (by omega) ?_
      refine zK.blk rfl ?_
      refine p_iload_6 ?_
      refine p_iload_9 ?_
      refine p_iorN ?_
      refine p_istore_6 rfl ?_
      refine p_iinc_8 (zN_inc _ 1) rfl ?_
      refine p_goto (tgt := 116) (by decide) ?_
      refine zK.forget _ ?_ (ih _ _ (by omega) hk)
      exact ⟨Or.inl rfl, Or.inl rfl, Or.inl rfl, Or.inl rfl, Or.inl rfl, Or.inl rfl, Or.inl rfl, Or.inl rfl, Or.inl rfl, Or.inr rfl, Or.inr rfl, Or.inl rfl, Or.inl rfl, trivial⟩
set_option maxRecDepth 100000 in
set_option maxHeartbeats 4000000 in
theorem lp_94_107 {sc : Nat × (Nat → Int32)} {d : Nat} {M : zM} {r : Option Value} {M' : zM} {n t rw la tu ri : Nat} (hn : n < 4) (ht : t < 2 ^ 31) (hrw : rw = 1 <<< n) (hla : la = rw - 1) : ∀ (j i su : Nat), i + j = rw → zK 47 sc (zC 47 sc (d + 0)) 94 r M' 216 [.int (nI n), .int (nI t), .int (nI rw), .int (nI la), .int (nI tu), .int (nI ri), .int (nI (zfor (kcF n t) j i su)), .int (nI rw), .null, .null, .null, .null, .null] [] (M) → zK 47 sc (zC 47 sc (d + 0)) 94 r M' 107 [.int (nI n), .int (nI t), .int (nI rw), .int (nI la), .int (nI tu), .int (nI ri), .int (nI su), .int (nI i), .null, .null, .null, .null, .null] [] (M) := by
  intro j
  induction j with
  | zero =>
    intro i su  hj hk
    obtain rfl : i = rw := by omega
    have hs := zsh_lt hn
    refine zK.blk rfl ?_
    refine p_iload_7 ?_
    refine p_iloadn_2 ?_
    refine p_icmpN_ge (tgt := 216) (by decide) (by omega) (by omega) (fun hc110 => ?_) (fun hc110 => ?_)
    · skip
      exact hk
    · skip
      exact absurd hc110 (by omega) --STOP
  | succ j ih =>
    intro i su  hj hk
    have hs := zsh_lt hn
    refine zK.blk rfl ?_
    refine p_iload_7 ?_
    refine p_iloadn_2 ?_
    refine p_icmpN_ge (tgt := 216) (by decide) (by omega) (by omega) (fun hc110 => ?_) (fun hc110 => ?_)
    · skip
      exact absurd hc110 (by omega) --STOP
    · skip
      refine p_iconst (v := nI 0) (by decide) ?_
      refine p_istore_8 rfl ?_
      refine lp_94_116 hn ht hrw hla (by omega) 2 0 su (by omega) ?_
      refine zK.blk rfl ?_
      refine p_iinc_7 (zN_inc _ 1) rfl ?_
      refine p_goto (tgt := 107) (by decide) ?_
      refine zK.forget _ ?_ (ih _ _ (by omega) hk)
      exact ⟨Or.inl rfl, Or.inl rfl, Or.inl rfl, Or.inl rfl, Or.inl rfl, Or.inl rfl, Or.inl rfl, Or.inl rfl, Or.inr rfl, Or.inl rfl, Or.inl rfl, Or.inl rfl, Or.inl rfl, trivial⟩
set_option maxRecDepth 100000 in
set_option maxHeartbeats 4000000 in
theorem st_94_264 {sc : Nat × (Nat → Int32)} {d : Nat} {M : zM} {n t la tu ri su : Nat} {x2 x7 : Nat} (hsu : su < 2) {b : Nat} (a : Nat) : zK 47 sc (zC 47 sc (d + 0)) 94 (some (.int (nI (a + b + (if su = 0 then 0 else 16))))) M 264 [.int (nI n), .int (nI t), .int (nI x2), .int (nI la), .int (nI tu), .int (nI ri), .int (nI su), .int (nI x7), .null, .null, .null, .null, .null] [.int (nI b), .int (nI a)] M := by
  refine zK.blk rfl ?_
  refine p_iaddN ?_
  refine p_iload_6 ?_
  refine p_ifN_eq (tgt := 275) (by decide) (by omega) (fun hc267 => ?_) (fun hc267 => ?_)
  · skip
    refine zK.blk rfl ?_
    refine p_iconst (v := nI 0) (by decide) ?_
    refine zK.blk rfl ?_
    refine p_iaddN ?_
    exact p_iret trivial (by simp [hc267]) rfl
  · skip
    refine p_bipush (v := nI 16) (by decide) ?_
    refine p_goto (tgt := 276) (by decide) ?_
    refine zK.blk rfl ?_
    refine p_iaddN ?_
    exact p_iret trivial (by simp [hc267]) rfl
set_option maxRecDepth 100000 in
set_option maxHeartbeats 4000000 in
theorem st_94_252 {sc : Nat × (Nat → Int32)} {d : Nat} {M : zM} {n t la tu ri su : Nat} {x2 x7 : Nat} (hsu : su < 2) (hri : ri < 2) {b : Nat} (a : Nat) : zK 47 sc (zC 47 sc (d + 0)) 94 (some (.int (nI (a + b + (if ri = 0 then 0 else 8) + (if su = 0 then 0 else 16))))) M 252 [.int (nI n), .int (nI t), .int (nI x2), .int (nI la), .int (nI tu), .int (nI ri), .int (nI su), .int (nI x7), .null, .null, .null, .null, .null] [.int (nI b), .int (nI a)] M := by
  refine zK.blk rfl ?_
  refine p_iaddN ?_
  refine p_iload_5 ?_
  refine p_ifN_eq (tgt := 263) (by decide) (by omega) (fun hc255 => ?_) (fun hc255 => ?_)
  · skip
    rw [if_pos hc255]
    refine zK.blk rfl ?_
    refine p_iconst (v := nI 0) (by decide) ?_
    exact st_94_264 hsu _
  · skip
    rw [if_neg hc255]
    refine p_bipush (v := nI 8) (by decide) ?_
    refine p_goto (tgt := 264) (by decide) ?_
    exact st_94_264 hsu _
set_option maxRecDepth 100000 in
set_option maxHeartbeats 4000000 in
theorem st_94_241 {sc : Nat × (Nat → Int32)} {d : Nat} {M : zM} {n t la tu ri su : Nat} {x2 x7 : Nat} (hsu : su < 2) (hri : ri < 2) (htu : tu < 2) {b : Nat} (a : Nat) : zK 47 sc (zC 47 sc (d + 0)) 94 (some (.int (nI (a + b + (if tu = 0 then 0 else 4) + (if ri = 0 then 0 else 8) + (if su = 0 then 0 else 16))))) M 241 [.int (nI n), .int (nI t), .int (nI x2), .int (nI la), .int (nI tu), .int (nI ri), .int (nI su), .int (nI x7), .null, .null, .null, .null, .null] [.int (nI b), .int (nI a)] M := by
  refine zK.blk rfl ?_
  refine p_iaddN ?_
  refine p_iload_4 ?_
  refine p_ifN_eq (tgt := 251) (by decide) (by omega) (fun hc244 => ?_) (fun hc244 => ?_)
  · skip
    rw [if_pos hc244]
    refine zK.blk rfl ?_
    refine p_iconst (v := nI 0) (by decide) ?_
    exact st_94_252 hsu hri _
  · skip
    rw [if_neg hc244]
    refine p_iconst (v := nI 4) (by decide) ?_
    refine p_goto (tgt := 252) (by decide) ?_
    exact st_94_252 hsu hri _
set_option maxRecDepth 100000 in
set_option maxHeartbeats 4000000 in
theorem st_94_227 {sc : Nat × (Nat → Int32)} {d : Nat} {M : zM} {n t la tu ri su : Nat} {x2 x7 : Nat} (hsu : su < 2) (hri : ri < 2) (htu : tu < 2) (ht : t < 2 ^ 31) (hla : la < 8) (a : Nat) : zK 47 sc (zC 47 sc (d + 0)) 94 (some (.int (nI (a + (if t >>> la &&& 1 = 1 then 2 else 0) + (if tu = 0 then 0 else 4) + (if ri = 0 then 0 else 8) + (if su = 0 then 0 else 16))))) M 227 [.int (nI n), .int (nI t), .int (nI x2), .int (nI la), .int (nI tu), .int (nI ri), .int (nI su), .int (nI x7), .null, .null, .null, .null, .null] [.int (nI a)] M := by
  have hb1 := zb_lt t la
  refine zK.blk rfl ?_
  refine p_iloadn_1 ?_
  refine p_iloadn_3 ?_
  refine p_ishrN (by omega) (by omega) ?_
  refine p_iconst (v := nI 1) (by decide) ?_
  refine p_iandN ?_
  refine p_iconst (v := nI 1) (by decide) ?_
  refine p_icmpN_ne (tgt := 240) (by decide) (by omega) (by omega) (fun hc233 => ?_) (fun hc233 => ?_)
  · skip
    rw [if_neg hc233]
    refine zK.blk rfl ?_
    refine p_iconst (v := nI 0) (by decide) ?_
    exact st_94_241 hsu hri htu _
  · skip
    rw [if_pos (by omega)]
    refine p_iconst (v := nI 2) (by decide) ?_
    refine p_goto (tgt := 241) (by decide) ?_
    exact st_94_241 hsu hri htu _
set_option maxRecDepth 100000 in
set_option maxHeartbeats 4000000 in
theorem st_94_216 {sc : Nat × (Nat → Int32)} {d : Nat} {M : zM} {n t la tu ri su : Nat} {x2 x7 : Nat} (hsu : su < 2) (hri : ri < 2) (htu : tu < 2) (ht : t < 2 ^ 31) (hla : la < 8) (a : Nat) : zK 47 sc (zC 47 sc (d + 0)) 94 (some (.int (nI ((if t &&& 1 = 0 then 1 else 0) + (if t >>> la &&& 1 = 1 then 2 else 0) + (if tu = 0 then 0 else 4) + (if ri = 0 then 0 else 8) + (if su = 0 then 0 else 16))))) M 216 [.int (nI n), .int (nI t), .int (nI x2), .int (nI la), .int (nI tu), .int (nI ri), .int (nI su), .int (nI x7), .null, .null, .null, .null, .null] [] M := by
  have hb1 : t &&& 1 < 2 := by rw [Nat.and_one_is_mod]; omega
  refine zK.blk rfl ?_
  refine p_iloadn_1 ?_
  refine p_iconst (v := nI 1) (by decide) ?_
  refine p_iandN ?_
  refine p_ifN_ne (tgt := 226) (by decide) (by omega) (fun hc219 => ?_) (fun hc219 => ?_)
  · skip
    rw [if_neg hc219]
    refine zK.blk rfl ?_
    refine p_iconst (v := nI 0) (by decide) ?_
    exact st_94_227 hsu hri htu ht hla _
  · skip
    rw [if_pos (by omega)]
    refine p_iconst (v := nI 1) (by decide) ?_
    refine p_goto (tgt := 227) (by decide) ?_
    exact st_94_227 hsu hri htu ht hla _
set_option maxRecDepth 100000 in
set_option maxHeartbeats 4000000 in
theorem c_94 {sc : Nat × (Nat → Int32)} {d : Nat} {M : zM} {n t : Nat} (hn : n < 4) (ht : t < z22 n) : zC 47 sc (d + 1) 94 [.int (nI n), .int (nI t)] M (some (.int (nI (kmN n t)))) (M) := by
  have hs := zsh_lt hn
  have hz := z22_lt hn
  have ht2 : t < 2 ^ 31 := by omega
  have hA := kA_lt n hn t ht
  unfold kmN
  unfold kA kS at hA ⊢
  refine z_enter (L := [.int (nI n), .int (nI t), .null, .null, .null, .null, .null, .null, .null, .null, .null, .null, .null]) rfl rfl rfl ?_
  refine zK.blk rfl ?_
  refine p_iconst (v := nI 1) (by decide) ?_
  refine p_iloadn_0 ?_
  refine p_ishlN (by omega) ?_
  refine p_istoren_2 rfl ?_
  refine p_iloadn_2 ?_
  refine p_iconst (v := nI 1) (by decide) ?_
  refine p_isubN (by omega) ?_
  refine p_istoren_3 rfl ?_
  refine p_iconst (v := nI 1) (by decide) ?_
  refine p_istore_4 rfl ?_
  refine p_iconst (v := nI 1) (by decide) ?_
  refine p_istore_5 rfl ?_
  refine p_iconst (v := nI 0) (by decide) ?_
  refine p_istore_6 rfl ?_
  refine p_iconst (v := nI 0) (by decide) ?_
  refine p_istore_7 rfl ?_
  refine lp_94_20 hn ht2 rfl rfl (1 <<< n) 0 1 1 (by omega) ?_
  refine zK.blk rfl ?_
  refine p_iconst (v := nI 0) (by decide) ?_
  refine p_istore_7 rfl ?_
  refine lp_94_107 hn ht2 rfl rfl (1 <<< n) 0 0 (by omega) ?_
  exact st_94_216 hA.2.2 hA.2.1 hA.1 ht2 (by omega) 0
end
section
/-- the union of what j turns from i on give -/
def zor (g : Nat → Nat) : Nat → Nat → Nat
  | 0, _ => 0
  | j + 1, i => g i ||| zor g j (i + 1)
theorem zor_step {g : Nat → Nat} {v x j i : Nat} (h : g i = x) : v ||| zor g (j + 1) i = (v ||| x) ||| zor g j (i + 1) := by
  show v ||| (g i ||| zor g j (i + 1)) = _
  rw [h, Nat.or_assoc]
theorem zor_zero {g : Nat → Nat} {v i : Nat} : v ||| zor g 0 i = v := Nat.or_zero v
theorem zor_lt {g : Nat → Nat} {n : Nat} (h : ∀ i, g i < 2 ^ n) : ∀ j i, zor g j i < 2 ^ n := by
  intro j
  induction j with
  | zero => intro i; exact Nat.two_pow_pos n
  | succ j ih => intro i; exact Nat.or_lt_two_pow (h i) (ih (i + 1))
def prG (one no last ch c : Nat) : Nat := if ch >>> c &&& 1 = 1 then 1 <<< (pkN c one no &&& last) else 0
def prN (one no last ch : Nat) : Nat := zor (prG one no last ch) (last + 1) 0
theorem zand_r (x : Nat) {y c : Nat} (h : y < c) : x &&& y < c := Nat.lt_of_le_of_lt Nat.and_le_right h
set_option maxRecDepth 100000 in
set_option maxHeartbeats 4000000 in
theorem lp_9_6 {sc : Nat × (Nat → Int32)} {d : Nat} {M : zM} {r : Option Value} {M' : zM} {one no last ch : Nat} (hl : last < 8) (hch : ch < 2 ^ 31) : ∀ (j i v : Nat), i + j = last + 1 → zK 47 sc (zC 47 sc (d + 1)) 9 r M' 44 [.int (nI one), .int (nI no), .int (nI last), .int (nI ch), .int (nI (v ||| zor (prG one no last ch) j i)), .int (nI (last + 1))] [] (M) → zK 47 sc (zC 47 sc (d + 1)) 9 r M' 6 [.int (nI one), .int (nI no), .int (nI last), .int (nI ch), .int (nI v), .int (nI i)] [] (M) := by
  intro j
  induction j with
  | zero =>
    intro i v  hj hk
    have hin : i = last + 1 := by omega
    subst hin
    rw [zor_zero] at hk
    refine zK.blk rfl ?_
    refine p_iload_5 ?_
    refine p_iloadn_2 ?_
    refine p_icmpN_gt (tgt := 44) (by decide) (by omega) (by omega) (fun hc9 => ?_) (fun hc9 => ?_)
    · skip
      exact hk
    · skip
      exact absurd hc9 (by omega) --STOP
  | succ j ih =>
    intro i v  hj hk
    have hb1 := zb_lt ch i
    have hx := zand_r (pkN i one no) (show last < 32 by omega)
    refine zK.blk rfl ?_
    refine p_iload_5 ?_
    refine p_iloadn_2 ?_
    refine p_icmpN_gt (tgt := 44) (by decide) (by omega) (by omega) (fun hc9 => ?_) (fun hc9 => ?_)
    · skip
      exact absurd hc9 (by omega) --STOP
    · skip
      refine p_iloadn_3 ?_
      refine p_iload_5 ?_
      refine p_cs2i rfl rfl rfl rfl rfl (c_3 (by omega) (by omega)) ?_
      refine p_iconst (v := nI 1) (by decide) ?_
      refine p_icmpN_ne (tgt := 38) (by decide) (by omega) (by omega) (fun hc19 => ?_) (fun hc19 => ?_)
      · skip
        rw [zor_step (x := 0) (by unfold prG; rw [if_neg hc19]), Nat.or_zero] at hk
        refine zK.blk rfl ?_
        refine p_iinc_5 (zN_inc _ 1) rfl ?_
        refine p_goto (tgt := 6) (by decide) ?_
        exact ih _ _ (by omega) hk
      · skip
        rw [zor_step (x := 1 <<< (pkN i one no &&& last)) (by unfold prG; rw [if_pos (by omega)])] at hk
        refine p_iload_4 ?_
        refine p_iconst (v := nI 1) (by decide) ?_
        refine p_iload_5 ?_
        refine p_iloadn_0 ?_
        refine p_iloadn_1 ?_
        refine p_cs3i rfl rfl rfl rfl rfl (c_5) ?_
        refine p_iloadn_2 ?_
        refine p_iandN ?_
        refine p_ishlN (by omega) ?_
        refine p_iorN ?_
        refine p_istore_4 rfl ?_
        refine zK.blk rfl ?_
        refine p_iinc_5 (zN_inc _ 1) rfl ?_
        refine p_goto (tgt := 6) (by decide) ?_
        exact ih _ _ (by omega) hk
set_option maxRecDepth 100000 in
set_option maxHeartbeats 4000000 in
theorem c_9 {sc : Nat × (Nat → Int32)} {d : Nat} {M : zM} {one no last ch : Nat} (hl : last < 8) (hch : ch < 2 ^ 31) : zC 47 sc (d + 2) 9 [.int (nI one), .int (nI no), .int (nI last), .int (nI ch)] M (some (.int (nI (prN one no last ch)))) (M) := by
  refine z_enter (L := [.int (nI one), .int (nI no), .int (nI last), .int (nI ch), .null, .null]) rfl rfl rfl ?_
  refine zK.blk rfl ?_
  refine p_iconst (v := nI 0) (by decide) ?_
  refine p_istore_4 rfl ?_
  refine p_iconst (v := nI 0) (by decide) ?_
  refine p_istore_5 rfl ?_
  refine lp_9_6 hl hch (last + 1) 0 0 (by omega) ?_
  rw [Nat.zero_or]
  refine zK.blk rfl ?_
  refine p_iload_4 ?_
  exact p_iret trivial rfl rfl
def trG1 (w last se th a b : Nat) : Nat := if se >>> b &&& 1 = 1 then prN (zttN (w >>> 4) a b) (zttN w a b) last th else 0
def trG (w last fi se th a : Nat) : Nat := if fi >>> a &&& 1 = 1 then zor (trG1 w last se th a) (last + 1) 0 else 0
def trM (w last fi se th : Nat) : Nat := zor (trG w last fi se th) (last + 1) 0
def trN (p w r rows : Nat) : Nat := trM w (1 <<< r - 1) (if 0 < p then rows else 1) (if 1 < p then rows else 1) (if 2 < p then rows else 1)
set_option maxRecDepth 100000 in
set_option maxHeartbeats 4000000 in
theorem lp_8_58 {sc : Nat × (Nat → Int32)} {d : Nat} {M : zM} {r : Option Value} {M' : zM} {p w r0 rows last fi se th a : Nat} (hl : last < 8) (hw : w < 2 ^ 31) (hfi : fi < 2 ^ 31) (hse : se < 2 ^ 31) (hth : th < 2 ^ 31) (ha : a < 32) (hf : fi >>> a &&& 1 = 1) : ∀ (j i v : Nat), i + j = last + 1 → zK 47 sc (zC 47 sc (d + 2)) 8 r M' 131 [.int (nI p), .int (nI w), .int (nI r0), .int (nI rows), .int (nI last), .int (nI fi), .int (nI se), .int (nI th), .int (nI (v ||| zor (trG1 w last se th a) j i)), .int (nI a), .int (nI (last + 1)), .null, .null] [] (M) → zK 47 sc (zC 47 sc (d + 2)) 8 r M' 58 [.int (nI p), .int (nI w), .int (nI r0), .int (nI rows), .int (nI last), .int (nI fi), .int (nI se), .int (nI th), .int (nI v), .int (nI a), .int (nI i), .null, .null] [] (M) := by
  intro j
  induction j with
  | zero =>
    intro i v  hj hk
    have hin : i = last + 1 := by omega
    subst hin
    rw [zor_zero] at hk
    refine zK.blk rfl ?_
    refine p_iload_10 ?_
    refine p_iload_4 ?_
    refine p_icmpN_gt (tgt := 131) (by decide) (by omega) (by omega) (fun hc62 => ?_) (fun hc62 => ?_)
    · skip
      exact hk
    · skip
      exact absurd hc62 (by omega) --STOP
  | succ j ih =>
    intro i v  hj hk
    have hb1 := zb_lt fi a
    have hb2 := zb_lt se i
    have hw4 : w >>> 4 < 2 ^ 31 := zshr_lt hw
    refine zK.blk rfl ?_
    refine p_iload_10 ?_
    refine p_iload_4 ?_
    refine p_icmpN_gt (tgt := 131) (by decide) (by omega) (by omega) (fun hc62 => ?_) (fun hc62 => ?_)
    · skip
      exact absurd hc62 (by omega) --STOP
    · skip
      refine p_iload_5 ?_
      refine p_iload_9 ?_
      refine p_cs2i rfl rfl rfl rfl rfl (c_3 (by omega) (by omega)) ?_
      refine p_iconst (v := nI 1) (by decide) ?_
      refine p_icmpN_ne (tgt := 131) (by decide) (by omega) (by omega) (fun hc73 => ?_) (fun hc73 => ?_)
      · skip
        exact absurd hf (by omega) --STOP
      · skip
        refine p_iload_6 ?_
        refine p_iload_10 ?_
        refine p_cs2i rfl rfl rfl rfl rfl (c_3 (by omega) (by omega)) ?_
        refine p_iconst (v := nI 1) (by decide) ?_
        refine p_icmpN_ne (tgt := 125) (by decide) (by omega) (by omega) (fun hc84 => ?_) (fun hc84 => ?_)
        · skip
          rw [zor_step (x := 0) (by unfold trG1; rw [if_neg hc84]), Nat.or_zero] at hk
          refine zK.blk rfl ?_
          refine p_iinc_10 (zN_inc _ 1) rfl ?_
          refine p_goto (tgt := 58) (by decide) ?_
          refine zK.forget _ ?_ (ih _ _ (by omega) hk)
          exact ⟨Or.inl rfl, Or.inl rfl, Or.inl rfl, Or.inl rfl, Or.inl rfl, Or.inl rfl, Or.inl rfl, Or.inl rfl, Or.inl rfl, Or.inl rfl, Or.inl rfl, Or.inr rfl, Or.inr rfl, trivial⟩
        · skip
          rw [zor_step (x := prN (zttN (w >>> 4) a i) (zttN w a i) last th) (by unfold trG1; rw [if_pos (by omega)])] at hk
          refine p_iloadn_1 ?_
          refine p_iconst (v := nI 4) (by decide) ?_
          refine p_ishrN (by omega) (by omega) ?_
          refine p_iload_9 ?_
          refine p_iload_10 ?_
          refine p_cs3i rfl rfl rfl rfl rfl (c_6 (by omega)) ?_
          refine p_istore_11 rfl ?_
          refine p_iloadn_1 ?_
          refine p_iload_9 ?_
          refine p_iload_10 ?_
          refine p_cs3i rfl rfl rfl rfl rfl (c_6 (by omega)) ?_
          refine p_istore_12 rfl ?_
          refine p_iload_8 ?_
          refine p_iload_11 ?_
          refine p_iload_12 ?_
          refine p_iload_4 ?_
          refine p_iload_7 ?_
          refine p_cs4i rfl rfl rfl rfl rfl (c_9 hl hth) ?_
          refine p_iorN ?_
          refine p_istore_8 rfl ?_
          refine zK.blk rfl ?_
          refine p_iinc_10 (zN_inc _ 1) rfl ?_
          refine p_goto (tgt := 58) (by decide) ?_
          refine zK.forget _ ?_ (ih _ _ (by omega) hk)
          exact ⟨Or.inl rfl, Or.inl rfl, Or.inl rfl, Or.inl rfl, Or.inl rfl, Or.inl rfl, Or.inl rfl, Or.inl rfl, Or.inl rfl, Or.inl rfl, Or.inl rfl, Or.inr rfl, Or.inr rfl, trivial⟩
set_option maxRecDepth 100000 in
set_option maxHeartbeats 4000000 in
theorem lp_8_48 {sc : Nat × (Nat → Int32)} {d : Nat} {M : zM} {r : Option Value} {M' : zM} {p w r0 rows last fi se th : Nat} (hl : last < 8) (hw : w < 2 ^ 31) (hfi : fi < 2 ^ 31) (hse : se < 2 ^ 31) (hth : th < 2 ^ 31) : ∀ (j i v : Nat), i + j = last + 1 → zK 47 sc (zC 47 sc (d + 2)) 8 r M' 137 [.int (nI p), .int (nI w), .int (nI r0), .int (nI rows), .int (nI last), .int (nI fi), .int (nI se), .int (nI th), .int (nI (v ||| zor (trG w last fi se th) j i)), .int (nI (last + 1)), .null, .null, .null] [] (M) → zK 47 sc (zC 47 sc (d + 2)) 8 r M' 48 [.int (nI p), .int (nI w), .int (nI r0), .int (nI rows), .int (nI last), .int (nI fi), .int (nI se), .int (nI th), .int (nI v), .int (nI i), .null, .null, .null] [] (M) := by
  intro j
  induction j with
  | zero =>
    intro i v  hj hk
    have hin : i = last + 1 := by omega
    subst hin
    rw [zor_zero] at hk
    refine zK.blk rfl ?_
    refine p_iload_9 ?_
    refine p_iload_4 ?_
    refine p_icmpN_gt (tgt := 137) (by decide) (by omega) (by omega) (fun hc52 => ?_) (fun hc52 => ?_)
    · skip
      exact hk
    · skip
      exact absurd hc52 (by omega) --STOP
  | succ j ih =>
    intro i v  hj hk
    refine zK.blk rfl ?_
    refine p_iload_9 ?_
    refine p_iload_4 ?_
    refine p_icmpN_gt (tgt := 137) (by decide) (by omega) (by omega) (fun hc52 => ?_) (fun hc52 => ?_)
    · skip
      exact absurd hc52 (by omega) --STOP
    · skip
      refine p_iconst (v := nI 0) (by decide) ?_
      refine p_istore_10 rfl ?_
      by_cases hf : fi >>> i &&& 1 = 1
      · rw [zor_step (x := zor (trG1 w last se th i) (last + 1) 0) (by unfold trG; rw [if_pos hf])] at hk
        refine lp_8_58 hl hw hfi hse hth (by omega) hf (last + 1) 0 v (by omega) ?_
        refine zK.blk rfl ?_
        refine p_iinc_9 (zN_inc _ 1) rfl ?_
        refine p_goto (tgt := 48) (by decide) ?_
        refine zK.forget _ ?_ (ih _ _ (by omega) hk)
        exact ⟨Or.inl rfl, Or.inl rfl, Or.inl rfl, Or.inl rfl, Or.inl rfl, Or.inl rfl, Or.inl rfl, Or.inl rfl, Or.inl rfl, Or.inl rfl, Or.inr rfl, Or.inl rfl, Or.inl rfl, trivial⟩
      · rw [zor_step (x := 0) (by unfold trG; rw [if_neg hf]), Nat.or_zero] at hk
        have hb1 := zb_lt fi i
        refine zK.blk rfl ?_
        refine p_iload_10 ?_
        refine p_iload_4 ?_
        refine p_icmpN_gt (tgt := 131) (by decide) (by omega) (by omega) (fun hc62 => ?_) (fun hc62 => ?_)
        · skip
          exact absurd hc62 (by omega) --STOP
        · skip
          refine p_iload_5 ?_
          refine p_iload_9 ?_
          refine p_cs2i rfl rfl rfl rfl rfl (c_3 (by omega) (by omega)) ?_
          refine p_iconst (v := nI 1) (by decide) ?_
          refine p_icmpN_ne (tgt := 131) (by decide) (by omega) (by omega) (fun hc73 => ?_) (fun hc73 => ?_)
          · skip
            refine zK.blk rfl ?_
            refine p_iinc_9 (zN_inc _ 1) rfl ?_
            refine p_goto (tgt := 48) (by decide) ?_
            refine zK.forget _ ?_ (ih _ _ (by omega) hk)
            exact ⟨Or.inl rfl, Or.inl rfl, Or.inl rfl, Or.inl rfl, Or.inl rfl, Or.inl rfl, Or.inl rfl, Or.inl rfl, Or.inl rfl, Or.inl rfl, Or.inr rfl, Or.inl rfl, Or.inl rfl, trivial⟩
          · skip
            exact absurd hf (by omega) --STOP
set_option maxRecDepth 100000 in
set_option maxHeartbeats 4000000 in
theorem st_8_40 {sc : Nat × (Nat → Int32)} {d : Nat} {M : zM} {p w r0 rows last fi se x : Nat} (hp : p < 4) (hl : last < 8) (hw : w < 2 ^ 31) (hro : rows < 2 ^ 31) (hfi : fi < 2 ^ 31) (hse : se < 2 ^ 31) (hx : x < 2 ^ 31) : zK 47 sc (zC 47 sc (d + 2)) 8 (some (.int (nI (trM w last fi se x)))) M 40 [.int (nI p), .int (nI w), .int (nI r0), .int (nI rows), .int (nI last), .int (nI fi), .int (nI se), .null, .null, .null, .null, .null, .null] [.int (nI x)] M := by
  refine zK.blk rfl ?_
  refine p_istore_7 rfl ?_
  refine p_iconst (v := nI 0) (by decide) ?_
  refine p_istore_8 rfl ?_
  refine p_iconst (v := nI 0) (by decide) ?_
  refine p_istore_9 rfl ?_
  refine lp_8_48 hl hw hfi hse hx (last + 1) 0 0 (by omega) ?_
  rw [Nat.zero_or]
  refine zK.blk rfl ?_
  refine p_iload_8 ?_
  exact p_iret trivial rfl rfl
set_option maxRecDepth 100000 in
set_option maxHeartbeats 4000000 in
theorem st_8_28 {sc : Nat × (Nat → Int32)} {d : Nat} {M : zM} {p w r0 rows last fi x : Nat} (hp : p < 4) (hl : last < 8) (hw : w < 2 ^ 31) (hro : rows < 2 ^ 31) (hfi : fi < 2 ^ 31) (hx : x < 2 ^ 31) : zK 47 sc (zC 47 sc (d + 2)) 8 (some (.int (nI (trM w last fi x (if 2 < p then rows else 1))))) M 28 [.int (nI p), .int (nI w), .int (nI r0), .int (nI rows), .int (nI last), .int (nI fi), .null, .null, .null, .null, .null, .null, .null] [.int (nI x)] M := by
  refine zK.blk rfl ?_
  refine p_istore_6 rfl ?_
  refine p_iloadn_0 ?_
  refine p_iconst (v := nI 2) (by decide) ?_
  refine p_icmpN_le (tgt := 39) (by decide) (by omega) (by omega) (fun hc32 => ?_) (fun hc32 => ?_)
  · skip
    rw [if_neg (by omega)]
    refine zK.blk rfl ?_
    refine p_iconst (v := nI 1) (by decide) ?_
    exact st_8_40 hp hl hw hro hfi hx (by omega)
  · skip
    rw [if_pos (by omega)]
    refine p_iloadn_3 ?_
    refine p_goto (tgt := 40) (by decide) ?_
    exact st_8_40 hp hl hw hro hfi hx (by omega)
set_option maxRecDepth 100000 in
set_option maxHeartbeats 4000000 in
theorem st_8_16 {sc : Nat × (Nat → Int32)} {d : Nat} {M : zM} {p w r0 rows last x : Nat} (hp : p < 4) (hl : last < 8) (hw : w < 2 ^ 31) (hro : rows < 2 ^ 31) (hx : x < 2 ^ 31) : zK 47 sc (zC 47 sc (d + 2)) 8 (some (.int (nI (trM w last x (if 1 < p then rows else 1) (if 2 < p then rows else 1))))) M 16 [.int (nI p), .int (nI w), .int (nI r0), .int (nI rows), .int (nI last), .null, .null, .null, .null, .null, .null, .null, .null] [.int (nI x)] M := by
  refine zK.blk rfl ?_
  refine p_istore_5 rfl ?_
  refine p_iloadn_0 ?_
  refine p_iconst (v := nI 1) (by decide) ?_
  refine p_icmpN_le (tgt := 27) (by decide) (by omega) (by omega) (fun hc20 => ?_) (fun hc20 => ?_)
  · skip
    rw [if_neg (show ¬ 1 < p by omega)]
    refine zK.blk rfl ?_
    refine p_iconst (v := nI 1) (by decide) ?_
    exact st_8_28 hp hl hw hro hx (by omega)
  · skip
    rw [if_pos (show 1 < p by omega)]
    refine p_iloadn_3 ?_
    refine p_goto (tgt := 28) (by decide) ?_
    exact st_8_28 hp hl hw hro hx (by omega)
set_option maxRecDepth 100000 in
set_option maxHeartbeats 4000000 in
theorem c_8 {sc : Nat × (Nat → Int32)} {d : Nat} {M : zM} {p w r0 rows : Nat} (hp : p < 4) (hr : r0 < 4) (hw : w < 2 ^ 31) (hro : rows < 2 ^ 31) : zC 47 sc (d + 3) 8 [.int (nI p), .int (nI w), .int (nI r0), .int (nI rows)] M (some (.int (nI (trN p w r0 rows)))) (M) := by
  have hs := zsh_lt hr
  unfold trN
  refine z_enter (L := [.int (nI p), .int (nI w), .int (nI r0), .int (nI rows), .null, .null, .null, .null, .null, .null, .null, .null, .null]) rfl rfl rfl ?_
  refine zK.blk rfl ?_
  refine p_iconst (v := nI 1) (by decide) ?_
  refine p_iloadn_2 ?_
  refine p_ishlN (by omega) ?_
  refine p_iconst (v := nI 1) (by decide) ?_
  refine p_isubN (by omega) ?_
  refine p_istore_4 rfl ?_
  refine p_iloadn_0 ?_
  refine p_ifN_le (tgt := 15) (by decide) (by omega) (fun hc8 => ?_) (fun hc8 => ?_)
  · skip
    rw [if_neg (show ¬ 0 < p by omega)]
    refine zK.blk rfl ?_
    refine p_iconst (v := nI 1) (by decide) ?_
    exact st_8_16 hp (by omega) hw hro (by omega)
  · skip
    rw [if_pos (show 0 < p by omega)]
    refine p_iloadn_3 ?_
    refine p_goto (tgt := 16) (by decide) ?_
    exact st_8_16 hp (by omega) hw hro (by omega)
end
section
def toF (t a b c j v : Nat) : Nat := v ||| (t >>> ((a >>> j &&& 1) + 2 * (b >>> j &&& 1) + 4 * (c >>> j &&& 1)) &&& 1) <<< j
def toN (t m a b c : Nat) : Nat := zfor (toF t a b c) m 0 0
theorem zbs_lt (x i : Nat) : (x &&& 1) <<< i < 2 ^ (i + 1) := by
  have h := zb_lt x 0
  rw [Nat.shiftRight_zero] at h
  rw [Nat.shiftLeft_eq, Nat.pow_succ, Nat.mul_comm (2 ^ i)]
  exact Nat.mul_lt_mul_of_pos_right h (Nat.two_pow_pos i)
theorem toF_lt {t a b c m : Nat} : ∀ j i v, i + j = m → v < 2 ^ m → zfor (toF t a b c) j i v < 2 ^ m := by
  intro j
  induction j with
  | zero => intro i v h hv; exact hv
  | succ j ih =>
    intro i v h hv
    refine ih (i + 1) _ (by omega) (Nat.or_lt_two_pow hv ?_)
    exact Nat.lt_of_lt_of_le (zbs_lt _ i) (Nat.pow_le_pow_right (by decide) (by omega))
theorem toN_lt (t m a b c : Nat) : toN t m a b c < 2 ^ m := toF_lt m 0 0 (by omega) (Nat.two_pow_pos m)
theorem zrow_lt (a b c j : Nat) : (a >>> j &&& 1) + 2 * (b >>> j &&& 1) + 4 * (c >>> j &&& 1) < 8 := by
  have h1 := zb_lt a j
  have h2 := zb_lt b j
  have h3 := zb_lt c j
  omega
set_option maxRecDepth 100000 in
set_option maxHeartbeats 4000000 in
theorem lp_116_6 {sc : Nat × (Nat → Int32)} {d : Nat} {M : zM} {r : Option Value} {M' : zM} {t m a b c : Nat} (ht : t < 2 ^ 31) (hm : m < 32) (ha : a < 2 ^ 31) (hb : b < 2 ^ 31) (hc : c < 2 ^ 31) : ∀ (j i v : Nat), i + j = m → zK 47 sc (zC 47 sc (d + 0)) 116 r M' 59 [.int (nI t), .int (nI m), .int (nI a), .int (nI b), .int (nI c), .int (nI (zfor (toF t a b c) j i v)), .int (nI m), .null] [] (M) → zK 47 sc (zC 47 sc (d + 0)) 116 r M' 6 [.int (nI t), .int (nI m), .int (nI a), .int (nI b), .int (nI c), .int (nI v), .int (nI i), .null] [] (M) := by
  intro j
  induction j with
  | zero =>
    intro i v  hj hk
    obtain rfl : i = m := by omega
    refine zK.blk rfl ?_
    refine p_iload_6 ?_
    refine p_iloadn_1 ?_
    refine p_icmpN_ge (tgt := 59) (by decide) (by omega) (by omega) (fun hc9 => ?_) (fun hc9 => ?_)
    · skip
      exact hk
    · skip
      exact absurd hc9 (by omega) --STOP
  | succ j ih =>
    intro i v  hj hk
    have hrow := zrow_lt a b c i
    refine zK.blk rfl ?_
    refine p_iload_6 ?_
    refine p_iloadn_1 ?_
    refine p_icmpN_ge (tgt := 59) (by decide) (by omega) (by omega) (fun hc9 => ?_) (fun hc9 => ?_)
    · skip
      exact absurd hc9 (by omega) --STOP
    · skip
      refine p_iloadn_2 ?_
      refine p_iload_6 ?_
      refine p_ishrN (by omega) (by omega) ?_
      refine p_iconst (v := nI 1) (by decide) ?_
      refine p_iandN ?_
      refine p_iconst (v := nI 2) (by decide) ?_
      refine p_iloadn_3 ?_
      refine p_iload_6 ?_
      refine p_ishrN (by omega) (by omega) ?_
      refine p_iconst (v := nI 1) (by decide) ?_
      refine p_iandN ?_
      refine p_imulN ?_
      refine p_iaddN ?_
      refine p_iconst (v := nI 4) (by decide) ?_
      refine p_iload_4 ?_
      refine p_iload_6 ?_
      refine p_ishrN (by omega) (by omega) ?_
      refine p_iconst (v := nI 1) (by decide) ?_
      refine p_iandN ?_
      refine p_imulN ?_
      refine p_iaddN ?_
      refine p_istore_7 rfl ?_
      refine p_iload_5 ?_
      refine p_iloadn_0 ?_
      refine p_iload_7 ?_
      refine p_ishrN (by omega) (by omega) ?_
      refine p_iconst (v := nI 1) (by decide) ?_
      refine p_iandN ?_
      refine p_iload_6 ?_
      refine p_ishlN (by omega) ?_
      refine p_iorN ?_
      refine p_istore_5 rfl ?_
      refine p_iinc_6 (zN_inc _ 1) rfl ?_
      refine p_goto (tgt := 6) (by decide) ?_
      refine zK.forget _ ?_ (ih _ _ (by omega) hk)
      exact ⟨Or.inl rfl, Or.inl rfl, Or.inl rfl, Or.inl rfl, Or.inl rfl, Or.inl rfl, Or.inl rfl, Or.inr rfl, trivial⟩
set_option maxRecDepth 100000 in
set_option maxHeartbeats 4000000 in
theorem c_116 {sc : Nat × (Nat → Int32)} {d : Nat} {M : zM} {t m a b c : Nat} (ht : t < 2 ^ 31) (hm : m < 32) (ha : a < 2 ^ 31) (hb : b < 2 ^ 31) (hc : c < 2 ^ 31) : zC 47 sc (d + 1) 116 [.int (nI t), .int (nI m), .int (nI a), .int (nI b), .int (nI c)] M (some (.int (nI (toN t m a b c)))) (M) := by
  refine z_enter (L := [.int (nI t), .int (nI m), .int (nI a), .int (nI b), .int (nI c), .null, .null, .null]) rfl rfl rfl ?_
  refine zK.blk rfl ?_
  refine p_iconst (v := nI 0) (by decide) ?_
  refine p_istore_5 rfl ?_
  refine p_iconst (v := nI 0) (by decide) ?_
  refine p_istore_6 rfl ?_
  refine lp_116_6 ht hm ha hb hc m 0 0 (by omega) ?_
  refine zK.blk rfl ?_
  refine p_iload_5 ?_
  exact p_iret trivial rfl rfl
set_option maxRecDepth 100000 in
set_option maxHeartbeats 4000000 in
theorem lp_98_6 {sc : Nat × (Nat → Int32)} {d : Nat} {M : zM} {r : Option Value} {M' : zM} {q n t a b c : Nat} (hn : n < 4) (hq : q < 6) (hM : M 35 q = nI t) (ht : t < 2 ^ 31) (ha : a < 2 ^ 31) (hb : b < 2 ^ 31) (hc : c < 2 ^ 31) : ∀ (j i v : Nat), i + j = 1 <<< n → zK 47 sc (zC 47 sc (d + 0)) 98 r M' 67 [.ref 33, .int (nI q), .int (nI n), .int (nI a), .int (nI b), .int (nI c), .int (nI (zfor (toF t a b c) j i v)), .int (nI (1 <<< n)), .null] [] (M) → zK 47 sc (zC 47 sc (d + 0)) 98 r M' 6 [.ref 33, .int (nI q), .int (nI n), .int (nI a), .int (nI b), .int (nI c), .int (nI v), .int (nI i), .null] [] (M) := by
  intro j
  induction j with
  | zero =>
    intro i v  hj hk
    have hin : i = 1 <<< n := by omega
    subst hin
    have hs := zsh_lt hn
    refine zK.blk rfl ?_
    refine p_iload_7 ?_
    refine p_iconst (v := nI 1) (by decide) ?_
    refine p_iloadn_2 ?_
    refine p_ishlN (by omega) ?_
    refine p_icmpN_ge (tgt := 67) (by decide) (by omega) (by omega) (fun hc11 => ?_) (fun hc11 => ?_)
    · skip
      exact hk
    · skip
      exact absurd hc11 (by omega) --STOP
  | succ j ih =>
    intro i v  hj hk
    have hs := zsh_lt hn
    have hrow := zrow_lt a b c i
    refine zK.blk rfl ?_
    refine p_iload_7 ?_
    refine p_iconst (v := nI 1) (by decide) ?_
    refine p_iloadn_2 ?_
    refine p_ishlN (by omega) ?_
    refine p_icmpN_ge (tgt := 67) (by decide) (by omega) (by omega) (fun hc11 => ?_) (fun hc11 => ?_)
    · skip
      exact absurd hc11 (by omega) --STOP
    · skip
      refine p_iloadn_3 ?_
      refine p_iload_7 ?_
      refine p_ishrN (by omega) (by omega) ?_
      refine p_iconst (v := nI 1) (by decide) ?_
      refine p_iandN ?_
      refine p_iconst (v := nI 2) (by decide) ?_
      refine p_iload_4 ?_
      refine p_iload_7 ?_
      refine p_ishrN (by omega) (by omega) ?_
      refine p_iconst (v := nI 1) (by decide) ?_
      refine p_iandN ?_
      refine p_imulN ?_
      refine p_iaddN ?_
      refine p_iconst (v := nI 4) (by decide) ?_
      refine p_iload_5 ?_
      refine p_iload_7 ?_
      refine p_ishrN (by omega) (by omega) ?_
      refine p_iconst (v := nI 1) (by decide) ?_
      refine p_iandN ?_
      refine p_imulN ?_
      refine p_iaddN ?_
      refine p_istore_8 rfl ?_
      refine p_iload_6 ?_
      refine p_aloadn_0 ?_
      refine p_getr rfl rfl ?_
      refine p_iloadn_1 ?_
      refine p_iald rfl (by omega) (by decide) (by first | assumption | rfl) ?_
      refine p_iload_8 ?_
      refine p_ishrN (by omega) (by omega) ?_
      refine p_iconst (v := nI 1) (by decide) ?_
      refine p_iandN ?_
      refine p_iload_7 ?_
      refine p_ishlN (by omega) ?_
      refine p_iorN ?_
      refine p_istore_6 rfl ?_
      refine p_iinc_7 (zN_inc _ 1) rfl ?_
      refine p_goto (tgt := 6) (by decide) ?_
      refine zK.forget _ ?_ (ih _ _ (by omega) hk)
      exact ⟨Or.inl rfl, Or.inl rfl, Or.inl rfl, Or.inl rfl, Or.inl rfl, Or.inl rfl, Or.inl rfl, Or.inl rfl, Or.inr rfl, trivial⟩
set_option maxRecDepth 100000 in
set_option maxHeartbeats 4000000 in
theorem c_98 {sc : Nat × (Nat → Int32)} {d : Nat} {M : zM} {q n t a b c : Nat} (hn : n < 4) (hq : q < 6) (hM : M 35 q = nI t) (ht : t < 2 ^ 31) (ha : a < 2 ^ 31) (hb : b < 2 ^ 31) (hc : c < 2 ^ 31) : zC 47 sc (d + 1) 98 [.ref 33, .int (nI q), .int (nI n), .int (nI a), .int (nI b), .int (nI c)] M (some (.int (nI (toN t (1 <<< n) a b c)))) (M) := by
  refine z_enter (L := [.ref 33, .int (nI q), .int (nI n), .int (nI a), .int (nI b), .int (nI c), .null, .null, .null]) rfl rfl rfl ?_
  refine zK.blk rfl ?_
  refine p_iconst (v := nI 0) (by decide) ?_
  refine p_istore_6 rfl ?_
  refine p_iconst (v := nI 0) (by decide) ?_
  refine p_istore_7 rfl ?_
  refine lp_98_6 hn hq hM ht ha hb hc (1 <<< n) 0 0 (by omega) ?_
  refine zK.blk rfl ?_
  refine p_iload_6 ?_
  exact p_iret trivial rfl rfl
def mkB (n k rows x : Nat) : Bool := decide (n < k) || decide (rows >>> x &&& 1 = 1)
theorem mkB_lt {n k rows x : Nat} (h : n < k) : mkB n k rows x = true := by unfold mkB; rw [decide_eq_true h]; rfl
theorem mkB_t {n k rows x : Nat} (h : rows >>> x &&& 1 = 1) : mkB n k rows x = true := by unfold mkB; rw [decide_eq_true h, Bool.or_true]
theorem mkB_f {n k rows x : Nat} (h1 : ¬ n < k) (h2 : ¬ rows >>> x &&& 1 = 1) : mkB n k rows x = false := by unfold mkB; rw [decide_eq_false h1, decide_eq_false h2]; rfl
def mkG (n t m rows a b c : Nat) : Nat := if (mkB n 1 rows a && mkB n 2 rows b && mkB n 3 rows c) = true then 1 <<< toN t m a b c else 0
def mkN2 (n t m rows a b : Nat) : Nat := zor (mkG n t m rows a b) (if 2 < n then 1 <<< m else 1) 0
def mkN1 (n t m rows a : Nat) : Nat := zor (mkN2 n t m rows a) (if 1 < n then 1 <<< m else 1) 0
def mkN (n t m rows : Nat) : Nat := zor (mkN1 n t m rows) (if 0 < n then 1 <<< m else 1) 0
set_option maxRecDepth 100000 in
set_option maxHeartbeats 4000000 in
theorem st_117_114 {sc : Nat × (Nat → Int32)} {d : Nat} {M : zM} {r : Option Value} {M' : zM} {n t m rows v al a b c x : Nat} (hn : n < 4) (ht : t < 2 ^ 31) (hm : m < 4) (hro : rows < 2 ^ 31) (hal : al = 1 <<< m) (ha : a < 8) (hb : b < 8) (hc : c < 8) (hx : x < 2) (hk : zK 47 sc (zC 47 sc (d + 1)) 117 r M' 48 [.int (nI n), .int (nI t), .int (nI m), .int (nI rows), .int (nI (v ||| (if x = 0 then 0 else 1 <<< toN t m a b c))), .int (nI al), .int (nI a), .int (nI b), .int (nI (c + 1)), .null] [] M) : zK 47 sc (zC 47 sc (d + 1)) 117 r M' 114 [.int (nI n), .int (nI t), .int (nI m), .int (nI rows), .int (nI v), .int (nI al), .int (nI a), .int (nI b), .int (nI c), .null] [.int (nI x)] M := by
  have hs := zsh_lt hm
  subst hal
  have htl := toN_lt t m a b c
  have ht8 : 2 ^ m ≤ 8 := by rcases (show m = 0 ∨ m = 1 ∨ m = 2 ∨ m = 3 by omega) with rfl | rfl | rfl | rfl <;> decide
  refine zK.blk rfl ?_
  refine p_istore_9 rfl ?_
  refine p_iload_4 ?_
  refine p_iload_9 ?_
  refine p_ifN_eq (tgt := 139) (by decide) (by omega) (fun hc120 => ?_) (fun hc120 => ?_)
  · skip
    rw [if_pos hc120] at hk
    refine zK.blk rfl ?_
    refine p_iconst (v := nI 0) (by decide) ?_
    refine zK.blk rfl ?_
    refine p_iorN ?_
    refine p_istore_4 rfl ?_
    refine p_iinc_8 (zN_inc _ 1) rfl ?_
    refine p_goto (tgt := 48) (by decide) ?_
    refine zK.forget _ ?_ (hk)
    exact ⟨Or.inl rfl, Or.inl rfl, Or.inl rfl, Or.inl rfl, Or.inl rfl, Or.inl rfl, Or.inl rfl, Or.inl rfl, Or.inl rfl, Or.inr rfl, trivial⟩
  · skip
    rw [if_neg hc120] at hk
    refine p_iconst (v := nI 1) (by decide) ?_
    refine p_iloadn_1 ?_
    refine p_iloadn_2 ?_
    refine p_iload_6 ?_
    refine p_iload_7 ?_
    refine p_iload_8 ?_
    refine p_cs5i rfl rfl rfl rfl rfl (c_116 ht (by omega) (by omega) (by omega) (by omega)) ?_
    refine p_ishlN (by omega) ?_
    refine p_goto (tgt := 140) (by decide) ?_
    refine zK.blk rfl ?_
    refine p_iorN ?_
    refine p_istore_4 rfl ?_
    refine p_iinc_8 (zN_inc _ 1) rfl ?_
    refine p_goto (tgt := 48) (by decide) ?_
    refine zK.forget _ ?_ (hk)
    exact ⟨Or.inl rfl, Or.inl rfl, Or.inl rfl, Or.inl rfl, Or.inl rfl, Or.inl rfl, Or.inl rfl, Or.inl rfl, Or.inl rfl, Or.inr rfl, trivial⟩
set_option maxRecDepth 100000 in
set_option maxHeartbeats 4000000 in
theorem st_117_94 {sc : Nat × (Nat → Int32)} {d : Nat} {M : zM} {r : Option Value} {M' : zM} {n t m rows v al a b c : Nat} (hn : n < 4) (ht : t < 2 ^ 31) (hm : m < 4) (hro : rows < 2 ^ 31) (hal : al = 1 <<< m) (ha : a < 8) (hb : b < 8) (hc : c < 8) (hk : zK 47 sc (zC 47 sc (d + 1)) 117 r M' 48 [.int (nI n), .int (nI t), .int (nI m), .int (nI rows), .int (nI (v ||| (if mkB n 3 rows c = true then 1 <<< toN t m a b c else 0))), .int (nI al), .int (nI a), .int (nI b), .int (nI (c + 1)), .null] [] M) : zK 47 sc (zC 47 sc (d + 1)) 117 r M' 94 [.int (nI n), .int (nI t), .int (nI m), .int (nI rows), .int (nI v), .int (nI al), .int (nI a), .int (nI b), .int (nI c), .null] [] M := by
  have hb3 := zb_lt rows c
  refine zK.blk rfl ?_
  refine p_iloadn_0 ?_
  refine p_iconst (v := nI 3) (by decide) ?_
  refine p_icmpN_lt (tgt := 109) (by decide) (by omega) (by omega) (fun hc96 => ?_) (fun hc96 => ?_)
  · skip
    rw [if_pos (mkB_lt hc96)] at hk
    refine zK.blk rfl ?_
    refine p_iconst (v := nI 1) (by decide) ?_
    refine p_goto (tgt := 114) (by decide) ?_
    exact st_117_114 hn ht hm hro hal ha hb hc (by decide) hk
  · skip
    refine p_iloadn_3 ?_
    refine p_iload_8 ?_
    refine p_ishrN (by omega) (by omega) ?_
    refine p_iconst (v := nI 1) (by decide) ?_
    refine p_iandN ?_
    refine p_iconst (v := nI 1) (by decide) ?_
    refine p_icmpN_ne (tgt := 113) (by decide) (by omega) (by omega) (fun hc106 => ?_) (fun hc106 => ?_)
    · skip
      rw [if_neg (by rw [mkB_f hc96 hc106]; decide)] at hk
      refine zK.blk rfl ?_
      refine p_iconst (v := nI 0) (by decide) ?_
      exact st_117_114 hn ht hm hro hal ha hb hc (by decide) hk
    · skip
      rw [if_pos (mkB_t (by omega))] at hk
      refine zK.blk rfl ?_
      refine p_iconst (v := nI 1) (by decide) ?_
      refine p_goto (tgt := 114) (by decide) ?_
      exact st_117_114 hn ht hm hro hal ha hb hc (by decide) hk
set_option maxRecDepth 100000 in
set_option maxHeartbeats 4000000 in
theorem st_117_79 {sc : Nat × (Nat → Int32)} {d : Nat} {M : zM} {r : Option Value} {M' : zM} {n t m rows v al a b c : Nat} (hn : n < 4) (ht : t < 2 ^ 31) (hm : m < 4) (hro : rows < 2 ^ 31) (hal : al = 1 <<< m) (ha : a < 8) (hb : b < 8) (hc : c < 8) (hk : zK 47 sc (zC 47 sc (d + 1)) 117 r M' 48 [.int (nI n), .int (nI t), .int (nI m), .int (nI rows), .int (nI (v ||| (if (mkB n 2 rows b && mkB n 3 rows c) = true then 1 <<< toN t m a b c else 0))), .int (nI al), .int (nI a), .int (nI b), .int (nI (c + 1)), .null] [] M) : zK 47 sc (zC 47 sc (d + 1)) 117 r M' 79 [.int (nI n), .int (nI t), .int (nI m), .int (nI rows), .int (nI v), .int (nI al), .int (nI a), .int (nI b), .int (nI c), .null] [] M := by
  have hb3 := zb_lt rows b
  refine zK.blk rfl ?_
  refine p_iloadn_0 ?_
  refine p_iconst (v := nI 2) (by decide) ?_
  refine p_icmpN_lt (tgt := 94) (by decide) (by omega) (by omega) (fun hc81 => ?_) (fun hc81 => ?_)
  · skip
    rw [mkB_lt (k := 2) hc81, Bool.true_and] at hk
    exact st_117_94 hn ht hm hro hal ha hb hc hk
  · skip
    refine p_iloadn_3 ?_
    refine p_iload_7 ?_
    refine p_ishrN (by omega) (by omega) ?_
    refine p_iconst (v := nI 1) (by decide) ?_
    refine p_iandN ?_
    refine p_iconst (v := nI 1) (by decide) ?_
    refine p_icmpN_ne (tgt := 113) (by decide) (by omega) (by omega) (fun hc91 => ?_) (fun hc91 => ?_)
    · skip
      rw [mkB_f (k := 2) hc81 hc91, Bool.false_and, if_neg (by decide)] at hk
      refine zK.blk rfl ?_
      refine p_iconst (v := nI 0) (by decide) ?_
      exact st_117_114 hn ht hm hro hal ha hb hc (by decide) hk
    · skip
      rw [mkB_t (n := n) (k := 2) (rows := rows) (x := b) (by omega), Bool.true_and] at hk
      exact st_117_94 hn ht hm hro hal ha hb hc hk
set_option maxRecDepth 100000 in
set_option maxHeartbeats 4000000 in
theorem lp_117_48 {sc : Nat × (Nat → Int32)} {d : Nat} {M : zM} {r : Option Value} {M' : zM} {n t m rows al a b N3 : Nat} (hn : n < 4) (ht : t < 2 ^ 31) (hm : m < 4) (hro : rows < 2 ^ 31) (hal : al = 1 <<< m) (ha : a < 8) (hb : b < 8) (hN : N3 = if 2 < n then al else 1) : ∀ (j i v : Nat), i + j = N3 → zK 47 sc (zC 47 sc (d + 1)) 117 r M' 149 [.int (nI n), .int (nI t), .int (nI m), .int (nI rows), .int (nI (v ||| zor (mkG n t m rows a b) j i)), .int (nI al), .int (nI a), .int (nI b), .int (nI N3), .null] [] (M) → zK 47 sc (zC 47 sc (d + 1)) 117 r M' 48 [.int (nI n), .int (nI t), .int (nI m), .int (nI rows), .int (nI v), .int (nI al), .int (nI a), .int (nI b), .int (nI i), .null] [] (M) := by
  intro j
  induction j with
  | zero =>
    intro i v  hj hk
    obtain rfl : i = N3 := by omega
    have hs := zsh_lt hm
    rw [zor_zero] at hk
    refine zK.blk rfl ?_
    refine p_iload_8 ?_
    refine p_iloadn_0 ?_
    refine p_iconst (v := nI 2) (by decide) ?_
    refine p_icmpN_le (tgt := 60) (by decide) (by omega) (by omega) (fun hc52 => ?_) (fun hc52 => ?_)
    · skip
      have hN1 : i = 1 := by rw [hN, if_neg (by omega)]
      refine zK.blk rfl ?_
      refine p_iconst (v := nI 1) (by decide) ?_
      refine zK.blk rfl ?_
      refine p_icmpN_ge (tgt := 149) (by decide) (by omega) (by omega) (fun hc61 => ?_) (fun hc61 => ?_)
      · skip
        exact hk
      · skip
        exact absurd hc61 (by omega) --STOP
    · skip
      have hN1 : i = al := by rw [hN, if_pos (by omega)]
      refine p_iload_5 ?_
      refine p_goto (tgt := 61) (by decide) ?_
      refine zK.blk rfl ?_
      refine p_icmpN_ge (tgt := 149) (by decide) (by omega) (by omega) (fun hc61 => ?_) (fun hc61 => ?_)
      · skip
        exact hk
      · skip
        exact absurd hc61 (by omega) --STOP
  | succ j ih =>
    intro i v  hj hk
    have hs := zsh_lt hm
    have hb3 := zb_lt rows a
    have hN8 : N3 ≤ 8 := by rw [hN]; split <;> omega
    refine zK.blk rfl ?_
    refine p_iload_8 ?_
    refine p_iloadn_0 ?_
    refine p_iconst (v := nI 2) (by decide) ?_
    refine p_icmpN_le (tgt := 60) (by decide) (by omega) (by omega) (fun hc52 => ?_) (fun hc52 => ?_)
    · skip
      have hN1 : N3 = 1 := by rw [hN, if_neg (by omega)]
      refine zK.blk rfl ?_
      refine p_iconst (v := nI 1) (by decide) ?_
      refine zK.blk rfl ?_
      refine p_icmpN_ge (tgt := 149) (by decide) (by omega) (by omega) (fun hc61 => ?_) (fun hc61 => ?_)
      · skip
        exact absurd hc61 (by omega) --STOP
      · skip
        refine p_iloadn_0 ?_
        refine p_iconst (v := nI 1) (by decide) ?_
        refine p_icmpN_lt (tgt := 79) (by decide) (by omega) (by omega) (fun hc66 => ?_) (fun hc66 => ?_)
        · skip
          rw [zor_step (x := if (mkB n 2 rows b && mkB n 3 rows i) = true then 1 <<< toN t m a b i else 0) (by unfold mkG; rw [mkB_lt (k := 1) hc66, Bool.true_and])] at hk
          exact st_117_79 hn ht hm hro hal ha hb (by omega) (ih _ _ (by omega) hk)
        · skip
          refine p_iloadn_3 ?_
          refine p_iload_6 ?_
          refine p_ishrN (by omega) (by omega) ?_
          refine p_iconst (v := nI 1) (by decide) ?_
          refine p_iandN ?_
          refine p_iconst (v := nI 1) (by decide) ?_
          refine p_icmpN_ne (tgt := 113) (by decide) (by omega) (by omega) (fun hc76 => ?_) (fun hc76 => ?_)
          · skip
            rw [zor_step (x := 0) (by unfold mkG; rw [mkB_f (k := 1) hc66 hc76, Bool.false_and, Bool.false_and, if_neg (by decide)])] at hk
            refine zK.blk rfl ?_
            refine p_iconst (v := nI 0) (by decide) ?_
            exact st_117_114 hn ht hm hro hal ha hb (by omega) (by decide) (ih _ _ (by omega) hk)
          · skip
            rw [zor_step (x := if (mkB n 2 rows b && mkB n 3 rows i) = true then 1 <<< toN t m a b i else 0) (by unfold mkG; rw [mkB_t (n := n) (k := 1) (rows := rows) (x := a) (by omega), Bool.true_and])] at hk
            exact st_117_79 hn ht hm hro hal ha hb (by omega) (ih _ _ (by omega) hk)
    · skip
      have hN1 : N3 = al := by rw [hN, if_pos (by omega)]
      refine p_iload_5 ?_
      refine p_goto (tgt := 61) (by decide) ?_
      refine zK.blk rfl ?_
      refine p_icmpN_ge (tgt := 149) (by decide) (by omega) (by omega) (fun hc61 => ?_) (fun hc61 => ?_)
      · skip
        exact absurd hc61 (by omega) --STOP
      · skip
        refine p_iloadn_0 ?_
        refine p_iconst (v := nI 1) (by decide) ?_
        refine p_icmpN_lt (tgt := 79) (by decide) (by omega) (by omega) (fun hc66 => ?_) (fun hc66 => ?_)
        · skip
          rw [zor_step (x := if (mkB n 2 rows b && mkB n 3 rows i) = true then 1 <<< toN t m a b i else 0) (by unfold mkG; rw [mkB_lt (k := 1) hc66, Bool.true_and])] at hk
          exact st_117_79 hn ht hm hro hal ha hb (by omega) (ih _ _ (by omega) hk)
        · skip
          refine p_iloadn_3 ?_
          refine p_iload_6 ?_
          refine p_ishrN (by omega) (by omega) ?_
          refine p_iconst (v := nI 1) (by decide) ?_
          refine p_iandN ?_
          refine p_iconst (v := nI 1) (by decide) ?_
          refine p_icmpN_ne (tgt := 113) (by decide) (by omega) (by omega) (fun hc76 => ?_) (fun hc76 => ?_)
          · skip
            rw [zor_step (x := 0) (by unfold mkG; rw [mkB_f (k := 1) hc66 hc76, Bool.false_and, Bool.false_and, if_neg (by decide)])] at hk
            refine zK.blk rfl ?_
            refine p_iconst (v := nI 0) (by decide) ?_
            exact st_117_114 hn ht hm hro hal ha hb (by omega) (by decide) (ih _ _ (by omega) hk)
          · skip
            rw [zor_step (x := if (mkB n 2 rows b && mkB n 3 rows i) = true then 1 <<< toN t m a b i else 0) (by unfold mkG; rw [mkB_t (n := n) (k := 1) (rows := rows) (x := a) (by omega), Bool.true_and])] at hk
            exact st_117_79 hn ht hm hro hal ha hb (by omega) (ih _ _ (by omega) hk)
set_option maxRecDepth 100000 in
set_option maxHeartbeats 4000000 in
theorem lp_117_29 {sc : Nat × (Nat → Int32)} {d : Nat} {M : zM} {r : Option Value} {M' : zM} {n t m rows al a N2 : Nat} (hn : n < 4) (ht : t < 2 ^ 31) (hm : m < 4) (hro : rows < 2 ^ 31) (hal : al = 1 <<< m) (ha : a < 8) (hN : N2 = if 1 < n then al else 1) : ∀ (j i v : Nat), i + j = N2 → zK 47 sc (zC 47 sc (d + 1)) 117 r M' 155 [.int (nI n), .int (nI t), .int (nI m), .int (nI rows), .int (nI (v ||| zor (mkN2 n t m rows a) j i)), .int (nI al), .int (nI a), .int (nI N2), .null, .null] [] (M) → zK 47 sc (zC 47 sc (d + 1)) 117 r M' 29 [.int (nI n), .int (nI t), .int (nI m), .int (nI rows), .int (nI v), .int (nI al), .int (nI a), .int (nI i), .null, .null] [] (M) := by
  intro j
  induction j with
  | zero =>
    intro i v  hj hk
    obtain rfl : i = N2 := by omega
    have hs := zsh_lt hm
    rw [zor_zero] at hk
    refine zK.blk rfl ?_
    refine p_iload_7 ?_
    refine p_iloadn_0 ?_
    refine p_iconst (v := nI 1) (by decide) ?_
    refine p_icmpN_le (tgt := 41) (by decide) (by omega) (by omega) (fun hc33 => ?_) (fun hc33 => ?_)
    · skip
      have hN1 : i = 1 := by rw [hN, if_neg (by omega)]
      refine zK.blk rfl ?_
      refine p_iconst (v := nI 1) (by decide) ?_
      refine zK.blk rfl ?_
      refine p_icmpN_ge (tgt := 155) (by decide) (by omega) (by omega) (fun hc42 => ?_) (fun hc42 => ?_)
      · skip
        exact hk
      · skip
        exact absurd hc42 (by omega) --STOP
    · skip
      have hN1 : i = al := by rw [hN, if_pos (by omega)]
      refine p_iload_5 ?_
      refine p_goto (tgt := 42) (by decide) ?_
      refine zK.blk rfl ?_
      refine p_icmpN_ge (tgt := 155) (by decide) (by omega) (by omega) (fun hc42 => ?_) (fun hc42 => ?_)
      · skip
        exact hk
      · skip
        exact absurd hc42 (by omega) --STOP
  | succ j ih =>
    intro i v  hj hk
    have hs := zsh_lt hm
    have hN8 : N2 ≤ 8 := by rw [hN]; split <;> omega
    refine zK.blk rfl ?_
    refine p_iload_7 ?_
    refine p_iloadn_0 ?_
    refine p_iconst (v := nI 1) (by decide) ?_
    refine p_icmpN_le (tgt := 41) (by decide) (by omega) (by omega) (fun hc33 => ?_) (fun hc33 => ?_)
    · skip
      have hN1 : N2 = 1 := by rw [hN, if_neg (by omega)]
      refine zK.blk rfl ?_
      refine p_iconst (v := nI 1) (by decide) ?_
      refine zK.blk rfl ?_
      refine p_icmpN_ge (tgt := 155) (by decide) (by omega) (by omega) (fun hc42 => ?_) (fun hc42 => ?_)
      · skip
        exact absurd hc42 (by omega) --STOP
      · skip
        refine p_iconst (v := nI 0) (by decide) ?_
        refine p_istore_8 rfl ?_
        rw [zor_step (x := mkN2 n t m rows a i) rfl] at hk
        refine lp_117_48 hn ht hm hro hal ha (by omega) rfl (if 2 < n then al else 1) 0 v (by omega) ?_
        rw [show zor (mkG n t m rows a i) (if 2 < n then al else 1) 0 = mkN2 n t m rows a i by unfold mkN2; rw [hal]]
        refine zK.blk rfl ?_
        refine p_iinc_7 (zN_inc _ 1) rfl ?_
        refine p_goto (tgt := 29) (by decide) ?_
        refine zK.forget _ ?_ (ih _ _ (by omega) hk)
        exact ⟨Or.inl rfl, Or.inl rfl, Or.inl rfl, Or.inl rfl, Or.inl rfl, Or.inl rfl, Or.inl rfl, Or.inl rfl, Or.inr rfl, Or.inl rfl, trivial⟩
    · skip
      have hN1 : N2 = al := by rw [hN, if_pos (by omega)]
      refine p_iload_5 ?_
      refine p_goto (tgt := 42) (by decide) ?_
      refine zK.blk rfl ?_
      refine p_icmpN_ge (tgt := 155) (by decide) (by omega) (by omega) (fun hc42 => ?_) (fun hc42 => ?_)
      · skip
        exact absurd hc42 (by omega) --STOP
      · skip
        refine p_iconst (v := nI 0) (by decide) ?_
        refine p_istore_8 rfl ?_
        rw [zor_step (x := mkN2 n t m rows a i) rfl] at hk
        refine lp_117_48 hn ht hm hro hal ha (by omega) rfl (if 2 < n then al else 1) 0 v (by omega) ?_
        rw [show zor (mkG n t m rows a i) (if 2 < n then al else 1) 0 = mkN2 n t m rows a i by unfold mkN2; rw [hal]]
        refine zK.blk rfl ?_
        refine p_iinc_7 (zN_inc _ 1) rfl ?_
        refine p_goto (tgt := 29) (by decide) ?_
        refine zK.forget _ ?_ (ih _ _ (by omega) hk)
        exact ⟨Or.inl rfl, Or.inl rfl, Or.inl rfl, Or.inl rfl, Or.inl rfl, Or.inl rfl, Or.inl rfl, Or.inl rfl, Or.inr rfl, Or.inl rfl, trivial⟩
set_option maxRecDepth 100000 in
set_option maxHeartbeats 4000000 in
theorem lp_117_11 {sc : Nat × (Nat → Int32)} {d : Nat} {M : zM} {r : Option Value} {M' : zM} {n t m rows al N1 : Nat} (hn : n < 4) (ht : t < 2 ^ 31) (hm : m < 4) (hro : rows < 2 ^ 31) (hal : al = 1 <<< m) (hN : N1 = if 0 < n then al else 1) : ∀ (j i v : Nat), i + j = N1 → zK 47 sc (zC 47 sc (d + 1)) 117 r M' 161 [.int (nI n), .int (nI t), .int (nI m), .int (nI rows), .int (nI (v ||| zor (mkN1 n t m rows) j i)), .int (nI al), .int (nI N1), .null, .null, .null] [] (M) → zK 47 sc (zC 47 sc (d + 1)) 117 r M' 11 [.int (nI n), .int (nI t), .int (nI m), .int (nI rows), .int (nI v), .int (nI al), .int (nI i), .null, .null, .null] [] (M) := by
  intro j
  induction j with
  | zero =>
    intro i v  hj hk
    obtain rfl : i = N1 := by omega
    have hs := zsh_lt hm
    rw [zor_zero] at hk
    refine zK.blk rfl ?_
    refine p_iload_6 ?_
    refine p_iloadn_0 ?_
    refine p_ifN_le (tgt := 22) (by decide) (by omega) (fun hc14 => ?_) (fun hc14 => ?_)
    · skip
      have hN1 : i = 1 := by rw [hN, if_neg (by omega)]
      refine zK.blk rfl ?_
      refine p_iconst (v := nI 1) (by decide) ?_
      refine zK.blk rfl ?_
      refine p_icmpN_ge (tgt := 161) (by decide) (by omega) (by omega) (fun hc23 => ?_) (fun hc23 => ?_)
      · skip
        exact hk
      · skip
        exact absurd hc23 (by omega) --STOP
    · skip
      have hN1 : i = al := by rw [hN, if_pos (by omega)]
      refine p_iload_5 ?_
      refine p_goto (tgt := 23) (by decide) ?_
      refine zK.blk rfl ?_
      refine p_icmpN_ge (tgt := 161) (by decide) (by omega) (by omega) (fun hc23 => ?_) (fun hc23 => ?_)
      · skip
        exact hk
      · skip
        exact absurd hc23 (by omega) --STOP
  | succ j ih =>
    intro i v  hj hk
    have hs := zsh_lt hm
    have hN8 : N1 ≤ 8 := by rw [hN]; split <;> omega
    refine zK.blk rfl ?_
    refine p_iload_6 ?_
    refine p_iloadn_0 ?_
    refine p_ifN_le (tgt := 22) (by decide) (by omega) (fun hc14 => ?_) (fun hc14 => ?_)
    · skip
      have hN1 : N1 = 1 := by rw [hN, if_neg (by omega)]
      refine zK.blk rfl ?_
      refine p_iconst (v := nI 1) (by decide) ?_
      refine zK.blk rfl ?_
      refine p_icmpN_ge (tgt := 161) (by decide) (by omega) (by omega) (fun hc23 => ?_) (fun hc23 => ?_)
      · skip
        exact absurd hc23 (by omega) --STOP
      · skip
        refine p_iconst (v := nI 0) (by decide) ?_
        refine p_istore_7 rfl ?_
        rw [zor_step (x := mkN1 n t m rows i) rfl] at hk
        refine lp_117_29 hn ht hm hro hal (by omega) rfl (if 1 < n then al else 1) 0 v (by omega) ?_
        rw [show zor (mkN2 n t m rows i) (if 1 < n then al else 1) 0 = mkN1 n t m rows i by unfold mkN1; rw [hal]]
        refine zK.blk rfl ?_
        refine p_iinc_6 (zN_inc _ 1) rfl ?_
        refine p_goto (tgt := 11) (by decide) ?_
        refine zK.forget _ ?_ (ih _ _ (by omega) hk)
        exact ⟨Or.inl rfl, Or.inl rfl, Or.inl rfl, Or.inl rfl, Or.inl rfl, Or.inl rfl, Or.inl rfl, Or.inr rfl, Or.inl rfl, Or.inl rfl, trivial⟩
    · skip
      have hN1 : N1 = al := by rw [hN, if_pos (by omega)]
      refine p_iload_5 ?_
      refine p_goto (tgt := 23) (by decide) ?_
      refine zK.blk rfl ?_
      refine p_icmpN_ge (tgt := 161) (by decide) (by omega) (by omega) (fun hc23 => ?_) (fun hc23 => ?_)
      · skip
        exact absurd hc23 (by omega) --STOP
      · skip
        refine p_iconst (v := nI 0) (by decide) ?_
        refine p_istore_7 rfl ?_
        rw [zor_step (x := mkN1 n t m rows i) rfl] at hk
        refine lp_117_29 hn ht hm hro hal (by omega) rfl (if 1 < n then al else 1) 0 v (by omega) ?_
        rw [show zor (mkN2 n t m rows i) (if 1 < n then al else 1) 0 = mkN1 n t m rows i by unfold mkN1; rw [hal]]
        refine zK.blk rfl ?_
        refine p_iinc_6 (zN_inc _ 1) rfl ?_
        refine p_goto (tgt := 11) (by decide) ?_
        refine zK.forget _ ?_ (ih _ _ (by omega) hk)
        exact ⟨Or.inl rfl, Or.inl rfl, Or.inl rfl, Or.inl rfl, Or.inl rfl, Or.inl rfl, Or.inl rfl, Or.inr rfl, Or.inl rfl, Or.inl rfl, trivial⟩
set_option maxRecDepth 100000 in
set_option maxHeartbeats 4000000 in
theorem c_117 {sc : Nat × (Nat → Int32)} {d : Nat} {M : zM} {n t m rows : Nat} (hn : n < 4) (ht : t < 2 ^ 31) (hm : m < 4) (hro : rows < 2 ^ 31) : zC 47 sc (d + 2) 117 [.int (nI n), .int (nI t), .int (nI m), .int (nI rows)] M (some (.int (nI (mkN n t m rows)))) (M) := by
  have hs := zsh_lt hm
  refine z_enter (L := [.int (nI n), .int (nI t), .int (nI m), .int (nI rows), .null, .null, .null, .null, .null, .null]) rfl rfl rfl ?_
  refine zK.blk rfl ?_
  refine p_iconst (v := nI 0) (by decide) ?_
  refine p_istore_4 rfl ?_
  refine p_iconst (v := nI 1) (by decide) ?_
  refine p_iloadn_2 ?_
  refine p_ishlN (by omega) ?_
  refine p_istore_5 rfl ?_
  refine p_iconst (v := nI 0) (by decide) ?_
  refine p_istore_6 rfl ?_
  refine lp_117_11 hn ht hm hro rfl rfl (if 0 < n then 1 <<< m else 1) 0 0 (by omega) ?_
  rw [Nat.zero_or]
  refine zK.blk rfl ?_
  refine p_iload_4 ?_
  exact p_iret trivial rfl rfl
end
section
theorem zget_sg {i : Nat} (h : i < 6) : zget [3, 4, 5, 6, 7, 8] i = some (3 + i) := by
  rcases (show i = 0 ∨ i = 1 ∨ i = 2 ∨ i = 3 ∨ i = 4 ∨ i = 5 by omega) with rfl | rfl | rfl | rfl | rfl | rfl <;> rfl
theorem zlay_sg {i : Nat} (h : i < 6) : zlay 47 (3 + i) = some (.inl (3, [none, none, none, none, none])) := by
  rcases (show i = 0 ∨ i = 1 ∨ i = 2 ∨ i = 3 ∨ i = 4 ∨ i = 5 by omega) with rfl | rfl | rfl | rfl | rfl | rfl <;> rfl
theorem zget_fo {i : Nat} (h : i < 4) : zget [28, 29, 30, 31] i = some (28 + i) := by
  rcases (show i = 0 ∨ i = 1 ∨ i = 2 ∨ i = 3 by omega) with rfl | rfl | rfl | rfl <;> rfl
theorem zlay_fo {i : Nat} (h : i < 4) : zlay 47 (28 + i) = some (.inl (0, [none, none, none, none])) := by
  rcases (show i = 0 ∨ i = 1 ∨ i = 2 ∨ i = 3 by omega) with rfl | rfl | rfl | rfl <;> rfl
/-- the class's signs: n of them, places P, tables T, costs K -/
def sgC (M : zM) (n : Nat) (P T K : Nat → Nat) : Prop := n ≤ 6 ∧ M 1 1 = nI n ∧ (∀ i, i < n → P i < 4 ∧ T i < z22 (P i) ∧ 1 ≤ K i ∧ K i ≤ 9) ∧
  ∀ i, i < n → M (3 + i) 0 = nI (P i) ∧ M (3 + i) 1 = nI (T i) ∧ M (3 + i) 2 = nI (K i) ∧ M (3 + i) 3 = nI (T i * zrep (P i)) ∧ M (3 + i) 4 = nI (kbN (P i) (T i))
theorem zwide_lt : ∀ p, p < 4 → ∀ t, t < z22 p → t * zrep p < 256 := by decide +kernel
theorem kb_lt {p t : Nat} (hp : p < 4) (ht : t < z22 p) : kbN p t < 32 := by
  have := kb_km p hp t ht
  rw [this.1]; exact this.2
theorem z1_lt {x : Nat} (h : x < 8) : 1 <<< x < 2 ^ 8 := by
  rw [Nat.one_shiftLeft]; exact Nat.pow_lt_pow_right (by decide) h
theorem prG_lt {one no last ch c : Nat} (h : last < 8) : prG one no last ch c < 2 ^ 8 := by
  unfold prG
  split
  · exact z1_lt (zand_r _ h)
  · decide
theorem trM_lt {w last fi se th : Nat} (hl : last < 8) : trM w last fi se th < 2 ^ 8 := by
  unfold trM
  refine zor_lt (fun a => ?_) _ _
  unfold trG
  split
  · refine zor_lt (fun b => ?_) _ _
    unfold trG1
    split
    · exact zor_lt (fun c => prG_lt hl) _ _
    · decide
  · decide
theorem trN_lt {p w r rows : Nat} (hr : r < 4) : trN p w r rows < 2 ^ 8 := trM_lt (by have := zsh_lt hr; omega)
/-- a sign lets a relation -/
def ltB (p w r rows : Nat) : Bool := decide (trN p w r rows &&& (rows ^^^ zFF) = 0)
def zhas (n : Nat) (x : Int32) : Bool := decide (¬ x < 0) && decide (¬ nI n ≤ x)
set_option maxRecDepth 100000 in
set_option maxHeartbeats 4000000 in
theorem c_23 {sc : Nat × (Nat → Int32)} {d : Nat} {M : zM} {i p w r rows : Nat} (hi : i < 6) (h0 : M (3 + i) 0 = nI p) (h3 : M (3 + i) 3 = nI w) (hp : p < 4) (hw : w < 2 ^ 31) (hr : r < 4) (hro : rows < 2 ^ 31) : zC 47 sc (d + 4) 23 [.ref (3 + i), .int (nI r), .int (nI rows)] M (some (.int (zB (ltB p w r rows)))) (M) := by
  have ht := trN_lt (p := p) (w := w) (rows := rows) hr
  have ha : trN p w r rows &&& (rows ^^^ zFF) < 2 ^ 31 := zand_lt (by omega)
  refine z_enter (L := [.ref (3 + i), .int (nI r), .int (nI rows)]) rfl rfl rfl ?_
  refine zK.blk rfl ?_
  refine p_aloadn_0 ?_
  refine p_geti (zlay_sg (by omega)) rfl (h0) ?_
  refine p_aloadn_0 ?_
  refine p_geti (zlay_sg (by omega)) rfl (h3) ?_
  refine p_iloadn_1 ?_
  refine p_iloadn_2 ?_
  refine p_cs4i rfl rfl rfl rfl rfl (c_8 hp hr hw hro) ?_
  refine p_iloadn_2 ?_
  refine p_iconst (v := nI zFF) (by decide) ?_
  refine p_ixorN ?_
  refine p_iandN ?_
  refine p_ifN_ne (tgt := 24) (by decide) (by omega) (fun hc17 => ?_) (fun hc17 => ?_)
  · skip
    refine zK.blk rfl ?_
    refine p_iconst (v := nI 0) (by decide) ?_
    refine zK.blk rfl ?_
    exact p_iret (by first | exact Or.inl rfl | exact Or.inr rfl) (by unfold ltB; first | rw [decide_eq_true (by omega)]; rfl | rw [decide_eq_false (by omega)]; rfl) rfl
  · skip
    refine p_iconst (v := nI 1) (by decide) ?_
    refine p_goto (tgt := 25) (by decide) ?_
    refine zK.blk rfl ?_
    exact p_iret (by first | exact Or.inl rfl | exact Or.inr rfl) (by unfold ltB; first | rw [decide_eq_true (by omega)]; rfl | rw [decide_eq_false (by omega)]; rfl) rfl
set_option maxRecDepth 100000 in
set_option maxHeartbeats 4000000 in
theorem c_24 {sc : Nat × (Nat → Int32)} {d : Nat} {M : zM} {n : Nat} {P T K : Nat → Nat} {x : Int32} (hsg : sgC M n P T K) : zC 47 sc (d + 1) 24 [.ref 1, .int x] M (some (.int (zB (zhas n x)))) (M) := by
  obtain ⟨hn6, hn, hR, hS⟩ := hsg
  refine z_enter (L := [.ref 1, .int x]) rfl rfl rfl ?_
  refine zK.blk rfl ?_
  refine p_iloadn_1 ?_
  refine p_if_lt (tgt := 16) (by decide) (fun hc1 => ?_) (fun hc1 => ?_)
  · skip
    refine zK.blk rfl ?_
    refine p_iconst (v := nI 0) (by decide) ?_
    refine zK.blk rfl ?_
    exact p_iret (by first | exact Or.inl rfl | exact Or.inr rfl) (by (first | rw [zB_0] | rw [zB_1]); congr 3; unfold zhas; simp_all) rfl
  · skip
    refine p_iloadn_1 ?_
    refine p_aloadn_0 ?_
    refine p_geti rfl rfl (hn) ?_
    refine p_icmp_ge (tgt := 16) (by decide) (fun hc9 => ?_) (fun hc9 => ?_)
    · skip
      refine zK.blk rfl ?_
      refine p_iconst (v := nI 0) (by decide) ?_
      refine zK.blk rfl ?_
      exact p_iret (by first | exact Or.inl rfl | exact Or.inr rfl) (by (first | rw [zB_0] | rw [zB_1]); congr 3; unfold zhas; simp_all) rfl
    · skip
      refine p_iconst (v := nI 1) (by decide) ?_
      refine p_goto (tgt := 17) (by decide) ?_
      refine zK.blk rfl ?_
      exact p_iret (by first | exact Or.inl rfl | exact Or.inr rfl) (by (first | rw [zB_0] | rw [zB_1]); congr 3; unfold zhas; simp_all) rfl
set_option maxRecDepth 100000 in
set_option maxHeartbeats 4000000 in
theorem c_25 {sc : Nat × (Nat → Int32)} {d : Nat} {M : zM} {n : Nat} {P T K : Nat → Nat} {x : Int32} (hsg : sgC M n P T K) : zC 47 sc (d + 1) 25 [.ref 1, .int x] M (some (.int (zB (zhas (1 <<< n) x)))) (M) := by
  obtain ⟨hn6, hn, hR, hS⟩ := hsg
  refine z_enter (L := [.ref 1, .int x]) rfl rfl rfl ?_
  refine zK.blk rfl ?_
  refine p_iloadn_1 ?_
  refine p_if_lt (tgt := 18) (by decide) (fun hc1 => ?_) (fun hc1 => ?_)
  · skip
    refine zK.blk rfl ?_
    refine p_iconst (v := nI 0) (by decide) ?_
    refine zK.blk rfl ?_
    exact p_iret (by first | exact Or.inl rfl | exact Or.inr rfl) (by (first | rw [zB_0] | rw [zB_1]); congr 3; unfold zhas; simp_all) rfl
  · skip
    refine p_iloadn_1 ?_
    refine p_iconst (v := nI 1) (by decide) ?_
    refine p_aloadn_0 ?_
    refine p_geti rfl rfl (hn) ?_
    refine p_ishlN (by omega) ?_
    refine p_icmp_ge (tgt := 18) (by decide) (fun hc11 => ?_) (fun hc11 => ?_)
    · skip
      refine zK.blk rfl ?_
      refine p_iconst (v := nI 0) (by decide) ?_
      refine zK.blk rfl ?_
      exact p_iret (by first | exact Or.inl rfl | exact Or.inr rfl) (by (first | rw [zB_0] | rw [zB_1]); congr 3; unfold zhas; simp_all) rfl
    · skip
      refine p_iconst (v := nI 1) (by decide) ?_
      refine p_goto (tgt := 19) (by decide) ?_
      refine zK.blk rfl ?_
      exact p_iret (by first | exact Or.inl rfl | exact Or.inr rfl) (by (first | rw [zB_0] | rw [zB_1]); congr 3; unfold zhas; simp_all) rfl
def o3F (P : Nat → Nat) (i v : Nat) : Nat := if P i = 3 then v + 1 else v
def o3N (P : Nat → Nat) (n : Nat) : Nat := zfor (o3F P) n 0 0
set_option maxRecDepth 100000 in
set_option maxHeartbeats 4000000 in
theorem lp_27_4 {sc : Nat × (Nat → Int32)} {d : Nat} {M : zM} {r : Option Value} {M' : zM} {n : Nat} {P T K : Nat → Nat} (hsg : sgC M n P T K) : ∀ (j i v : Nat), i + j = n → zK 47 sc (zC 47 sc (d + 0)) 27 r M' 34 [.ref 1, .int (nI (zfor (o3F P) j i v)), .int (nI n)] [] (M) → zK 47 sc (zC 47 sc (d + 0)) 27 r M' 4 [.ref 1, .int (nI v), .int (nI i)] [] (M) := by
  intro j
  induction j with
  | zero =>
    intro i v  hj hk
    obtain rfl : i = n := by omega
    obtain ⟨hn6, hn, hR, hS⟩ := hsg
    refine zK.blk rfl ?_
    refine p_iloadn_2 ?_
    refine p_aloadn_0 ?_
    refine p_geti rfl rfl (hn) ?_
    refine p_icmpN_ge (tgt := 34) (by decide) (by omega) (by omega) (fun hc9 => ?_) (fun hc9 => ?_)
    · skip
      exact hk
    · skip
      exact absurd hc9 (by omega) --STOP
  | succ j ih =>
    intro i v  hj hk
    obtain ⟨hn6, hn, hR, hS⟩ := hsg
    have hP := hR i (by omega)
    refine zK.blk rfl ?_
    refine p_iloadn_2 ?_
    refine p_aloadn_0 ?_
    refine p_geti rfl rfl (hn) ?_
    refine p_icmpN_ge (tgt := 34) (by decide) (by omega) (by omega) (fun hc9 => ?_) (fun hc9 => ?_)
    · skip
      exact absurd hc9 (by omega) --STOP
    · skip
      refine p_aloadn_0 ?_
      refine p_getr rfl rfl ?_
      refine p_iloadn_2 ?_
      refine p_aald rfl (by omega) (by decide) (zget_sg (by omega)) ?_
      refine p_geti (zlay_sg (by omega)) rfl ((hS _ (by omega)).1) ?_
      refine p_iconst (v := nI 3) (by decide) ?_
      refine p_icmpN_ne (tgt := 28) (by decide) (by omega) (by omega) (fun hc22 => ?_) (fun hc22 => ?_)
      · skip
        rw [zfor_step (f := o3F P) (a' := v) (by unfold o3F; rw [if_neg hc22])] at hk
        refine zK.blk rfl ?_
        refine p_iinc_2 (zN_inc _ 1) rfl ?_
        refine p_goto (tgt := 4) (by decide) ?_
        exact ih _ _ (by omega) hk
      · skip
        rw [zfor_step (f := o3F P) (a' := v + 1) (by unfold o3F; rw [if_pos (by omega)])] at hk
        refine p_iinc_1 (zN_inc _ 1) rfl ?_
        refine zK.blk rfl ?_
        refine p_iinc_2 (zN_inc _ 1) rfl ?_
        refine p_goto (tgt := 4) (by decide) ?_
        exact ih _ _ (by omega) hk
set_option maxRecDepth 100000 in
set_option maxHeartbeats 4000000 in
theorem c_27 {sc : Nat × (Nat → Int32)} {d : Nat} {M : zM} {n : Nat} {P T K : Nat → Nat} (hsg : sgC M n P T K) : zC 47 sc (d + 1) 27 [.ref 1] M (some (.int (nI (o3N P n)))) (M) := by
  refine z_enter (L := [.ref 1, .null, .null]) rfl rfl rfl ?_
  refine zK.blk rfl ?_
  refine p_iconst (v := nI 0) (by decide) ?_
  refine p_istoren_1 rfl ?_
  refine p_iconst (v := nI 0) (by decide) ?_
  refine p_istoren_2 rfl ?_
  refine lp_27_4 hsg n 0 0 (by omega) ?_
  refine zK.blk rfl ?_
  refine p_iloadn_1 ?_
  exact p_iret trivial rfl rfl
def kaF (P T : Nat → Nat) (s i v : Nat) : Nat := if s >>> i &&& 1 = 1 then v &&& kbN (P i) (T i) else v
def kaN (P T : Nat → Nat) (n s : Nat) : Nat := zfor (kaF P T s) n 0 31
theorem kaF_lt {P T : Nat → Nat} {s : Nat} : ∀ j i v, v < 32 → zfor (kaF P T s) j i v < 32 := by
  intro j
  induction j with
  | zero => intro i v h; exact h
  | succ j ih =>
    intro i v h
    refine ih (i + 1) _ ?_
    unfold kaF
    split
    · exact zand_lt h
    · exact h
theorem kaN_lt (P T : Nat → Nat) (n s : Nat) : kaN P T n s < 32 := kaF_lt n 0 31 (by decide)
set_option maxRecDepth 100000 in
set_option maxHeartbeats 4000000 in
theorem lp_28_5 {sc : Nat × (Nat → Int32)} {d : Nat} {M : zM} {r : Option Value} {M' : zM} {n : Nat} {P T K : Nat → Nat} {s : Nat} (hsg : sgC M n P T K) (hs : s < 2 ^ 31) : ∀ (j i v : Nat), i + j = n → zK 47 sc (zC 47 sc (d + 0)) 28 r M' 40 [.ref 1, .int (nI s), .int (nI (zfor (kaF P T s) j i v)), .int (nI n)] [] (M) → zK 47 sc (zC 47 sc (d + 0)) 28 r M' 5 [.ref 1, .int (nI s), .int (nI v), .int (nI i)] [] (M) := by
  intro j
  induction j with
  | zero =>
    intro i v  hj hk
    obtain rfl : i = n := by omega
    obtain ⟨hn6, hn, hR, hS⟩ := hsg
    refine zK.blk rfl ?_
    refine p_iloadn_3 ?_
    refine p_aloadn_0 ?_
    refine p_geti rfl rfl (hn) ?_
    refine p_icmpN_ge (tgt := 40) (by decide) (by omega) (by omega) (fun hc10 => ?_) (fun hc10 => ?_)
    · skip
      exact hk
    · skip
      exact absurd hc10 (by omega) --STOP
  | succ j ih =>
    intro i v  hj hk
    obtain ⟨hn6, hn, hR, hS⟩ := hsg
    have hb := zb_lt s i
    refine zK.blk rfl ?_
    refine p_iloadn_3 ?_
    refine p_aloadn_0 ?_
    refine p_geti rfl rfl (hn) ?_
    refine p_icmpN_ge (tgt := 40) (by decide) (by omega) (by omega) (fun hc10 => ?_) (fun hc10 => ?_)
    · skip
      exact absurd hc10 (by omega) --STOP
    · skip
      refine p_iloadn_1 ?_
      refine p_iloadn_3 ?_
      refine p_ishrN (by omega) (by omega) ?_
      refine p_iconst (v := nI 1) (by decide) ?_
      refine p_iandN ?_
      refine p_iconst (v := nI 1) (by decide) ?_
      refine p_icmpN_ne (tgt := 34) (by decide) (by omega) (by omega) (fun hc19 => ?_) (fun hc19 => ?_)
      · skip
        rw [zfor_step (f := kaF P T s) (a' := v) (by unfold kaF; rw [if_neg hc19])] at hk
        refine zK.blk rfl ?_
        refine p_iinc_3 (zN_inc _ 1) rfl ?_
        refine p_goto (tgt := 5) (by decide) ?_
        exact ih _ _ (by omega) hk
      · skip
        rw [zfor_step (f := kaF P T s) (a' := v &&& kbN (P i) (T i)) (by unfold kaF; rw [if_pos (by omega)])] at hk
        refine p_iloadn_2 ?_
        refine p_aloadn_0 ?_
        refine p_getr rfl rfl ?_
        refine p_iloadn_3 ?_
        refine p_aald rfl (by omega) (by decide) (zget_sg (by omega)) ?_
        refine p_geti (zlay_sg (by omega)) rfl ((hS _ (by omega)).2.2.2.2) ?_
        refine p_iandN ?_
        refine p_istoren_2 rfl ?_
        refine zK.blk rfl ?_
        refine p_iinc_3 (zN_inc _ 1) rfl ?_
        refine p_goto (tgt := 5) (by decide) ?_
        exact ih _ _ (by omega) hk
set_option maxRecDepth 100000 in
set_option maxHeartbeats 4000000 in
theorem c_28 {sc : Nat × (Nat → Int32)} {d : Nat} {M : zM} {n : Nat} {P T K : Nat → Nat} {s : Nat} (hsg : sgC M n P T K) (hs : s < 2 ^ 31) : zC 47 sc (d + 1) 28 [.ref 1, .int (nI s)] M (some (.int (nI (kaN P T n s)))) (M) := by
  refine z_enter (L := [.ref 1, .int (nI s), .null, .null]) rfl rfl rfl ?_
  refine zK.blk rfl ?_
  refine p_bipush (v := nI 31) (by decide) ?_
  refine p_istoren_2 rfl ?_
  refine p_iconst (v := nI 0) (by decide) ?_
  refine p_istoren_3 rfl ?_
  refine lp_28_5 hsg hs n 0 31 (by omega) ?_
  refine zK.blk rfl ?_
  refine p_iloadn_2 ?_
  exact p_iret trivial rfl rfl
set_option maxRecDepth 100000 in
set_option maxHeartbeats 4000000 in
theorem c_29 {sc : Nat × (Nat → Int32)} {d : Nat} {M : zM} {n : Nat} {P T K : Nat → Nat} {s : Nat} (hsg : sgC M n P T K) (hs : s < 2 ^ 31) : zC 47 sc (d + 2) 29 [.ref 1, .int (nI s)] M (some (.int (zB (decide (kaN P T n s = 0))))) (M) := by
  have hka := kaN_lt P T n s
  refine z_enter (L := [.ref 1, .int (nI s)]) rfl rfl rfl ?_
  refine zK.blk rfl ?_
  refine p_aloadn_0 ?_
  refine p_iloadn_1 ?_
  refine p_cv1i rfl rfl rfl rfl rfl (c_28 hsg hs) ?_
  refine p_ifN_ne (tgt := 12) (by decide) (by omega) (fun hc5 => ?_) (fun hc5 => ?_)
  · skip
    refine zK.blk rfl ?_
    refine p_iconst (v := nI 0) (by decide) ?_
    refine zK.blk rfl ?_
    exact p_iret (by first | exact Or.inl rfl | exact Or.inr rfl) (by first | rw [decide_eq_true (by omega)]; rfl | rw [decide_eq_false (by omega)]; rfl) rfl
  · skip
    refine p_iconst (v := nI 1) (by decide) ?_
    refine p_goto (tgt := 13) (by decide) ?_
    refine zK.blk rfl ?_
    exact p_iret (by first | exact Or.inl rfl | exact Or.inr rfl) (by first | rw [decide_eq_true (by omega)]; rfl | rw [decide_eq_false (by omega)]; rfl) rfl
def lsF (P T : Nat → Nat) (n s i : Nat) : Bool := !(decide (s >>> i &&& 1 = 1) && decide (kaN P T n (s ^^^ 1 <<< i) = 0))
def lsN (P T : Nat → Nat) (n s : Nat) : Bool := decide (kaN P T n s = 0) && zall (lsF P T n s) n 0
theorem zxs_lt {s i : Nat} (hs : s < 64) (hi : i < 6) : s ^^^ 1 <<< i < 64 := Nat.xor_lt_two_pow (n := 6) hs (by rw [Nat.one_shiftLeft]; exact Nat.pow_lt_pow_right (by decide) hi)
set_option maxRecDepth 100000 in
set_option maxHeartbeats 4000000 in
theorem lp_30_12 {sc : Nat × (Nat → Int32)} {d : Nat} {M : zM} {r : Option Value} {M' : zM} {n : Nat} {P T K : Nat → Nat} {s : Nat} (hsg : sgC M n P T K) (hs : s < 64) : ∀ (j i : Nat), i + j = n → (zall (lsF P T n s) j i = true → zK 47 sc (zC 47 sc (d + 2)) 30 r M' 49 [.ref 1, .int (nI s), .int (nI n)] [] M) → (zall (lsF P T n s) j i = false → some (.int (nI 0)) = r ∧ M = M') → zK 47 sc (zC 47 sc (d + 2)) 30 r M' 12 [.ref 1, .int (nI s), .int (nI i)] [] M := by
  intro j
  induction j with
  | zero =>
    intro i hj h1 h2
    have hin : i = n := by omega
    subst hin
    obtain ⟨hn6, hn, hR, hS⟩ := hsg
    refine zK.blk rfl ?_
    refine p_iloadn_2 ?_
    refine p_aloadn_0 ?_
    refine p_geti rfl rfl (hn) ?_
    refine p_icmpN_ge (tgt := 49) (by decide) (by omega) (by omega) (fun hc17 => ?_) (fun hc17 => ?_)
    · skip
      exact h1 rfl
    · skip
      exact absurd hc17 (by omega) --STOP
  | succ j ih =>
    intro i hj h1 h2
    have hsg2 := hsg
    obtain ⟨hn6, hn, hR, hS⟩ := hsg
    have hb := zb_lt s i
    have hx := zxs_lt hs (show i < 6 by omega)
    refine zK.blk rfl ?_
    refine p_iloadn_2 ?_
    refine p_aloadn_0 ?_
    refine p_geti rfl rfl (hn) ?_
    refine p_icmpN_ge (tgt := 49) (by decide) (by omega) (by omega) (fun hc17 => ?_) (fun hc17 => ?_)
    · skip
      exact absurd hc17 (by omega) --STOP
    · skip
      refine p_iloadn_1 ?_
      refine p_iloadn_2 ?_
      refine p_ishrN (by omega) (by omega) ?_
      refine p_iconst (v := nI 1) (by decide) ?_
      refine p_iandN ?_
      refine p_iconst (v := nI 1) (by decide) ?_
      refine p_icmpN_ne (tgt := 43) (by decide) (by omega) (by omega) (fun hc26 => ?_) (fun hc26 => ?_)
      · skip
        have e : lsF P T n s i = true := by unfold lsF; rw [decide_eq_false hc26]; rfl
        rw [zall_t e] at h1 h2
        refine zK.blk rfl ?_
        refine p_iinc_2 (zN_inc _ 1) rfl ?_
        refine p_goto (tgt := 12) (by decide) ?_
        exact ih _ (by omega) h1 h2
      · skip
        refine p_aloadn_0 ?_
        refine p_iloadn_1 ?_
        refine p_iconst (v := nI 1) (by decide) ?_
        refine p_iloadn_2 ?_
        refine p_ishlN (by omega) ?_
        refine p_ixorN ?_
        refine p_cv1i rfl rfl rfl rfl rfl (c_29 hsg2 (by omega)) ?_
        refine p_ifB_eq (tgt := 43) (by decide) (fun hc38 => ?_) (fun hc38 => ?_)
        · skip
          have e : lsF P T n s i = true := by unfold lsF; rw [hc38, Bool.and_false]; rfl
          rw [zall_t e] at h1 h2
          refine zK.blk rfl ?_
          refine p_iinc_2 (zN_inc _ 1) rfl ?_
          refine p_goto (tgt := 12) (by decide) ?_
          exact ih _ (by omega) h1 h2
        · skip
          have e : lsF P T n s i = false := by unfold lsF; rw [decide_eq_true (show s >>> i &&& 1 = 1 by omega), hc38]; rfl
          refine p_iconst (v := nI 0) (by decide) ?_
          exact p_iret (Or.inl rfl) (h2 (zall_f e)).1 (h2 (zall_f e)).2
set_option maxRecDepth 100000 in
set_option maxHeartbeats 4000000 in
theorem c_30 {sc : Nat × (Nat → Int32)} {d : Nat} {M : zM} {n : Nat} {P T K : Nat → Nat} {s : Nat} (hsg : sgC M n P T K) (hs : s < 64) : zC 47 sc (d + 3) 30 [.ref 1, .int (nI s)] M (some (.int (zB (lsN P T n s)))) (M) := by
  refine z_enter (L := [.ref 1, .int (nI s), .null]) rfl rfl rfl ?_
  refine zK.blk rfl ?_
  refine p_aloadn_0 ?_
  refine p_iloadn_1 ?_
  refine p_cv1i rfl rfl rfl rfl rfl (c_29 hsg (by omega)) ?_
  refine p_ifB_ne (tgt := 10) (by decide) (fun hc5 => ?_) (fun hc5 => ?_)
  · skip
    refine zK.blk rfl ?_
    refine p_iconst (v := nI 0) (by decide) ?_
    refine p_istoren_2 rfl ?_
    refine lp_30_12 hsg hs n 0 (by omega) (fun e => ?_) (fun e => ⟨by unfold lsN; rw [hc5, e]; rfl, rfl⟩)
    refine zK.blk rfl ?_
    refine p_iconst (v := nI 1) (by decide) ?_
    exact p_iret (Or.inr rfl) (by unfold lsN; rw [hc5, e]; rfl) rfl
    --STOP
  · skip
    refine p_iconst (v := nI 0) (by decide) ?_
    exact p_iret (Or.inl rfl) (by unfold lsN; rw [hc5]; rfl) rfl
def apF (P T : Nat → Nat) (q rows i : Nat) : Bool := ltB (P i) (T i * zrep (P i)) q rows
def apN (P T : Nat → Nat) (n q rows : Nat) : Bool := zall (apF P T q rows) n 0
def pcF (P T : Nat → Nat) (n q rows v : Nat) : Nat := if apN P T n q rows = true then v + 1 else v
def pcN (P T : Nat → Nat) (n q : Nat) : Nat := zfor (pcF P T n q) (z22 q) 0 0
def gpF (P T : Nat → Nat) (q i v : Nat) : Nat := v ||| trN (P i) (T i * zrep (P i)) q v
def gpN (P T : Nat → Nat) (n q v : Nat) : Nat := zfor (gpF P T q) n 0 v
def grN (P T : Nat → Nat) (n q : Nat) : Nat → Nat → Nat
  | 0, v => v
  | j + 1, v => if gpN P T n q v = v then v else grN P T n q j (gpN P T n q v)
theorem gpF_lt {P T : Nat → Nat} {q : Nat} (hq : q < 4) : ∀ j i v, v < 2 ^ 8 → zfor (gpF P T q) j i v < 2 ^ 8 := by
  intro j
  induction j with
  | zero => intro i v h; exact h
  | succ j ih => intro i v h; exact ih (i + 1) _ (Nat.or_lt_two_pow h (trN_lt hq))
set_option maxRecDepth 100000 in
set_option maxHeartbeats 4000000 in
theorem lp_31_2 {sc : Nat × (Nat → Int32)} {d : Nat} {M : zM} {r : Option Value} {M' : zM} {n : Nat} {P T K : Nat → Nat} {q rows : Nat} (hsg : sgC M n P T K) (hq : q < 4) (hro : rows < 2 ^ 31) : ∀ (j i : Nat), i + j = n → (zall (apF P T q rows) j i = true → zK 47 sc (zC 47 sc (d + 4)) 31 r M' 32 [.ref 1, .int (nI q), .int (nI rows), .int (nI n)] [] M) → (zall (apF P T q rows) j i = false → some (.int (nI 0)) = r ∧ M = M') → zK 47 sc (zC 47 sc (d + 4)) 31 r M' 2 [.ref 1, .int (nI q), .int (nI rows), .int (nI i)] [] M := by
  intro j
  induction j with
  | zero =>
    intro i hj h1 h2
    have hin : i = n := by omega
    subst hin
    obtain ⟨hn6, hn, hR, hS⟩ := hsg
    refine zK.blk rfl ?_
    refine p_iloadn_3 ?_
    refine p_aloadn_0 ?_
    refine p_geti rfl rfl (hn) ?_
    refine p_icmpN_ge (tgt := 32) (by decide) (by omega) (by omega) (fun hc7 => ?_) (fun hc7 => ?_)
    · skip
      exact h1 rfl
    · skip
      exact absurd hc7 (by omega) --STOP
  | succ j ih =>
    intro i hj h1 h2
    obtain ⟨hn6, hn, hR, hS⟩ := hsg
    have hP := hR i (by omega)
    have hw := zwide_lt (P i) hP.1 (T i) hP.2.1
    refine zK.blk rfl ?_
    refine p_iloadn_3 ?_
    refine p_aloadn_0 ?_
    refine p_geti rfl rfl (hn) ?_
    refine p_icmpN_ge (tgt := 32) (by decide) (by omega) (by omega) (fun hc7 => ?_) (fun hc7 => ?_)
    · skip
      exact absurd hc7 (by omega) --STOP
    · skip
      refine p_aloadn_0 ?_
      refine p_getr rfl rfl ?_
      refine p_iloadn_3 ?_
      refine p_aald rfl (by omega) (by decide) (zget_sg (by omega)) ?_
      refine p_iloadn_1 ?_
      refine p_iloadn_2 ?_
      refine p_cv2i rfl rfl rfl rfl (zlay_sg (by omega)) (c_23 (by omega) (hS _ (by omega)).1 (hS _ (by omega)).2.2.2.1 hP.1 (by omega) hq hro) ?_
      refine p_ifB_ne (tgt := 26) (by decide) (fun hc21 => ?_) (fun hc21 => ?_)
      · skip
        have e : apF P T q rows i = true := hc21
        rw [zall_t e] at h1 h2
        refine zK.blk rfl ?_
        refine p_iinc_3 (zN_inc _ 1) rfl ?_
        refine p_goto (tgt := 2) (by decide) ?_
        exact ih _ (by omega) h1 h2
      · skip
        have e : apF P T q rows i = false := hc21
        refine p_iconst (v := nI 0) (by decide) ?_
        exact p_iret (Or.inl rfl) (h2 (zall_f e)).1 (h2 (zall_f e)).2
set_option maxRecDepth 100000 in
set_option maxHeartbeats 4000000 in
theorem c_31 {sc : Nat × (Nat → Int32)} {d : Nat} {M : zM} {n : Nat} {P T K : Nat → Nat} {q rows : Nat} (hsg : sgC M n P T K) (hq : q < 4) (hro : rows < 2 ^ 31) : zC 47 sc (d + 5) 31 [.ref 1, .int (nI q), .int (nI rows)] M (some (.int (zB (apN P T n q rows)))) (M) := by
  refine z_enter (L := [.ref 1, .int (nI q), .int (nI rows), .null]) rfl rfl rfl ?_
  refine zK.blk rfl ?_
  refine p_iconst (v := nI 0) (by decide) ?_
  refine p_istoren_3 rfl ?_
  refine lp_31_2 hsg hq hro n 0 (by omega) (fun e => ?_) (fun e => ⟨by unfold apN; rw [e]; rfl, rfl⟩)
  refine zK.blk rfl ?_
  refine p_iconst (v := nI 1) (by decide) ?_
  exact p_iret (Or.inr rfl) (by unfold apN; rw [e]; rfl) rfl
set_option maxRecDepth 100000 in
set_option maxHeartbeats 4000000 in
theorem lp_32_4 {sc : Nat × (Nat → Int32)} {d : Nat} {M : zM} {r : Option Value} {M' : zM} {n : Nat} {P T K : Nat → Nat} {q : Nat} (hsg : sgC M n P T K) (hq : q < 4) : ∀ (j i v : Nat), i + j = z22 q → zK 47 sc (zC 47 sc (d + 5)) 32 r M' 30 [.ref 1, .int (nI q), .int (nI (zfor (pcF P T n q) j i v)), .int (nI (z22 q))] [] (M) → zK 47 sc (zC 47 sc (d + 5)) 32 r M' 4 [.ref 1, .int (nI q), .int (nI v), .int (nI i)] [] (M) := by
  intro j
  induction j with
  | zero =>
    intro i v  hj hk
    have hin : i = z22 q := by omega
    subst hin
    have hz := z22_lt hq
    refine zK.blk rfl ?_
    refine p_iloadn_3 ?_
    refine p_iloadn_1 ?_
    refine p_cs1i rfl rfl rfl rfl rfl (c_1 hq) ?_
    refine p_icmpN_gt (tgt := 30) (by decide) (by omega) (by omega) (fun hc9 => ?_) (fun hc9 => ?_)
    · skip
      exact hk
    · skip
      exact absurd hc9 (by omega) --STOP
  | succ j ih =>
    intro i v  hj hk
    have hz := z22_lt hq
    refine zK.blk rfl ?_
    refine p_iloadn_3 ?_
    refine p_iloadn_1 ?_
    refine p_cs1i rfl rfl rfl rfl rfl (c_1 hq) ?_
    refine p_icmpN_gt (tgt := 30) (by decide) (by omega) (by omega) (fun hc9 => ?_) (fun hc9 => ?_)
    · skip
      exact absurd hc9 (by omega) --STOP
    · skip
      refine p_aloadn_0 ?_
      refine p_iloadn_1 ?_
      refine p_iloadn_3 ?_
      refine p_cv2i rfl rfl rfl rfl rfl (c_31 hsg hq (by omega)) ?_
      refine p_ifB_eq (tgt := 24) (by decide) (fun hc18 => ?_) (fun hc18 => ?_)
      · skip
        rw [zfor_step (f := pcF P T n q) (a' := v) (by unfold pcF; rw [if_neg (by rw [hc18]; decide)])] at hk
        refine zK.blk rfl ?_
        refine p_iinc_3 (zN_inc _ 1) rfl ?_
        refine p_goto (tgt := 4) (by decide) ?_
        exact ih _ _ (by omega) hk
      · skip
        rw [zfor_step (f := pcF P T n q) (a' := v + 1) (by unfold pcF; rw [if_pos hc18])] at hk
        refine p_iinc_2 (zN_inc _ 1) rfl ?_
        refine zK.blk rfl ?_
        refine p_iinc_3 (zN_inc _ 1) rfl ?_
        refine p_goto (tgt := 4) (by decide) ?_
        exact ih _ _ (by omega) hk
set_option maxRecDepth 100000 in
set_option maxHeartbeats 4000000 in
theorem c_32 {sc : Nat × (Nat → Int32)} {d : Nat} {M : zM} {n : Nat} {P T K : Nat → Nat} {q : Nat} (hsg : sgC M n P T K) (hq : q < 4) : zC 47 sc (d + 6) 32 [.ref 1, .int (nI q)] M (some (.int (nI (pcN P T n q)))) (M) := by
  refine z_enter (L := [.ref 1, .int (nI q), .null, .null]) rfl rfl rfl ?_
  refine zK.blk rfl ?_
  refine p_iconst (v := nI 0) (by decide) ?_
  refine p_istoren_2 rfl ?_
  refine p_iconst (v := nI 0) (by decide) ?_
  refine p_istoren_3 rfl ?_
  refine lp_32_4 hsg hq (z22 q) 0 0 (by omega) ?_
  refine zK.blk rfl ?_
  refine p_iloadn_2 ?_
  exact p_iret trivial rfl rfl
set_option maxRecDepth 100000 in
set_option maxHeartbeats 4000000 in
theorem lp_33_19 {sc : Nat × (Nat → Int32)} {d : Nat} {M : zM} {r : Option Value} {M' : zM} {n : Nat} {P T K : Nat → Nat} {q r0 rd bf : Nat} (hsg : sgC M n P T K) (hq : q < 4) : ∀ (j i v : Nat), i + j = n → v < 2 ^ 8 → zK 47 sc (zC 47 sc (d + 3)) 33 r M' 62 [.ref 1, .int (nI q), .int (nI r0), .int (nI (zfor (gpF P T q) j i v)), .int (nI rd), .int (nI bf), .int (nI n)] [] (M) → zK 47 sc (zC 47 sc (d + 3)) 33 r M' 19 [.ref 1, .int (nI q), .int (nI r0), .int (nI v), .int (nI rd), .int (nI bf), .int (nI i)] [] (M) := by
  intro j
  induction j with
  | zero =>
    intro i v  hj hv hk
    obtain rfl : i = n := by omega
    obtain ⟨hn6, hn, hR, hS⟩ := hsg
    refine zK.blk rfl ?_
    refine p_iload_6 ?_
    refine p_aloadn_0 ?_
    refine p_geti rfl rfl (hn) ?_
    refine p_icmpN_ge (tgt := 62) (by decide) (by omega) (by omega) (fun hc25 => ?_) (fun hc25 => ?_)
    · skip
      exact hk
    · skip
      exact absurd hc25 (by omega) --STOP
  | succ j ih =>
    intro i v  hj hv hk
    obtain ⟨hn6, hn, hR, hS⟩ := hsg
    have hP := hR i (by omega)
    have hw := zwide_lt (P i) hP.1 (T i) hP.2.1
    refine zK.blk rfl ?_
    refine p_iload_6 ?_
    refine p_aloadn_0 ?_
    refine p_geti rfl rfl (hn) ?_
    refine p_icmpN_ge (tgt := 62) (by decide) (by omega) (by omega) (fun hc25 => ?_) (fun hc25 => ?_)
    · skip
      exact absurd hc25 (by omega) --STOP
    · skip
      refine p_iloadn_3 ?_
      refine p_aloadn_0 ?_
      refine p_getr rfl rfl ?_
      refine p_iload_6 ?_
      refine p_aald rfl (by omega) (by decide) (zget_sg (by omega)) ?_
      refine p_geti (zlay_sg (by omega)) rfl ((hS _ (by omega)).1) ?_
      refine p_aloadn_0 ?_
      refine p_getr rfl rfl ?_
      refine p_iload_6 ?_
      refine p_aald rfl (by omega) (by decide) (zget_sg (by omega)) ?_
      refine p_geti (zlay_sg (by omega)) rfl ((hS _ (by omega)).2.2.2.1) ?_
      refine p_iloadn_1 ?_
      refine p_iloadn_3 ?_
      refine p_cs4i rfl rfl rfl rfl rfl (c_8 hP.1 hq (by omega) (by omega)) ?_
      refine p_iorN ?_
      refine p_istoren_3 rfl ?_
      refine p_iinc_6 (zN_inc _ 1) rfl ?_
      refine p_goto (tgt := 19) (by decide) ?_
      exact ih _ _ (by omega) (Nat.or_lt_two_pow hv (trN_lt hq)) hk
set_option maxRecDepth 100000 in
set_option maxHeartbeats 4000000 in
theorem lp_33_5 {sc : Nat × (Nat → Int32)} {d : Nat} {M : zM} {r : Option Value} {M' : zM} {n : Nat} {P T K : Nat → Nat} {q r0 : Nat} (hsg : sgC M n P T K) (hq : q < 4) : ∀ (j i v : Nat), i + j = 1 <<< q → v < 2 ^ 8 → (∀ x, x ≤ 1 <<< q → zK 47 sc (zC 47 sc (d + 3)) 33 r M' 77 [.ref 1, .int (nI q), .int (nI r0), .int (nI (grN P T n q j v)), .int (nI x), .null, .null] [] M) → zK 47 sc (zC 47 sc (d + 3)) 33 r M' 5 [.ref 1, .int (nI q), .int (nI r0), .int (nI v), .int (nI i), .null, .null] [] M := by
  intro j
  induction j with
  | zero =>
    intro i v hj hv hk
    have hs := zsh_lt hq
    have hin : i = 1 <<< q := by omega
    subst hin
    refine zK.blk rfl ?_
    refine p_iload_4 ?_
    refine p_iconst (v := nI 1) (by decide) ?_
    refine p_iloadn_1 ?_
    refine p_ishlN (by omega) ?_
    refine p_icmpN_ge (tgt := 77) (by decide) (by omega) (by omega) (fun hc10 => ?_) (fun hc10 => ?_)
    · skip
      exact hk _ (Nat.le_refl _)
    · skip
      exact absurd hc10 (by omega) --STOP
  | succ j ih =>
    intro i v hj hv hk
    have hs := zsh_lt hq
    have hg := gpF_lt (P := P) (T := T) hq n 0 v hv
    refine zK.blk rfl ?_
    refine p_iload_4 ?_
    refine p_iconst (v := nI 1) (by decide) ?_
    refine p_iloadn_1 ?_
    refine p_ishlN (by omega) ?_
    refine p_icmpN_ge (tgt := 77) (by decide) (by omega) (by omega) (fun hc10 => ?_) (fun hc10 => ?_)
    · skip
      exact absurd hc10 (by omega) --STOP
    · skip
      refine p_iloadn_3 ?_
      refine p_istore_5 rfl ?_
      refine p_iconst (v := nI 0) (by decide) ?_
      refine p_istore_6 rfl ?_
      refine lp_33_19 hsg hq n 0 v (by omega) hv ?_
      refine zK.blk rfl ?_
      refine p_iloadn_3 ?_
      refine p_iload_5 ?_
      refine p_icmpN_ne (tgt := 71) (by decide) (by omega) (by omega) (fun hc65 => ?_) (fun hc65 => ?_)
      · skip
        have e : grN P T n q (j + 1) v = grN P T n q j (gpN P T n q v) := by show (if gpN P T n q v = v then v else _) = _; rw [if_neg (show ¬ gpN P T n q v = v from hc65)]
        rw [e] at hk
        refine zK.blk rfl ?_
        refine p_iinc_4 (zN_inc _ 1) rfl ?_
        refine p_goto (tgt := 5) (by decide) ?_
        refine zK.forget _ ?_ (ih (i + 1) (gpN P T n q v) (by omega) hg hk)
        exact ⟨Or.inl rfl, Or.inl rfl, Or.inl rfl, Or.inl rfl, Or.inl rfl, Or.inr rfl, Or.inr rfl, trivial⟩
      · skip
        have e0 : zfor (gpF P T q) n 0 v = v := by omega
        have e : grN P T n q (j + 1) v = v := by show (if gpN P T n q v = v then v else _) = _; rw [if_pos (show gpN P T n q v = v from e0)]
        rw [e] at hk
        rw [e0]
        refine p_goto (tgt := 77) (by decide) ?_
        refine zK.forget _ ?_ (hk i (by omega))
        exact ⟨Or.inl rfl, Or.inl rfl, Or.inl rfl, Or.inl rfl, Or.inl rfl, Or.inr rfl, Or.inr rfl, trivial⟩
set_option maxRecDepth 100000 in
set_option maxHeartbeats 4000000 in
theorem c_33 {sc : Nat × (Nat → Int32)} {d : Nat} {M : zM} {n : Nat} {P T K : Nat → Nat} {q rows : Nat} (hsg : sgC M n P T K) (hq : q < 4) (hro : rows < 2 ^ 8) : zC 47 sc (d + 4) 33 [.ref 1, .int (nI q), .int (nI rows)] M (some (.int (nI (grN P T n q (1 <<< q) rows)))) (M) := by
  refine z_enter (L := [.ref 1, .int (nI q), .int (nI rows), .null, .null, .null, .null]) rfl rfl rfl ?_
  refine zK.blk rfl ?_
  refine p_iloadn_2 ?_
  refine p_istoren_3 rfl ?_
  refine p_iconst (v := nI 0) (by decide) ?_
  refine p_istore_4 rfl ?_
  refine lp_33_5 hsg hq (1 <<< q) 0 rows (by omega) hro (fun x hx => ?_)
  refine zK.blk rfl ?_
  refine p_iloadn_3 ?_
  exact p_iret trivial rfl rfl
def zcnt (x : Int32) : Bool := decide (¬ x < nI 1) && decide (¬ nI 3 < x)
def zrl (x y : Int32) : Bool := zcnt x && zfits x y
def zfo (x : Int32) : Bool := decide (¬ x < 0) && decide (¬ nI 4 ≤ x)
set_option maxRecDepth 100000 in
set_option maxHeartbeats 4000000 in
theorem c_82 {sc : Nat × (Nat → Int32)} {d : Nat} {M : zM} {x : Int32} : zC 47 sc (d + 1) 82 [.int x] M (some (.int (zB (zcnt x)))) (M) := by
  refine z_enter (L := [.int x]) rfl rfl rfl ?_
  refine zK.blk rfl ?_
  refine p_iloadn_0 ?_
  refine p_iconst (v := nI 1) (by decide) ?_
  refine p_icmp_lt (tgt := 14) (by decide) (fun hc2 => ?_) (fun hc2 => ?_)
  · skip
    refine zK.blk rfl ?_
    refine p_iconst (v := nI 0) (by decide) ?_
    refine zK.blk rfl ?_
    exact p_iret (by first | exact Or.inl rfl | exact Or.inr rfl) (by (first | rw [zB_0] | rw [zB_1]); congr 3; unfold zcnt; simp_all) rfl
  · skip
    refine p_iloadn_0 ?_
    refine p_iconst (v := nI 3) (by decide) ?_
    refine p_icmp_gt (tgt := 14) (by decide) (fun hc7 => ?_) (fun hc7 => ?_)
    · skip
      refine zK.blk rfl ?_
      refine p_iconst (v := nI 0) (by decide) ?_
      refine zK.blk rfl ?_
      exact p_iret (by first | exact Or.inl rfl | exact Or.inr rfl) (by (first | rw [zB_0] | rw [zB_1]); congr 3; unfold zcnt; simp_all) rfl
    · skip
      refine p_iconst (v := nI 1) (by decide) ?_
      refine p_goto (tgt := 15) (by decide) ?_
      refine zK.blk rfl ?_
      exact p_iret (by first | exact Or.inl rfl | exact Or.inr rfl) (by (first | rw [zB_0] | rw [zB_1]); congr 3; unfold zcnt; simp_all) rfl
set_option maxRecDepth 100000 in
set_option maxHeartbeats 4000000 in
theorem c_84 {sc : Nat × (Nat → Int32)} {d : Nat} {M : zM} {x : Int32} : zC 47 sc (d + 1) 84 [.int x] M (some (.int (zB (zfo x)))) (M) := by
  refine z_enter (L := [.int x]) rfl rfl rfl ?_
  refine zK.blk rfl ?_
  refine p_iloadn_0 ?_
  refine p_if_lt (tgt := 13) (by decide) (fun hc1 => ?_) (fun hc1 => ?_)
  · skip
    refine zK.blk rfl ?_
    refine p_iconst (v := nI 0) (by decide) ?_
    refine zK.blk rfl ?_
    exact p_iret (by first | exact Or.inl rfl | exact Or.inr rfl) (by (first | rw [zB_0] | rw [zB_1]); congr 3; unfold zfo; simp_all) rfl
  · skip
    refine p_iloadn_0 ?_
    refine p_iconst (v := nI 4) (by decide) ?_
    refine p_icmp_ge (tgt := 13) (by decide) (fun hc6 => ?_) (fun hc6 => ?_)
    · skip
      refine zK.blk rfl ?_
      refine p_iconst (v := nI 0) (by decide) ?_
      refine zK.blk rfl ?_
      exact p_iret (by first | exact Or.inl rfl | exact Or.inr rfl) (by (first | rw [zB_0] | rw [zB_1]); congr 3; unfold zfo; simp_all) rfl
    · skip
      refine p_iconst (v := nI 1) (by decide) ?_
      refine p_goto (tgt := 14) (by decide) ?_
      refine zK.blk rfl ?_
      exact p_iret (by first | exact Or.inl rfl | exact Or.inr rfl) (by (first | rw [zB_0] | rw [zB_1]); congr 3; unfold zfo; simp_all) rfl
set_option maxRecDepth 100000 in
set_option maxHeartbeats 4000000 in
theorem c_83 {sc : Nat × (Nat → Int32)} {d : Nat} {M : zM} {x y : Int32} : zC 47 sc (d + 3) 83 [.int x, .int y] M (some (.int (zB (zrl x y)))) (M) := by
  refine z_enter (L := [.int x, .int y]) rfl rfl rfl ?_
  refine zK.blk rfl ?_
  refine p_iloadn_0 ?_
  refine p_cs1i rfl rfl rfl rfl rfl (c_82) ?_
  refine p_ifB_eq (tgt := 19) (by decide) (fun hc4 => ?_) (fun hc4 => ?_)
  · skip
    refine zK.blk rfl ?_
    refine p_iconst (v := nI 0) (by decide) ?_
    refine zK.blk rfl ?_
    exact p_iret (by first | exact Or.inl rfl | exact Or.inr rfl) (by (first | rw [zB_0] | rw [zB_1]); congr 3; unfold zrl; simp_all) rfl
  · skip
    refine p_iloadn_0 ?_
    refine p_iloadn_1 ?_
    refine p_cs2i rfl rfl rfl rfl rfl (c_0) ?_
    refine p_ifB_eq (tgt := 19) (by decide) (fun hc12 => ?_) (fun hc12 => ?_)
    · skip
      refine zK.blk rfl ?_
      refine p_iconst (v := nI 0) (by decide) ?_
      refine zK.blk rfl ?_
      exact p_iret (by first | exact Or.inl rfl | exact Or.inr rfl) (by (first | rw [zB_0] | rw [zB_1]); congr 3; unfold zrl; simp_all) rfl
    · skip
      refine p_iconst (v := nI 1) (by decide) ?_
      refine p_goto (tgt := 20) (by decide) ?_
      refine zK.blk rfl ?_
      exact p_iret (by first | exact Or.inl rfl | exact Or.inr rfl) (by (first | rw [zB_0] | rw [zB_1]); congr 3; unfold zrl; simp_all) rfl
end
section
/-! the class's toldRows and the reference's makes -/
theorem zor_congr {g g' : Nat → Nat} : ∀ (j i : Nat), (∀ x, i ≤ x → x < i + j → g x = g' x) → zor g j i = zor g' j i := by
  intro j
  induction j with
  | zero => intro i h; rfl
  | succ j ih =>
    intro i h
    show g i ||| zor g j (i + 1) = g' i ||| zor g' j (i + 1)
    rw [h i (Nat.le_refl _) (by omega), ih (i + 1) (fun x h1 h2 => h x (by omega) (by omega))]
theorem zor_0 {g : Nat → Nat} : ∀ (j i : Nat), (∀ x, i ≤ x → g x = 0) → zor g j i = 0 := by
  intro j
  induction j with
  | zero => intro i h; rfl
  | succ j ih =>
    intro i h
    show g i ||| zor g j (i + 1) = 0
    rw [h i (Nat.le_refl _), ih (i + 1) (fun x h1 => h x (by omega))]
    rfl
theorem zor_1 {g : Nat → Nat} {m : Nat} (hm : 1 ≤ m) (h : ∀ x, 1 ≤ x → g x = 0) : zor g m 0 = g 0 := by
  obtain ⟨k, rfl⟩ : ∃ k, m = k + 1 := ⟨m - 1, by omega⟩
  show g 0 ||| zor g k 1 = g 0
  rw [zor_0 k 1 h, Nat.or_zero]
theorem z1_shr {x : Nat} (h : 1 ≤ x) : ¬ 1 >>> x &&& 1 = 1 := by
  rw [Nat.shiftRight_eq_div_pow, Nat.div_eq_of_lt (Nat.one_lt_two_pow (by omega))]
  decide
theorem zbit_eq (x i : Nat) : (x >>> i &&& 1 = 1) ↔ x.testBit i = true := by
  rw [Nat.testBit, Nat.and_comm]
  have h := zb_lt x i
  rw [Nat.and_comm] at h
  generalize 1 &&& x >>> i = y at h ⊢
  rcases (show y = 0 ∨ y = 1 by omega) with rfl | rfl <;> simp
theorem zand1_bit (x i q : Nat) : ((x &&& 1) <<< i).testBit q = (decide (q = i) && decide (x &&& 1 = 1)) := by
  have h := zb_lt x 0
  rw [Nat.shiftRight_zero] at h
  generalize x &&& 1 = y at h ⊢
  rw [Nat.testBit_shiftLeft]
  rcases (show y = 0 ∨ y = 1 by omega) with rfl | rfl
  · simp
  · by_cases hq : q = i
    · subst hq; simp
    · by_cases hge : q ≥ i
      · have : Nat.testBit 1 (q - i) = false := by
          obtain ⟨k, hk⟩ : ∃ k, q - i = k + 1 := ⟨q - i - 1, by omega⟩
          rw [hk, Nat.testBit_succ]
          simp
        simp [hq, this]
      · simp [hq, hge]
def zrw (a b c j : Nat) : Nat := (a >>> j &&& 1) + 2 * (b >>> j &&& 1) + 4 * (c >>> j &&& 1)
theorem toF_bit (t a b c q : Nat) : ∀ (j i v : Nat), (zfor (toF t a b c) j i v).testBit q = (v.testBit q || (decide (i ≤ q) && decide (q < i + j) && t.testBit (zrw a b c q))) := by
  intro j
  induction j with
  | zero =>
    intro i v
    have : (decide (i ≤ q) && decide (q < i + 0)) = false := by
      by_cases h : i ≤ q
      · simp <;> omega
      · simp [h]
    rw [this]
    show v.testBit q = _
    simp
  | succ j ih =>
    intro i v
    show (zfor (toF t a b c) j (i + 1) (toF t a b c i v)).testBit q = _
    rw [ih (i + 1)]
    unfold toF
    rw [Nat.testBit_or, zand1_bit]
    by_cases hq : q = i
    · subst hq
      have e : decide (t >>> ((a >>> q &&& 1) + 2 * (b >>> q &&& 1) + 4 * (c >>> q &&& 1)) &&& 1 = 1) = t.testBit (zrw a b c q) := by
        have := zbit_eq t (zrw a b c q)
        unfold zrw at this ⊢
        by_cases hh : t.testBit ((a >>> q &&& 1) + 2 * (b >>> q &&& 1) + 4 * (c >>> q &&& 1)) = true
        · rw [hh, decide_eq_true (this.mpr hh)]
        · rw [decide_eq_false (fun z => hh (this.mp z))]; simpa using hh
      rw [e]
      have h1 : decide (q + 1 ≤ q) = false := decide_eq_false (by omega)
      have h2 : decide (q < q + (j + 1)) = true := decide_eq_true (by omega)
      rw [h1, h2]
      simp
    · have h0 : decide (q = i) = false := decide_eq_false hq
      have h1 : decide (i + 1 ≤ q) = decide (i ≤ q) := by rw [decide_eq_decide]; omega
      have h2 : decide (q < i + 1 + j) = decide (q < i + (j + 1)) := by rw [decide_eq_decide]; omega
      rw [h0, h1, h2]
      simp
theorem toN_bit (t m a b c q : Nat) : (toN t m a b c).testBit q = (decide (q < m) && t.testBit (zrw a b c q)) := by
  unfold toN
  rw [toF_bit]
  simp
theorem zFF_bit {q : Nat} (h : q < 32) : zFF.testBit q = true := by
  have : zFF = 2 ^ 32 - 1 := rfl
  rw [this, Nat.testBit_two_pow_sub_one]
  exact decide_eq_true h
theorem pkN_bit {x y z q : Nat} (h : q < 32) : (pkN x y z).testBit q = bif x.testBit q then y.testBit q else z.testBit q := by
  unfold pkN
  rw [Nat.testBit_or, Nat.testBit_and, Nat.testBit_and, Nat.testBit_xor, zFF_bit h]
  cases x.testBit q <;> cases y.testBit q <;> cases z.testBit q <;> rfl
theorem zmFF_bit {y q : Nat} (hy : y < 2) (h : q < 32) : (y * zFF).testBit q = decide (y = 1) := by
  rcases (show y = 0 ∨ y = 1 by omega) with rfl | rfl
  · simp
  · rw [Nat.one_mul, zFF_bit h]; rfl
theorem zbitd (x i : Nat) : decide (x >>> i &&& 1 = 1) = x.testBit i := by
  have := zbit_eq x i
  by_cases hh : x.testBit i = true
  · rw [hh, decide_eq_true (this.mpr hh)]
  · rw [decide_eq_false (fun z => hh (this.mp z))]; simpa using hh
theorem zbitv (x i : Nat) : x >>> i &&& 1 = bif x.testBit i then 1 else 0 := by
  have h := zb_lt x i
  have e := zbit_eq x i
  cases hb : x.testBit i with
  | true => exact e.mpr hb
  | false =>
    have : ¬ x >>> i &&& 1 = 1 := fun z => by rw [e.mp z] at hb; cases hb
    show _ = 0
    omega
theorem zttN_bit {t a b q : Nat} (h : q < 32) : (zttN t a b).testBit q = t.testBit ((a >>> q &&& 1) + 2 * (b >>> q &&& 1)) := by
  unfold zttN
  rw [pkN_bit h, pkN_bit h, pkN_bit h, zmFF_bit (zb_lt _ _) h, zmFF_bit (zb_lt _ _) h, zmFF_bit (zb_lt _ _) h, zmFF_bit (zb_lt _ _) h, zbitd, zbitd, zbitd, zbitd, zbitv a q, zbitv b q]
  cases a.testBit q <;> cases b.testBit q <;> rfl
theorem tl_bit {w a b c q : Nat} (h : q < 32) : (pkN c (zttN (w >>> 4) a b) (zttN w a b)).testBit q = w.testBit (zrw a b c q) := by
  rw [pkN_bit h, zttN_bit h, zttN_bit h, Nat.testBit_shiftRight]
  unfold zrw
  rw [zbitv c q]
  cases c.testBit q
  · rfl
  · show w.testBit (4 + _) = w.testBit (_ + 4 * 1)
    congr 1
    omega
theorem tl_to {w a b c m : Nat} (hm : m < 32) : pkN c (zttN (w >>> 4) a b) (zttN w a b) &&& (1 <<< m - 1) = toN w m a b c := by
  apply Nat.eq_of_testBit_eq
  intro q
  rw [Nat.testBit_and, toN_bit, Nat.one_shiftLeft, Nat.testBit_two_pow_sub_one, Bool.and_comm]
  by_cases h : q < m
  · rw [tl_bit (by omega)]
  · simp [h]
theorem zwd_bit : ∀ p, p < 4 → ∀ t, t < z22 p → ∀ i, i < 1 <<< p → (t * zrep p).testBit i = t.testBit i := by decide +kernel
theorem to_wide {p t m a b c : Nat} (hp : p < 4) (ht : t < z22 p) (h0 : p < 1 → a = 0) (h1 : p < 2 → b = 0) (h2 : p < 3 → c = 0) : toN (t * zrep p) m a b c = toN t m a b c := by
  apply Nat.eq_of_testBit_eq
  intro q
  rw [toN_bit, toN_bit]
  congr 1
  refine zwd_bit p hp t ht _ ?_
  have e0 := zb_lt a q
  have e1 := zb_lt b q
  have e2 := zb_lt c q
  unfold zrw
  rcases (show p = 0 ∨ p = 1 ∨ p = 2 ∨ p = 3 by omega) with rfl | rfl | rfl | rfl
  · rw [h0 (by decide), h1 (by decide), h2 (by decide), Nat.zero_shiftRight]; decide
  · rw [h1 (by decide), h2 (by decide), Nat.zero_shiftRight]; show _ + 2 * 0 + 4 * 0 < 2; omega
  · rw [h2 (by decide), Nat.zero_shiftRight]; show _ + _ + 4 * 0 < 4; omega
  · show _ < 8; omega
theorem tr_mk {p t m rows : Nat} (hp : p < 4) (ht : t < z22 p) (hm : m < 4) : trN p (t * zrep p) m rows = mkN p t m rows := by
  have hs := zsh_lt hm
  have hl : 1 <<< m - 1 + 1 = 1 <<< m := by omega
  unfold trN trM mkN
  rw [hl]
  have G : ∀ a b c, (p < 1 → a = 0) → (p < 2 → b = 0) → (p < 3 → c = 0) → 1 <<< (pkN c (zttN ((t * zrep p) >>> 4) a b) (zttN (t * zrep p) a b) &&& (1 <<< m - 1)) = 1 <<< toN t m a b c := by
    intro a b c h0 h1 h2
    rw [tl_to (by omega), to_wide hp ht h0 h1 h2]
  have L3 : ∀ a b, (p < 1 → a = 0) → (p < 2 → b = 0) → prN (zttN ((t * zrep p) >>> 4) a b) (zttN (t * zrep p) a b) (1 <<< m - 1) (if 2 < p then rows else 1) = zor (fun c => if mkB p 3 rows c = true then 1 <<< toN t m a b c else 0) (if 2 < p then 1 <<< m else 1) 0 := by
    intro a b h0 h1
    unfold prN
    rw [hl]
    by_cases h : 2 < p
    · rw [if_pos h, if_pos h]
      refine zor_congr _ _ (fun c _ _ => ?_)
      unfold prG
      rw [G a b c h0 h1 (fun z => by omega)]
      by_cases hb : rows >>> c &&& 1 = 1
      · rw [if_pos hb, if_pos (mkB_t hb)]
      · rw [if_neg hb, if_neg (by rw [mkB_f (by omega) hb]; decide)]
    · rw [if_neg h, if_neg h, zor_1 (by omega) (fun c hc => by unfold prG; rw [if_neg (z1_shr hc)])]
      show _ = (if mkB p 3 rows 0 = true then 1 <<< toN t m a b 0 else 0) ||| 0
      rw [Nat.or_zero, if_pos (mkB_lt (by omega))]
      unfold prG
      rw [if_pos (by decide), G a b 0 h0 h1 (fun _ => rfl)]
  have L2 : ∀ a, (p < 1 → a = 0) → zor (trG1 (t * zrep p) (1 <<< m - 1) (if 1 < p then rows else 1) (if 2 < p then rows else 1) a) (1 <<< m) 0 = zor (fun b => zor (fun c => if (mkB p 2 rows b && mkB p 3 rows c) = true then 1 <<< toN t m a b c else 0) (if 2 < p then 1 <<< m else 1) 0) (if 1 < p then 1 <<< m else 1) 0 := by
    intro a h0
    by_cases h : 1 < p
    · rw [if_pos h, if_pos h]
      refine zor_congr _ _ (fun b _ _ => ?_)
      unfold trG1
      by_cases hb : rows >>> b &&& 1 = 1
      · rw [if_pos hb, L3 a b h0 (fun z => by omega)]
        refine zor_congr _ _ (fun c _ _ => ?_)
        rw [mkB_t hb, Bool.true_and]
      · rw [if_neg hb]
        refine (zor_0 _ _ (fun c _ => ?_)).symm
        rw [mkB_f (by omega) hb, Bool.false_and, if_neg (by decide)]
    · rw [if_neg h, if_neg h, zor_1 (by omega) (fun b hb => by unfold trG1; rw [if_neg (z1_shr hb)])]
      show _ = zor _ _ 0 ||| 0
      rw [Nat.or_zero]
      unfold trG1
      rw [if_pos (by decide), L3 a 0 h0 (fun _ => rfl)]
      refine zor_congr _ _ (fun c _ _ => ?_)
      rw [mkB_lt (show p < 2 by omega), Bool.true_and]
  by_cases h : 0 < p
  · rw [if_pos h, if_pos h]
    refine zor_congr _ _ (fun a _ _ => ?_)
    unfold trG mkN1 mkN2
    by_cases hb : rows >>> a &&& 1 = 1
    · rw [if_pos hb, hl, L2 a (fun z => by omega)]
      refine zor_congr _ _ (fun b _ _ => zor_congr _ _ (fun c _ _ => ?_))
      unfold mkG
      rw [mkB_t (n := p) (k := 1) hb, Bool.true_and]
    · rw [if_neg hb]
      refine (zor_0 _ _ (fun b _ => zor_0 _ _ (fun c _ => ?_))).symm
      unfold mkG
      rw [mkB_f (show ¬ p < 1 by omega) hb, Bool.false_and, Bool.false_and, if_neg (by decide)]
  · rw [if_neg h, if_neg h, zor_1 (by omega) (fun a ha => by unfold trG; rw [if_neg (z1_shr ha)])]
    show _ = mkN1 p t m rows 0 ||| 0
    rw [Nat.or_zero]
    unfold trG mkN1 mkN2
    rw [if_pos (by decide), hl, L2 0 (fun _ => rfl)]
    refine zor_congr _ _ (fun b _ _ => zor_congr _ _ (fun c _ _ => ?_))
    unfold mkG
    rw [mkB_lt (show p < 1 by omega), Bool.true_and]
end
section
theorem zup_id {M : zM} {k j : Nat} {x : Int32} (h : M k j = x) : zup M k j x = M := by
  funext a b
  unfold zup
  split
  · rename_i ha
    split
    · rename_i hb
      rw [ha, hb, h]
    · rfl
  · rfl
/-- the reference's signs -/
def sgM (M : zM) (n : Nat) (P T K : Nat → Nat) : Prop := M 33 0 = nI 0 ∧ M 33 1 = nI n ∧ n ≤ 6 ∧ (∀ i, i < n → P i < 4 ∧ T i < z22 (P i) ∧ 1 ≤ K i ∧ K i ≤ 9) ∧ ∀ i, i < n → M 34 i = nI (P i) ∧ M 35 i = nI (T i) ∧ M 36 i = nI (K i)
theorem zpred_lt {n : Nat} {x : Int32} (hn : n < 2 ^ 31) : (nI n - nI 1 < x) ↔ nI n ≤ x := by
  rw [Int32.lt_iff_toInt_lt, Int32.le_iff_toInt_le, nI_toInt hn]
  rcases (show n = 0 ∨ 1 ≤ n by omega) with rfl | h
  · have : (nI 0 - nI 1).toInt = -1 := by decide
    rw [this]; omega
  · rw [zN_sub h, nI_toInt (by omega)]; omega
theorem zin_has {n : Nat} {x : Int32} (hn : n < 2 ^ 31) : zin x (nI 0) (nI n - nI 1) = zhas n x := by
  unfold zin zhas
  have h := zpred_lt (x := x) hn
  rw [show nI 0 = 0 from rfl]
  congr 1
  rw [decide_eq_decide, h]
theorem zin_N {n : Nat} {x : Int32} (h : 1 ≤ n) : zin x (nI 0) (nI (n - 1)) = zin x (nI 0) (nI n - nI 1) := by rw [zN_sub h]
theorem z1n_lt {n : Nat} (h : n ≤ 6) : 1 ≤ 1 <<< n ∧ 1 <<< n ≤ 64 := by
  rcases (show n = 0 ∨ n = 1 ∨ n = 2 ∨ n = 3 ∨ n = 4 ∨ n = 5 ∨ n = 6 by omega) with rfl | rfl | rfl | rfl | rfl | rfl | rfl <;> decide
def h3F (P : Nat → Nat) (i v : Nat) : Nat := if P i = 3 then v ||| 1 else v ||| 0
theorem h3_o3 (P : Nat → Nat) : ∀ j i v w, v < 2 → (v = 0 ↔ w = 0) → zfor (h3F P) j i v < 2 ∧ (zfor (h3F P) j i v = 0 ↔ zfor (o3F P) j i w = 0) := by
  intro j
  induction j with
  | zero => intro i v w h1 h2; exact ⟨h1, h2⟩
  | succ j ih =>
    intro i v w h1 h2
    refine ih (i + 1) (h3F P i v) (o3F P i w) ?_ ?_
    · unfold h3F; split
      · rcases (show v = 0 ∨ v = 1 by omega) with rfl | rfl <;> decide
      · rw [Nat.or_zero]; exact h1
    · unfold h3F o3F; split
      · rcases (show v = 0 ∨ v = 1 by omega) with rfl | rfl <;> simp
      · rw [Nat.or_zero]; exact h2
set_option maxRecDepth 100000 in
set_option maxHeartbeats 4000000 in
theorem lp_97_4 {sc : Nat × (Nat → Int32)} {d : Nat} {M : zM} {r : Option Value} {M' : zM} {n : Nat} {P T K : Nat → Nat} (hsm : sgM M n P T K) : ∀ (j i v : Nat), i + j = n → zK 47 sc (zC 47 sc (d + 0)) 97 r M' 36 [.ref 33, .int (nI (zfor (h3F P) j i v)), .int (nI n)] [] (M) → zK 47 sc (zC 47 sc (d + 0)) 97 r M' 4 [.ref 33, .int (nI v), .int (nI i)] [] (M) := by
  intro j
  induction j with
  | zero =>
    intro i v  hj hk
    obtain rfl : i = n := by omega
    obtain ⟨hth, hm, hn6, hR, hT⟩ := hsm
    refine zK.blk rfl ?_
    refine p_iloadn_2 ?_
    refine p_aloadn_0 ?_
    refine p_geti rfl rfl (hm) ?_
    refine p_icmpN_ge (tgt := 36) (by decide) (by omega) (by omega) (fun hc9 => ?_) (fun hc9 => ?_)
    · skip
      exact hk
    · skip
      exact absurd hc9 (by omega) --STOP
  | succ j ih =>
    intro i v  hj hk
    obtain ⟨hth, hm, hn6, hR, hT⟩ := hsm
    have hP := hR i (by omega)
    refine zK.blk rfl ?_
    refine p_iloadn_2 ?_
    refine p_aloadn_0 ?_
    refine p_geti rfl rfl (hm) ?_
    refine p_icmpN_ge (tgt := 36) (by decide) (by omega) (by omega) (fun hc9 => ?_) (fun hc9 => ?_)
    · skip
      exact absurd hc9 (by omega) --STOP
    · skip
      refine p_iloadn_1 ?_
      refine p_aloadn_0 ?_
      refine p_getr rfl rfl ?_
      refine p_iloadn_2 ?_
      refine p_iald rfl (by omega) (by decide) ((hT _ (by omega)).1) ?_
      refine p_iconst (v := nI 3) (by decide) ?_
      refine p_icmpN_ne (tgt := 27) (by decide) (by omega) (by omega) (fun hc20 => ?_) (fun hc20 => ?_)
      · skip
        rw [zfor_step (f := h3F P) (a' := v ||| 0) (by unfold h3F; rw [if_neg hc20])] at hk
        refine zK.blk rfl ?_
        refine p_iconst (v := nI 0) (by decide) ?_
        refine zK.blk rfl ?_
        refine p_iorN ?_
        refine p_istoren_1 rfl ?_
        refine p_iinc_2 (zN_inc _ 1) rfl ?_
        refine p_goto (tgt := 4) (by decide) ?_
        exact ih _ _ (by omega) hk
      · skip
        rw [zfor_step (f := h3F P) (a' := v ||| 1) (by unfold h3F; rw [if_pos (by omega)])] at hk
        refine p_iconst (v := nI 1) (by decide) ?_
        refine p_goto (tgt := 28) (by decide) ?_
        refine zK.blk rfl ?_
        refine p_iorN ?_
        refine p_istoren_1 rfl ?_
        refine p_iinc_2 (zN_inc _ 1) rfl ?_
        refine p_goto (tgt := 4) (by decide) ?_
        exact ih _ _ (by omega) hk
set_option maxRecDepth 100000 in
set_option maxHeartbeats 4000000 in
theorem c_97 {sc : Nat × (Nat → Int32)} {d : Nat} {M : zM} {n : Nat} {P T K : Nat → Nat} (hsm : sgM M n P T K) : zC 47 sc (d + 1) 97 [.ref 33] M (some (.int (zB (decide (¬ o3N P n = 0))))) (M) := by
  have h3 := h3_o3 P n 0 0 0 (by decide) Iff.rfl
  refine z_enter (L := [.ref 33, .null, .null]) rfl rfl rfl ?_
  refine zK.blk rfl ?_
  refine p_iconst (v := nI 0) (by decide) ?_
  refine p_istoren_1 rfl ?_
  refine p_iconst (v := nI 0) (by decide) ?_
  refine p_istoren_2 rfl ?_
  refine lp_97_4 hsm n 0 0 (by omega) ?_
  refine zK.blk rfl ?_
  refine p_iloadn_1 ?_
  generalize zfor (h3F P) n 0 0 = y at h3 ⊢
  have h4 : (y = 0 ↔ o3N P n = 0) := h3.2
  rcases (show y = 0 ∨ y = 1 by omega) with rfl | rfl
  · exact p_iret (Or.inl rfl) (by rw [decide_eq_false (by omega)]; rfl) rfl
  · exact p_iret (Or.inr rfl) (by rw [decide_eq_true (by omega)]; rfl) rfl
set_option maxRecDepth 100000 in
set_option maxHeartbeats 4000000 in
theorem c_108 {sc : Nat × (Nat → Int32)} {d : Nat} {M : zM} {n : Nat} {P T K : Nat → Nat} {x : Int32} (hsm : sgM M n P T K) : zC 47 sc (d + 2) 108 [.ref 33, .int x] M (some (.int (zB (zhas (1 <<< n) x)))) (M) := by
  obtain ⟨hth, hm, hn6, hR, hT⟩ := hsm
  have hz := z1n_lt hn6
  rw [← zin_has (by omega), ← zin_N (by omega)]
  refine z_enter (L := [.ref 33, .int x]) rfl rfl rfl ?_
  refine zK.blk rfl ?_
  refine p_iloadn_1 ?_
  refine p_iconst (v := nI 0) (by decide) ?_
  refine p_iconst (v := nI 1) (by decide) ?_
  refine p_aloadn_0 ?_
  refine p_geti rfl rfl (hm) ?_
  refine p_ishlN (by omega) ?_
  refine p_iconst (v := nI 1) (by decide) ?_
  refine p_isubN (by omega) ?_
  refine p_cs3i rfl rfl rfl rfl rfl (c_89) ?_
  exact p_iret (zB_or _) rfl rfl
set_option maxRecDepth 100000 in
set_option maxHeartbeats 4000000 in
theorem lp_109_5 {sc : Nat × (Nat → Int32)} {d : Nat} {M : zM} {r : Option Value} {M' : zM} {n : Nat} {P T K : Nat → Nat} {s : Nat} (hsm : sgM M n P T K) (hs : s < 2 ^ 31) : ∀ (j i v : Nat), i + j = n → v < 32 → zK 47 sc (zC 47 sc (d + 1)) 109 r M' 51 [.ref 33, .int (nI s), .int (nI (zfor (kaF P T s) j i v)), .int (nI n)] [] (M) → zK 47 sc (zC 47 sc (d + 1)) 109 r M' 5 [.ref 33, .int (nI s), .int (nI v), .int (nI i)] [] (M) := by
  intro j
  induction j with
  | zero =>
    intro i v  hj hv hk
    obtain rfl : i = n := by omega
    obtain ⟨hth, hm, hn6, hR, hT⟩ := hsm
    refine zK.blk rfl ?_
    refine p_iloadn_3 ?_
    refine p_aloadn_0 ?_
    refine p_geti rfl rfl (hm) ?_
    refine p_icmpN_ge (tgt := 51) (by decide) (by omega) (by omega) (fun hc10 => ?_) (fun hc10 => ?_)
    · skip
      exact hk
    · skip
      exact absurd hc10 (by omega) --STOP
  | succ j ih =>
    intro i v  hj hv hk
    have hsm2 := hsm
    obtain ⟨hth, hm, hn6, hR, hT⟩ := hsm
    have hb := zb_lt s i
    have hP := hR i (by omega)
    have hkk := kb_km (P i) hP.1 (T i) hP.2.1
    have h31 : v &&& 31 = v := by rw [show (31 : Nat) = 2 ^ 5 - 1 from rfl, Nat.and_two_pow_sub_one_eq_mod]; exact Nat.mod_eq_of_lt hv
    refine zK.blk rfl ?_
    refine p_iloadn_3 ?_
    refine p_aloadn_0 ?_
    refine p_geti rfl rfl (hm) ?_
    refine p_icmpN_ge (tgt := 51) (by decide) (by omega) (by omega) (fun hc10 => ?_) (fun hc10 => ?_)
    · skip
      exact absurd hc10 (by omega) --STOP
    · skip
      refine p_iloadn_2 ?_
      refine p_iloadn_1 ?_
      refine p_iloadn_3 ?_
      refine p_ishrN (by omega) (by omega) ?_
      refine p_iconst (v := nI 1) (by decide) ?_
      refine p_iandN ?_
      refine p_iconst (v := nI 1) (by decide) ?_
      refine p_icmpN_ne (tgt := 41) (by decide) (by omega) (by omega) (fun hc20 => ?_) (fun hc20 => ?_)
      · skip
        rw [zfor_step (f := kaF P T s) (a' := v &&& 31) (by unfold kaF; rw [if_neg hc20, h31])] at hk
        refine zK.blk rfl ?_
        refine p_bipush (v := nI 31) (by decide) ?_
        refine zK.blk rfl ?_
        refine p_iandN ?_
        refine p_istoren_2 rfl ?_
        refine p_iinc_3 (zN_inc _ 1) rfl ?_
        refine p_goto (tgt := 5) (by decide) ?_
        exact ih _ _ (by omega) (zand_lt hv) hk
      · skip
        rw [zfor_step (f := kaF P T s) (a' := v &&& kmN (P i) (T i)) (by unfold kaF; rw [if_pos (by omega), hkk.1])] at hk
        refine p_aloadn_0 ?_
        refine p_getr rfl rfl ?_
        refine p_iloadn_3 ?_
        refine p_iald rfl (by omega) (by decide) ((hT _ (by omega)).1) ?_
        refine p_aloadn_0 ?_
        refine p_getr rfl rfl ?_
        refine p_iloadn_3 ?_
        refine p_iald rfl (by omega) (by decide) ((hT _ (by omega)).2.1) ?_
        refine p_cs2i rfl rfl rfl rfl rfl (c_94 hP.1 hP.2.1) ?_
        refine p_goto (tgt := 43) (by decide) ?_
        refine zK.blk rfl ?_
        refine p_iandN ?_
        refine p_istoren_2 rfl ?_
        refine p_iinc_3 (zN_inc _ 1) rfl ?_
        refine p_goto (tgt := 5) (by decide) ?_
        exact ih _ _ (by omega) (zand_lt hv) hk
set_option maxRecDepth 100000 in
set_option maxHeartbeats 4000000 in
theorem c_109 {sc : Nat × (Nat → Int32)} {d : Nat} {M : zM} {n : Nat} {P T K : Nat → Nat} {s : Nat} (hsm : sgM M n P T K) (hs : s < 2 ^ 31) : zC 47 sc (d + 2) 109 [.ref 33, .int (nI s)] M (some (.int (nI (kaN P T n s)))) (M) := by
  refine z_enter (L := [.ref 33, .int (nI s), .null, .null]) rfl rfl rfl ?_
  refine zK.blk rfl ?_
  refine p_bipush (v := nI 31) (by decide) ?_
  refine p_istoren_2 rfl ?_
  refine p_iconst (v := nI 0) (by decide) ?_
  refine p_istoren_3 rfl ?_
  refine lp_109_5 hsm hs n 0 31 (by omega) (by decide) ?_
  refine zK.blk rfl ?_
  refine p_iloadn_2 ?_
  exact p_iret trivial rfl rfl
theorem zax : ∀ s, s < 64 → ∀ i, i < 6 → s >>> i &&& 1 = 1 → s &&& (1 <<< i ^^^ zFF) = s ^^^ 1 <<< i := by decide +kernel
set_option maxRecDepth 100000 in
set_option maxHeartbeats 4000000 in
theorem lp_112_16 {sc : Nat × (Nat → Int32)} {d : Nat} {M : zM} {r : Option Value} {M' : zM} {n : Nat} {P T K : Nat → Nat} {s : Nat} (hsm : sgM M n P T K) (hs : s < 64) : ∀ (j i : Nat), i + j = n → (∀ x, zK 47 sc (zC 47 sc (d + 2)) 112 r M' 62 [.ref 33, .int (nI s), .int (nI (if zall (lsF P T n s) j i = true then 1 else 0)), .int (nI x)] [] M) → zK 47 sc (zC 47 sc (d + 2)) 112 r M' 16 [.ref 33, .int (nI s), .int (nI 1), .int (nI i)] [] M := by
  intro j
  induction j with
  | zero =>
    intro i hj hk
    obtain ⟨hth, hm, hn6, hR, hT⟩ := hsm
    have hin : i = n := by omega
    subst hin
    refine zK.blk rfl ?_
    refine p_iloadn_3 ?_
    refine p_aloadn_0 ?_
    refine p_geti rfl rfl (hm) ?_
    refine p_icmpN_ge (tgt := 62) (by decide) (by omega) (by omega) (fun hc21 => ?_) (fun hc21 => ?_)
    · skip
      exact hk _
    · skip
      exact absurd hc21 (by omega) --STOP
  | succ j ih =>
    intro i hj hk
    have hsm2 := hsm
    obtain ⟨hth, hm, hn6, hR, hT⟩ := hsm
    have hb := zb_lt s i
    have hka := kaN_lt P T n (s &&& (1 <<< i ^^^ zFF))
    refine zK.blk rfl ?_
    refine p_iloadn_3 ?_
    refine p_aloadn_0 ?_
    refine p_geti rfl rfl (hm) ?_
    refine p_icmpN_ge (tgt := 62) (by decide) (by omega) (by omega) (fun hc21 => ?_) (fun hc21 => ?_)
    · skip
      exact absurd hc21 (by omega) --STOP
    · skip
      refine p_iloadn_2 ?_
      refine p_ifN_eq (tgt := 62) (by decide) (by omega) (fun hc25 => ?_) (fun hc25 => ?_)
      · skip
        exact absurd hc25 (by decide) --STOP
      · skip
        refine p_iloadn_1 ?_
        refine p_iloadn_3 ?_
        refine p_ishrN (by omega) (by omega) ?_
        refine p_iconst (v := nI 1) (by decide) ?_
        refine p_iandN ?_
        refine p_ifN_eq (tgt := 50) (by decide) (by omega) (fun hc33 => ?_) (fun hc33 => ?_)
        · skip
          have e : lsF P T n s i = true := by unfold lsF; rw [decide_eq_false (show ¬ s >>> i &&& 1 = 1 by omega)]; rfl
          rw [zall_t e] at hk
          refine zK.blk rfl ?_
          refine p_iconst (v := nI 1) (by decide) ?_
          refine p_goto (tgt := 55) (by decide) ?_
          refine zK.blk rfl ?_
          refine p_istoren_2 rfl ?_
          refine p_iinc_3 (zN_inc _ 1) rfl ?_
          refine p_goto (tgt := 16) (by decide) ?_
          exact ih _ (by omega) hk
        · skip
          refine p_aloadn_0 ?_
          refine p_iloadn_1 ?_
          refine p_iconst (v := nI 1) (by decide) ?_
          refine p_iloadn_3 ?_
          refine p_ishlN (by omega) ?_
          refine p_iconst (v := nI zFF) (by decide) ?_
          refine p_ixorN ?_
          refine p_iandN ?_
          refine p_cv1i rfl rfl rfl rfl rfl (c_109 hsm2 (zand_lt (by omega))) ?_
          refine p_ifN_eq (tgt := 54) (by decide) (by omega) (fun hc47 => ?_) (fun hc47 => ?_)
          · skip
            have e : lsF P T n s i = false := by unfold lsF; rw [decide_eq_true (show s >>> i &&& 1 = 1 by omega), decide_eq_true (by rw [← zax s hs i (by omega) (by omega)]; exact hc47)]; rfl
            rw [zall_f e, if_neg (by decide)] at hk
            refine zK.blk rfl ?_
            refine p_iconst (v := nI 0) (by decide) ?_
            refine zK.blk rfl ?_
            refine p_istoren_2 rfl ?_
            refine p_iinc_3 (zN_inc _ 1) rfl ?_
            refine p_goto (tgt := 16) (by decide) ?_
            refine zK.blk rfl ?_
            refine p_iloadn_3 ?_
            refine p_aloadn_0 ?_
            refine p_geti rfl rfl hm ?_
            refine p_icmpN_ge (tgt := 62) (by decide) (by omega) (by omega) (fun _ => hk _) (fun _ => ?_)
            refine p_iloadn_2 ?_
            refine p_ifN_eq (tgt := 62) (by decide) (by decide) (fun _ => hk _) (fun z => absurd rfl z) --STOP
          · skip
            have e : lsF P T n s i = true := by unfold lsF; rw [decide_eq_false (show ¬ kaN P T n (s ^^^ 1 <<< i) = 0 by rw [← zax s hs i (by omega) (by omega)]; exact hc47), Bool.and_false]; rfl
            rw [zall_t e] at hk
            refine zK.blk rfl ?_
            refine p_iconst (v := nI 1) (by decide) ?_
            refine p_goto (tgt := 55) (by decide) ?_
            refine zK.blk rfl ?_
            refine p_istoren_2 rfl ?_
            refine p_iinc_3 (zN_inc _ 1) rfl ?_
            refine p_goto (tgt := 16) (by decide) ?_
            exact ih _ (by omega) hk
set_option maxRecDepth 100000 in
set_option maxHeartbeats 4000000 in
theorem c_112 {sc : Nat × (Nat → Int32)} {d : Nat} {M : zM} {n : Nat} {P T K : Nat → Nat} {s : Nat} (hsm : sgM M n P T K) (hs : s < 64) : zC 47 sc (d + 3) 112 [.ref 33, .int (nI s)] M (some (.int (zB (lsN P T n s)))) (M) := by
  have hka := kaN_lt P T n s
  refine z_enter (L := [.ref 33, .int (nI s), .null, .null]) rfl rfl rfl ?_
  refine zK.blk rfl ?_
  refine p_aloadn_0 ?_
  refine p_iloadn_1 ?_
  refine p_cv1i rfl rfl rfl rfl rfl (c_109 hsm (by omega)) ?_
  refine p_ifN_ne (tgt := 12) (by decide) (by omega) (fun hc5 => ?_) (fun hc5 => ?_)
  · skip
    refine zK.blk rfl ?_
    refine p_iconst (v := nI 0) (by decide) ?_
    refine zK.blk rfl ?_
    refine p_istoren_2 rfl ?_
    refine p_iconst (v := nI 0) (by decide) ?_
    refine p_istoren_3 rfl ?_
    refine zK.blk rfl ?_
    refine p_iloadn_3 ?_
    refine p_aloadn_0 ?_
    refine p_geti rfl rfl hsm.2.1 ?_
    have fin : ∀ x, zK 47 sc (zC 47 sc (d + 2)) 112 (some (.int (zB (lsN P T n s)))) M 62 [.ref 33, .int (nI s), .int (nI 0), .int (nI x)] [] M := by
      intro x
      refine zK.blk rfl ?_
      refine p_iloadn_2 ?_
      exact p_iret (Or.inl rfl) (by unfold lsN; rw [decide_eq_false hc5]; rfl) rfl
    refine p_icmpN_ge (tgt := 62) (by decide) (by decide) (by have := hsm.2.2.1; omega) (fun _ => fin _) (fun _ => ?_)
    refine p_iloadn_2 ?_
    refine p_ifN_eq (tgt := 62) (by decide) (by decide) (fun _ => fin _) (fun z => absurd rfl z)
    --STOP
  · skip
    refine p_iconst (v := nI 1) (by decide) ?_
    refine p_goto (tgt := 13) (by decide) ?_
    refine zK.blk rfl ?_
    refine p_istoren_2 rfl ?_
    refine p_iconst (v := nI 0) (by decide) ?_
    refine p_istoren_3 rfl ?_
    refine lp_112_16 hsm hs n 0 (by omega) (fun x => ?_)
    refine zK.blk rfl ?_
    refine p_iloadn_2 ?_
    have hd5 : decide (kaN P T n s = 0) = true := decide_eq_true (by omega)
    cases hz : zall (lsF P T n s) n 0 with
    | true => exact p_iret (by rw [if_pos rfl]; exact Or.inr rfl) (by unfold lsN; rw [hd5, hz]; rfl) rfl
    | false => exact p_iret (by rw [if_neg (by decide)]; exact Or.inl rfl) (by unfold lsN; rw [hd5, hz]; rfl) rfl
    --STOP
set_option maxRecDepth 100000 in
set_option maxHeartbeats 4000000 in
theorem c_115 {sc : Nat × (Nat → Int32)} {d : Nat} {M : zM} {x y : Int32} : zC 47 sc (d + 2) 115 [.int x, .int y] M (some (.int (zB (zrl x y)))) (M) := by
  refine z_enter (L := [.int x, .int y]) rfl rfl rfl ?_
  refine zK.blk rfl ?_
  refine p_iloadn_0 ?_
  refine p_iconst (v := nI 1) (by decide) ?_
  refine p_iconst (v := nI 3) (by decide) ?_
  refine p_cs3i rfl rfl rfl rfl rfl (c_89) ?_
  refine p_ifB_eq (tgt := 27) (by decide) (fun hc6 => ?_) (fun hc6 => ?_)
  · skip
    refine zK.blk rfl ?_
    refine p_iconst (v := nI 0) (by decide) ?_
    refine zK.blk rfl ?_
    exact p_iret (by first | exact Or.inl rfl | exact Or.inr rfl) (by first | (rw [show zrl x y = false by (unfold zrl; rw [show zcnt x = false from hc6]; rfl)]; rfl) | (have e1 : zcnt (nI p) = true := hc6; have e2 : zfits (nI p) y = zin y (nI 0) (nI (z22 p - 1)) := (by unfold zfits zin; rw [nI_clamp (by omega), decide_eq_true (nI_pos (by omega)), decide_eq_true (show ¬ nI 3 < nI p from nI_nlt (by omega) (by decide))]; rfl); unfold zrl; rw [e1, e2, hc20]; rfl)) rfl
  · skip
    have hc6' := hc6
    unfold zin at hc6'
    simp only [Bool.and_eq_true, decide_eq_true_eq] at hc6'
    obtain ⟨p, hp, rfl⟩ := nI_of2 (M := nI 3) (n := 3) (by decide) (x := x) (fun z => hc6'.1 (Int32.lt_trans z (by decide))) (Int32.not_lt.mp hc6'.2)
    have hz := z22_lt (show p < 4 by omega)
    refine p_iloadn_1 ?_
    refine p_iconst (v := nI 0) (by decide) ?_
    refine p_iloadn_0 ?_
    refine p_cs1i rfl rfl rfl rfl rfl (c_91 (p := p) (by omega)) ?_
    refine p_iconst (v := nI 1) (by decide) ?_
    refine p_isubN (by omega) ?_
    refine p_cs3i rfl rfl rfl rfl rfl (c_89) ?_
    refine p_ifB_eq (tgt := 27) (by decide) (fun hc20 => ?_) (fun hc20 => ?_)
    · skip
      refine zK.blk rfl ?_
      refine p_iconst (v := nI 0) (by decide) ?_
      refine zK.blk rfl ?_
      exact p_iret (by first | exact Or.inl rfl | exact Or.inr rfl) (by first | (rw [show zrl x y = false by (unfold zrl; rw [show zcnt x = false from hc6]; rfl)]; rfl) | (have e1 : zcnt (nI p) = true := hc6; have e2 : zfits (nI p) y = zin y (nI 0) (nI (z22 p - 1)) := (by unfold zfits zin; rw [nI_clamp (by omega), decide_eq_true (nI_pos (by omega)), decide_eq_true (show ¬ nI 3 < nI p from nI_nlt (by omega) (by decide))]; rfl); unfold zrl; rw [e1, e2, hc20]; rfl)) rfl
    · skip
      refine p_iconst (v := nI 1) (by decide) ?_
      refine p_goto (tgt := 28) (by decide) ?_
      refine zK.blk rfl ?_
      exact p_iret (by first | exact Or.inl rfl | exact Or.inr rfl) (by first | (rw [show zrl x y = false by (unfold zrl; rw [show zcnt x = false from hc6]; rfl)]; rfl) | (have e1 : zcnt (nI p) = true := hc6; have e2 : zfits (nI p) y = zin y (nI 0) (nI (z22 p - 1)) := (by unfold zfits zin; rw [nI_clamp (by omega), decide_eq_true (nI_pos (by omega)), decide_eq_true (show ¬ nI 3 < nI p from nI_nlt (by omega) (by decide))]; rfl); unfold zrl; rw [e1, e2, hc20]; rfl)) rfl
theorem mkN_lt {p t m rows : Nat} (hm : m < 4) : mkN p t m rows < 2 ^ 8 := by
  have h8 : 2 ^ m ≤ 8 := by rcases (show m = 0 ∨ m = 1 ∨ m = 2 ∨ m = 3 by omega) with rfl | rfl | rfl | rfl <;> decide
  unfold mkN
  refine zor_lt (fun a => ?_) _ _
  unfold mkN1
  refine zor_lt (fun b => ?_) _ _
  unfold mkN2
  refine zor_lt (fun c => ?_) _ _
  unfold mkG
  split
  · exact z1_lt (by have := toN_lt t m a b c; omega)
  · decide
def leF (P T : Nat → Nat) (q rows i v : Nat) : Nat := if apF P T q rows i = true then v ||| 1 <<< i else v ||| 0
def leN (P T : Nat → Nat) (n q rows : Nat) : Nat := zfor (leF P T q rows) n 0 0
set_option maxRecDepth 100000 in
set_option maxHeartbeats 4000000 in
theorem c_118 {sc : Nat × (Nat → Int32)} {d : Nat} {M : zM} {n : Nat} {P T K : Nat → Nat} {i q rows : Nat} (hsm : sgM M n P T K) (hi : i < n) (hq : q < 4) (hro : rows < 2 ^ 31) : zC 47 sc (d + 3) 118 [.ref 33, .int (nI i), .int (nI q), .int (nI rows)] M (some (.int (zB (apF P T q rows i)))) (M) := by
  obtain ⟨hth, hm, hn6, hR, hT⟩ := hsm
  have hP := hR i hi
  have ht := mkN_lt (p := P i) (t := T i) (rows := rows) hq
  have ha : mkN (P i) (T i) q rows &&& (rows ^^^ zFF) < 2 ^ 31 := zand_lt (by omega)
  have hz := z22_lt hP.1
  unfold apF ltB
  rw [tr_mk hP.1 hP.2.1 hq]
  refine z_enter (L := [.ref 33, .int (nI i), .int (nI q), .int (nI rows)]) rfl rfl rfl ?_
  refine zK.blk rfl ?_
  refine p_aloadn_0 ?_
  refine p_getr rfl rfl ?_
  refine p_iloadn_1 ?_
  refine p_iald rfl (by omega) (by decide) ((hT _ (by omega)).1) ?_
  refine p_aloadn_0 ?_
  refine p_getr rfl rfl ?_
  refine p_iloadn_1 ?_
  refine p_iald rfl (by omega) (by decide) ((hT _ (by omega)).2.1) ?_
  refine p_iloadn_2 ?_
  refine p_iloadn_3 ?_
  refine p_cs4i rfl rfl rfl rfl rfl (c_117 hP.1 (by omega) hq hro) ?_
  refine p_iloadn_3 ?_
  refine p_iconst (v := nI zFF) (by decide) ?_
  refine p_ixorN ?_
  refine p_iandN ?_
  refine p_ifN_ne (tgt := 28) (by decide) (by omega) (fun hc21 => ?_) (fun hc21 => ?_)
  · skip
    refine zK.blk rfl ?_
    refine p_iconst (v := nI 0) (by decide) ?_
    refine zK.blk rfl ?_
    exact p_iret (by first | exact Or.inl rfl | exact Or.inr rfl) (by first | rw [decide_eq_true (by omega)]; rfl | rw [decide_eq_false (by omega)]; rfl) rfl
  · skip
    refine p_iconst (v := nI 1) (by decide) ?_
    refine p_goto (tgt := 29) (by decide) ?_
    refine zK.blk rfl ?_
    exact p_iret (by first | exact Or.inl rfl | exact Or.inr rfl) (by first | rw [decide_eq_true (by omega)]; rfl | rw [decide_eq_false (by omega)]; rfl) rfl
set_option maxRecDepth 100000 in
set_option maxHeartbeats 4000000 in
theorem lp_120_5 {sc : Nat × (Nat → Int32)} {d : Nat} {M : zM} {r : Option Value} {M' : zM} {n : Nat} {P T K : Nat → Nat} {q rows : Nat} (hsm : sgM M n P T K) (hq : q < 4) (hro : rows < 2 ^ 31) : ∀ (j i v : Nat), i + j = n → zK 47 sc (zC 47 sc (d + 3)) 120 r M' 42 [.ref 33, .int (nI q), .int (nI rows), .int (nI (zfor (leF P T q rows) j i v)), .int (nI n)] [] (M) → zK 47 sc (zC 47 sc (d + 3)) 120 r M' 5 [.ref 33, .int (nI q), .int (nI rows), .int (nI v), .int (nI i)] [] (M) := by
  intro j
  induction j with
  | zero =>
    intro i v  hj hk
    obtain rfl : i = n := by omega
    obtain ⟨hth, hm, hn6, hR, hT⟩ := hsm
    refine zK.blk rfl ?_
    refine p_iload_4 ?_
    refine p_aloadn_0 ?_
    refine p_geti rfl rfl (hm) ?_
    refine p_icmpN_ge (tgt := 42) (by decide) (by omega) (by omega) (fun hc11 => ?_) (fun hc11 => ?_)
    · skip
      exact hk
    · skip
      exact absurd hc11 (by omega) --STOP
  | succ j ih =>
    intro i v  hj hk
    have hsm2 := hsm
    obtain ⟨hth, hm, hn6, hR, hT⟩ := hsm
    refine zK.blk rfl ?_
    refine p_iload_4 ?_
    refine p_aloadn_0 ?_
    refine p_geti rfl rfl (hm) ?_
    refine p_icmpN_ge (tgt := 42) (by decide) (by omega) (by omega) (fun hc11 => ?_) (fun hc11 => ?_)
    · skip
      exact absurd hc11 (by omega) --STOP
    · skip
      refine p_iloadn_3 ?_
      refine p_aloadn_0 ?_
      refine p_iload_4 ?_
      refine p_iloadn_1 ?_
      refine p_iloadn_2 ?_
      refine p_cv3i rfl rfl rfl rfl rfl (c_118 hsm2 (by omega) hq hro) ?_
      refine p_ifB_eq (tgt := 33) (by decide) (fun hc23 => ?_) (fun hc23 => ?_)
      · skip
        rw [zfor_step (f := leF P T q rows) (a' := v ||| 0) (by unfold leF; rw [hc23, if_neg (by decide)])] at hk
        refine zK.blk rfl ?_
        refine p_iconst (v := nI 0) (by decide) ?_
        refine zK.blk rfl ?_
        refine p_iorN ?_
        refine p_istoren_3 rfl ?_
        refine p_iinc_4 (zN_inc _ 1) rfl ?_
        refine p_goto (tgt := 5) (by decide) ?_
        exact ih _ _ (by omega) hk
      · skip
        rw [zfor_step (f := leF P T q rows) (a' := v ||| 1 <<< i) (by unfold leF; rw [hc23, if_pos rfl])] at hk
        refine p_iconst (v := nI 1) (by decide) ?_
        refine p_iload_4 ?_
        refine p_ishlN (by omega) ?_
        refine p_goto (tgt := 34) (by decide) ?_
        refine zK.blk rfl ?_
        refine p_iorN ?_
        refine p_istoren_3 rfl ?_
        refine p_iinc_4 (zN_inc _ 1) rfl ?_
        refine p_goto (tgt := 5) (by decide) ?_
        exact ih _ _ (by omega) hk
set_option maxRecDepth 100000 in
set_option maxHeartbeats 4000000 in
theorem c_120 {sc : Nat × (Nat → Int32)} {d : Nat} {M : zM} {n : Nat} {P T K : Nat → Nat} {q rows : Nat} (hsm : sgM M n P T K) (hq : q < 4) (hro : rows < 2 ^ 31) : zC 47 sc (d + 4) 120 [.ref 33, .int (nI q), .int (nI rows)] M (some (.int (nI (leN P T n q rows)))) (M) := by
  refine z_enter (L := [.ref 33, .int (nI q), .int (nI rows), .null, .null]) rfl rfl rfl ?_
  refine zK.blk rfl ?_
  refine p_iconst (v := nI 0) (by decide) ?_
  refine p_istoren_3 rfl ?_
  refine p_iconst (v := nI 0) (by decide) ?_
  refine p_istore_4 rfl ?_
  refine lp_120_5 hsm hq hro n 0 0 (by omega) ?_
  refine zK.blk rfl ?_
  refine p_iloadn_3 ?_
  exact p_iret trivial rfl rfl
end
section
theorem zfits_x {x y : Int32} (h : zfits x y = true) : ∃ p t, p < 4 ∧ t < z22 p ∧ x = nI p ∧ y = nI t := by
  unfold zfits at h
  simp only [Bool.and_eq_true, decide_eq_true_eq] at h
  obtain ⟨⟨⟨h1, h2⟩, h3⟩, h4⟩ := h
  obtain ⟨p, hp, rfl⟩ := nI_of2 (M := nI 3) (n := 3) (by decide) h1 (Int32.not_lt.mp h2)
  have hz := z22_lt (show p < 4 by omega)
  rw [nI_clamp (by omega)] at h4
  obtain ⟨t, ht, rfl⟩ := nI_of2 (M := nI (z22 p - 1)) (n := z22 p - 1) (nI_toInt (by omega)) h3 (Int32.not_lt.mp h4)
  exact ⟨p, t, by omega, by omega, rfl, rfl⟩
theorem zhas_x {n : Nat} {x : Int32} (hn : n < 2 ^ 31) (h : zhas n x = true) : ∃ i, i < n ∧ x = nI i := by
  unfold zhas at h
  simp only [Bool.and_eq_true, decide_eq_true_eq] at h
  obtain ⟨j, hj, rfl⟩ := nI_of h.1
  exact ⟨j, by have h2 := h.2; rw [nI_leI hn hj] at h2; omega, rfl⟩
theorem zrl_x {x y : Int32} (h : zrl x y = true) : ∃ q t, 1 ≤ q ∧ q < 4 ∧ t < z22 q ∧ x = nI q ∧ y = nI t := by
  unfold zrl at h
  simp only [Bool.and_eq_true] at h
  obtain ⟨p, t, hp, ht, rfl, rfl⟩ := zfits_x h.2
  have h1 := h.1
  unfold zcnt at h1
  simp only [Bool.and_eq_true, decide_eq_true_eq] at h1
  exact ⟨p, t, by have h2 := h1.1; rw [nI_ltI (by omega) (by decide)] at h2; omega, hp, ht, rfl, rfl⟩
theorem zfits_zin {p : Nat} {y : Int32} (hp : p < 4) : zfits (nI p) y = zin y (nI 0) (nI (z22 p - 1)) := by
  unfold zfits zin
  rw [nI_clamp (by omega), decide_eq_true (nI_pos (by omega)), decide_eq_true (show ¬ nI 3 < nI p from nI_nlt (by omega) (by decide))]
  rfl
theorem zfits_no {x y : Int32} (h : zin x (nI 0) (nI 3) = false) : zfits x y = false := by
  unfold zin at h
  unfold zfits
  rw [show nI 0 = 0 from rfl] at h
  rw [h]; rfl
theorem zin_x {x : Int32} {n : Nat} (hn : n < 2 ^ 31) (h : zin x (nI 0) (nI n) = true) : ∃ p, p ≤ n ∧ x = nI p := by
  unfold zin at h
  simp only [Bool.and_eq_true, decide_eq_true_eq] at h
  obtain ⟨p, hp, rfl⟩ := nI_of2 (M := nI n) (n := n) (nI_toInt hn) h.1 (Int32.not_lt.mp h.2)
  exact ⟨p, hp, rfl⟩
def fKeeps (x y : Int32) : Int32 := if zfits x y = true then nI (kbN x.toNatClampNeg y.toNatClampNeg) else -1
def fLacks (P T : Nat → Nat) (n : Nat) (x : Int32) : Int32 := if zhas (1 <<< n) x = true then nI (kaN P T n x.toNatClampNeg) else -1
def fSays (P T : Nat → Nat) (n : Nat) (x : Int32) : Int32 := if zhas (1 <<< n) x = true then (if kaN P T n x.toNatClampNeg = 0 then nI 1 else nI 0) else -1
def fLets (P T : Nat → Nat) (n : Nat) (x y z : Int32) : Int32 := if zhas n x = true ∧ zrl y z = true then (if apF P T y.toNatClampNeg z.toNatClampNeg x.toNatClampNeg = true then nI 1 else nI 0) else -1
def fLetting (P T : Nat → Nat) (n : Nat) (y z : Int32) : Int32 := if zrl y z = true then nI (leN P T n y.toNatClampNeg z.toNatClampNeg) else -1
def zfind (f : Nat → Bool) (x : Int32) : Nat → Nat → Nat → Int32
  | 0, _, v => if x = -1 then nI v else -9
  | j + 1, i, v => if f i = true then (if nI v = x then nI i else zfind f x j (i + 1) (v + 1)) else zfind f x j (i + 1) v
def fSets (P T : Nat → Nat) (n : Nat) (x : Int32) : Int32 := if x < -1 then -1 else zfind (lsN P T n) x (1 <<< n) 0 0
def fAlone (x : Int32) : Int32 := if x < -1 then -1 else zfind (fun t => decide (kbN 2 t = 0)) x 16 0 0
set_option maxRecDepth 100000 in
set_option maxHeartbeats 4000000 in
theorem c_59 {sc : Nat × (Nat → Int32)} {d : Nat} {M : zM} {x y : Int32} : zC 47 sc (d + 4) 59 [.ref 0, .int x, .int y] M (some (.int (fKeeps x y))) (M) := by
  refine z_enter (L := [.ref 0, .int x, .int y]) rfl rfl rfl ?_
  refine zK.blk rfl ?_
  refine p_iloadn_1 ?_
  refine p_iloadn_2 ?_
  refine p_cs2i rfl rfl rfl rfl rfl (c_0) ?_
  refine p_ifB_eq (tgt := 16) (by decide) (fun hc5 => ?_) (fun hc5 => ?_)
  · skip
    unfold fKeeps
    rw [if_neg (by rw [hc5]; decide)]
    refine zK.blk rfl ?_
    refine p_iconst (v := -1) (by decide) ?_
    refine zK.blk rfl ?_
    exact p_iret trivial rfl rfl
  · skip
    unfold fKeeps
    rw [if_pos hc5]
    obtain ⟨p, t, hp, ht, rfl, rfl⟩ := zfits_x hc5
    have hz := z22_lt hp
    rw [nI_clamp (by omega), nI_clamp (by omega)]
    refine p_iloadn_1 ?_
    refine p_iloadn_2 ?_
    refine p_cs2i rfl rfl rfl rfl rfl (c_12 hp ht) ?_
    refine p_goto (tgt := 17) (by decide) ?_
    refine zK.blk rfl ?_
    exact p_iret trivial rfl rfl
set_option maxRecDepth 100000 in
set_option maxHeartbeats 4000000 in
theorem c_96 {sc : Nat × (Nat → Int32)} {d : Nat} {M : zM} {x y : Int32} {n : Nat} {P T K : Nat → Nat} (hsm : sgM M n P T K) : zC 47 sc (d + 2) 96 [.ref 33, .int x, .int y] M (some (.int (fKeeps x y))) (M) := by
  obtain ⟨hth, hm, hn6, hR, hT⟩ := id hsm
  unfold fKeeps
  refine z_enter (L := [.ref 33, .int x, .int y]) rfl rfl rfl ?_
  refine zK.blk rfl ?_
  refine p_aloadn_0 ?_
  refine p_iconst (v := nI 0) (by decide) ?_
  refine p_put rfl rfl (by simp) ?_
  rw [zup_id hth]
  refine p_iloadn_1 ?_
  refine p_iconst (v := nI 0) (by decide) ?_
  refine p_iconst (v := nI 3) (by decide) ?_
  refine p_cs3i rfl rfl rfl rfl rfl (c_89) ?_
  refine p_ifB_eq (tgt := 36) (by decide) (fun hc11 => ?_) (fun hc11 => ?_)
  · skip
    rw [if_neg (by rw [zfits_no hc11]; decide)]
    refine zK.blk rfl ?_
    refine p_iconst (v := -1) (by decide) ?_
    refine zK.blk rfl ?_
    exact p_iret trivial rfl rfl
  · skip
    obtain ⟨p, hp, rfl⟩ := zin_x (by decide) hc11
    have hz := z22_lt (show p < 4 by omega)
    refine p_iloadn_2 ?_
    refine p_iconst (v := nI 0) (by decide) ?_
    refine p_iloadn_1 ?_
    refine p_cs1i rfl rfl rfl rfl rfl (c_91 (p := p) (by omega)) ?_
    refine p_iconst (v := nI 1) (by decide) ?_
    refine p_isubN (by omega) ?_
    refine p_cs3i rfl rfl rfl rfl rfl (c_89) ?_
    refine p_ifB_eq (tgt := 36) (by decide) (fun hc25 => ?_) (fun hc25 => ?_)
    · skip
      rw [if_neg (by rw [zfits_zin (by omega), hc25]; decide)]
      refine zK.blk rfl ?_
      refine p_iconst (v := -1) (by decide) ?_
      refine zK.blk rfl ?_
      exact p_iret trivial rfl rfl
    · skip
      rw [if_pos (by rw [zfits_zin (by omega), hc25])]
      obtain ⟨t, ht, rfl⟩ := zin_x (by omega) hc25
      rw [nI_clamp (by omega), nI_clamp (by omega), (kb_km p (by omega) t (by omega)).1]
      refine p_iloadn_1 ?_
      refine p_iloadn_2 ?_
      refine p_cs2i rfl rfl rfl rfl rfl (c_94 (by omega) (by omega)) ?_
      refine p_goto (tgt := 37) (by decide) ?_
      refine zK.blk rfl ?_
      exact p_iret trivial rfl rfl
set_option maxRecDepth 100000 in
set_option maxHeartbeats 4000000 in
theorem c_65 {sc : Nat × (Nat → Int32)} {d : Nat} {M : zM} {n : Nat} {P T K : Nat → Nat} {x : Int32} (hsg : sgC M n P T K) : zC 47 sc (d + 3) 65 [.ref 0, .int x] M (some (.int (fSays P T n x))) (M) := by
  obtain ⟨hn6, hn, hR, hS⟩ := id hsg
  have hz := z1n_lt hn6
  unfold fSays
  refine z_enter (L := [.ref 0, .int x]) rfl rfl rfl ?_
  refine zK.blk rfl ?_
  refine p_aloadn_0 ?_
  refine p_getr rfl rfl ?_
  refine p_iloadn_1 ?_
  refine p_cv1i rfl rfl rfl rfl rfl (c_25 hsg) ?_
  refine p_ifB_ne (tgt := 13) (by decide) (fun hc8 => ?_) (fun hc8 => ?_)
  · skip
    rw [if_pos hc8]
    obtain ⟨s, hs, rfl⟩ := zhas_x (by omega) hc8
    rw [nI_clamp (by omega)]
    refine zK.blk rfl ?_
    refine p_aloadn_0 ?_
    refine p_getr rfl rfl ?_
    refine p_iloadn_1 ?_
    refine p_cv1i rfl rfl rfl rfl rfl (c_29 hsg (by omega)) ?_
    refine p_ifB_eq (tgt := 28) (by decide) (fun hc21 => ?_) (fun hc21 => ?_)
    · skip
      rw [if_neg (of_decide_eq_false hc21)]
      refine zK.blk rfl ?_
      refine p_iconst (v := nI 0) (by decide) ?_
      refine zK.blk rfl ?_
      exact p_iret trivial rfl rfl
    · skip
      rw [if_pos (of_decide_eq_true hc21)]
      refine p_iconst (v := nI 1) (by decide) ?_
      refine p_goto (tgt := 29) (by decide) ?_
      refine zK.blk rfl ?_
      exact p_iret trivial rfl rfl
  · skip
    rw [if_neg (by rw [hc8]; decide)]
    refine p_iconst (v := -1) (by decide) ?_
    exact p_iret trivial rfl rfl
set_option maxRecDepth 100000 in
set_option maxHeartbeats 4000000 in
theorem c_66 {sc : Nat × (Nat → Int32)} {d : Nat} {M : zM} {n : Nat} {P T K : Nat → Nat} {x : Int32} (hsg : sgC M n P T K) : zC 47 sc (d + 3) 66 [.ref 0, .int x] M (some (.int (fLacks P T n x))) (M) := by
  obtain ⟨hn6, hn, hR, hS⟩ := id hsg
  have hz := z1n_lt hn6
  unfold fLacks
  refine z_enter (L := [.ref 0, .int x]) rfl rfl rfl ?_
  refine zK.blk rfl ?_
  refine p_aloadn_0 ?_
  refine p_getr rfl rfl ?_
  refine p_iloadn_1 ?_
  refine p_cv1i rfl rfl rfl rfl rfl (c_25 hsg) ?_
  refine p_ifB_eq (tgt := 22) (by decide) (fun hc8 => ?_) (fun hc8 => ?_)
  · skip
    rw [if_neg (by rw [hc8]; decide)]
    refine zK.blk rfl ?_
    refine p_iconst (v := -1) (by decide) ?_
    refine zK.blk rfl ?_
    exact p_iret trivial rfl rfl
  · skip
    rw [if_pos hc8]
    obtain ⟨s, hs, rfl⟩ := zhas_x (by omega) hc8
    rw [nI_clamp (by omega)]
    refine p_aloadn_0 ?_
    refine p_getr rfl rfl ?_
    refine p_iloadn_1 ?_
    refine p_cv1i rfl rfl rfl rfl rfl (c_28 hsg (by omega)) ?_
    refine p_goto (tgt := 23) (by decide) ?_
    refine zK.blk rfl ?_
    exact p_iret trivial rfl rfl
set_option maxRecDepth 100000 in
set_option maxHeartbeats 4000000 in
theorem c_110 {sc : Nat × (Nat → Int32)} {d : Nat} {M : zM} {n : Nat} {P T K : Nat → Nat} {x : Int32} (hsm : sgM M n P T K) : zC 47 sc (d + 3) 110 [.ref 33, .int x] M (some (.int (fSays P T n x))) (M) := by
  obtain ⟨hth, hm, hn6, hR, hT⟩ := id hsm
  have hz := z1n_lt hn6
  unfold fSays
  refine z_enter (L := [.ref 33, .int x]) rfl rfl rfl ?_
  refine zK.blk rfl ?_
  refine p_aloadn_0 ?_
  refine p_iconst (v := nI 0) (by decide) ?_
  refine p_put rfl rfl (by simp) ?_
  rw [zup_id hth]
  refine p_aloadn_0 ?_
  refine p_iloadn_1 ?_
  refine p_cv1i rfl rfl rfl rfl rfl (c_108 hsm) ?_
  refine p_ifB_ne (tgt := 17) (by decide) (fun hc10 => ?_) (fun hc10 => ?_)
  · skip
    rw [if_pos hc10]
    obtain ⟨s, hs, rfl⟩ := zhas_x (by omega) hc10
    rw [nI_clamp (by omega)]
    have hka := kaN_lt P T n s
    refine zK.blk rfl ?_
    refine p_aloadn_0 ?_
    refine p_iloadn_1 ?_
    refine p_cv1i rfl rfl rfl rfl rfl (c_109 hsm (by omega)) ?_
    refine p_ifN_ne (tgt := 29) (by decide) (by omega) (fun hc22 => ?_) (fun hc22 => ?_)
    · skip
      rw [if_neg hc22]
      refine zK.blk rfl ?_
      refine p_iconst (v := nI 0) (by decide) ?_
      refine zK.blk rfl ?_
      exact p_iret trivial rfl rfl
    · skip
      rw [if_pos (by omega)]
      refine p_iconst (v := nI 1) (by decide) ?_
      refine p_goto (tgt := 30) (by decide) ?_
      refine zK.blk rfl ?_
      exact p_iret trivial rfl rfl
  · skip
    rw [if_neg (by rw [hc10]; decide)]
    refine p_iconst (v := -1) (by decide) ?_
    refine p_goto (tgt := 30) (by decide) ?_
    refine zK.blk rfl ?_
    exact p_iret trivial rfl rfl
set_option maxRecDepth 100000 in
set_option maxHeartbeats 4000000 in
theorem c_111 {sc : Nat × (Nat → Int32)} {d : Nat} {M : zM} {n : Nat} {P T K : Nat → Nat} {x : Int32} (hsm : sgM M n P T K) : zC 47 sc (d + 3) 111 [.ref 33, .int x] M (some (.int (fLacks P T n x))) (M) := by
  obtain ⟨hth, hm, hn6, hR, hT⟩ := id hsm
  have hz := z1n_lt hn6
  unfold fLacks
  refine z_enter (L := [.ref 33, .int x]) rfl rfl rfl ?_
  refine zK.blk rfl ?_
  refine p_aloadn_0 ?_
  refine p_iconst (v := nI 0) (by decide) ?_
  refine p_put rfl rfl (by simp) ?_
  rw [zup_id hth]
  refine p_aloadn_0 ?_
  refine p_iloadn_1 ?_
  refine p_cv1i rfl rfl rfl rfl rfl (c_108 hsm) ?_
  refine p_ifB_eq (tgt := 21) (by decide) (fun hc10 => ?_) (fun hc10 => ?_)
  · skip
    rw [if_neg (by rw [hc10]; decide)]
    refine zK.blk rfl ?_
    refine p_iconst (v := -1) (by decide) ?_
    refine zK.blk rfl ?_
    exact p_iret trivial rfl rfl
  · skip
    rw [if_pos hc10]
    obtain ⟨s, hs, rfl⟩ := zhas_x (by omega) hc10
    rw [nI_clamp (by omega)]
    have hka := kaN_lt P T n s
    refine p_aloadn_0 ?_
    refine p_iloadn_1 ?_
    refine p_cv1i rfl rfl rfl rfl rfl (c_109 hsm (by omega)) ?_
    refine p_goto (tgt := 22) (by decide) ?_
    refine zK.blk rfl ?_
    exact p_iret trivial rfl rfl
set_option maxRecDepth 100000 in
set_option maxHeartbeats 4000000 in
theorem c_69 {sc : Nat × (Nat → Int32)} {d : Nat} {M : zM} {n : Nat} {P T K : Nat → Nat} {x y z : Int32} (hsg : sgC M n P T K) : zC 47 sc (d + 5) 69 [.ref 0, .int x, .int y, .int z] M (some (.int (fLets P T n x y z))) (M) := by
  obtain ⟨hn6, hn, hR, hS⟩ := id hsg
  unfold fLets
  refine z_enter (L := [.ref 0, .int x, .int y, .int z]) rfl rfl rfl ?_
  refine zK.blk rfl ?_
  refine p_aloadn_0 ?_
  refine p_getr rfl rfl ?_
  refine p_iloadn_1 ?_
  refine p_cv1i rfl rfl rfl rfl rfl (c_24 hsg) ?_
  refine p_ifB_eq (tgt := 19) (by decide) (fun hc8 => ?_) (fun hc8 => ?_)
  · skip
    rw [if_neg (by rw [hc8]; simp)]
    refine zK.blk rfl ?_
    refine p_iconst (v := -1) (by decide) ?_
    exact p_iret trivial rfl rfl
  · skip
    refine p_iloadn_2 ?_
    refine p_iloadn_3 ?_
    refine p_cs2i rfl rfl rfl rfl rfl (c_83) ?_
    refine p_ifB_ne (tgt := 21) (by decide) (fun hc16 => ?_) (fun hc16 => ?_)
    · skip
      rw [if_pos ⟨hc8, hc16⟩]
      obtain ⟨i, hi, rfl⟩ := zhas_x (by omega) hc8
      obtain ⟨q, t, hq1, hq, ht, rfl, rfl⟩ := zrl_x hc16
      have hz := z22_lt hq
      have hP := hR i hi
      have hw := zwide_lt (P i) hP.1 (T i) hP.2.1
      rw [nI_clamp (by omega), nI_clamp (by omega), nI_clamp (by omega)]
      refine zK.blk rfl ?_
      refine p_aloadn_0 ?_
      refine p_getr rfl rfl ?_
      refine p_getr rfl rfl ?_
      refine p_iloadn_1 ?_
      refine p_aald rfl (by omega) (by decide) (zget_sg (by omega)) ?_
      refine p_iloadn_2 ?_
      refine p_iloadn_3 ?_
      refine p_cv2i rfl rfl rfl rfl (zlay_sg (by omega)) (c_23 (by omega) (hS _ (by omega)).1 (hS _ (by omega)).2.2.2.1 hP.1 (by omega) hq (by omega)) ?_
      refine p_ifB_eq (tgt := 42) (by decide) (fun hc35 => ?_) (fun hc35 => ?_)
      · skip
        rw [if_neg (by unfold apF; rw [hc35]; decide)]
        refine zK.blk rfl ?_
        refine p_iconst (v := nI 0) (by decide) ?_
        refine zK.blk rfl ?_
        exact p_iret trivial rfl rfl
      · skip
        rw [if_pos (by unfold apF; exact hc35)]
        refine p_iconst (v := nI 1) (by decide) ?_
        refine p_goto (tgt := 43) (by decide) ?_
        refine zK.blk rfl ?_
        exact p_iret trivial rfl rfl
    · skip
      rw [if_neg (by rw [hc16]; simp)]
      refine zK.blk rfl ?_
      refine p_iconst (v := -1) (by decide) ?_
      exact p_iret trivial rfl rfl
set_option maxRecDepth 100000 in
set_option maxHeartbeats 4000000 in
theorem c_119 {sc : Nat × (Nat → Int32)} {d : Nat} {M : zM} {n : Nat} {P T K : Nat → Nat} {x y z : Int32} (hsm : sgM M n P T K) : zC 47 sc (d + 4) 119 [.ref 33, .int x, .int y, .int z] M (some (.int (fLets P T n x y z))) (M) := by
  obtain ⟨hth, hm, hn6, hR, hT⟩ := id hsm
  unfold fLets
  refine z_enter (L := [.ref 33, .int x, .int y, .int z]) rfl rfl rfl ?_
  refine zK.blk rfl ?_
  refine p_aloadn_0 ?_
  refine p_iconst (v := nI 0) (by decide) ?_
  refine p_put rfl rfl (by simp) ?_
  rw [zup_id hth]
  refine p_iloadn_1 ?_
  refine p_iconst (v := nI 0) (by decide) ?_
  refine p_aloadn_0 ?_
  refine p_geti rfl rfl (hm) ?_
  refine p_iconst (v := nI 1) (by decide) ?_
  refine p_isub ?_
  refine p_cs3i rfl rfl rfl rfl rfl (c_89) ?_
  rw [zin_has (by omega)]
  refine p_ifB_eq (tgt := 27) (by decide) (fun hc16 => ?_) (fun hc16 => ?_)
  · skip
    rw [if_neg (by rw [hc16]; simp)]
    refine zK.blk rfl ?_
    refine p_iconst (v := -1) (by decide) ?_
    refine p_goto (tgt := 46) (by decide) ?_
    refine zK.blk rfl ?_
    exact p_iret trivial rfl rfl
  · skip
    refine p_iloadn_2 ?_
    refine p_iloadn_3 ?_
    refine p_cs2i rfl rfl rfl rfl rfl (c_115) ?_
    refine p_ifB_ne (tgt := 31) (by decide) (fun hc24 => ?_) (fun hc24 => ?_)
    · skip
      rw [if_pos ⟨hc16, hc24⟩]
      obtain ⟨i, hi, rfl⟩ := zhas_x (by omega) hc16
      obtain ⟨q, t, hq1, hq, ht, rfl, rfl⟩ := zrl_x hc24
      have hz := z22_lt hq
      rw [nI_clamp (by omega), nI_clamp (by omega), nI_clamp (by omega)]
      refine zK.blk rfl ?_
      refine p_aloadn_0 ?_
      refine p_iloadn_1 ?_
      refine p_iloadn_2 ?_
      refine p_iloadn_3 ?_
      refine p_cv3i rfl rfl rfl rfl rfl (c_118 hsm hi hq (by omega)) ?_
      refine p_ifB_eq (tgt := 45) (by decide) (fun hc38 => ?_) (fun hc38 => ?_)
      · skip
        rw [if_neg (by rw [hc38]; decide)]
        refine zK.blk rfl ?_
        refine p_iconst (v := nI 0) (by decide) ?_
        refine zK.blk rfl ?_
        exact p_iret trivial rfl rfl
      · skip
        rw [if_pos hc38]
        refine p_iconst (v := nI 1) (by decide) ?_
        refine p_goto (tgt := 46) (by decide) ?_
        refine zK.blk rfl ?_
        exact p_iret trivial rfl rfl
    · skip
      rw [if_neg (by rw [hc24]; simp)]
      refine zK.blk rfl ?_
      refine p_iconst (v := -1) (by decide) ?_
      refine p_goto (tgt := 46) (by decide) ?_
      refine zK.blk rfl ?_
      exact p_iret trivial rfl rfl
set_option maxRecDepth 100000 in
set_option maxHeartbeats 4000000 in
theorem lp_70_15 {sc : Nat × (Nat → Int32)} {d : Nat} {M : zM} {r : Option Value} {M' : zM} {n : Nat} {P T K : Nat → Nat} {q rows : Nat} (hsg : sgC M n P T K) (hq : q < 4) (hro : rows < 2 ^ 31) : ∀ (j i v : Nat), i + j = n → zK 47 sc (zC 47 sc (d + 4)) 70 r M' 58 [.ref 0, .int (nI q), .int (nI rows), .int (nI (zfor (leF P T q rows) j i v)), .int (nI n)] [] (M) → zK 47 sc (zC 47 sc (d + 4)) 70 r M' 15 [.ref 0, .int (nI q), .int (nI rows), .int (nI v), .int (nI i)] [] (M) := by
  intro j
  induction j with
  | zero =>
    intro i v  hj hk
    obtain rfl : i = n := by omega
    obtain ⟨hn6, hn, hR, hS⟩ := id hsg
    refine zK.blk rfl ?_
    refine p_iload_4 ?_
    refine p_aloadn_0 ?_
    refine p_getr rfl rfl ?_
    refine p_geti rfl rfl (hn) ?_
    refine p_icmpN_ge (tgt := 58) (by decide) (by omega) (by omega) (fun hc24 => ?_) (fun hc24 => ?_)
    · skip
      exact hk
    · skip
      exact absurd hc24 (by omega) --STOP
  | succ j ih =>
    intro i v  hj hk
    obtain ⟨hn6, hn, hR, hS⟩ := id hsg
    have hP := hR i (by omega)
    have hw := zwide_lt (P i) hP.1 (T i) hP.2.1
    refine zK.blk rfl ?_
    refine p_iload_4 ?_
    refine p_aloadn_0 ?_
    refine p_getr rfl rfl ?_
    refine p_geti rfl rfl (hn) ?_
    refine p_icmpN_ge (tgt := 58) (by decide) (by omega) (by omega) (fun hc24 => ?_) (fun hc24 => ?_)
    · skip
      exact absurd hc24 (by omega) --STOP
    · skip
      refine p_aloadn_0 ?_
      refine p_getr rfl rfl ?_
      refine p_getr rfl rfl ?_
      refine p_iload_4 ?_
      refine p_aald rfl (by omega) (by decide) (zget_sg (by omega)) ?_
      refine p_iloadn_1 ?_
      refine p_iloadn_2 ?_
      refine p_cv2i rfl rfl rfl rfl (zlay_sg (by omega)) (c_23 (by omega) (hS _ (by omega)).1 (hS _ (by omega)).2.2.2.1 hP.1 (by omega) hq hro) ?_
      refine p_ifB_eq (tgt := 52) (by decide) (fun hc42 => ?_) (fun hc42 => ?_)
      · skip
        rw [zfor_step (f := leF P T q rows) (a' := v) (by unfold leF apF; rw [hc42, if_neg (by decide), Nat.or_zero])] at hk
        refine zK.blk rfl ?_
        refine p_iinc_4 (zN_inc _ 1) rfl ?_
        refine p_goto (tgt := 15) (by decide) ?_
        exact ih _ _ (by omega) hk
      · skip
        rw [zfor_step (f := leF P T q rows) (a' := v ||| 1 <<< i) (by unfold leF apF; rw [hc42, if_pos rfl])] at hk
        refine p_iloadn_3 ?_
        refine p_iconst (v := nI 1) (by decide) ?_
        refine p_iload_4 ?_
        refine p_ishlN (by omega) ?_
        refine p_iorN ?_
        refine p_istoren_3 rfl ?_
        refine zK.blk rfl ?_
        refine p_iinc_4 (zN_inc _ 1) rfl ?_
        refine p_goto (tgt := 15) (by decide) ?_
        exact ih _ _ (by omega) hk
set_option maxRecDepth 100000 in
set_option maxHeartbeats 4000000 in
theorem c_70 {sc : Nat × (Nat → Int32)} {d : Nat} {M : zM} {n : Nat} {P T K : Nat → Nat} {y z : Int32} (hsg : sgC M n P T K) : zC 47 sc (d + 5) 70 [.ref 0, .int y, .int z] M (some (.int (fLetting P T n y z))) (M) := by
  unfold fLetting
  refine z_enter (L := [.ref 0, .int y, .int z, .null, .null]) rfl rfl rfl ?_
  refine zK.blk rfl ?_
  refine p_iloadn_1 ?_
  refine p_iloadn_2 ?_
  refine p_cs2i rfl rfl rfl rfl rfl (c_83) ?_
  refine p_ifB_ne (tgt := 10) (by decide) (fun hc5 => ?_) (fun hc5 => ?_)
  · skip
    rw [if_pos hc5]
    obtain ⟨q, t, hq1, hq, ht, rfl, rfl⟩ := zrl_x hc5
    have hz := z22_lt hq
    rw [nI_clamp (by omega), nI_clamp (by omega)]
    refine zK.blk rfl ?_
    refine p_iconst (v := nI 0) (by decide) ?_
    refine p_istoren_3 rfl ?_
    refine p_iconst (v := nI 0) (by decide) ?_
    refine p_istore_4 rfl ?_
    refine lp_70_15 hsg hq (by omega) n 0 0 (by omega) ?_
    refine zK.blk rfl ?_
    refine p_iloadn_3 ?_
    exact p_iret trivial rfl rfl
  · skip
    rw [if_neg (by rw [hc5]; decide)]
    refine p_iconst (v := -1) (by decide) ?_
    exact p_iret trivial rfl rfl
set_option maxRecDepth 100000 in
set_option maxHeartbeats 4000000 in
theorem c_121 {sc : Nat × (Nat → Int32)} {d : Nat} {M : zM} {n : Nat} {P T K : Nat → Nat} {y z : Int32} (hsm : sgM M n P T K) : zC 47 sc (d + 5) 121 [.ref 33, .int y, .int z] M (some (.int (fLetting P T n y z))) (M) := by
  obtain ⟨hth, hm, hn6, hR, hT⟩ := id hsm
  unfold fLetting
  refine z_enter (L := [.ref 33, .int y, .int z]) rfl rfl rfl ?_
  refine zK.blk rfl ?_
  refine p_aloadn_0 ?_
  refine p_iconst (v := nI 0) (by decide) ?_
  refine p_put rfl rfl (by simp) ?_
  rw [zup_id hth]
  refine p_iloadn_1 ?_
  refine p_iloadn_2 ?_
  refine p_cs2i rfl rfl rfl rfl rfl (c_115) ?_
  refine p_ifB_eq (tgt := 22) (by decide) (fun hc10 => ?_) (fun hc10 => ?_)
  · skip
    rw [if_neg (by rw [hc10]; decide)]
    refine zK.blk rfl ?_
    refine p_iconst (v := -1) (by decide) ?_
    refine zK.blk rfl ?_
    exact p_iret trivial rfl rfl
  · skip
    rw [if_pos hc10]
    obtain ⟨q, t, hq1, hq, ht, rfl, rfl⟩ := zrl_x hc10
    have hz := z22_lt hq
    rw [nI_clamp (by omega), nI_clamp (by omega)]
    refine p_aloadn_0 ?_
    refine p_iloadn_1 ?_
    refine p_iloadn_2 ?_
    refine p_cv2i rfl rfl rfl rfl rfl (c_120 hsm hq (by omega)) ?_
    refine p_goto (tgt := 23) (by decide) ?_
    refine zK.blk rfl ?_
    exact p_iret trivial rfl rfl
end
section
theorem zfind_0 {f : Nat → Bool} {x : Int32} {i v : Nat} : zfind f x 0 i v = if x = -1 then nI v else -9 := rfl
theorem zfind_n {f : Nat → Bool} {x : Int32} {j i v : Nat} (h : f i = false) : zfind f x (j + 1) i v = zfind f x j (i + 1) v := by
  show (if f i = true then _ else _) = _
  rw [h, if_neg (by decide)]
theorem zfind_y {f : Nat → Bool} {x : Int32} {j i v : Nat} (h : f i = true) (hx : ¬ nI v = x) : zfind f x (j + 1) i v = zfind f x j (i + 1) (v + 1) := by
  show (if f i = true then (if nI v = x then nI i else _) else _) = _
  rw [if_pos h, if_neg hx]
theorem zfind_e {f : Nat → Bool} {x : Int32} {j i v : Nat} (h : f i = true) (hx : nI v = x) : zfind f x (j + 1) i v = nI i := by
  show (if f i = true then (if nI v = x then nI i else _) else _) = _
  rw [if_pos h, if_pos hx]
theorem zm1 {x : Int32} (h : ¬ x < -1) : ¬ 0 ≤ x → x = -1 := by
  intro h2
  rw [Int32.lt_iff_toInt_lt] at h
  rw [Int32.le_iff_toInt_le] at h2
  apply Int32.toInt_inj.mp
  have e1 : (-1 : Int32).toInt = -1 := by decide
  have e2 : (0 : Int32).toInt = 0 := by decide
  rw [e1] at h ⊢
  rw [e2] at h2
  omega
theorem zm1' {x : Int32} (h : 0 ≤ x) : ¬ x = -1 := by
  intro e
  rw [e] at h
  revert h
  decide
section ZPT
variable {NC : Nat} {sc : Nat × (Nat → Int32)} {C : Nat → List Value → zM → Option Value → zM → Prop} {J : Nat → List Value → List Value → zM → Prop} {fin : Option Value → zM → Prop} {np pc len a b t : Nat} {es : List zE} {L st : List Value} {M : zM}
theorem p_tab {x : Int32} {d hi : Int} {offs : Array Int} {td N : Nat} (hd : (pc : Int) + d = (td : Int)) (hh : hi = (N : Int)) (hN : N < 2 ^ 31) (f : Nat → Nat) (hf : ∀ i, i ≤ N → ∃ off, offs[i]? = some off ∧ (pc : Int) + off = (f i : Int)) (h0 : (∀ i, i ≤ N → ¬ x = nI i) → J td L st M) (h1 : ∀ i, i ≤ N → x = nI i → J (f i) L st M) : zwp NC sc zinfo C J fin np ((pc, .tableswitch d 0 hi offs, len, a, b, t) :: es) L (.int x :: st) M := by
  subst hh
  dsimp only [zwp, zop, zts, zjmp]
  refine ⟨fun h => ?_, fun h2 h3 => ?_⟩
  · rw [hd]
    refine ⟨rfl, h0 (fun i hi e => ?_)⟩
    subst e
    rw [nI_toInt (by omega)] at h
    omega
  · obtain ⟨i, hi, rfl⟩ : ∃ i : Nat, i ≤ N ∧ x = nI i := by
      have hx : ¬ x < 0 := by rw [Int32.lt_iff_toInt_lt]; exact h2
      obtain ⟨j, hj, rfl⟩ := nI_of hx
      rw [nI_toInt hj] at h3
      exact ⟨j, by omega, rfl⟩
    obtain ⟨off, e1, e2⟩ := hf i hi
    refine ⟨off, ?_, ?_⟩
    · rw [nI_toInt (by omega)]
      rw [show ((i : Int) - 0).toNat = i by omega]
      exact e1
    · rw [e2]
      exact ⟨rfl, h1 i hi rfl⟩
end ZPT
set_option maxRecDepth 100000 in
set_option maxHeartbeats 4000000 in
theorem lp_67_11 {sc : Nat × (Nat → Int32)} {d : Nat} {M : zM} {n : Nat} {P T K : Nat → Nat} {x : Int32} (hsg : sgC M n P T K) : ∀ (j i v : Nat), i + j = 1 <<< n → zK 47 sc (zC 47 sc (d + 3)) 67 (some (.int (zfind (lsN P T n) x j i v))) M 11 [.ref 0, .int x, .int (nI v), .int (nI i)] [] M := by
  intro j
  induction j with
  | zero =>
    intro i v hj
    obtain ⟨hn6, hn, hR, hS⟩ := id hsg
    have hz := z1n_lt hn6
    refine zK.blk rfl ?_
    refine p_iloadn_3 ?_
    refine p_iconst (v := nI 1) (by decide) ?_
    refine p_aloadn_0 ?_
    refine p_getr rfl rfl ?_
    refine p_geti rfl rfl (hn) ?_
    refine p_ishlN (by omega) ?_
    refine p_icmpN_ge (tgt := 51) (by decide) (by omega) (by omega) (fun hc21 => ?_) (fun hc21 => ?_)
    · skip
      refine zK.blk rfl ?_
      refine p_iloadn_1 ?_
      refine p_iconst (v := -1) (by decide) ?_
      refine p_icmp_ne (tgt := 60) (by decide) (fun hc53 => ?_) (fun hc53 => ?_)
      · skip
        skip
        refine zK.blk rfl ?_
        refine p_bipush (v := -9) (by decide) ?_
        refine zK.blk rfl ?_
        first | (rw [zfind_0, if_pos (by assumption)]; exact p_iret trivial rfl rfl) | (rw [zfind_0, if_neg (by assumption)]; exact p_iret trivial rfl rfl)
      · skip
        have hc53 := Classical.not_not.mp hc53
        refine p_iloadn_2 ?_
        refine p_goto (tgt := 62) (by decide) ?_
        refine zK.blk rfl ?_
        first | (rw [zfind_0, if_pos (by assumption)]; exact p_iret trivial rfl rfl) | (rw [zfind_0, if_neg (by assumption)]; exact p_iret trivial rfl rfl)
    · skip
      exact absurd hc21 (by omega) --STOP
  | succ j ih =>
    intro i v hj
    obtain ⟨hn6, hn, hR, hS⟩ := id hsg
    have hz := z1n_lt hn6
    refine zK.blk rfl ?_
    refine p_iloadn_3 ?_
    refine p_iconst (v := nI 1) (by decide) ?_
    refine p_aloadn_0 ?_
    refine p_getr rfl rfl ?_
    refine p_geti rfl rfl (hn) ?_
    refine p_ishlN (by omega) ?_
    refine p_icmpN_ge (tgt := 51) (by decide) (by omega) (by omega) (fun hc21 => ?_) (fun hc21 => ?_)
    · skip
      exact absurd hc21 (by omega) --STOP
    · skip
      refine p_aloadn_0 ?_
      refine p_getr rfl rfl ?_
      refine p_iloadn_3 ?_
      refine p_cv1i rfl rfl rfl rfl rfl (c_30 hsg (by omega)) ?_
      refine p_ifB_eq (tgt := 45) (by decide) (fun hc32 => ?_) (fun hc32 => ?_)
      · skip
        rw [zfind_n (f := lsN P T n) (hc32)]
        refine zK.blk rfl ?_
        refine p_iinc_3 (zN_inc _ 1) rfl ?_
        refine p_goto (tgt := 11) (by decide) ?_
        exact ih _ _ (by omega)
      · skip
        refine p_iloadn_2 ?_
        refine p_iloadn_1 ?_
        refine p_icmp_ne (tgt := 42) (by decide) (fun hc37 => ?_) (fun hc37 => ?_)
        · skip
          rw [zfind_y (f := lsN P T n) (hc32) (fun z => hc37 z)]
          refine zK.blk rfl ?_
          refine p_iinc_2 (zN_inc _ 1) rfl ?_
          refine zK.blk rfl ?_
          refine p_iinc_3 (zN_inc _ 1) rfl ?_
          refine p_goto (tgt := 11) (by decide) ?_
          exact ih _ _ (by omega)
        · skip
          refine p_iloadn_3 ?_
          rw [zfind_e (f := lsN P T n) (hc32) (Classical.not_not.mp hc37)]
          exact p_iret trivial rfl rfl
set_option maxRecDepth 100000 in
set_option maxHeartbeats 4000000 in
theorem c_67 {sc : Nat × (Nat → Int32)} {d : Nat} {M : zM} {n : Nat} {P T K : Nat → Nat} {x : Int32} (hsg : sgC M n P T K) : zC 47 sc (d + 4) 67 [.ref 0, .int x] M (some (.int (fSets P T n x))) (M) := by
  unfold fSets
  refine z_enter (L := [.ref 0, .int x, .null, .null]) rfl rfl rfl ?_
  refine zK.blk rfl ?_
  refine p_iloadn_1 ?_
  refine p_iconst (v := -1) (by decide) ?_
  refine p_icmp_ge (tgt := 7) (by decide) (fun hc2 => ?_) (fun hc2 => ?_)
  · skip
    rw [if_neg (Int32.not_lt.mpr hc2)]
    refine zK.blk rfl ?_
    refine p_iconst (v := nI 0) (by decide) ?_
    refine p_istoren_2 rfl ?_
    refine p_iconst (v := nI 0) (by decide) ?_
    refine p_istoren_3 rfl ?_
    exact lp_67_11 hsg (1 <<< n) 0 0 (by omega)
  · skip
    rw [if_pos (Int32.not_le.mp hc2)]
    refine p_iconst (v := -1) (by decide) ?_
    exact p_iret trivial rfl rfl
set_option maxRecDepth 100000 in
set_option maxHeartbeats 4000000 in
theorem lp_113_16 {sc : Nat × (Nat → Int32)} {d : Nat} {M : zM} {n : Nat} {P T K : Nat → Nat} {x : Int32} (hsm : sgM M n P T K) (hx : ¬ x < -1) : ∀ (j i v : Nat), i + j = 1 <<< n → zK 47 sc (zC 47 sc (d + 3)) 113 (some (.int (zfind (lsN P T n) x j i v))) M 16 [.ref 33, .int x, .int (nI v), .int (nI i)] [] M := by
  intro j
  induction j with
  | zero =>
    intro i v hj
    obtain ⟨hth, hm, hn6, hR, hT⟩ := id hsm
    have hz := z1n_lt hn6
    refine zK.blk rfl ?_
    refine p_iloadn_3 ?_
    refine p_iconst (v := nI 1) (by decide) ?_
    refine p_aloadn_0 ?_
    refine p_geti rfl rfl (hm) ?_
    refine p_ishlN (by omega) ?_
    refine p_icmpN_ge (tgt := 50) (by decide) (by omega) (by omega) (fun hc23 => ?_) (fun hc23 => ?_)
    · skip
      refine zK.blk rfl ?_
      refine p_iloadn_1 ?_
      refine p_if_ge (tgt := 58) (by decide) (fun hc51 => ?_) (fun hc51 => ?_)
      · skip
        have hc51 := zm1' hc51
        refine zK.blk rfl ?_
        refine p_bipush (v := -9) (by decide) ?_
        refine zK.blk rfl ?_
        first | (rw [zfind_0, if_pos (by assumption)]; exact p_iret trivial rfl rfl) | (rw [zfind_0, if_neg (by assumption)]; exact p_iret trivial rfl rfl)
      · skip
        have hc51 := zm1 hx hc51
        refine p_iloadn_2 ?_
        refine p_goto (tgt := 60) (by decide) ?_
        refine zK.blk rfl ?_
        first | (rw [zfind_0, if_pos (by assumption)]; exact p_iret trivial rfl rfl) | (rw [zfind_0, if_neg (by assumption)]; exact p_iret trivial rfl rfl)
    · skip
      exact absurd hc23 (by omega) --STOP
  | succ j ih =>
    intro i v hj
    obtain ⟨hth, hm, hn6, hR, hT⟩ := id hsm
    have hz := z1n_lt hn6
    refine zK.blk rfl ?_
    refine p_iloadn_3 ?_
    refine p_iconst (v := nI 1) (by decide) ?_
    refine p_aloadn_0 ?_
    refine p_geti rfl rfl (hm) ?_
    refine p_ishlN (by omega) ?_
    refine p_icmpN_ge (tgt := 50) (by decide) (by omega) (by omega) (fun hc23 => ?_) (fun hc23 => ?_)
    · skip
      exact absurd hc23 (by omega) --STOP
    · skip
      refine p_aloadn_0 ?_
      refine p_iloadn_3 ?_
      refine p_cv1i rfl rfl rfl rfl rfl (c_112 hsm (by omega)) ?_
      refine p_ifB_eq (tgt := 44) (by decide) (fun hc31 => ?_) (fun hc31 => ?_)
      · skip
        rw [zfind_n (f := lsN P T n) (hc31)]
        refine zK.blk rfl ?_
        refine p_iinc_3 (zN_inc _ 1) rfl ?_
        refine p_goto (tgt := 16) (by decide) ?_
        exact ih _ _ (by omega)
      · skip
        refine p_iloadn_2 ?_
        refine p_iloadn_1 ?_
        refine p_icmp_ne (tgt := 41) (by decide) (fun hc36 => ?_) (fun hc36 => ?_)
        · skip
          rw [zfind_y (f := lsN P T n) (hc31) (fun z => hc36 z)]
          refine zK.blk rfl ?_
          refine p_iinc_2 (zN_inc _ 1) rfl ?_
          refine zK.blk rfl ?_
          refine p_iinc_3 (zN_inc _ 1) rfl ?_
          refine p_goto (tgt := 16) (by decide) ?_
          exact ih _ _ (by omega)
        · skip
          refine p_iloadn_3 ?_
          rw [zfind_e (f := lsN P T n) (hc31) (Classical.not_not.mp hc36)]
          exact p_iret trivial rfl rfl
set_option maxRecDepth 100000 in
set_option maxHeartbeats 4000000 in
theorem c_113 {sc : Nat × (Nat → Int32)} {d : Nat} {M : zM} {n : Nat} {P T K : Nat → Nat} {x : Int32} (hsm : sgM M n P T K) : zC 47 sc (d + 4) 113 [.ref 33, .int x] M (some (.int (fSets P T n x))) (M) := by
  obtain ⟨hth, hm, hn6, hR, hT⟩ := id hsm
  unfold fSets
  refine z_enter (L := [.ref 33, .int x, .null, .null]) rfl rfl rfl ?_
  refine zK.blk rfl ?_
  refine p_aloadn_0 ?_
  refine p_iconst (v := nI 0) (by decide) ?_
  refine p_put rfl rfl (by simp) ?_
  rw [zup_id hth]
  refine p_iloadn_1 ?_
  refine p_iconst (v := -1) (by decide) ?_
  refine p_icmp_ge (tgt := 12) (by decide) (fun hc7 => ?_) (fun hc7 => ?_)
  · skip
    rw [if_neg (Int32.not_lt.mpr hc7)]
    refine zK.blk rfl ?_
    refine p_iconst (v := nI 0) (by decide) ?_
    refine p_istoren_2 rfl ?_
    refine p_iconst (v := nI 0) (by decide) ?_
    refine p_istoren_3 rfl ?_
    exact lp_113_16 hsm (Int32.not_lt.mpr hc7) (1 <<< n) 0 0 (by omega)
  · skip
    rw [if_pos (Int32.not_le.mp hc7)]
    refine p_iconst (v := -1) (by decide) ?_
    exact p_iret trivial rfl rfl
set_option maxRecDepth 100000 in
set_option maxHeartbeats 4000000 in
theorem lp_68_11 {sc : Nat × (Nat → Int32)} {d : Nat} {M : zM}  {x : Int32} : ∀ (j i v : Nat), i + j = 16 → zK 47 sc (zC 47 sc (d + 3)) 68 (some (.int (zfind (fun t => decide (kbN 2 t = 0)) x j i v))) M 11 [.ref 0, .int x, .int (nI v), .int (nI i)] [] M := by
  intro j
  induction j with
  | zero =>
    intro i v hj
    skip
    refine zK.blk rfl ?_
    refine p_iloadn_3 ?_
    refine p_bipush (v := nI 16) (by decide) ?_
    refine p_icmpN_ge (tgt := 41) (by decide) (by omega) (by omega) (fun hc14 => ?_) (fun hc14 => ?_)
    · skip
      refine zK.blk rfl ?_
      refine p_iloadn_1 ?_
      refine p_iconst (v := -1) (by decide) ?_
      refine p_icmp_ne (tgt := 50) (by decide) (fun hc43 => ?_) (fun hc43 => ?_)
      · skip
        skip
        refine zK.blk rfl ?_
        refine p_bipush (v := -9) (by decide) ?_
        refine zK.blk rfl ?_
        first | (rw [zfind_0, if_pos (by assumption)]; exact p_iret trivial rfl rfl) | (rw [zfind_0, if_neg (by assumption)]; exact p_iret trivial rfl rfl)
      · skip
        have hc43 := Classical.not_not.mp hc43
        refine p_iloadn_2 ?_
        refine p_goto (tgt := 52) (by decide) ?_
        refine zK.blk rfl ?_
        first | (rw [zfind_0, if_pos (by assumption)]; exact p_iret trivial rfl rfl) | (rw [zfind_0, if_neg (by assumption)]; exact p_iret trivial rfl rfl)
    · skip
      exact absurd hc14 (by omega) --STOP
  | succ j ih =>
    intro i v hj
    skip
    refine zK.blk rfl ?_
    refine p_iloadn_3 ?_
    refine p_bipush (v := nI 16) (by decide) ?_
    refine p_icmpN_ge (tgt := 41) (by decide) (by omega) (by omega) (fun hc14 => ?_) (fun hc14 => ?_)
    · skip
      exact absurd hc14 (by omega) --STOP
    · skip
      refine p_iconst (v := nI 2) (by decide) ?_
      refine p_iloadn_3 ?_
      refine p_cs2i rfl rfl rfl rfl rfl (c_12 (by decide) (by have : z22 2 = 16 := (by decide); omega)) ?_
      refine p_ifN_ne (tgt := 35) (by decide) (Nat.lt_trans (kb_lt (by decide) (by have : z22 2 = 16 := (by decide); omega)) (by decide)) (fun hc22 => ?_) (fun hc22 => ?_)
      · skip
        rw [zfind_n (f := fun t => decide (kbN 2 t = 0)) (decide_eq_false hc22)]
        refine zK.blk rfl ?_
        refine p_iinc_3 (zN_inc _ 1) rfl ?_
        refine p_goto (tgt := 11) (by decide) ?_
        exact ih _ _ (by omega)
      · skip
        refine p_iloadn_2 ?_
        refine p_iloadn_1 ?_
        refine p_icmp_ne (tgt := 32) (by decide) (fun hc27 => ?_) (fun hc27 => ?_)
        · skip
          rw [zfind_y (f := fun t => decide (kbN 2 t = 0)) (decide_eq_true (Classical.not_not.mp hc22)) (fun z => hc27 z)]
          refine zK.blk rfl ?_
          refine p_iinc_2 (zN_inc _ 1) rfl ?_
          refine zK.blk rfl ?_
          refine p_iinc_3 (zN_inc _ 1) rfl ?_
          refine p_goto (tgt := 11) (by decide) ?_
          exact ih _ _ (by omega)
        · skip
          refine p_iloadn_3 ?_
          rw [zfind_e (f := fun t => decide (kbN 2 t = 0)) (decide_eq_true (Classical.not_not.mp hc22)) (Classical.not_not.mp hc27)]
          exact p_iret trivial rfl rfl
set_option maxRecDepth 100000 in
set_option maxHeartbeats 4000000 in
theorem lp_114_16 {sc : Nat × (Nat → Int32)} {d : Nat} {M : zM}  {x : Int32} (hx : ¬ x < -1) : ∀ (j i v : Nat), i + j = 16 → zK 47 sc (zC 47 sc (d + 1)) 114 (some (.int (zfind (fun t => decide (kbN 2 t = 0)) x j i v))) M 16 [.ref 33, .int x, .int (nI v), .int (nI i)] [] M := by
  intro j
  induction j with
  | zero =>
    intro i v hj
    skip
    refine zK.blk rfl ?_
    refine p_iloadn_3 ?_
    refine p_bipush (v := nI 16) (by decide) ?_
    refine p_icmpN_ge (tgt := 46) (by decide) (by omega) (by omega) (fun hc19 => ?_) (fun hc19 => ?_)
    · skip
      refine zK.blk rfl ?_
      refine p_iloadn_1 ?_
      refine p_if_ge (tgt := 54) (by decide) (fun hc47 => ?_) (fun hc47 => ?_)
      · skip
        have hc47 := zm1' hc47
        refine zK.blk rfl ?_
        refine p_bipush (v := -9) (by decide) ?_
        refine zK.blk rfl ?_
        first | (rw [zfind_0, if_pos (by assumption)]; exact p_iret trivial rfl rfl) | (rw [zfind_0, if_neg (by assumption)]; exact p_iret trivial rfl rfl)
      · skip
        have hc47 := zm1 hx hc47
        refine p_iloadn_2 ?_
        refine p_goto (tgt := 56) (by decide) ?_
        refine zK.blk rfl ?_
        first | (rw [zfind_0, if_pos (by assumption)]; exact p_iret trivial rfl rfl) | (rw [zfind_0, if_neg (by assumption)]; exact p_iret trivial rfl rfl)
    · skip
      exact absurd hc19 (by omega) --STOP
  | succ j ih =>
    intro i v hj
    skip
    refine zK.blk rfl ?_
    refine p_iloadn_3 ?_
    refine p_bipush (v := nI 16) (by decide) ?_
    refine p_icmpN_ge (tgt := 46) (by decide) (by omega) (by omega) (fun hc19 => ?_) (fun hc19 => ?_)
    · skip
      exact absurd hc19 (by omega) --STOP
    · skip
      refine p_iconst (v := nI 2) (by decide) ?_
      refine p_iloadn_3 ?_
      refine p_cs2i rfl rfl rfl rfl rfl (c_94 (by decide) (by have : z22 2 = 16 := (by decide); omega)) ?_
      refine p_ifN_ne (tgt := 40) (by decide) (Nat.lt_trans (kb_km 2 (by decide) i (by have : z22 2 = 16 := (by decide); omega)).2 (by decide)) (fun hc27 => ?_) (fun hc27 => ?_)
      · skip
        rw [zfind_n (f := fun t => decide (kbN 2 t = 0)) (decide_eq_false (by rw [(kb_km 2 (by decide) i (by have : z22 2 = 16 := (by decide); omega)).1]; exact hc27))]
        refine zK.blk rfl ?_
        refine p_iinc_3 (zN_inc _ 1) rfl ?_
        refine p_goto (tgt := 16) (by decide) ?_
        exact ih _ _ (by omega)
      · skip
        refine p_iloadn_2 ?_
        refine p_iloadn_1 ?_
        refine p_icmp_ne (tgt := 37) (by decide) (fun hc32 => ?_) (fun hc32 => ?_)
        · skip
          rw [zfind_y (f := fun t => decide (kbN 2 t = 0)) (decide_eq_true (by rw [(kb_km 2 (by decide) i (by have : z22 2 = 16 := (by decide); omega)).1]; exact Classical.not_not.mp hc27)) (fun z => hc32 z)]
          refine zK.blk rfl ?_
          refine p_iinc_2 (zN_inc _ 1) rfl ?_
          refine zK.blk rfl ?_
          refine p_iinc_3 (zN_inc _ 1) rfl ?_
          refine p_goto (tgt := 16) (by decide) ?_
          exact ih _ _ (by omega)
        · skip
          refine p_iloadn_3 ?_
          rw [zfind_e (f := fun t => decide (kbN 2 t = 0)) (decide_eq_true (by rw [(kb_km 2 (by decide) i (by have : z22 2 = 16 := (by decide); omega)).1]; exact Classical.not_not.mp hc27)) (Classical.not_not.mp hc32)]
          exact p_iret trivial rfl rfl
set_option maxRecDepth 100000 in
set_option maxHeartbeats 4000000 in
theorem c_68 {sc : Nat × (Nat → Int32)} {d : Nat} {M : zM} {x : Int32} : zC 47 sc (d + 4) 68 [.ref 0, .int x] M (some (.int (fAlone x))) (M) := by
  unfold fAlone
  refine z_enter (L := [.ref 0, .int x, .null, .null]) rfl rfl rfl ?_
  refine zK.blk rfl ?_
  refine p_iloadn_1 ?_
  refine p_iconst (v := -1) (by decide) ?_
  refine p_icmp_ge (tgt := 7) (by decide) (fun hc2 => ?_) (fun hc2 => ?_)
  · skip
    rw [if_neg (Int32.not_lt.mpr hc2)]
    refine zK.blk rfl ?_
    refine p_iconst (v := nI 0) (by decide) ?_
    refine p_istoren_2 rfl ?_
    refine p_iconst (v := nI 0) (by decide) ?_
    refine p_istoren_3 rfl ?_
    exact lp_68_11 16 0 0 (by omega)
  · skip
    rw [if_pos (Int32.not_le.mp hc2)]
    refine p_iconst (v := -1) (by decide) ?_
    exact p_iret trivial rfl rfl
set_option maxRecDepth 100000 in
set_option maxHeartbeats 4000000 in
theorem c_114 {sc : Nat × (Nat → Int32)} {d : Nat} {M : zM} {x : Int32} {n : Nat} {P T K : Nat → Nat} (hsm : sgM M n P T K) : zC 47 sc (d + 2) 114 [.ref 33, .int x] M (some (.int (fAlone x))) (M) := by
  obtain ⟨hth, hm, hn6, hR, hT⟩ := id hsm
  unfold fAlone
  refine z_enter (L := [.ref 33, .int x, .null, .null]) rfl rfl rfl ?_
  refine zK.blk rfl ?_
  refine p_aloadn_0 ?_
  refine p_iconst (v := nI 0) (by decide) ?_
  refine p_put rfl rfl (by simp) ?_
  rw [zup_id hth]
  refine p_iloadn_1 ?_
  refine p_iconst (v := -1) (by decide) ?_
  refine p_icmp_ge (tgt := 12) (by decide) (fun hc7 => ?_) (fun hc7 => ?_)
  · skip
    rw [if_neg (Int32.not_lt.mpr hc7)]
    refine zK.blk rfl ?_
    refine p_iconst (v := nI 0) (by decide) ?_
    refine p_istoren_2 rfl ?_
    refine p_iconst (v := nI 0) (by decide) ?_
    refine p_istoren_3 rfl ?_
    exact lp_114_16 (Int32.not_lt.mpr hc7) 16 0 0 (by omega)
  · skip
    rw [if_pos (Int32.not_le.mp hc7)]
    refine p_iconst (v := -1) (by decide) ?_
    exact p_iret trivial rfl rfl
end
section
def fAbout (P T K : Nat → Nat) (n : Nat) (x w : Int32) : Int32 := if zhas n x = true then (if w = nI 0 then nI (P x.toNatClampNeg) else if w = nI 1 then nI (T x.toNatClampNeg) else if w = nI 2 then nI (K x.toNatClampNeg) else if w = nI 3 then nI (kbN (P x.toNatClampNeg) (T x.toNatClampNeg)) else -1) else -1
def fCount (P : Nat → Nat) (n len : Nat) (w : Int32) : Int32 := if w = nI 0 then nI n else if w = nI 1 then nI (o3N P n) else if w = nI 2 then nI len else -1
theorem zin_no {x : Int32} {n i : Nat} (hn : n < 2 ^ 31) (h : zin x (nI 0) (nI n) = false) (hi : i ≤ n) : ¬ x = nI i := by
  intro e
  subst e
  unfold zin at h
  rw [decide_eq_true (show ¬ nI i < nI 0 from nI_nlt (Nat.zero_le i) (by omega)), decide_eq_true (show ¬ nI n < nI i from nI_nlt hi hn)] at h
  cases h
set_option maxRecDepth 100000 in
set_option maxHeartbeats 4000000 in
theorem c_58 {sc : Nat × (Nat → Int32)} {d : Nat} {M : zM} {n : Nat} {P T K : Nat → Nat} {x w : Int32} (hsg : sgC M n P T K) : zC 47 sc (d + 2) 58 [.ref 0, .int x, .int w] M (some (.int (fAbout P T K n x w))) (M) := by
  obtain ⟨hn6, hn, hR, hS⟩ := id hsg
  unfold fAbout
  refine z_enter (L := [.ref 0, .int x, .int w, .null]) rfl rfl rfl ?_
  refine zK.blk rfl ?_
  refine p_aloadn_0 ?_
  refine p_getr rfl rfl ?_
  refine p_iloadn_1 ?_
  refine p_cv1i rfl rfl rfl rfl rfl (c_24 hsg) ?_
  refine p_ifB_ne (tgt := 13) (by decide) (fun hc8 => ?_) (fun hc8 => ?_)
  · skip
    rw [if_pos hc8]
    obtain ⟨i1, hi1, rfl⟩ := zhas_x (by omega) hc8
    rw [nI_clamp (by omega)]
    refine zK.blk rfl ?_
    refine p_aloadn_0 ?_
    refine p_getr rfl rfl ?_
    refine p_getr rfl rfl ?_
    refine p_iloadn_1 ?_
    refine p_aald rfl (by omega) (by decide) (zget_sg (by omega)) ?_
    refine p_astoren_3 rfl ?_
    refine p_iloadn_2 ?_
    refine p_tab (td := 76) (N := 3) (by decide) rfl (by decide) (fun i => if i = 0 then 56 else if i = 1 then 61 else if i = 2 then 66 else 71) (fun i hi => by rcases (show i = 0 ∨ i = 1 ∨ i = 2 ∨ i = 3 by omega) with rfl | rfl | rfl | rfl <;> exact ⟨_, rfl, by decide⟩) (fun hno => ?_) (fun i hi e => ?_)
    · rw [if_neg (hno 0 (by decide)), if_neg (hno 1 (by decide)), if_neg (hno 2 (by decide)), if_neg (hno 3 (by decide))]
      refine zK.blk rfl ?_
      refine p_iconst (v := -1) (by decide) ?_
      exact p_iret trivial rfl rfl
    · rcases (show i = 0 ∨ i = 1 ∨ i = 2 ∨ i = 3 by omega) with rfl | rfl | rfl | rfl
      · subst e
        rw [if_pos rfl]
        refine zK.blk rfl ?_
        refine p_aloadn_3 ?_
        refine p_geti (zlay_sg (by omega)) rfl ((hS _ (by omega)).1) ?_
        exact p_iret trivial rfl rfl
      · subst e
        rw [if_neg (by decide), if_pos rfl]
        refine zK.blk rfl ?_
        refine p_aloadn_3 ?_
        refine p_geti (zlay_sg (by omega)) rfl ((hS _ (by omega)).2.1) ?_
        exact p_iret trivial rfl rfl
      · subst e
        rw [if_neg (by decide), if_neg (by decide), if_pos rfl]
        refine zK.blk rfl ?_
        refine p_aloadn_3 ?_
        refine p_geti (zlay_sg (by omega)) rfl ((hS _ (by omega)).2.2.1) ?_
        exact p_iret trivial rfl rfl
      · subst e
        rw [if_neg (by decide), if_neg (by decide), if_neg (by decide), if_pos rfl]
        refine zK.blk rfl ?_
        refine p_aloadn_3 ?_
        refine p_geti (zlay_sg (by omega)) rfl ((hS _ (by omega)).2.2.2.2) ?_
        exact p_iret trivial rfl rfl
  · skip
    rw [if_neg (by rw [hc8]; decide)]
    refine p_iconst (v := -1) (by decide) ?_
    exact p_iret trivial rfl rfl
set_option maxRecDepth 100000 in
set_option maxHeartbeats 4000000 in
theorem c_95 {sc : Nat × (Nat → Int32)} {d : Nat} {M : zM} {n : Nat} {P T K : Nat → Nat} {x w : Int32} (hsm : sgM M n P T K) : zC 47 sc (d + 2) 95 [.ref 33, .int x, .int w] M (some (.int (fAbout P T K n x w))) (M) := by
  obtain ⟨hth, hm, hn6, hR, hT⟩ := id hsm
  unfold fAbout
  refine z_enter (L := [.ref 33, .int x, .int w]) rfl rfl rfl ?_
  refine zK.blk rfl ?_
  refine p_aloadn_0 ?_
  refine p_iconst (v := nI 0) (by decide) ?_
  refine p_put rfl rfl (by simp) ?_
  rw [zup_id hth]
  refine p_iloadn_1 ?_
  refine p_iconst (v := nI 0) (by decide) ?_
  refine p_aloadn_0 ?_
  refine p_geti rfl rfl (hm) ?_
  refine p_iconst (v := nI 1) (by decide) ?_
  refine p_isub ?_
  refine p_cs3i rfl rfl rfl rfl rfl (c_89) ?_
  rw [zin_has (by omega)]
  refine p_ifB_eq (tgt := 28) (by decide) (fun hc16 => ?_) (fun hc16 => ?_)
  · skip
    rw [if_neg (by rw [hc16]; decide)]
    refine zK.blk rfl ?_
    refine p_iconst (v := -1) (by decide) ?_
    exact p_iret trivial rfl rfl
  · skip
    rw [if_pos hc16]
    obtain ⟨i, hi, rfl⟩ := zhas_x (by omega) hc16
    rw [nI_clamp (by omega)]
    have hP := hR i hi
    have hkk := kb_km (P i) hP.1 (T i) hP.2.1
    refine p_iloadn_2 ?_
    refine p_iconst (v := nI 0) (by decide) ?_
    refine p_iconst (v := nI 3) (by decide) ?_
    refine p_cs3i rfl rfl rfl rfl rfl (c_89) ?_
    refine p_ifB_ne (tgt := 30) (by decide) (fun hc25 => ?_) (fun hc25 => ?_)
    · skip
      obtain ⟨w0, hw0, rfl⟩ := zin_x (by decide) hc25
      rw [hkk.1]
      refine zK.blk rfl ?_
      refine p_iloadn_2 ?_
      refine p_ifN_ne (tgt := 43) (by decide) (by omega) (fun hc31 => ?_) (fun hc31 => ?_)
      · skip
        rw [if_neg (fun z => hc31 ((nI_eq (by omega) (by decide)).mp z))]
        refine zK.blk rfl ?_
        refine p_iloadn_2 ?_
        refine p_iconst (v := nI 1) (by decide) ?_
        refine p_icmpN_ne (tgt := 57) (by decide) (by omega) (by omega) (fun hc45 => ?_) (fun hc45 => ?_)
        · skip
          rw [if_neg (fun z => hc45 ((nI_eq (by omega) (by decide)).mp z))]
          refine zK.blk rfl ?_
          refine p_iloadn_2 ?_
          refine p_iconst (v := nI 2) (by decide) ?_
          refine p_icmpN_ne (tgt := 71) (by decide) (by omega) (by omega) (fun hc59 => ?_) (fun hc59 => ?_)
          · skip
            rw [if_neg (fun z => hc59 ((nI_eq (by omega) (by decide)).mp z)), if_pos (by rw [show w0 = 3 by omega])]
            refine zK.blk rfl ?_
            refine p_aloadn_0 ?_
            refine p_getr rfl rfl ?_
            refine p_iloadn_1 ?_
            refine p_iald rfl (by omega) (by decide) ((hT _ (by omega)).1) ?_
            refine p_aloadn_0 ?_
            refine p_getr rfl rfl ?_
            refine p_iloadn_1 ?_
            refine p_iald rfl (by omega) (by decide) ((hT _ (by omega)).2.1) ?_
            refine p_cs2i rfl rfl rfl rfl rfl (c_94 hP.1 hP.2.1) ?_
            refine zK.blk rfl ?_
            exact p_iret trivial rfl rfl
          · skip
            rw [if_pos (by rw [show w0 = 2 by omega])]
            refine p_aloadn_0 ?_
            refine p_getr rfl rfl ?_
            refine p_iloadn_1 ?_
            refine p_iald rfl (by omega) (by decide) ((hT _ (by omega)).2.2) ?_
            refine p_goto (tgt := 86) (by decide) ?_
            refine zK.blk rfl ?_
            exact p_iret trivial rfl rfl
        · skip
          rw [if_pos (by rw [show w0 = 1 by omega])]
          refine p_aloadn_0 ?_
          refine p_getr rfl rfl ?_
          refine p_iloadn_1 ?_
          refine p_iald rfl (by omega) (by decide) ((hT _ (by omega)).2.1) ?_
          refine p_goto (tgt := 86) (by decide) ?_
          refine zK.blk rfl ?_
          exact p_iret trivial rfl rfl
      · skip
        rw [if_pos (by rw [show w0 = 0 by omega])]
        refine p_aloadn_0 ?_
        refine p_getr rfl rfl ?_
        refine p_iloadn_1 ?_
        refine p_iald rfl (by omega) (by decide) ((hT _ (by omega)).1) ?_
        refine p_goto (tgt := 86) (by decide) ?_
        refine zK.blk rfl ?_
        exact p_iret trivial rfl rfl
    · skip
      rw [if_neg (zin_no (by decide) hc25 (by decide)), if_neg (zin_no (by decide) hc25 (by decide)), if_neg (zin_no (by decide) hc25 (by decide)), if_neg (zin_no (by decide) hc25 (by decide))]
      refine zK.blk rfl ?_
      refine p_iconst (v := -1) (by decide) ?_
      exact p_iret trivial rfl rfl
set_option maxRecDepth 100000 in
set_option maxHeartbeats 4000000 in
theorem c_80 {sc : Nat × (Nat → Int32)} {d : Nat} {M : zM} {n : Nat} {P T K : Nat → Nat} {len : Nat} {w : Int32} (hsg : sgC M n P T K) (hln : M 24 1 = nI len) : zC 47 sc (d + 2) 80 [.ref 0, .int w] M (some (.int (fCount P n len w))) (M) := by
  obtain ⟨hn6, hn, hR, hS⟩ := id hsg
  unfold fCount
  refine z_enter (L := [.ref 0, .int w]) rfl rfl rfl ?_
  refine zK.blk rfl ?_
  refine p_iloadn_1 ?_
  refine p_tab (td := 52) (N := 2) (by decide) rfl (by decide) (fun i => if i = 0 then 28 else if i = 1 then 36 else 44) (fun i hi => by rcases (show i = 0 ∨ i = 1 ∨ i = 2 by omega) with rfl | rfl | rfl <;> exact ⟨_, rfl, by decide⟩) (fun hno => ?_) (fun i hi e => ?_)
  · rw [if_neg (hno 0 (by decide)), if_neg (hno 1 (by decide)), if_neg (hno 2 (by decide))]
    refine zK.blk rfl ?_
    refine p_iconst (v := -1) (by decide) ?_
    exact p_iret trivial rfl rfl
  · rcases (show i = 0 ∨ i = 1 ∨ i = 2 by omega) with rfl | rfl | rfl
    · subst e
      rw [if_pos rfl]
      refine zK.blk rfl ?_
      refine p_aloadn_0 ?_
      refine p_getr rfl rfl ?_
      refine p_geti rfl rfl (hn) ?_
      exact p_iret trivial rfl rfl
    · subst e
      rw [if_neg (by decide), if_pos rfl]
      refine zK.blk rfl ?_
      refine p_aloadn_0 ?_
      refine p_getr rfl rfl ?_
      refine p_cv0i rfl rfl rfl rfl rfl (c_27 hsg) ?_
      exact p_iret trivial rfl rfl
    · subst e
      rw [if_neg (by decide), if_neg (by decide), if_pos rfl]
      refine zK.blk rfl ?_
      refine p_aloadn_0 ?_
      refine p_getr rfl rfl ?_
      refine p_geti rfl rfl (hln) ?_
      exact p_iret trivial rfl rfl
set_option maxRecDepth 100000 in
set_option maxHeartbeats 4000000 in
theorem lp_136_9 {sc : Nat × (Nat → Int32)} {d : Nat} {M : zM} {r : Option Value} {M' : zM} {n : Nat} {P T K : Nat → Nat} {w : Int32} (hsm : sgM M n P T K) : ∀ (j i v : Nat), i + j = n → zK 47 sc (zC 47 sc (d + 1)) 136 r M' 41 [.ref 33, .int w, .int (nI (zfor (o3F P) j i v)), .int (nI n)] [] (M) → zK 47 sc (zC 47 sc (d + 1)) 136 r M' 9 [.ref 33, .int w, .int (nI v), .int (nI i)] [] (M) := by
  intro j
  induction j with
  | zero =>
    intro i v  hj hk
    obtain rfl : i = n := by omega
    obtain ⟨hth, hm, hn6, hR, hT⟩ := id hsm
    refine zK.blk rfl ?_
    refine p_iloadn_3 ?_
    refine p_aloadn_0 ?_
    refine p_geti rfl rfl (hm) ?_
    refine p_icmpN_ge (tgt := 41) (by decide) (by omega) (by omega) (fun hc14 => ?_) (fun hc14 => ?_)
    · skip
      exact hk
    · skip
      exact absurd hc14 (by omega) --STOP
  | succ j ih =>
    intro i v  hj hk
    obtain ⟨hth, hm, hn6, hR, hT⟩ := id hsm
    have hP := hR i (by omega)
    refine zK.blk rfl ?_
    refine p_iloadn_3 ?_
    refine p_aloadn_0 ?_
    refine p_geti rfl rfl (hm) ?_
    refine p_icmpN_ge (tgt := 41) (by decide) (by omega) (by omega) (fun hc14 => ?_) (fun hc14 => ?_)
    · skip
      exact absurd hc14 (by omega) --STOP
    · skip
      refine p_iloadn_2 ?_
      refine p_aloadn_0 ?_
      refine p_getr rfl rfl ?_
      refine p_iloadn_3 ?_
      refine p_iald rfl (by omega) (by decide) ((hT _ (by omega)).1) ?_
      refine p_iconst (v := nI 3) (by decide) ?_
      refine p_icmpN_ne (tgt := 32) (by decide) (by omega) (by omega) (fun hc25 => ?_) (fun hc25 => ?_)
      · skip
        rw [zfor_step (f := o3F P) (a' := v + 0) (by unfold o3F; rw [if_neg hc25]; rfl)] at hk
        refine zK.blk rfl ?_
        refine p_iconst (v := nI 0) (by decide) ?_
        refine zK.blk rfl ?_
        refine p_iaddN ?_
        refine p_istoren_2 rfl ?_
        refine p_iinc_3 (zN_inc _ 1) rfl ?_
        refine p_goto (tgt := 9) (by decide) ?_
        exact ih _ _ (by omega) hk
      · skip
        rw [zfor_step (f := o3F P) (a' := v + 1) (by unfold o3F; rw [if_pos (by omega)])] at hk
        refine p_iconst (v := nI 1) (by decide) ?_
        refine p_goto (tgt := 33) (by decide) ?_
        refine zK.blk rfl ?_
        refine p_iaddN ?_
        refine p_istoren_2 rfl ?_
        refine p_iinc_3 (zN_inc _ 1) rfl ?_
        refine p_goto (tgt := 9) (by decide) ?_
        exact ih _ _ (by omega) hk
set_option maxRecDepth 100000 in
set_option maxHeartbeats 4000000 in
theorem c_136 {sc : Nat × (Nat → Int32)} {d : Nat} {M : zM} {n : Nat} {P T K : Nat → Nat} {len : Nat} {w : Int32} (hsm : sgM M n P T K) (hty : M 33 10 = nI len) : zC 47 sc (d + 2) 136 [.ref 33, .int w] M (some (.int (fCount P n len w))) (M) := by
  obtain ⟨hth, hm, hn6, hR, hT⟩ := id hsm
  unfold fCount
  refine z_enter (L := [.ref 33, .int w, .null, .null]) rfl rfl rfl ?_
  refine zK.blk rfl ?_
  refine p_aloadn_0 ?_
  refine p_iconst (v := nI 0) (by decide) ?_
  refine p_put rfl rfl (by simp) ?_
  rw [zup_id hth]
  refine p_iconst (v := nI 0) (by decide) ?_
  refine p_istoren_2 rfl ?_
  refine p_iconst (v := nI 0) (by decide) ?_
  refine p_istoren_3 rfl ?_
  refine lp_136_9 hsm n 0 0 (by omega) ?_
  refine zK.blk rfl ?_
  refine p_iloadn_1 ?_
  refine p_if_ne (tgt := 52) (by decide) (fun hc42 => ?_) (fun hc42 => ?_)
  · skip
    rw [if_neg (show ¬ w = nI 0 from hc42)]
    refine zK.blk rfl ?_
    refine p_iloadn_1 ?_
    refine p_iconst (v := nI 1) (by decide) ?_
    refine p_icmp_ne (tgt := 61) (by decide) (fun hc54 => ?_) (fun hc54 => ?_)
    · skip
      rw [if_neg hc54]
      refine zK.blk rfl ?_
      refine p_iloadn_1 ?_
      refine p_iconst (v := nI 2) (by decide) ?_
      refine p_icmp_ne (tgt := 73) (by decide) (fun hc63 => ?_) (fun hc63 => ?_)
      · skip
        rw [if_neg hc63]
        refine zK.blk rfl ?_
        refine p_iconst (v := -1) (by decide) ?_
        refine zK.blk rfl ?_
        exact p_iret trivial rfl rfl
      · skip
        rw [if_pos (Classical.not_not.mp hc63)]
        refine p_aloadn_0 ?_
        refine p_geti rfl rfl (hty) ?_
        refine p_goto (tgt := 74) (by decide) ?_
        refine zK.blk rfl ?_
        exact p_iret trivial rfl rfl
    · skip
      rw [if_pos (Classical.not_not.mp hc54)]
      refine p_iloadn_2 ?_
      refine p_goto (tgt := 74) (by decide) ?_
      refine zK.blk rfl ?_
      exact p_iret trivial rfl rfl
  · skip
    rw [if_pos (show w = nI 0 from Classical.not_not.mp hc42)]
    refine p_aloadn_0 ?_
    refine p_geti rfl rfl (hm) ?_
    refine p_goto (tgt := 74) (by decide) ?_
    refine zK.blk rfl ?_
    exact p_iret trivial rfl rfl
theorem le_bits (P T : Nat → Nat) (q rows : Nat) : ∀ j i v, v < 2 ^ i → zfor (leF P T q rows) j i v < 2 ^ (i + j) ∧ (zfor (leF P T q rows) j i v = 2 ^ (i + j) - 1 ↔ (v = 2 ^ i - 1 ∧ zall (apF P T q rows) j i = true)) := by
  intro j
  induction j with
  | zero => intro i v h; exact ⟨h, by simp [zfor, zall]⟩
  | succ j ih =>
    intro i v h
    have hp : 0 < 2 ^ i := Nat.two_pow_pos i
    have hs : 2 ^ (i + 1) = 2 ^ i + 2 ^ i := by rw [Nat.pow_succ]; omega
    have e : i + (j + 1) = i + 1 + j := by omega
    rw [e]
    cases ha : apF P T q rows i with
    | true =>
      have hf : leF P T q rows i v = 2 ^ i + v := by
        unfold leF
        rw [ha, if_pos rfl, Nat.one_shiftLeft, Nat.or_comm]
        have := Nat.two_pow_add_eq_or_of_lt h 1
        rw [Nat.mul_one] at this
        exact this.symm
      obtain ⟨h1, h2⟩ := ih (i + 1) (2 ^ i + v) (by omega)
      rw [zfor_step hf, zall_t ha]
      refine ⟨h1, h2.trans ?_⟩
      constructor
      · rintro ⟨a, b⟩; exact ⟨by omega, b⟩
      · rintro ⟨a, b⟩; exact ⟨by omega, b⟩
    | false =>
      have hf : leF P T q rows i v = v := by
        unfold leF
        rw [ha, if_neg (by decide), Nat.or_zero]
      obtain ⟨h1, h2⟩ := ih (i + 1) v (by omega)
      rw [zfor_step hf, zall_f ha]
      refine ⟨h1, h2.trans ?_⟩
      constructor
      · rintro ⟨a, b⟩; omega
      · rintro ⟨a, b⟩; cases b
theorem le_ap (P T : Nat → Nat) (n q rows : Nat) : leN P T n q rows < 2 ^ n ∧ (leN P T n q rows = 1 <<< n - 1 ↔ apN P T n q rows = true) := by
  have h := le_bits P T q rows n 0 0 (by decide)
  rw [Nat.zero_add] at h
  refine ⟨h.1, ?_⟩
  rw [Nat.one_shiftLeft]
  exact h.2.trans ⟨fun z => z.2, fun z => ⟨rfl, z⟩⟩
theorem pcF_le (P T : Nat → Nat) (n q : Nat) : ∀ j i v, zfor (pcF P T n q) j i v ≤ v + j := by
  intro j
  induction j with
  | zero => intro i v; exact Nat.le_refl _
  | succ j ih =>
    intro i v
    have h1 := ih (i + 1) (pcF P T n q i v)
    have h2 : pcF P T n q i v ≤ v + 1 := by unfold pcF; split <;> omega
    show zfor (pcF P T n q) j (i + 1) (pcF P T n q i v) ≤ _
    omega
theorem pcN_le {P T : Nat → Nat} {n q : Nat} (hq : q < 4) : pcN P T n q ≤ 256 := by
  have h1 := pcF_le P T n q (z22 q) 0 0
  have h2 := z22_lt hq
  unfold pcN
  omega
theorem zcnt_x {x : Int32} (h : zcnt x = true) : ∃ q, 1 ≤ q ∧ q < 4 ∧ x = nI q := by
  unfold zcnt at h
  simp only [Bool.and_eq_true, decide_eq_true_eq] at h
  have h0 : ¬ x < 0 := fun z => h.1 (Int32.lt_trans z (by decide))
  obtain ⟨p, hp, rfl⟩ := nI_of2 (M := nI 3) (n := 3) (by decide) h0 (Int32.not_lt.mp h.2)
  exact ⟨p, by have h2 := h.1; rw [nI_ltI (by omega) (by decide)] at h2; omega, by omega, rfl⟩
def fKept (P T : Nat → Nat) (n : Nat) (x : Int32) : Int32 := if zcnt x = true then nI (pcN P T n x.toNatClampNeg) else -1
theorem nI_nm1 {a : Nat} (h : a < 2 ^ 31) : ¬ nI a = -1 := by
  intro e
  have := nI_toInt h
  rw [e] at this
  have e1 : (-1 : Int32).toInt = -1 := by decide
  omega
set_option maxRecDepth 100000 in
set_option maxHeartbeats 4000000 in
theorem c_73a {sc : Nat × (Nat → Int32)} {d : Nat} {M : zM} {n : Nat} {P T K : Nat → Nat} {q : Nat} (hsg : sgC M n P T K) (hq1 : 1 ≤ q) (hq : q < 4) (hv : M 32 q = nI (pcN P T n q)) : zC 47 sc (d + 7) 73 [.ref 0, .int (nI q)] M (some (.int (nI (pcN P T n q)))) (M) := by
  have hle := pcN_le (P := P) (T := T) (n := n) hq
  have hzc : zcnt (nI q) = true := by unfold zcnt; rw [decide_eq_true (nI_nlt (by omega) (by omega)), decide_eq_true (nI_nlt (by omega) (by decide))]; rfl
  refine z_enter (L := [.ref 0, .int (nI q)]) rfl rfl rfl ?_
  refine zK.blk rfl ?_
  refine p_iloadn_1 ?_
  refine p_cs1i rfl rfl rfl rfl rfl (c_82) ?_
  refine p_ifB_ne (tgt := 9) (by decide) (fun hc4 => ?_) (fun hc4 => ?_)
  · skip
    refine zK.blk rfl ?_
    refine p_aloadn_0 ?_
    refine p_getr rfl rfl ?_
    refine p_iloadn_1 ?_
    refine p_iald rfl (by omega) (by decide) (hv) ?_
    refine p_iconst (v := -1) (by decide) ?_
    refine p_icmp_ne (tgt := 33) (by decide) (fun hc16 => ?_) (fun hc16 => ?_)
    · skip
      refine zK.blk rfl ?_
      refine p_aloadn_0 ?_
      refine p_getr rfl rfl ?_
      refine p_iloadn_1 ?_
      refine p_iald rfl (by omega) (by decide) (hv) ?_
      exact p_iret trivial rfl rfl
    · skip
      exact absurd hc16 (fun z => z (nI_nm1 (by omega))) --STOP
  · skip
    rw [hzc] at hc4; cases hc4 --STOP
set_option maxRecDepth 100000 in
set_option maxHeartbeats 4000000 in
theorem c_73b {sc : Nat × (Nat → Int32)} {d : Nat} {M : zM} {n : Nat} {P T K : Nat → Nat} {q : Nat} (hsg : sgC M n P T K) (hq1 : 1 ≤ q) (hq : q < 4) (hv : M 32 q = -1) : zC 47 sc (d + 7) 73 [.ref 0, .int (nI q)] M (some (.int (nI (pcN P T n q)))) (zup M 32 q (nI (pcN P T n q))) := by
  have hle := pcN_le (P := P) (T := T) (n := n) hq
  have hzc : zcnt (nI q) = true := by unfold zcnt; rw [decide_eq_true (nI_nlt (by omega) (by omega)), decide_eq_true (nI_nlt (by omega) (by decide))]; rfl
  refine z_enter (L := [.ref 0, .int (nI q)]) rfl rfl rfl ?_
  refine zK.blk rfl ?_
  refine p_iloadn_1 ?_
  refine p_cs1i rfl rfl rfl rfl rfl (c_82) ?_
  refine p_ifB_ne (tgt := 9) (by decide) (fun hc4 => ?_) (fun hc4 => ?_)
  · skip
    refine zK.blk rfl ?_
    refine p_aloadn_0 ?_
    refine p_getr rfl rfl ?_
    refine p_iloadn_1 ?_
    refine p_iald rfl (by omega) (by decide) hv ?_
    refine p_iconst (v := -1) (by decide) ?_
    refine p_icmp_ne (tgt := 33) (by decide) (fun hc16 => ?_) (fun hc16 => ?_)
    · skip
      exact absurd rfl hc16 --STOP
    · skip
      refine p_aloadn_0 ?_
      refine p_getr rfl rfl ?_
      refine p_iloadn_1 ?_
      refine p_aloadn_0 ?_
      refine p_getr rfl rfl ?_
      refine p_iloadn_1 ?_
      refine p_cv1i rfl rfl rfl rfl rfl (c_32 hsg hq) ?_
      refine p_iast rfl (by omega) (by decide) ?_
      refine zK.blk rfl ?_
      refine p_aloadn_0 ?_
      refine p_getr rfl rfl ?_
      refine p_iloadn_1 ?_
      refine p_iald (v := nI (pcN P T n q)) rfl (by omega) (by decide) (by simp [zup]) ?_
      exact p_iret trivial rfl rfl
  · skip
    rw [hzc] at hc4; cases hc4 --STOP
set_option maxRecDepth 100000 in
set_option maxHeartbeats 4000000 in
theorem c_73c {sc : Nat × (Nat → Int32)} {d : Nat} {M : zM} {x : Int32} (hx : zcnt x = false) : zC 47 sc (d + 7) 73 [.ref 0, .int x] M (some (.int (-1))) (M) := by
  refine z_enter (L := [.ref 0, .int x]) rfl rfl rfl ?_
  refine zK.blk rfl ?_
  refine p_iloadn_1 ?_
  refine p_cs1i rfl rfl rfl rfl rfl (c_82) ?_
  refine p_ifB_ne (tgt := 9) (by decide) (fun hc4 => ?_) (fun hc4 => ?_)
  · skip
    rw [hx] at hc4; cases hc4 --STOP
  · skip
    refine p_iconst (v := -1) (by decide) ?_
    exact p_iret trivial rfl rfl
set_option maxRecDepth 100000 in
set_option maxHeartbeats 4000000 in
theorem lp_124_20 {sc : Nat × (Nat → Int32)} {d : Nat} {M : zM} {r : Option Value} {M' : zM} {n : Nat} {P T K : Nat → Nat} {q : Nat} (hsm : sgM M n P T K) (hq : q < 4) : ∀ (j i v : Nat), i + j = z22 q → zK 47 sc (zC 47 sc (d + 4)) 124 r M' 59 [.ref 33, .int (nI q), .int (nI (zfor (pcF P T n q) j i v)), .int (nI (z22 q))] [] (M) → zK 47 sc (zC 47 sc (d + 4)) 124 r M' 20 [.ref 33, .int (nI q), .int (nI v), .int (nI i)] [] (M) := by
  intro j
  induction j with
  | zero =>
    intro i v  hj hk
    have hin : i = z22 q := by omega
    subst hin
    have hz := z22_lt hq
    refine zK.blk rfl ?_
    refine p_iloadn_3 ?_
    refine p_iloadn_1 ?_
    refine p_cs1i rfl rfl rfl rfl rfl (c_91 hq) ?_
    refine p_icmpN_ge (tgt := 59) (by decide) (by omega) (by omega) (fun hc25 => ?_) (fun hc25 => ?_)
    · skip
      exact hk
    · skip
      exact absurd hc25 (by omega) --STOP
  | succ j ih =>
    intro i v  hj hk
    obtain ⟨hth, hm, hn6, hR, hT⟩ := id hsm
    have hz := z22_lt hq
    have h1 := z1n_lt hn6
    have hla := le_ap P T n q i
    have h64 : 2 ^ n ≤ 64 := by have h9 := h1.2; rw [Nat.one_shiftLeft] at h9; exact h9
    refine zK.blk rfl ?_
    refine p_iloadn_3 ?_
    refine p_iloadn_1 ?_
    refine p_cs1i rfl rfl rfl rfl rfl (c_91 hq) ?_
    refine p_icmpN_ge (tgt := 59) (by decide) (by omega) (by omega) (fun hc25 => ?_) (fun hc25 => ?_)
    · skip
      exact absurd hc25 (by omega) --STOP
    · skip
      refine p_iloadn_2 ?_
      refine p_aloadn_0 ?_
      refine p_iloadn_1 ?_
      refine p_iloadn_3 ?_
      refine p_cv2i rfl rfl rfl rfl rfl (c_120 hsm hq (by omega)) ?_
      refine p_iconst (v := nI 1) (by decide) ?_
      refine p_aloadn_0 ?_
      refine p_geti rfl rfl (hm) ?_
      refine p_ishlN (by omega) ?_
      refine p_iconst (v := nI 1) (by decide) ?_
      refine p_isubN (by omega) ?_
      refine p_icmpN_ne (tgt := 50) (by decide) (by omega) (by omega) (fun hc43 => ?_) (fun hc43 => ?_)
      · skip
        rw [zfor_step (f := pcF P T n q) (a' := v + 0) (by unfold pcF; rw [if_neg (fun z => hc43 (hla.2.mpr z))]; rfl)] at hk
        refine zK.blk rfl ?_
        refine p_iconst (v := nI 0) (by decide) ?_
        refine zK.blk rfl ?_
        refine p_iaddN ?_
        refine p_istoren_2 rfl ?_
        refine p_iinc_3 (zN_inc _ 1) rfl ?_
        refine p_goto (tgt := 20) (by decide) ?_
        exact ih _ _ (by omega) hk
      · skip
        rw [zfor_step (f := pcF P T n q) (a' := v + 1) (by unfold pcF; rw [if_pos (hla.2.mp (by omega))])] at hk
        refine p_iconst (v := nI 1) (by decide) ?_
        refine p_goto (tgt := 51) (by decide) ?_
        refine zK.blk rfl ?_
        refine p_iaddN ?_
        refine p_istoren_2 rfl ?_
        refine p_iinc_3 (zN_inc _ 1) rfl ?_
        refine p_goto (tgt := 20) (by decide) ?_
        exact ih _ _ (by omega) hk
set_option maxRecDepth 100000 in
set_option maxHeartbeats 4000000 in
theorem c_124 {sc : Nat × (Nat → Int32)} {d : Nat} {M : zM} {n : Nat} {P T K : Nat → Nat} {x : Int32} (hsm : sgM M n P T K) : zC 47 sc (d + 5) 124 [.ref 33, .int x] M (some (.int (fKept P T n x))) (M) := by
  obtain ⟨hth, hm, hn6, hR, hT⟩ := id hsm
  unfold fKept
  refine z_enter (L := [.ref 33, .int x, .null, .null]) rfl rfl rfl ?_
  refine zK.blk rfl ?_
  refine p_aloadn_0 ?_
  refine p_iconst (v := nI 0) (by decide) ?_
  refine p_put rfl rfl (by simp) ?_
  rw [zup_id hth]
  refine p_iloadn_1 ?_
  refine p_iconst (v := nI 1) (by decide) ?_
  refine p_iconst (v := nI 3) (by decide) ?_
  refine p_cs3i rfl rfl rfl rfl rfl (c_89) ?_
  refine p_ifB_ne (tgt := 16) (by decide) (fun hc11 => ?_) (fun hc11 => ?_)
  · skip
    rw [if_pos (show zcnt x = true from hc11)]
    obtain ⟨q, hq1, hq, rfl⟩ := zcnt_x hc11
    rw [nI_clamp (by omega)]
    refine zK.blk rfl ?_
    refine p_iconst (v := nI 0) (by decide) ?_
    refine p_istoren_2 rfl ?_
    refine p_iconst (v := nI 0) (by decide) ?_
    refine p_istoren_3 rfl ?_
    refine lp_124_20 hsm hq (z22 q) 0 0 (by omega) ?_
    refine zK.blk rfl ?_
    refine p_iloadn_2 ?_
    exact p_iret trivial rfl rfl
  · skip
    rw [if_neg (by rw [show zcnt x = false from hc11]; decide)]
    refine p_iconst (v := -1) (by decide) ?_
    exact p_iret trivial rfl rfl
end
section
def cb8 (v i : Nat) : Nat := bif v.testBit i then 1 else 0
def cnt8 (v : Nat) : Nat := cb8 v 0 + cb8 v 1 + cb8 v 2 + cb8 v 3 + cb8 v 4 + cb8 v 5 + cb8 v 6 + cb8 v 7
theorem cb_or (v w i : Nat) : cb8 v i ≤ cb8 (v ||| w) i := by
  unfold cb8
  rw [Nat.testBit_or]
  cases v.testBit i <;> cases w.testBit i <;> decide
theorem cnt_up (v : Nat) (hv : v < 256) (w : Nat) (hw : w < 256) : v ||| w = v ∨ cnt8 v < cnt8 (v ||| w) := by
  by_cases h : ∀ i, i < 8 → cb8 (v ||| w) i = cb8 v i
  · refine Or.inl (Nat.eq_of_testBit_eq (fun i => ?_))
    by_cases hi : i < 8
    · have := h i hi
      unfold cb8 at this
      cases h1 : (v ||| w).testBit i <;> cases h2 : v.testBit i <;> rw [h1, h2] at this <;> first | rfl | (exact absurd this (by decide))
    · have h8 : 2 ^ 8 ≤ 2 ^ i := Nat.pow_le_pow_right (by decide) (by omega)
      rw [Nat.testBit_or, Nat.testBit_lt_two_pow (x := v) (by omega), Nat.testBit_lt_two_pow (x := w) (by omega)]
      rfl
  · refine Or.inr ?_
    have e := fun i => cb_or v w i
    have e0 := e 0; have e1 := e 1; have e2 := e 2; have e3 := e 3; have e4 := e 4; have e5 := e 5; have e6 := e 6; have e7 := e 7
    unfold cnt8
    apply Classical.byContradiction
    intro hn
    apply h
    intro i hi
    rcases (show i = 0 ∨ i = 1 ∨ i = 2 ∨ i = 3 ∨ i = 4 ∨ i = 5 ∨ i = 6 ∨ i = 7 by omega) with rfl | rfl | rfl | rfl | rfl | rfl | rfl | rfl <;> omega
theorem cnt_le : ∀ q, q < 4 → ∀ v, v < z22 q → cnt8 v ≤ 1 <<< q := by decide +kernel
theorem z22_pow (q : Nat) : z22 q = 2 ^ (1 <<< q) := Nat.one_shiftLeft _
theorem trN_lt2 {p w q rows : Nat} (hq : q < 4) : trN p w q rows < z22 q := by
  have hs := zsh_lt hq
  rw [z22_pow]
  have hl : 1 <<< q - 1 < 1 <<< q := by omega
  unfold trN trM
  refine zor_lt (fun a => ?_) _ _
  generalize (if 0 < p then rows else 1) = fi
  generalize (if 1 < p then rows else 1) = se
  generalize (if 2 < p then rows else 1) = th
  unfold trG
  split
  · refine zor_lt (fun b => ?_) _ _
    unfold trG1
    split
    · refine zor_lt (fun c => ?_) _ _
      unfold prG
      split
      · rw [Nat.one_shiftLeft]; exact Nat.pow_lt_pow_right (by decide) (zand_r _ hl)
      · exact Nat.two_pow_pos _
    · exact Nat.two_pow_pos _
  · exact Nat.two_pow_pos _
theorem gp_or {P T : Nat → Nat} {q : Nat} (hq : q < 4) : ∀ j i v, ∃ w, w < z22 q ∧ zfor (gpF P T q) j i v = v ||| w := by
  intro j
  induction j with
  | zero => intro i v; exact ⟨0, by have := z22_lt hq; omega, (Nat.or_zero v).symm⟩
  | succ j ih =>
    intro i v
    obtain ⟨w, h1, h2⟩ := ih (i + 1) (gpF P T q i v)
    refine ⟨trN (P i) (T i * zrep (P i)) q v ||| w, ?_, ?_⟩
    · have := trN_lt2 (p := P i) (w := T i * zrep (P i)) (rows := v) hq
      rw [z22_pow] at h1 this ⊢
      exact Nat.or_lt_two_pow this h1
    · show zfor (gpF P T q) j (i + 1) (gpF P T q i v) = _
      rw [h2]
      unfold gpF
      rw [Nat.or_assoc]
theorem gp_lt {P T : Nat → Nat} {n q v : Nat} (hq : q < 4) (hv : v < z22 q) : gpN P T n q v < z22 q ∧ (gpN P T n q v = v ∨ cnt8 v < cnt8 (gpN P T n q v)) := by
  obtain ⟨w, h1, h2⟩ := gp_or (P := P) (T := T) hq n 0 v
  have hz := z22_lt hq
  unfold gpN
  rw [h2]
  exact ⟨by rw [z22_pow] at h1 hv ⊢; exact Nat.or_lt_two_pow hv h1, cnt_up v (by omega) w (by omega)⟩
theorem gr_step {P T : Nat → Nat} {n q j v : Nat} : grN P T n q (j + 1) v = if gpN P T n q v = v then v else grN P T n q j (gpN P T n q v) := rfl
theorem gr_fix {P T : Nat → Nat} {n q v : Nat} (h : gpN P T n q v = v) : ∀ j, grN P T n q j v = v := by
  intro j
  cases j with
  | zero => rfl
  | succ j => rw [gr_step, if_pos h]
theorem gr_more {P T : Nat → Nat} {n q : Nat} (hq : q < 4) : ∀ j v, v < z22 q → 1 <<< q ≤ cnt8 v + j → grN P T n q (j + 1) v = grN P T n q j v := by
  intro j
  induction j with
  | zero =>
    intro v hv h
    have hg := gp_lt (P := P) (T := T) (n := n) hq hv
    have hc := cnt_le q hq _ hg.1
    rw [gr_step, if_pos (by rcases hg.2 with e | e; exact e; omega)]
    rfl
  | succ j ih =>
    intro v hv h
    have hg := gp_lt (P := P) (T := T) (n := n) hq hv
    rw [gr_step (j := j + 1), gr_step (j := j) (v := v)]
    by_cases e : gpN P T n q v = v
    · rw [if_pos e, if_pos e]
    · rw [if_neg e, if_neg e]
      exact ih _ hg.1 (by rcases hg.2 with z | z; exact absurd z e; omega)
theorem gr_9 {P T : Nat → Nat} {n q v : Nat} (hq : q < 4) (hv : v < z22 q) : grN P T n q 9 v = grN P T n q (1 <<< q) v := by
  have hs := zsh_lt hq
  have key : ∀ k, grN P T n q (1 <<< q + k) v = grN P T n q (1 <<< q) v := by
    intro k
    induction k with
    | zero => rfl
    | succ k ih => rw [← ih]; exact gr_more hq (1 <<< q + k) v hv (by omega)
  have := key (9 - 1 <<< q)
  rwa [show 1 <<< q + (9 - 1 <<< q) = 9 by omega] at this
def fAround (P T : Nat → Nat) (n : Nat) (y z : Int32) : Int32 := if zrl y z = true then nI (grN P T n y.toNatClampNeg (1 <<< y.toNatClampNeg) z.toNatClampNeg) else -1
set_option maxRecDepth 100000 in
set_option maxHeartbeats 4000000 in
theorem c_71 {sc : Nat × (Nat → Int32)} {d : Nat} {M : zM} {n : Nat} {P T K : Nat → Nat} {y z : Int32} (hsg : sgC M n P T K) : zC 47 sc (d + 5) 71 [.ref 0, .int y, .int z] M (some (.int (fAround P T n y z))) (M) := by
  unfold fAround
  refine z_enter (L := [.ref 0, .int y, .int z]) rfl rfl rfl ?_
  refine zK.blk rfl ?_
  refine p_iloadn_1 ?_
  refine p_iloadn_2 ?_
  refine p_cs2i rfl rfl rfl rfl rfl (c_83) ?_
  refine p_ifB_eq (tgt := 20) (by decide) (fun hc5 => ?_) (fun hc5 => ?_)
  · skip
    rw [if_neg (by rw [hc5]; decide)]
    refine zK.blk rfl ?_
    refine p_iconst (v := -1) (by decide) ?_
    refine zK.blk rfl ?_
    exact p_iret trivial rfl rfl
  · skip
    rw [if_pos hc5]
    obtain ⟨q, t, hq1, hq, ht, rfl, rfl⟩ := zrl_x hc5
    have hz := z22_lt hq
    rw [nI_clamp (by omega), nI_clamp (by omega)]
    refine p_aloadn_0 ?_
    refine p_getr rfl rfl ?_
    refine p_iloadn_1 ?_
    refine p_iloadn_2 ?_
    refine p_cv2i rfl rfl rfl rfl rfl (c_33 hsg hq (by omega)) ?_
    refine p_goto (tgt := 21) (by decide) ?_
    refine zK.blk rfl ?_
    exact p_iret trivial rfl rfl
set_option maxRecDepth 100000 in
set_option maxHeartbeats 4000000 in
theorem lp_122_32 {sc : Nat × (Nat → Int32)} {d : Nat} {M : zM} {r : Option Value} {M' : zM} {n : Nat} {P T K : Nat → Nat} {q r0 b : Nat} (hsm : sgM M n P T K) (hq : q < 4) : ∀ (j i v : Nat), i + j = n → v < 2 ^ 8 → zK 47 sc (zC 47 sc (d + 2)) 122 r M' 69 [.ref 33, .int (nI q), .int (nI r0), .int (nI (zfor (gpF P T q) j i v)), .int (nI b), .int (nI n)] [] (M) → zK 47 sc (zC 47 sc (d + 2)) 122 r M' 32 [.ref 33, .int (nI q), .int (nI r0), .int (nI v), .int (nI b), .int (nI i)] [] (M) := by
  intro j
  induction j with
  | zero =>
    intro i v  hj hv hk
    obtain rfl : i = n := by omega
    obtain ⟨hth, hm, hn6, hR, hT⟩ := id hsm
    refine zK.blk rfl ?_
    refine p_iload_5 ?_
    refine p_aloadn_0 ?_
    refine p_geti rfl rfl (hm) ?_
    refine p_icmpN_ge (tgt := 69) (by decide) (by omega) (by omega) (fun hc38 => ?_) (fun hc38 => ?_)
    · skip
      exact hk
    · skip
      exact absurd hc38 (by omega) --STOP
  | succ j ih =>
    intro i v  hj hv hk
    obtain ⟨hth, hm, hn6, hR, hT⟩ := id hsm
    have hP := hR i (by omega)
    have hz := z22_lt hP.1
    have hmk := tr_mk (rows := v) hP.1 hP.2.1 hq
    refine zK.blk rfl ?_
    refine p_iload_5 ?_
    refine p_aloadn_0 ?_
    refine p_geti rfl rfl (hm) ?_
    refine p_icmpN_ge (tgt := 69) (by decide) (by omega) (by omega) (fun hc38 => ?_) (fun hc38 => ?_)
    · skip
      exact absurd hc38 (by omega) --STOP
    · skip
      refine p_iloadn_3 ?_
      refine p_aloadn_0 ?_
      refine p_getr rfl rfl ?_
      refine p_iload_5 ?_
      refine p_iald rfl (by omega) (by decide) ((hT _ (by omega)).1) ?_
      refine p_aloadn_0 ?_
      refine p_getr rfl rfl ?_
      refine p_iload_5 ?_
      refine p_iald rfl (by omega) (by decide) ((hT _ (by omega)).2.1) ?_
      refine p_iloadn_1 ?_
      refine p_iloadn_3 ?_
      refine p_cs4i rfl rfl rfl rfl rfl (c_117 hP.1 (by omega) hq (by omega)) ?_
      refine p_iorN ?_
      rw [← hmk]
      refine p_istoren_3 rfl ?_
      refine p_iinc_5 (zN_inc _ 1) rfl ?_
      refine p_goto (tgt := 32) (by decide) ?_
      exact ih _ _ (by omega) (Nat.or_lt_two_pow hv (trN_lt hq)) hk
set_option maxRecDepth 100000 in
set_option maxHeartbeats 4000000 in
theorem lp_122_20 {sc : Nat × (Nat → Int32)} {d : Nat} {M : zM} {n : Nat} {P T K : Nat → Nat} {q r0 : Nat} (hsm : sgM M n P T K) (hq : q < 4) : ∀ (j v b : Nat), v < z22 q → ¬ v = b → b < 2 ^ 31 → 1 <<< q - cnt8 v < j → zK 47 sc (zC 47 sc (d + 2)) 122 (some (.int (nI (grN P T n q j v)))) M 20 [.ref 33, .int (nI q), .int (nI r0), .int (nI v), .int (nI b), .null] [] M := by
  intro j
  induction j with
  | zero => intro v b hv hne hb h; omega
  | succ j ih =>
    intro v b hv hne hb h
    have hz := z22_lt hq
    have hs := zsh_lt hq
    have hg := gp_lt (P := P) (T := T) (n := n) hq hv
    have hcl := cnt_le q hq _ hg.1
    refine zK.blk rfl ?_
    refine p_iloadn_3 ?_
    refine p_iload_4 ?_
    refine p_icmpN_eq (tgt := 72) (by decide) (by omega) (by omega) (fun hc23 => ?_) (fun hc23 => ?_)
    · skip
      exact absurd hc23 hne --STOP
    · skip
      refine p_iloadn_3 ?_
      refine p_istore_4 rfl ?_
      refine p_iconst (v := nI 0) (by decide) ?_
      refine p_istore_5 rfl ?_
      refine lp_122_32 hsm hq n 0 v (by omega) (by omega) ?_
      have hgz : zfor (gpF P T q) n 0 v < z22 q := hg.1
      refine zK.blk rfl ?_
      refine p_goto (tgt := 20) (by decide) ?_
      by_cases e : gpN P T n q v = v
      · rw [gr_fix e, show zfor (gpF P T q) n 0 v = v from e]
        refine zK.blk rfl ?_
        refine p_iloadn_3 ?_
        refine p_iload_4 ?_
        refine p_icmpN_eq (tgt := 72) (by decide) (by omega) (by omega) (fun _ => ?_) (fun z => absurd rfl z)
        refine zK.blk rfl ?_
        refine p_iloadn_3 ?_
        exact p_iret trivial rfl rfl
      · rw [gr_step, if_neg e]
        refine zK.forget _ ?_ (ih (gpN P T n q v) v hg.1 e (by omega) (by rcases hg.2 with z | z; exact absurd z e; omega))
        exact ⟨Or.inl rfl, Or.inl rfl, Or.inl rfl, Or.inl rfl, Or.inl rfl, Or.inr rfl, trivial⟩
set_option maxRecDepth 100000 in
set_option maxHeartbeats 4000000 in
theorem c_122 {sc : Nat × (Nat → Int32)} {d : Nat} {M : zM} {n : Nat} {P T K : Nat → Nat} {y z : Int32} (hsm : sgM M n P T K) : zC 47 sc (d + 3) 122 [.ref 33, .int y, .int z] M (some (.int (fAround P T n y z))) (M) := by
  obtain ⟨hth, hm, hn6, hR, hT⟩ := id hsm
  unfold fAround
  refine z_enter (L := [.ref 33, .int y, .int z, .null, .null, .null]) rfl rfl rfl ?_
  refine zK.blk rfl ?_
  refine p_aloadn_0 ?_
  refine p_iconst (v := nI 0) (by decide) ?_
  refine p_put rfl rfl (by simp) ?_
  rw [zup_id hth]
  refine p_iloadn_1 ?_
  refine p_iloadn_2 ?_
  refine p_cs2i rfl rfl rfl rfl rfl (c_115) ?_
  refine p_ifB_ne (tgt := 15) (by decide) (fun hc10 => ?_) (fun hc10 => ?_)
  · skip
    rw [if_pos hc10]
    obtain ⟨q, v, hq1, hq, hv, rfl, rfl⟩ := zrl_x hc10
    have hz := z22_lt hq
    have hs := zsh_lt hq
    rw [nI_clamp (by omega), nI_clamp (by omega), ← gr_9 hq hv]
    have hg := gp_lt (P := P) (T := T) (n := n) hq hv
    have hcl := cnt_le q hq _ hg.1
    refine zK.blk rfl ?_
    refine p_iloadn_2 ?_
    refine p_istoren_3 rfl ?_
    refine p_iconst (v := -1) (by decide) ?_
    refine p_istore_4 rfl ?_
    refine zK.blk rfl ?_
    refine p_iloadn_3 ?_
    refine p_iload_4 ?_
    refine p_icmp_eq (tgt := 72) (by decide) (fun hc23 => ?_) (fun hc23 => ?_)
    · skip
      exact absurd hc23 (nI_nm1 (by omega)) --STOP
    · skip
      refine p_iloadn_3 ?_
      refine p_istore_4 rfl ?_
      refine p_iconst (v := nI 0) (by decide) ?_
      refine p_istore_5 rfl ?_
      refine lp_122_32 hsm hq n 0 v (by omega) (by omega) ?_
      have hgz : zfor (gpF P T q) n 0 v < z22 q := hg.1
      refine zK.blk rfl ?_
      refine p_goto (tgt := 20) (by decide) ?_
      by_cases e : gpN P T n q v = v
      · rw [gr_fix e, show zfor (gpF P T q) n 0 v = v from e]
        refine zK.blk rfl ?_
        refine p_iloadn_3 ?_
        refine p_iload_4 ?_
        refine p_icmpN_eq (tgt := 72) (by decide) (by omega) (by omega) (fun _ => ?_) (fun z => absurd rfl z)
        refine zK.blk rfl ?_
        refine p_iloadn_3 ?_
        exact p_iret trivial rfl rfl
      · rw [gr_step, if_neg e]
        refine zK.forget _ ?_ (lp_122_20 (r0 := v) hsm hq 8 (gpN P T n q v) v hg.1 e (by omega) (by rcases hg.2 with z | z; exact absurd z e; omega))
        exact ⟨Or.inl rfl, Or.inl rfl, Or.inl rfl, Or.inl rfl, Or.inl rfl, Or.inr rfl, trivial⟩
  · skip
    rw [if_neg (by rw [hc10]; decide)]
    refine p_iconst (v := -1) (by decide) ?_
    exact p_iret trivial rfl rfl
end
section
section ZPR
variable {NC : Nat} {sc : Nat × (Nat → Int32)} {C : Nat → List Value → zM → Option Value → zM → Prop} {J : Nat → List Value → List Value → zM → Prop} {fin : Option Value → zM → Prop} {np pc len a b t : Nat} {es : List zE} {L st : List Value} {M : zM}
theorem p_rlenN {k n : Nat} (h1 : zlay NC k = none) (hk : 100 ≤ k ∧ k ≤ 103) (hn : (zro sc k).1 = n) (h : zwp NC sc zinfo C J fin np es L (.int (nI n) :: st) M) : zwp NC sc zinfo C J fin np ((pc, .arraylength, len, a, b, t) :: es) L (.ref k :: st) M := by
  subst hn
  exact p_rlen h1 hk h
end ZPR
def spN (i : Nat) : Nat := if i < 2 then 0 else if i < 4 then 2 else 3
def stN (i : Nat) : Nat := if i = 0 then 0 else if i = 1 then 1 else if i = 2 then 8 else if i = 3 then 14 else if i = 4 then 150 else 232
theorem spst : ∀ i, i < 6 → spN i < 4 ∧ stN i < z22 (spN i) := by decide
def soB (q rows i : Nat) : Bool := ltB (spN i) (stN i * zrep (spN i)) q rows
def soF (q rows i v : Nat) : Nat := if soB q rows i = true then v ||| 1 <<< i else v
def soN (q rows : Nat) : Nat := zfor (soF q rows) 6 0 0
def fSorts (y z : Int32) : Int32 := if zrl y z = true then nI (soN y.toNatClampNeg z.toNatClampNeg) else -1
theorem so_0 : ∀ q, q < 4 → ∀ v, v < z22 q → soB q v 0 = decide (v &&& 1 = 1) := by decide +kernel
theorem so_1 : ∀ q, q < 4 → ∀ v, v < z22 q → soB q v 1 = decide (v >>> (1 <<< q - 1) &&& 1 = 1) := by decide +kernel
theorem so_sum (q v : Nat) : soN q v = (if soB q v 0 = true then 1 else 0) + (if soB q v 1 = true then 2 else 0) + (if soB q v 2 = true then 4 else 0) + (if soB q v 3 = true then 8 else 0) + (if soB q v 4 = true then 16 else 0) + (if soB q v 5 = true then 32 else 0) := by
  show soF q v 5 (soF q v 4 (soF q v 3 (soF q v 2 (soF q v 1 (soF q v 0 0))))) = _
  unfold soF
  cases soB q v 0 <;> cases soB q v 1 <;> cases soB q v 2 <;> cases soB q v 3 <;> cases soB q v 4 <;> cases soB q v 5 <;> rfl
theorem so_mk {q v i : Nat} (hq : q < 4) (hi : i < 6) : soB q v i = decide (mkN (spN i) (stN i) q v &&& (v ^^^ zFF) = 0) := by
  have h := spst i hi
  unfold soB ltB
  rw [tr_mk h.1 h.2 hq]
set_option maxRecDepth 100000 in
set_option maxHeartbeats 4000000 in
theorem lp_72_15 {sc : Nat × (Nat → Int32)} {d : Nat} {M : zM} {r : Option Value} {M' : zM} {q rows : Nat} (hq : q < 4) (hro : rows < 2 ^ 31) : ∀ (j i v : Nat), i + j = 6 → zK 47 sc (zC 47 sc (d + 3)) 72 r M' 74 [.ref 0, .int (nI q), .int (nI rows), .int (nI (zfor (soF q rows) j i v)), .int (nI 6), .null, .null] [] (M) → zK 47 sc (zC 47 sc (d + 3)) 72 r M' 15 [.ref 0, .int (nI q), .int (nI rows), .int (nI v), .int (nI i), .null, .null] [] (M) := by
  intro j
  induction j with
  | zero =>
    intro i v  hj hk
    obtain rfl : i = 6 := by omega
    refine zK.blk rfl ?_
    refine p_iload_4 ?_
    refine p_gets (by decide) ?_
    refine p_rlenN (n := 6) rfl (by decide) rfl ?_
    refine p_icmpN_ge (tgt := 74) (by decide) (by omega) (by omega) (fun hc21 => ?_) (fun hc21 => ?_)
    · skip
      exact hk
    · skip
      exact absurd hc21 (by omega) --STOP
  | succ j ih =>
    intro i v  hj hk
    have hsp := spst i (by omega)
    have hw := zwide_lt _ hsp.1 _ hsp.2
    have htr := trN_lt (p := spN i) (w := stN i * zrep (spN i)) (rows := rows) hq
    have ha : trN (spN i) (stN i * zrep (spN i)) q rows &&& (rows ^^^ zFF) < 2 ^ 31 := zand_lt (by omega)
    refine zK.blk rfl ?_
    refine p_iload_4 ?_
    refine p_gets (by decide) ?_
    refine p_rlenN (n := 6) rfl (by decide) rfl ?_
    refine p_icmpN_ge (tgt := 74) (by decide) (by omega) (by omega) (fun hc21 => ?_) (fun hc21 => ?_)
    · skip
      exact absurd hc21 (by omega) --STOP
    · skip
      refine p_gets (by decide) ?_
      refine p_iload_4 ?_
      refine p_rald (v := nI (spN i)) rfl (by decide) (show i < 6 by omega) (show 6 < 2 ^ 31 by decide) (by rcases (show i = 0 ∨ i = 1 ∨ i = 2 ∨ i = 3 ∨ i = 4 ∨ i = 5 by omega) with rfl | rfl | rfl | rfl | rfl | rfl <;> rfl) ?_
      refine p_istore_5 rfl ?_
      refine p_iload_5 ?_
      refine p_gets (by decide) ?_
      refine p_iload_4 ?_
      refine p_rald (v := nI (stN i)) rfl (by decide) (show i < 6 by omega) (show 6 < 2 ^ 31 by decide) (by rcases (show i = 0 ∨ i = 1 ∨ i = 2 ∨ i = 3 ∨ i = 4 ∨ i = 5 by omega) with rfl | rfl | rfl | rfl | rfl | rfl <;> rfl) ?_
      refine p_cs2i rfl rfl rfl rfl rfl (c_4 hsp.1) ?_
      refine p_istore_6 rfl ?_
      refine p_iload_5 ?_
      refine p_iload_6 ?_
      refine p_iloadn_1 ?_
      refine p_iloadn_2 ?_
      refine p_cs4i rfl rfl rfl rfl rfl (c_8 hsp.1 hq (by omega) hro) ?_
      refine p_iloadn_2 ?_
      refine p_iconst (v := nI zFF) (by decide) ?_
      refine p_ixorN ?_
      refine p_iandN ?_
      refine p_ifN_ne (tgt := 68) (by decide) (by omega) (fun hc58 => ?_) (fun hc58 => ?_)
      · skip
        rw [zfor_step (f := soF q rows) (a' := v) (by unfold soF soB ltB; rw [decide_eq_false hc58, if_neg (by decide)])] at hk
        refine zK.blk rfl ?_
        refine p_iinc_4 (zN_inc _ 1) rfl ?_
        refine p_goto (tgt := 15) (by decide) ?_
        refine zK.forget _ ?_ (ih _ _ (by omega) hk)
        exact ⟨Or.inl rfl, Or.inl rfl, Or.inl rfl, Or.inl rfl, Or.inl rfl, Or.inr rfl, Or.inr rfl, trivial⟩
      · skip
        rw [zfor_step (f := soF q rows) (a' := v ||| 1 <<< i) (by unfold soF soB ltB; rw [decide_eq_true (by omega), if_pos rfl])] at hk
        refine p_iloadn_3 ?_
        refine p_iconst (v := nI 1) (by decide) ?_
        refine p_iload_4 ?_
        refine p_ishlN (by omega) ?_
        refine p_iorN ?_
        refine p_istoren_3 rfl ?_
        refine zK.blk rfl ?_
        refine p_iinc_4 (zN_inc _ 1) rfl ?_
        refine p_goto (tgt := 15) (by decide) ?_
        refine zK.forget _ ?_ (ih _ _ (by omega) hk)
        exact ⟨Or.inl rfl, Or.inl rfl, Or.inl rfl, Or.inl rfl, Or.inl rfl, Or.inr rfl, Or.inr rfl, trivial⟩
set_option maxRecDepth 100000 in
set_option maxHeartbeats 4000000 in
theorem c_72 {sc : Nat × (Nat → Int32)} {d : Nat} {M : zM} {y z : Int32} : zC 47 sc (d + 4) 72 [.ref 0, .int y, .int z] M (some (.int (fSorts y z))) (M) := by
  unfold fSorts
  refine z_enter (L := [.ref 0, .int y, .int z, .null, .null, .null, .null]) rfl rfl rfl ?_
  refine zK.blk rfl ?_
  refine p_iloadn_1 ?_
  refine p_iloadn_2 ?_
  refine p_cs2i rfl rfl rfl rfl rfl (c_83) ?_
  refine p_ifB_ne (tgt := 10) (by decide) (fun hc5 => ?_) (fun hc5 => ?_)
  · skip
    rw [if_pos hc5]
    obtain ⟨q, t, hq1, hq, ht, rfl, rfl⟩ := zrl_x hc5
    have hz := z22_lt hq
    rw [nI_clamp (by omega), nI_clamp (by omega)]
    refine zK.blk rfl ?_
    refine p_iconst (v := nI 0) (by decide) ?_
    refine p_istoren_3 rfl ?_
    refine p_iconst (v := nI 0) (by decide) ?_
    refine p_istore_4 rfl ?_
    refine lp_72_15 hq (by omega) 6 0 0 (by omega) ?_
    refine zK.blk rfl ?_
    refine p_iloadn_3 ?_
    exact p_iret trivial rfl rfl
  · skip
    rw [if_neg (by rw [hc5]; decide)]
    refine p_iconst (v := -1) (by decide) ?_
    exact p_iret trivial rfl rfl
set_option maxRecDepth 100000 in
set_option maxHeartbeats 4000000 in
theorem st_123_133 {sc : Nat × (Nat → Int32)} {d : Nat} {M : zM} {q rows v y : Nat} {x3 : Value} (hq : q < 4) (hro : rows < 256) : zK 47 sc (zC 47 sc (d + 2)) 123 (some (.int (nI (v + y)))) M 133 [.ref 33, .int (nI q), .int (nI rows), x3] [.int (nI y), .int (nI v)] M := by
  refine zK.blk rfl ?_
  refine p_iaddN ?_
  refine p_istoren_3 rfl ?_
  refine p_iloadn_3 ?_
  exact p_iret trivial rfl rfl
set_option maxRecDepth 100000 in
set_option maxHeartbeats 4000000 in
theorem st_123_108 {sc : Nat × (Nat → Int32)} {d : Nat} {M : zM} {q rows v y : Nat} {x3 : Value} (hq : q < 4) (hro : rows < 256) : zK 47 sc (zC 47 sc (d + 2)) 123 (some (.int (nI (v + y + (if soB q rows 5 = true then 32 else 0))))) M 108 [.ref 33, .int (nI q), .int (nI rows), x3] [.int (nI y), .int (nI v)] M := by
  have hmk : soB q rows 5 = decide (mkN 3 232 q rows &&& (rows ^^^ zFF) = 0) := so_mk (v := rows) hq (show 5 < 6 by decide)
  have hml := mkN_lt (p := 3) (t := 232) (rows := rows) hq
  have ha : mkN 3 232 q rows &&& (rows ^^^ zFF) < 2 ^ 31 := zand_lt (by omega)
  refine zK.blk rfl ?_
  refine p_iaddN ?_
  refine p_istoren_3 rfl ?_
  refine p_iloadn_3 ?_
  refine p_iconst (v := nI 3) (by decide) ?_
  refine p_sipush (v := nI 232) (by decide) ?_
  refine p_iloadn_1 ?_
  refine p_iloadn_2 ?_
  refine p_cs4i rfl rfl rfl rfl rfl (c_117 (by decide) (by decide) hq (by omega)) ?_
  refine p_iloadn_2 ?_
  refine p_iconst (v := nI zFF) (by decide) ?_
  refine p_ixorN ?_
  refine p_iandN ?_
  refine p_ifN_ne (tgt := 132) (by decide) (by omega) (fun hc124 => ?_) (fun hc124 => ?_)
  · skip
    rw [if_neg (c := soB q rows 5 = true) (by rw [hmk, decide_eq_false hc124]; decide)]
    refine zK.blk rfl ?_
    refine p_iconst (v := nI 0) (by decide) ?_
    exact st_123_133 hq hro
  · skip
    rw [if_pos (c := soB q rows 5 = true) (by rw [hmk]; exact decide_eq_true (Classical.not_not.mp hc124))]
    refine p_bipush (v := nI 32) (by decide) ?_
    refine p_goto (tgt := 133) (by decide) ?_
    exact st_123_133 hq hro
set_option maxRecDepth 100000 in
set_option maxHeartbeats 4000000 in
theorem st_123_83 {sc : Nat × (Nat → Int32)} {d : Nat} {M : zM} {q rows v y : Nat} {x3 : Value} (hq : q < 4) (hro : rows < 256) : zK 47 sc (zC 47 sc (d + 2)) 123 (some (.int (nI (v + y + (if soB q rows 4 = true then 16 else 0) + (if soB q rows 5 = true then 32 else 0))))) M 83 [.ref 33, .int (nI q), .int (nI rows), x3] [.int (nI y), .int (nI v)] M := by
  have hmk : soB q rows 4 = decide (mkN 3 150 q rows &&& (rows ^^^ zFF) = 0) := so_mk (v := rows) hq (show 4 < 6 by decide)
  have hml := mkN_lt (p := 3) (t := 150) (rows := rows) hq
  have ha : mkN 3 150 q rows &&& (rows ^^^ zFF) < 2 ^ 31 := zand_lt (by omega)
  refine zK.blk rfl ?_
  refine p_iaddN ?_
  refine p_istoren_3 rfl ?_
  refine p_iloadn_3 ?_
  refine p_iconst (v := nI 3) (by decide) ?_
  refine p_sipush (v := nI 150) (by decide) ?_
  refine p_iloadn_1 ?_
  refine p_iloadn_2 ?_
  refine p_cs4i rfl rfl rfl rfl rfl (c_117 (by decide) (by decide) hq (by omega)) ?_
  refine p_iloadn_2 ?_
  refine p_iconst (v := nI zFF) (by decide) ?_
  refine p_ixorN ?_
  refine p_iandN ?_
  refine p_ifN_ne (tgt := 107) (by decide) (by omega) (fun hc99 => ?_) (fun hc99 => ?_)
  · skip
    rw [if_neg (c := soB q rows 4 = true) (by rw [hmk, decide_eq_false hc99]; decide)]
    refine zK.blk rfl ?_
    refine p_iconst (v := nI 0) (by decide) ?_
    exact st_123_108 hq hro
  · skip
    rw [if_pos (c := soB q rows 4 = true) (by rw [hmk]; exact decide_eq_true (Classical.not_not.mp hc99))]
    refine p_bipush (v := nI 16) (by decide) ?_
    refine p_goto (tgt := 108) (by decide) ?_
    exact st_123_108 hq hro
set_option maxRecDepth 100000 in
set_option maxHeartbeats 4000000 in
theorem st_123_59 {sc : Nat × (Nat → Int32)} {d : Nat} {M : zM} {q rows v y : Nat} {x3 : Value} (hq : q < 4) (hro : rows < 256) : zK 47 sc (zC 47 sc (d + 2)) 123 (some (.int (nI (v + y + (if soB q rows 3 = true then 8 else 0) + (if soB q rows 4 = true then 16 else 0) + (if soB q rows 5 = true then 32 else 0))))) M 59 [.ref 33, .int (nI q), .int (nI rows), x3] [.int (nI y), .int (nI v)] M := by
  have hmk : soB q rows 3 = decide (mkN 2 14 q rows &&& (rows ^^^ zFF) = 0) := so_mk (v := rows) hq (show 3 < 6 by decide)
  have hml := mkN_lt (p := 2) (t := 14) (rows := rows) hq
  have ha : mkN 2 14 q rows &&& (rows ^^^ zFF) < 2 ^ 31 := zand_lt (by omega)
  refine zK.blk rfl ?_
  refine p_iaddN ?_
  refine p_istoren_3 rfl ?_
  refine p_iloadn_3 ?_
  refine p_iconst (v := nI 2) (by decide) ?_
  refine p_bipush (v := nI 14) (by decide) ?_
  refine p_iloadn_1 ?_
  refine p_iloadn_2 ?_
  refine p_cs4i rfl rfl rfl rfl rfl (c_117 (by decide) (by decide) hq (by omega)) ?_
  refine p_iloadn_2 ?_
  refine p_iconst (v := nI zFF) (by decide) ?_
  refine p_ixorN ?_
  refine p_iandN ?_
  refine p_ifN_ne (tgt := 82) (by decide) (by omega) (fun hc74 => ?_) (fun hc74 => ?_)
  · skip
    rw [if_neg (c := soB q rows 3 = true) (by rw [hmk, decide_eq_false hc74]; decide)]
    refine zK.blk rfl ?_
    refine p_iconst (v := nI 0) (by decide) ?_
    exact st_123_83 hq hro
  · skip
    rw [if_pos (c := soB q rows 3 = true) (by rw [hmk]; exact decide_eq_true (Classical.not_not.mp hc74))]
    refine p_bipush (v := nI 8) (by decide) ?_
    refine p_goto (tgt := 83) (by decide) ?_
    exact st_123_83 hq hro
set_option maxRecDepth 100000 in
set_option maxHeartbeats 4000000 in
theorem st_123_36 {sc : Nat × (Nat → Int32)} {d : Nat} {M : zM} {q rows v y : Nat} {x3 : Value} (hq : q < 4) (hro : rows < 256) : zK 47 sc (zC 47 sc (d + 2)) 123 (some (.int (nI (v + y + (if soB q rows 2 = true then 4 else 0) + (if soB q rows 3 = true then 8 else 0) + (if soB q rows 4 = true then 16 else 0) + (if soB q rows 5 = true then 32 else 0))))) M 36 [.ref 33, .int (nI q), .int (nI rows), x3] [.int (nI y), .int (nI v)] M := by
  have hmk : soB q rows 2 = decide (mkN 2 8 q rows &&& (rows ^^^ zFF) = 0) := so_mk (v := rows) hq (show 2 < 6 by decide)
  have hml := mkN_lt (p := 2) (t := 8) (rows := rows) hq
  have ha : mkN 2 8 q rows &&& (rows ^^^ zFF) < 2 ^ 31 := zand_lt (by omega)
  refine zK.blk rfl ?_
  refine p_iaddN ?_
  refine p_istoren_3 rfl ?_
  refine p_iloadn_3 ?_
  refine p_iconst (v := nI 2) (by decide) ?_
  refine p_bipush (v := nI 8) (by decide) ?_
  refine p_iloadn_1 ?_
  refine p_iloadn_2 ?_
  refine p_cs4i rfl rfl rfl rfl rfl (c_117 (by decide) (by decide) hq (by omega)) ?_
  refine p_iloadn_2 ?_
  refine p_iconst (v := nI zFF) (by decide) ?_
  refine p_ixorN ?_
  refine p_iandN ?_
  refine p_ifN_ne (tgt := 58) (by decide) (by omega) (fun hc51 => ?_) (fun hc51 => ?_)
  · skip
    rw [if_neg (c := soB q rows 2 = true) (by rw [hmk, decide_eq_false hc51]; decide)]
    refine zK.blk rfl ?_
    refine p_iconst (v := nI 0) (by decide) ?_
    exact st_123_59 hq hro
  · skip
    rw [if_pos (c := soB q rows 2 = true) (by rw [hmk]; exact decide_eq_true (Classical.not_not.mp hc51))]
    refine p_iconst (v := nI 4) (by decide) ?_
    refine p_goto (tgt := 59) (by decide) ?_
    exact st_123_59 hq hro
set_option maxRecDepth 100000 in
set_option maxHeartbeats 4000000 in
theorem c_123 {sc : Nat × (Nat → Int32)} {d : Nat} {M : zM} {n : Nat} {P T K : Nat → Nat} {y z : Int32} (hsm : sgM M n P T K) : zC 47 sc (d + 3) 123 [.ref 33, .int y, .int z] M (some (.int (fSorts y z))) (M) := by
  obtain ⟨hth, hm, hn6, hR, hT⟩ := id hsm
  unfold fSorts
  refine z_enter (L := [.ref 33, .int y, .int z, .null]) rfl rfl rfl ?_
  refine zK.blk rfl ?_
  refine p_aloadn_0 ?_
  refine p_iconst (v := nI 0) (by decide) ?_
  refine p_put rfl rfl (by simp) ?_
  rw [zup_id hth]
  refine p_iloadn_1 ?_
  refine p_iloadn_2 ?_
  refine p_cs2i rfl rfl rfl rfl rfl (c_115) ?_
  refine p_ifB_ne (tgt := 15) (by decide) (fun hc10 => ?_) (fun hc10 => ?_)
  · skip
    rw [if_pos hc10]
    obtain ⟨q, v, hq1, hq, hv, rfl, rfl⟩ := zrl_x hc10
    have hz := z22_lt hq
    have hs := zsh_lt hq
    have hb := zb_lt v (1 <<< q - 1)
    rw [nI_clamp (by omega), nI_clamp (by omega), so_sum, show (if soB q v 0 = true then 1 else 0) = v &&& 1 by (rw [so_0 q hq v hv]; have h1 := zb_lt v 0; rw [Nat.shiftRight_zero] at h1; by_cases e : v &&& 1 = 1; (rw [decide_eq_true e, if_pos rfl, e]); (rw [decide_eq_false e, if_neg (by decide)]; omega))]
    refine zK.blk rfl ?_
    refine p_iloadn_2 ?_
    refine p_iconst (v := nI 1) (by decide) ?_
    refine p_iandN ?_
    refine p_iloadn_2 ?_
    refine p_iconst (v := nI 1) (by decide) ?_
    refine p_iloadn_1 ?_
    refine p_ishlN (by omega) ?_
    refine p_iconst (v := nI 1) (by decide) ?_
    refine p_isubN (by omega) ?_
    refine p_ishrN (by omega) (by omega) ?_
    refine p_iconst (v := nI 1) (by decide) ?_
    refine p_iandN ?_
    refine p_iconst (v := nI 1) (by decide) ?_
    refine p_icmpN_ne (tgt := 35) (by decide) (by omega) (by omega) (fun hc28 => ?_) (fun hc28 => ?_)
    · skip
      rw [if_neg (c := soB q v 1 = true) (by rw [so_1 q hq v hv, decide_eq_false hc28]; decide)]
      refine zK.blk rfl ?_
      refine p_iconst (v := nI 0) (by decide) ?_
      exact st_123_36 hq (by omega)
    · skip
      rw [if_pos (c := soB q v 1 = true) (by rw [so_1 q hq v hv]; exact decide_eq_true (by omega))]
      refine p_iconst (v := nI 2) (by decide) ?_
      refine p_goto (tgt := 36) (by decide) ?_
      exact st_123_36 hq (by omega)
  · skip
    rw [if_neg (by rw [hc10]; decide)]
    refine p_iconst (v := -1) (by decide) ?_
    exact p_iret trivial rfl rfl
end
section
theorem zlay_fos {i : Nat} (h : i < 4) : zlay 33 (28 + i) = some (.inl (0, [none, none, none, none])) := by
  rcases (show i = 0 ∨ i = 1 ∨ i = 2 ∨ i = 3 by omega) with rfl | rfl | rfl | rfl <;> rfl
/-- places i .. i + j - 1 of the cell k hold x -/
def zfil (M : zM) (k i j : Nat) (x : Int32) : zM := fun a b => if a = k ∧ i ≤ b ∧ b < i + j then x else M a b
theorem zfil_0 {M : zM} {k i : Nat} {x : Int32} : zfil M k i 0 x = M := by
  funext a b
  unfold zfil
  rw [if_neg (by omega)]
theorem zfil_s {M : zM} {k i j : Nat} {x : Int32} : zfil (zup M k i x) k (i + 1) j x = zfil M k i (j + 1) x := by
  funext a b
  unfold zfil zup
  by_cases h1 : a = k
  · by_cases h2 : b = i
    · rw [if_neg (by omega), if_pos h1, if_pos h2, if_pos (by omega)]
    · by_cases h3 : i + 1 ≤ b ∧ b < i + 1 + j
      · rw [if_pos ⟨h1, h3⟩, if_pos (by omega)]
      · rw [if_neg (fun z => h3 z.2), if_pos h1, if_neg h2, if_neg (by omega)]
  · rw [if_neg (fun z => h1 z.1), if_neg h1, if_neg (fun z => h1 z.1)]
def xv (b : Nat) : Int32 := if b = 0 then nI 170 else if b = 3 then nI 1 else nI 0
/-- formulas i .. i + j - 1 are x -/
def zfx (M : zM) (i j : Nat) : zM := fun a b => if 28 + i ≤ a ∧ a < 28 + i + j ∧ b < 4 then xv b else M a b
theorem zfx_0 {M : zM} {i : Nat} : zfx M i 0 = M := by
  funext a b
  unfold zfx
  rw [if_neg (by omega)]
theorem zfx_s {M : zM} {i j : Nat} : zfx (zfx M i 1) (i + 1) j = zfx M i (j + 1) := by
  funext a b
  unfold zfx
  by_cases h : 28 + (i + 1) ≤ a ∧ a < 28 + (i + 1) + j ∧ b < 4
  · rw [if_pos h, if_pos (by omega)]
  · rw [if_neg h]
    by_cases h2 : 28 + i ≤ a ∧ a < 28 + i + 1 ∧ b < 4
    · rw [if_pos h2, if_pos (by omega)]
    · rw [if_neg h2, if_neg (by omega)]
theorem zfx_1 {M : zM} {i : Nat} : zup (zup (zup (zup M (28 + i) 0 (nI 170)) (28 + i) 1 (nI 0)) (28 + i) 2 (nI 0)) (28 + i) 3 (nI 1) = zfx M i 1 := by
  funext a b
  unfold zfx zup xv
  by_cases h1 : a = 28 + i
  · subst h1
    simp only [if_true]
    by_cases b3 : b = 3
    · subst b3; simp
    · by_cases b2 : b = 2
      · subst b2; simp
      · by_cases b1 : b = 1
        · subst b1; simp
        · by_cases b0 : b = 0
          · subst b0; simp
          · rw [if_neg b3, if_neg b2, if_neg b1, if_neg b0, if_neg (by omega)]
  · rw [if_neg h1, if_neg h1, if_neg h1, if_neg h1, if_neg (by omega)]
def zfa (M : zM) : zM := zfx (zfil (zup (zup (zup M 9 8 (nI 0)) 14 8 (nI 0)) 19 8 (nI 0)) 32 0 4 (-1)) 0 4
def zsgn (M : zM) (n p t c : Nat) : zM := zup (zup (zup (zup (zup M (3 + n) 0 (nI p)) (3 + n) 1 (nI t)) (3 + n) 2 (nI c)) (3 + n) 3 (nI (t * zrep p))) (3 + n) 4 (nI (kbN p t))
set_option maxRecDepth 100000 in
set_option maxHeartbeats 4000000 in
theorem c_21 {sc : Nat × (Nat → Int32)} {d : Nat} {M : zM} {i : Nat} {x1 x2 x3 x4 : Int32} (hi : i < 4) : zC 47 sc (d + 1) 21 [.ref (28 + i), .int x1, .int x2, .int x3, .int x4] M (none) (zup (zup (zup (zup M (28 + i) 0 x1) (28 + i) 1 x2) (28 + i) 2 x3) (28 + i) 3 x4) := by
  refine z_enter (L := [.ref (28 + i), .int x1, .int x2, .int x3, .int x4]) rfl rfl rfl ?_
  refine zK.blk rfl ?_
  refine p_aloadn_0 ?_
  refine p_iloadn_1 ?_
  refine p_put (zlay_fo hi) rfl (by simp) ?_
  refine p_aloadn_0 ?_
  refine p_iloadn_2 ?_
  refine p_put (zlay_fo hi) rfl (by simp) ?_
  refine p_aloadn_0 ?_
  refine p_iloadn_3 ?_
  refine p_put (zlay_fo hi) rfl (by simp) ?_
  refine p_aloadn_0 ?_
  refine p_iload_4 ?_
  refine p_put (zlay_fo hi) rfl (by simp) ?_
  exact p_vret trivial rfl rfl
set_option maxRecDepth 100000 in
set_option maxHeartbeats 4000000 in
theorem c_20 {sc : Nat × (Nat → Int32)} {d : Nat} {M : zM} {i : Nat} (hi : i < 4) : zC 47 sc (d + 2) 20 [.ref (28 + i)] M (none) (zfx M i 1) := by
  refine z_enter (L := [.ref (28 + i)]) rfl rfl rfl ?_
  refine zK.blk rfl ?_
  refine p_aloadn_0 ?_
  refine p_iconst (v := nI 0) (by decide) ?_
  refine p_cs1i rfl rfl rfl rfl rfl (c_2 (by decide)) ?_
  refine p_iconst (v := nI 0) (by decide) ?_
  refine p_iconst (v := nI 0) (by decide) ?_
  refine p_iconst (v := nI 1) (by decide) ?_
  refine p_cv4v rfl rfl rfl rfl (zlay_fo hi) (c_21 hi) ?_
  exact p_vret trivial rfl zfx_1
set_option maxRecDepth 100000 in
set_option maxHeartbeats 4000000 in
theorem lp_81_26 {sc : Nat × (Nat → Int32)} {d : Nat} {r : Option Value} {M' : zM} : ∀ (j i : Nat) (M : zM), i + j = 4 → zK 47 sc (zC 47 sc (d + 2)) 81 r M' 48 [.ref 0, .int (nI 4)] [] (zfil M 32 i j (-1)) → zK 47 sc (zC 47 sc (d + 2)) 81 r M' 26 [.ref 0, .int (nI i)] [] M := by
  intro j
  induction j with
  | zero =>
    intro i M hj hk
    have hin : i = 4 := by omega
    subst hin
    rw [zfil_0] at hk
    refine zK.blk rfl ?_
    refine p_iloadn_1 ?_
    refine p_aloadn_0 ?_
    refine p_getr rfl rfl ?_
    refine p_alen rfl ?_
    refine p_icmpN_ge (tgt := 48) (by decide) (by omega) (by omega) (fun hc32 => ?_) (fun hc32 => ?_)
    · skip
      exact hk
    · skip
      exact absurd hc32 (by omega) --STOP
  | succ j ih =>
    intro i M hj hk
    rw [← zfil_s] at hk
    refine zK.blk rfl ?_
    refine p_iloadn_1 ?_
    refine p_aloadn_0 ?_
    refine p_getr rfl rfl ?_
    refine p_alen rfl ?_
    refine p_icmpN_ge (tgt := 48) (by decide) (by omega) (by omega) (fun hc32 => ?_) (fun hc32 => ?_)
    · skip
      exact absurd hc32 (by omega) --STOP
    · skip
      refine p_aloadn_0 ?_
      refine p_getr rfl rfl ?_
      refine p_iloadn_1 ?_
      refine p_iconst (v := -1) (by decide) ?_
      refine p_iast rfl (by omega) (by decide) ?_
      refine p_iinc_1 (zN_inc _ 1) rfl ?_
      refine p_goto (tgt := 26) (by decide) ?_
      exact ih _ _ (by omega) hk
set_option maxRecDepth 100000 in
set_option maxHeartbeats 4000000 in
theorem lp_81_50 {sc : Nat × (Nat → Int32)} {d : Nat} {r : Option Value} {M' : zM} : ∀ (j i : Nat) (M : zM), i + j = 4 → zK 47 sc (zC 47 sc (d + 2)) 81 r M' 74 [.ref 0, .int (nI 4)] [] (zfx M i j) → zK 47 sc (zC 47 sc (d + 2)) 81 r M' 50 [.ref 0, .int (nI i)] [] M := by
  intro j
  induction j with
  | zero =>
    intro i M hj hk
    have hin : i = 4 := by omega
    subst hin
    rw [zfx_0] at hk
    refine zK.blk rfl ?_
    refine p_iloadn_1 ?_
    refine p_aloadn_0 ?_
    refine p_getr rfl rfl ?_
    refine p_alen rfl ?_
    refine p_icmpN_ge (tgt := 74) (by decide) (by omega) (by omega) (fun hc56 => ?_) (fun hc56 => ?_)
    · skip
      exact hk
    · skip
      exact absurd hc56 (by omega) --STOP
  | succ j ih =>
    intro i M hj hk
    rw [← zfx_s] at hk
    refine zK.blk rfl ?_
    refine p_iloadn_1 ?_
    refine p_aloadn_0 ?_
    refine p_getr rfl rfl ?_
    refine p_alen rfl ?_
    refine p_icmpN_ge (tgt := 74) (by decide) (by omega) (by omega) (fun hc56 => ?_) (fun hc56 => ?_)
    · skip
      exact absurd hc56 (by omega) --STOP
    · skip
      refine p_aloadn_0 ?_
      refine p_getr rfl rfl ?_
      refine p_iloadn_1 ?_
      refine p_aald rfl (by omega) (by decide) (zget_fo (by omega)) ?_
      refine p_cv0v rfl rfl rfl rfl (zlay_fo (by omega)) (c_20 (by omega)) ?_
      refine p_iinc_1 (zN_inc _ 1) rfl ?_
      refine p_goto (tgt := 50) (by decide) ?_
      exact ih _ _ (by omega) hk
set_option maxRecDepth 100000 in
set_option maxHeartbeats 4000000 in
theorem c_81 {sc : Nat × (Nat → Int32)} {d : Nat} {M : zM}  : zC 47 sc (d + 3) 81 [.ref 0] M (none) (zfa M) := by
  refine z_enter (L := [.ref 0, .null]) rfl rfl rfl ?_
  refine zK.blk rfl ?_
  refine p_aloadn_0 ?_
  refine p_getr rfl rfl ?_
  refine p_iconst (v := nI 0) (by decide) ?_
  refine p_put rfl rfl (by decide) ?_
  refine p_aloadn_0 ?_
  refine p_getr rfl rfl ?_
  refine p_iconst (v := nI 0) (by decide) ?_
  refine p_put rfl rfl (by decide) ?_
  refine p_aloadn_0 ?_
  refine p_getr rfl rfl ?_
  refine p_iconst (v := nI 0) (by decide) ?_
  refine p_put rfl rfl (by decide) ?_
  refine p_iconst (v := nI 0) (by decide) ?_
  refine p_istoren_1 rfl ?_
  refine lp_81_26 4 0 _ (by omega) ?_
  refine zK.blk rfl ?_
  refine p_iconst (v := nI 0) (by decide) ?_
  refine p_istoren_1 rfl ?_
  refine lp_81_50 4 0 _ (by omega) ?_
  refine zK.blk rfl ?_
  exact p_vret trivial rfl rfl
set_option maxRecDepth 100000 in
set_option maxHeartbeats 4000000 in
theorem c_21s {sc : Nat × (Nat → Int32)} {d : Nat} {M : zM} {i : Nat} {x1 x2 x3 x4 : Int32} (hi : i < 4) : zC 33 sc (d + 1) 21 [.ref (28 + i), .int x1, .int x2, .int x3, .int x4] M (none) (zup (zup (zup (zup M (28 + i) 0 x1) (28 + i) 1 x2) (28 + i) 2 x3) (28 + i) 3 x4) := by
  refine z_enter (L := [.ref (28 + i), .int x1, .int x2, .int x3, .int x4]) rfl rfl rfl ?_
  refine zK.blk rfl ?_
  refine p_aloadn_0 ?_
  refine p_iloadn_1 ?_
  refine p_put (zlay_fos hi) rfl (by simp) ?_
  refine p_aloadn_0 ?_
  refine p_iloadn_2 ?_
  refine p_put (zlay_fos hi) rfl (by simp) ?_
  refine p_aloadn_0 ?_
  refine p_iloadn_3 ?_
  refine p_put (zlay_fos hi) rfl (by simp) ?_
  refine p_aloadn_0 ?_
  refine p_iload_4 ?_
  refine p_put (zlay_fos hi) rfl (by simp) ?_
  exact p_vret trivial rfl rfl
set_option maxRecDepth 100000 in
set_option maxHeartbeats 4000000 in
theorem c_20s {sc : Nat × (Nat → Int32)} {d : Nat} {M : zM} {i : Nat} (hi : i < 4) : zC 33 sc (d + 2) 20 [.ref (28 + i)] M (none) (zfx M i 1) := by
  refine z_enter (L := [.ref (28 + i)]) rfl rfl rfl ?_
  refine zK.blk rfl ?_
  refine p_aloadn_0 ?_
  refine p_iconst (v := nI 0) (by decide) ?_
  refine p_cs1i rfl rfl rfl rfl rfl (c_2s (by decide)) ?_
  refine p_iconst (v := nI 0) (by decide) ?_
  refine p_iconst (v := nI 0) (by decide) ?_
  refine p_iconst (v := nI 1) (by decide) ?_
  refine p_cv4v rfl rfl rfl rfl (zlay_fos hi) (c_21s hi) ?_
  exact p_vret trivial rfl zfx_1
set_option maxRecDepth 100000 in
set_option maxHeartbeats 4000000 in
theorem lp_81_26s {sc : Nat × (Nat → Int32)} {d : Nat} {r : Option Value} {M' : zM} : ∀ (j i : Nat) (M : zM), i + j = 4 → zK 33 sc (zC 33 sc (d + 2)) 81 r M' 48 [.ref 0, .int (nI 4)] [] (zfil M 32 i j (-1)) → zK 33 sc (zC 33 sc (d + 2)) 81 r M' 26 [.ref 0, .int (nI i)] [] M := by
  intro j
  induction j with
  | zero =>
    intro i M hj hk
    have hin : i = 4 := by omega
    subst hin
    rw [zfil_0] at hk
    refine zK.blk rfl ?_
    refine p_iloadn_1 ?_
    refine p_aloadn_0 ?_
    refine p_getr rfl rfl ?_
    refine p_alen rfl ?_
    refine p_icmpN_ge (tgt := 48) (by decide) (by omega) (by omega) (fun hc32 => ?_) (fun hc32 => ?_)
    · skip
      exact hk
    · skip
      exact absurd hc32 (by omega) --STOP
  | succ j ih =>
    intro i M hj hk
    rw [← zfil_s] at hk
    refine zK.blk rfl ?_
    refine p_iloadn_1 ?_
    refine p_aloadn_0 ?_
    refine p_getr rfl rfl ?_
    refine p_alen rfl ?_
    refine p_icmpN_ge (tgt := 48) (by decide) (by omega) (by omega) (fun hc32 => ?_) (fun hc32 => ?_)
    · skip
      exact absurd hc32 (by omega) --STOP
    · skip
      refine p_aloadn_0 ?_
      refine p_getr rfl rfl ?_
      refine p_iloadn_1 ?_
      refine p_iconst (v := -1) (by decide) ?_
      refine p_iast rfl (by omega) (by decide) ?_
      refine p_iinc_1 (zN_inc _ 1) rfl ?_
      refine p_goto (tgt := 26) (by decide) ?_
      exact ih _ _ (by omega) hk
set_option maxRecDepth 100000 in
set_option maxHeartbeats 4000000 in
theorem lp_81_50s {sc : Nat × (Nat → Int32)} {d : Nat} {r : Option Value} {M' : zM} : ∀ (j i : Nat) (M : zM), i + j = 4 → zK 33 sc (zC 33 sc (d + 2)) 81 r M' 74 [.ref 0, .int (nI 4)] [] (zfx M i j) → zK 33 sc (zC 33 sc (d + 2)) 81 r M' 50 [.ref 0, .int (nI i)] [] M := by
  intro j
  induction j with
  | zero =>
    intro i M hj hk
    have hin : i = 4 := by omega
    subst hin
    rw [zfx_0] at hk
    refine zK.blk rfl ?_
    refine p_iloadn_1 ?_
    refine p_aloadn_0 ?_
    refine p_getr rfl rfl ?_
    refine p_alen rfl ?_
    refine p_icmpN_ge (tgt := 74) (by decide) (by omega) (by omega) (fun hc56 => ?_) (fun hc56 => ?_)
    · skip
      exact hk
    · skip
      exact absurd hc56 (by omega) --STOP
  | succ j ih =>
    intro i M hj hk
    rw [← zfx_s] at hk
    refine zK.blk rfl ?_
    refine p_iloadn_1 ?_
    refine p_aloadn_0 ?_
    refine p_getr rfl rfl ?_
    refine p_alen rfl ?_
    refine p_icmpN_ge (tgt := 74) (by decide) (by omega) (by omega) (fun hc56 => ?_) (fun hc56 => ?_)
    · skip
      exact absurd hc56 (by omega) --STOP
    · skip
      refine p_aloadn_0 ?_
      refine p_getr rfl rfl ?_
      refine p_iloadn_1 ?_
      refine p_aald rfl (by omega) (by decide) (zget_fo (by omega)) ?_
      refine p_cv0v rfl rfl rfl rfl (zlay_fos (by omega)) (c_20s (by omega)) ?_
      refine p_iinc_1 (zN_inc _ 1) rfl ?_
      refine p_goto (tgt := 50) (by decide) ?_
      exact ih _ _ (by omega) hk
set_option maxRecDepth 100000 in
set_option maxHeartbeats 4000000 in
theorem c_81s {sc : Nat × (Nat → Int32)} {d : Nat} {M : zM}  : zC 33 sc (d + 3) 81 [.ref 0] M (none) (zfa M) := by
  refine z_enter (L := [.ref 0, .null]) rfl rfl rfl ?_
  refine zK.blk rfl ?_
  refine p_aloadn_0 ?_
  refine p_getr rfl rfl ?_
  refine p_iconst (v := nI 0) (by decide) ?_
  refine p_put rfl rfl (by decide) ?_
  refine p_aloadn_0 ?_
  refine p_getr rfl rfl ?_
  refine p_iconst (v := nI 0) (by decide) ?_
  refine p_put rfl rfl (by decide) ?_
  refine p_aloadn_0 ?_
  refine p_getr rfl rfl ?_
  refine p_iconst (v := nI 0) (by decide) ?_
  refine p_put rfl rfl (by decide) ?_
  refine p_iconst (v := nI 0) (by decide) ?_
  refine p_istoren_1 rfl ?_
  refine lp_81_26s 4 0 _ (by omega) ?_
  refine zK.blk rfl ?_
  refine p_iconst (v := nI 0) (by decide) ?_
  refine p_istoren_1 rfl ?_
  refine lp_81_50s 4 0 _ (by omega) ?_
  refine zK.blk rfl ?_
  exact p_vret trivial rfl rfl
set_option maxRecDepth 100000 in
set_option maxHeartbeats 4000000 in
theorem c_22 {sc : Nat × (Nat → Int32)} {d : Nat} {M : zM} {n p t c : Nat} (hn : n < 6) (hp : p < 4) (ht : t < z22 p) : zC 47 sc (d + 4) 22 [.ref (3 + n), .int (nI p), .int (nI t), .int (nI c)] M (none) (zsgn M n p t c) := by
  refine z_enter (L := [.ref (3 + n), .int (nI p), .int (nI t), .int (nI c)]) rfl rfl rfl ?_
  refine zK.blk rfl ?_
  refine p_aloadn_0 ?_
  refine p_iloadn_1 ?_
  refine p_put (zlay_sg (by omega)) rfl (by simp) ?_
  refine p_aloadn_0 ?_
  refine p_iloadn_2 ?_
  refine p_put (zlay_sg (by omega)) rfl (by simp) ?_
  refine p_aloadn_0 ?_
  refine p_iloadn_3 ?_
  refine p_put (zlay_sg (by omega)) rfl (by simp) ?_
  refine p_aloadn_0 ?_
  refine p_iloadn_1 ?_
  refine p_iloadn_2 ?_
  refine p_cs2i rfl rfl rfl rfl rfl (c_4 hp) ?_
  refine p_put (zlay_sg (by omega)) rfl (by simp) ?_
  refine p_aloadn_0 ?_
  refine p_iloadn_1 ?_
  refine p_iloadn_2 ?_
  refine p_cs2i rfl rfl rfl rfl rfl (c_12 hp ht) ?_
  refine p_put (zlay_sg (by omega)) rfl (by simp) ?_
  exact p_vret trivial rfl rfl
set_option maxRecDepth 100000 in
set_option maxHeartbeats 4000000 in
theorem c_26 {sc : Nat × (Nat → Int32)} {d : Nat} {M : zM} {n : Nat} {P T K : Nat → Nat} {p t c : Nat} (hsg : sgC M n P T K) (h5 : n < 6) (hp : p < 4) (ht : t < z22 p) : zC 47 sc (d + 5) 26 [.ref 1, .int (nI p), .int (nI t), .int (nI c)] M (some (.int (nI n))) (zup (zsgn M n p t c) 1 1 (nI (n + 1))) := by
  obtain ⟨hn6, hn, hR, hS⟩ := id hsg
  have h11 : zsgn M n p t c 1 1 = nI n := by unfold zsgn zup; rw [if_neg (by omega), if_neg (by omega), if_neg (by omega), if_neg (by omega), if_neg (by omega)]; exact hn
  refine z_enter (L := [.ref 1, .int (nI p), .int (nI t), .int (nI c), .null]) rfl rfl rfl ?_
  refine zK.blk rfl ?_
  refine p_aloadn_0 ?_
  refine p_geti rfl rfl hn ?_
  refine p_istore_4 rfl ?_
  refine p_iload_4 ?_
  refine p_ifN_lt (tgt := 41) (by decide) (by omega) (fun hc8 => ?_) (fun hc8 => ?_)
  · skip
    exact absurd hc8 (by omega) --STOP
  · skip
    refine p_iload_4 ?_
    refine p_bipush (v := nI 6) (by decide) ?_
    refine p_icmpN_ge (tgt := 41) (by decide) (by omega) (by omega) (fun hc15 => ?_) (fun hc15 => ?_)
    · skip
      exact absurd hc15 (by omega) --STOP
    · skip
      refine p_aloadn_0 ?_
      refine p_getr rfl rfl ?_
      refine p_iload_4 ?_
      refine p_aald rfl (by omega) (by decide) (zget_sg (by omega)) ?_
      refine p_iloadn_1 ?_
      refine p_iloadn_2 ?_
      refine p_iloadn_3 ?_
      refine p_cv3v rfl rfl rfl rfl (zlay_sg (by omega)) (c_22 h5 hp ht) ?_
      refine p_aloadn_0 ?_
      refine p_dupa ?_
      refine p_geti rfl rfl h11 ?_
      refine p_iconst (v := nI 1) (by decide) ?_
      refine p_iaddN ?_
      refine p_put rfl rfl (by simp) ?_
      refine zK.blk rfl ?_
      refine p_iload_4 ?_
      exact p_iret trivial rfl rfl
def zsok (x y z : Int32) : Bool := zfits x y && decide (¬ z < nI 1) && decide (¬ nI 9 < z)
set_option maxRecDepth 100000 in
set_option maxHeartbeats 4000000 in
theorem c_56a {sc : Nat × (Nat → Int32)} {d : Nat} {M : zM} {n : Nat} {P T K : Nat → Nat} {x y z : Int32} (hsg : sgC M n P T K) (h : zsok x y z = false) : zC 47 sc (d + 6) 56 [.ref 0, .int x, .int y, .int z] M (some (.int (-1))) (M) := by
  refine z_enter (L := [.ref 0, .int x, .int y, .int z, .null]) rfl rfl rfl ?_
  refine zK.blk rfl ?_
  refine p_iloadn_1 ?_
  refine p_iloadn_2 ?_
  refine p_cs2i rfl rfl rfl rfl rfl (c_0) ?_
  refine p_ifB_eq (tgt := 19) (by decide) (fun hc5 => ?_) (fun hc5 => ?_)
  · skip
    refine zK.blk rfl ?_
    refine p_iconst (v := -1) (by decide) ?_
    exact p_iret trivial rfl rfl
  · skip
    refine p_iloadn_3 ?_
    refine p_iconst (v := nI 1) (by decide) ?_
    refine p_icmp_lt (tgt := 19) (by decide) (fun hc10 => ?_) (fun hc10 => ?_)
    · skip
      refine zK.blk rfl ?_
      refine p_iconst (v := -1) (by decide) ?_
      exact p_iret trivial rfl rfl
    · skip
      refine p_iloadn_3 ?_
      refine p_bipush (v := nI 9) (by decide) ?_
      refine p_icmp_le (tgt := 21) (by decide) (fun hc16 => ?_) (fun hc16 => ?_)
      · skip
        exact absurd h (by unfold zsok; rw [hc5, decide_eq_true hc10, decide_eq_true (Int32.not_lt.mpr hc16)]; decide) --STOP
      · skip
        refine zK.blk rfl ?_
        refine p_iconst (v := -1) (by decide) ?_
        exact p_iret trivial rfl rfl
set_option maxRecDepth 100000 in
set_option maxHeartbeats 4000000 in
theorem c_56b {sc : Nat × (Nat → Int32)} {d : Nat} {M : zM} {n : Nat} {P T K : Nat → Nat} {x y z : Int32} (hsg : sgC M n P T K) (h : zsok x y z = true) (hn5 : n = 6) : zC 47 sc (d + 6) 56 [.ref 0, .int x, .int y, .int z] M (some (.int (-3))) (M) := by
  obtain ⟨hn6, hn, hR, hS⟩ := id hsg
  unfold zsok at h
  simp only [Bool.and_eq_true, decide_eq_true_eq] at h
  refine z_enter (L := [.ref 0, .int x, .int y, .int z, .null]) rfl rfl rfl ?_
  refine zK.blk rfl ?_
  refine p_iloadn_1 ?_
  refine p_iloadn_2 ?_
  refine p_cs2i rfl rfl rfl rfl rfl (c_0) ?_
  refine p_ifB_eq (tgt := 19) (by decide) (fun hc5 => ?_) (fun hc5 => ?_)
  · skip
    rw [h.1.1] at hc5; cases hc5 --STOP
  · skip
    refine p_iloadn_3 ?_
    refine p_iconst (v := nI 1) (by decide) ?_
    refine p_icmp_lt (tgt := 19) (by decide) (fun hc10 => ?_) (fun hc10 => ?_)
    · skip
      exact absurd hc10 h.1.2 --STOP
    · skip
      refine p_iloadn_3 ?_
      refine p_bipush (v := nI 9) (by decide) ?_
      refine p_icmp_le (tgt := 21) (by decide) (fun hc16 => ?_) (fun hc16 => ?_)
      · skip
        refine zK.blk rfl ?_
        refine p_aloadn_0 ?_
        refine p_getr rfl rfl ?_
        refine p_geti rfl rfl (hn) ?_
        refine p_bipush (v := nI 6) (by decide) ?_
        refine p_icmpN_lt (tgt := 36) (by decide) (by omega) (by omega) (fun hc30 => ?_) (fun hc30 => ?_)
        · skip
          exact absurd hc30 (by omega) --STOP
        · skip
          refine p_bipush (v := -3) (by decide) ?_
          exact p_iret trivial rfl rfl
      · skip
        exact absurd (Int32.not_lt.mp h.2) hc16 --STOP
set_option maxRecDepth 100000 in
set_option maxHeartbeats 4000000 in
theorem c_56c {sc : Nat × (Nat → Int32)} {d : Nat} {M : zM} {n : Nat} {P T K : Nat → Nat} {p t c : Nat} (hsg : sgC M n P T K) (h5 : n < 6) (hp : p < 4) (ht : t < z22 p) (h : zsok (nI p) (nI t) (nI c) = true) : zC 47 sc (d + 6) 56 [.ref 0, .int (nI p), .int (nI t), .int (nI c)] M (some (.int (nI n))) (zfa (zup (zsgn M n p t c) 1 1 (nI (n + 1)))) := by
  obtain ⟨hn6, hn, hR, hS⟩ := id hsg
  unfold zsok at h
  simp only [Bool.and_eq_true, decide_eq_true_eq] at h
  refine z_enter (L := [.ref 0, .int (nI p), .int (nI t), .int (nI c), .null]) rfl rfl rfl ?_
  refine zK.blk rfl ?_
  refine p_iloadn_1 ?_
  refine p_iloadn_2 ?_
  refine p_cs2i rfl rfl rfl rfl rfl (c_0) ?_
  refine p_ifB_eq (tgt := 19) (by decide) (fun hc5 => ?_) (fun hc5 => ?_)
  · skip
    rw [h.1.1] at hc5; cases hc5 --STOP
  · skip
    refine p_iloadn_3 ?_
    refine p_iconst (v := nI 1) (by decide) ?_
    refine p_icmp_lt (tgt := 19) (by decide) (fun hc10 => ?_) (fun hc10 => ?_) --BR
    · skip
      exact absurd hc10 h.1.2 --STOP
    · skip
      refine p_iloadn_3 ?_
      refine p_bipush (v := nI 9) (by decide) ?_
      refine p_icmp_le (tgt := 21) (by decide) (fun hc16 => ?_) (fun hc16 => ?_) --BR
      · skip
        refine zK.blk rfl ?_
        refine p_aloadn_0 ?_
        refine p_getr rfl rfl ?_
        refine p_geti rfl rfl (hn) ?_
        refine p_bipush (v := nI 6) (by decide) ?_
        refine p_icmpN_lt (tgt := 36) (by decide) (by omega) (by omega) (fun hc30 => ?_) (fun hc30 => ?_)
        · skip
          refine zK.blk rfl ?_
          refine p_aloadn_0 ?_
          refine p_getr rfl rfl ?_
          refine p_iloadn_1 ?_
          refine p_iloadn_2 ?_
          refine p_iloadn_3 ?_
          refine p_cv3i rfl rfl rfl rfl rfl (c_26 hsg h5 hp ht) ?_
          refine p_istore_4 rfl ?_
          refine p_aloadn_0 ?_
          refine p_cv0v rfl rfl rfl rfl rfl (c_81) ?_
          refine p_iload_4 ?_
          exact p_iret trivial rfl rfl
        · skip
          exact absurd h5 hc30 --STOP
      · skip
        exact absurd (Int32.not_lt.mp h.2) hc16 --STOP
set_option maxRecDepth 100000 in
set_option maxHeartbeats 4000000 in
theorem c_57a {sc : Nat × (Nat → Int32)} {d : Nat} {M : zM} {n : Nat} {P T K : Nat → Nat} (hsg : sgC M n P T K) (h0 : n = 0) : zC 47 sc (d + 4) 57 [.ref 0] M (some (.int (-1))) (M) := by
  obtain ⟨hn6, hn, hR, hS⟩ := id hsg
  refine z_enter (L := [.ref 0]) rfl rfl rfl ?_
  refine zK.blk rfl ?_
  refine p_aloadn_0 ?_
  refine p_getr rfl rfl ?_
  refine p_geti rfl rfl (hn) ?_
  refine p_iconst (v := nI 1) (by decide) ?_
  refine p_icmpN_ge (tgt := 13) (by decide) (by omega) (by omega) (fun hc8 => ?_) (fun hc8 => ?_)
  · skip
    exact absurd hc8 (by omega) --STOP
  · skip
    refine p_iconst (v := -1) (by decide) ?_
    exact p_iret trivial rfl rfl
set_option maxRecDepth 100000 in
set_option maxHeartbeats 4000000 in
theorem c_57b {sc : Nat × (Nat → Int32)} {d : Nat} {M : zM} {n : Nat} {P T K : Nat → Nat} (hsg : sgC M n P T K) (h0 : 1 ≤ n) : zC 47 sc (d + 4) 57 [.ref 0] M (some (.int (nI (n - 1)))) (zfa (zup M 1 1 (nI (n - 1)))) := by
  obtain ⟨hn6, hn, hR, hS⟩ := id hsg
  have h11 : zfa (zup M 1 1 (nI (n - 1))) 1 1 = nI (n - 1) := by unfold zfa zfx zfil zup; simp
  refine z_enter (L := [.ref 0]) rfl rfl rfl ?_
  refine zK.blk rfl ?_
  refine p_aloadn_0 ?_
  refine p_getr rfl rfl ?_
  refine p_geti rfl rfl hn ?_
  refine p_iconst (v := nI 1) (by decide) ?_
  refine p_icmpN_ge (tgt := 13) (by decide) (by omega) (by omega) (fun hc8 => ?_) (fun hc8 => ?_)
  · skip
    refine zK.blk rfl ?_
    refine p_aloadn_0 ?_
    refine p_getr rfl rfl ?_
    refine p_dupa ?_
    refine p_geti rfl rfl hn ?_
    refine p_iconst (v := nI 1) (by decide) ?_
    refine p_isubN (by omega) ?_
    refine p_put rfl rfl (by simp) ?_
    refine p_aloadn_0 ?_
    refine p_cv0v rfl rfl rfl rfl rfl (c_81) ?_
    refine p_aloadn_0 ?_
    refine p_getr rfl rfl ?_
    refine p_geti rfl rfl h11 ?_
    exact p_iret trivial rfl rfl
  · skip
    exact absurd h0 hc8 --STOP
end
section
/-- the reference's formulas i .. i + j - 1 are x -/
def zem (M : zM) (i j : Nat) : zM := fun a b => if a = 40 ∧ i ≤ b ∧ b < i + j then nI 1 else if a = 39 ∧ b % 30 = 0 ∧ 30 * i ≤ b ∧ b < 30 * (i + j) then nI 120 else M a b
theorem zem_0 {M : zM} {i : Nat} : zem M i 0 = M := by
  funext a b
  unfold zem
  rw [if_neg (by omega), if_neg (by omega)]
theorem zem_s {M : zM} {i j : Nat} : zem (zup (zup M 39 (30 * i) (nI 120)) 40 i (nI 1)) (i + 1) j = zem M i (j + 1) := by
  funext a b
  unfold zem zup
  repeat' split
  all_goals first | rfl | (exfalso; omega)
set_option maxRecDepth 100000 in
set_option maxHeartbeats 4000000 in
theorem lp_90_2 {sc : Nat × (Nat → Int32)} {d : Nat} {r : Option Value} {M' : zM} : ∀ (j i : Nat) (M : zM), i + j = 4 → zK 47 sc (zC 47 sc (d + 0)) 90 r M' 31 [.ref 33, .int (nI 4)] [] (zem M i j) → zK 47 sc (zC 47 sc (d + 0)) 90 r M' 2 [.ref 33, .int (nI i)] [] M := by
  intro j
  induction j with
  | zero =>
    intro i M hj hk
    have hin : i = 4 := by omega
    subst hin
    rw [zem_0] at hk
    refine zK.blk rfl ?_
    refine p_iloadn_1 ?_
    refine p_iconst (v := nI 4) (by decide) ?_
    refine p_icmpN_ge (tgt := 31) (by decide) (by omega) (by omega) (fun hc4 => ?_) (fun hc4 => ?_)
    · skip
      exact hk
    · skip
      exact absurd hc4 (by omega) --STOP
  | succ j ih =>
    intro i M hj hk
    rw [← zem_s] at hk
    refine zK.blk rfl ?_
    refine p_iloadn_1 ?_
    refine p_iconst (v := nI 4) (by decide) ?_
    refine p_icmpN_ge (tgt := 31) (by decide) (by omega) (by omega) (fun hc4 => ?_) (fun hc4 => ?_)
    · skip
      exact absurd hc4 (by omega) --STOP
    · skip
      refine p_aloadn_0 ?_
      refine p_getr rfl rfl ?_
      refine p_bipush (v := nI 30) (by decide) ?_
      refine p_iloadn_1 ?_
      refine p_imulN ?_
      refine p_bipush (v := nI 120) (by decide) ?_
      refine p_iast rfl (by omega) (by decide) ?_
      refine p_aloadn_0 ?_
      refine p_getr rfl rfl ?_
      refine p_iloadn_1 ?_
      refine p_iconst (v := nI 1) (by decide) ?_
      refine p_iast rfl (by omega) (by decide) ?_
      refine p_iinc_1 (zN_inc _ 1) rfl ?_
      refine p_goto (tgt := 2) (by decide) ?_
      exact ih _ _ (by omega) hk
set_option maxRecDepth 100000 in
set_option maxHeartbeats 4000000 in
theorem c_90 {sc : Nat × (Nat → Int32)} {d : Nat} {M : zM}  : zC 47 sc (d + 1) 90 [.ref 33] M (none) (zem M 0 4) := by
  refine z_enter (L := [.ref 33, .null]) rfl rfl rfl ?_
  refine zK.blk rfl ?_
  refine p_iconst (v := nI 0) (by decide) ?_
  refine p_istoren_1 rfl ?_
  refine lp_90_2 4 0 _ (by omega) ?_
  refine zK.blk rfl ?_
  exact p_vret trivial rfl rfl
theorem zsok_zin {x y z : Int32} (h : zsok x y z = true) : ∃ p t c, p < 4 ∧ t < z22 p ∧ 1 ≤ c ∧ c ≤ 9 ∧ x = nI p ∧ y = nI t ∧ z = nI c := by
  unfold zsok at h
  simp only [Bool.and_eq_true, decide_eq_true_eq] at h
  obtain ⟨p, t, hp, ht, rfl, rfl⟩ := zfits_x h.1.1
  have h0 : ¬ z < 0 := fun w => h.1.2 (Int32.lt_trans w (by decide))
  obtain ⟨c, hc, rfl⟩ := nI_of2 (M := nI 9) (n := 9) (by decide) h0 (Int32.not_lt.mp h.2)
  exact ⟨p, t, c, hp, ht, by have h2 := h.1.2; rw [nI_ltI (by omega) (by decide)] at h2; omega, hc, rfl, rfl, rfl⟩
theorem zin_t {a lo hi : Nat} (h1 : lo ≤ a) (h2 : a ≤ hi) (h3 : hi < 2 ^ 31) : zin (nI a) (nI lo) (nI hi) = true := by
  unfold zin
  rw [decide_eq_true (nI_nlt h1 (by omega)), decide_eq_true (nI_nlt h2 h3)]
  rfl
def zmsg (M : zM) (n p t c : Nat) : zM := zup (zup (zup (zup M 34 n (nI p)) 35 n (nI t)) 36 n (nI c)) 33 1 (nI (n + 1))
set_option maxRecDepth 100000 in
set_option maxHeartbeats 4000000 in
theorem c_92a {sc : Nat × (Nat → Int32)} {d : Nat} {M : zM} {n : Nat} {P T K : Nat → Nat} {x y z : Int32} (hsm : sgM M n P T K) (h : zsok x y z = false) : zC 47 sc (d + 2) 92 [.ref 33, .int x, .int y, .int z] M (some (.int (-1))) (M) := by
  obtain ⟨hth, hm, hn6, hR, hT⟩ := id hsm
  refine z_enter (L := [.ref 33, .int x, .int y, .int z]) rfl rfl rfl ?_
  refine zK.blk rfl ?_
  refine p_aloadn_0 ?_
  refine p_iconst (v := nI 0) (by decide) ?_
  refine p_put rfl rfl (by simp) ?_
  rw [zup_id hth]
  refine p_iloadn_1 ?_
  refine p_iconst (v := nI 0) (by decide) ?_
  refine p_iconst (v := nI 3) (by decide) ?_
  refine p_cs3i rfl rfl rfl rfl rfl (c_89) ?_
  refine p_ifB_eq (tgt := 38) (by decide) (fun hc11 => ?_) (fun hc11 => ?_)
  · skip
    refine zK.blk rfl ?_
    refine p_iconst (v := -1) (by decide) ?_
    exact p_iret trivial rfl rfl
  · skip
    obtain ⟨p, hp, rfl⟩ := zin_x (by decide) hc11
    have hz := z22_lt (show p < 4 by omega)
    refine p_iloadn_2 ?_
    refine p_iconst (v := nI 0) (by decide) ?_
    refine p_iloadn_1 ?_
    refine p_cs1i rfl rfl rfl rfl rfl (c_91 (p := p) (by omega)) ?_
    refine p_iconst (v := nI 1) (by decide) ?_
    refine p_isubN (by omega) ?_
    refine p_cs3i rfl rfl rfl rfl rfl (c_89) ?_
    refine p_ifB_eq (tgt := 38) (by decide) (fun hc25 => ?_) (fun hc25 => ?_)
    · skip
      refine zK.blk rfl ?_
      refine p_iconst (v := -1) (by decide) ?_
      exact p_iret trivial rfl rfl
    · skip
      refine p_iloadn_3 ?_
      refine p_iconst (v := nI 1) (by decide) ?_
      refine p_bipush (v := nI 9) (by decide) ?_
      refine p_cs3i rfl rfl rfl rfl rfl (c_89) ?_
      refine p_ifB_ne (tgt := 40) (by decide) (fun hc35 => ?_) (fun hc35 => ?_)
      · skip
        exact absurd h (by unfold zsok; rw [zfits_zin (by omega), hc25]; have h9 : (decide (¬ z < nI 1) && decide (¬ nI 9 < z)) = true := hc35; rw [Bool.true_and, h9]; decide) --STOP
      · skip
        refine zK.blk rfl ?_
        refine p_iconst (v := -1) (by decide) ?_
        exact p_iret trivial rfl rfl
set_option maxRecDepth 100000 in
set_option maxHeartbeats 4000000 in
theorem c_92b {sc : Nat × (Nat → Int32)} {d : Nat} {M : zM} {n : Nat} {P T K : Nat → Nat} {p t c : Nat} (hsm : sgM M n P T K) (hp : p < 4) (ht : t < z22 p) (hc1 : 1 ≤ c) (hc9 : c ≤ 9) (h6 : n = 6) : zC 47 sc (d + 2) 92 [.ref 33, .int (nI p), .int (nI t), .int (nI c)] M (some (.int (-3))) (M) := by
  obtain ⟨hth, hm, hn6, hR, hT⟩ := id hsm
  have hz := z22_lt hp
  have e1 := zin_t (a := p) (lo := 0) (hi := 3) (by omega) (by omega) (by decide)
  have e2 := zin_t (a := t) (lo := 0) (hi := z22 p - 1) (by omega) (by omega) (by omega)
  have e3 := zin_t (a := c) (lo := 1) (hi := 9) (by omega) (by omega) (by decide)
  refine z_enter (L := [.ref 33, .int (nI p), .int (nI t), .int (nI c)]) rfl rfl rfl ?_
  refine zK.blk rfl ?_
  refine p_aloadn_0 ?_
  refine p_iconst (v := nI 0) (by decide) ?_
  refine p_put rfl rfl (by simp) ?_
  rw [zup_id hth]
  refine p_iloadn_1 ?_
  refine p_iconst (v := nI 0) (by decide) ?_
  refine p_iconst (v := nI 3) (by decide) ?_
  refine p_cs3i rfl rfl rfl rfl rfl (c_89) ?_
  refine p_ifB_eq (tgt := 38) (by decide) (fun hc11 => ?_) (fun hc11 => ?_)
  · skip
    rw [e1] at hc11; cases hc11 --STOP
  · skip
    refine p_iloadn_2 ?_
    refine p_iconst (v := nI 0) (by decide) ?_
    refine p_iloadn_1 ?_
    refine p_cs1i rfl rfl rfl rfl rfl (c_91 (p := p) (by omega)) ?_
    refine p_iconst (v := nI 1) (by decide) ?_
    refine p_isubN (by omega) ?_
    refine p_cs3i rfl rfl rfl rfl rfl (c_89) ?_
    refine p_ifB_eq (tgt := 38) (by decide) (fun hc25 => ?_) (fun hc25 => ?_)
    · skip
      rw [e2] at hc25; cases hc25 --STOP
    · skip
      refine p_iloadn_3 ?_
      refine p_iconst (v := nI 1) (by decide) ?_
      refine p_bipush (v := nI 9) (by decide) ?_
      refine p_cs3i rfl rfl rfl rfl rfl (c_89) ?_
      refine p_ifB_ne (tgt := 40) (by decide) (fun hc35 => ?_) (fun hc35 => ?_)
      · skip
        refine zK.blk rfl ?_
        refine p_aloadn_0 ?_
        refine p_geti rfl rfl (hm) ?_
        refine p_bipush (v := nI 6) (by decide) ?_
        refine p_icmpN_ne (tgt := 52) (by decide) (by omega) (by omega) (fun hc46 => ?_) (fun hc46 => ?_)
        · skip
          exact absurd h6 hc46 --STOP
        · skip
          refine p_bipush (v := -3) (by decide) ?_
          exact p_iret trivial rfl rfl
      · skip
        rw [e3] at hc35; cases hc35 --STOP
set_option maxRecDepth 100000 in
set_option maxHeartbeats 4000000 in
theorem c_92c {sc : Nat × (Nat → Int32)} {d : Nat} {M : zM} {n : Nat} {P T K : Nat → Nat} {p t c : Nat} (hsm : sgM M n P T K) (hp : p < 4) (ht : t < z22 p) (hc1 : 1 ≤ c) (hc9 : c ≤ 9) (h5 : n < 6) : zC 47 sc (d + 2) 92 [.ref 33, .int (nI p), .int (nI t), .int (nI c)] M (some (.int (nI n))) (zem (zmsg M n p t c) 0 4) := by
  obtain ⟨hth, hm, hn6, hR, hT⟩ := id hsm
  have hz := z22_lt hp
  have e1 := zin_t (a := p) (lo := 0) (hi := 3) (by omega) (by omega) (by decide)
  have e2 := zin_t (a := t) (lo := 0) (hi := z22 p - 1) (by omega) (by omega) (by omega)
  have e3 := zin_t (a := c) (lo := 1) (hi := 9) (by omega) (by omega) (by decide)
  have hg1 : zup M 34 n (nI p) 33 1 = nI n := by simp [zup, hm]
  have hg2 : zup (zup M 34 n (nI p)) 35 n (nI t) 33 1 = nI n := by simp [zup, hm]
  have hg3 : zup (zup (zup M 34 n (nI p)) 35 n (nI t)) 36 n (nI c) 33 1 = nI n := by simp [zup, hm]
  have hg4 : zem (zmsg M n p t c) 0 4 33 1 = nI (n + 1) := by simp [zem, zmsg, zup]
  refine z_enter (L := [.ref 33, .int (nI p), .int (nI t), .int (nI c)]) rfl rfl rfl ?_
  refine zK.blk rfl ?_
  refine p_aloadn_0 ?_
  refine p_iconst (v := nI 0) (by decide) ?_
  refine p_put rfl rfl (by simp) ?_
  rw [zup_id hth]
  refine p_iloadn_1 ?_
  refine p_iconst (v := nI 0) (by decide) ?_
  refine p_iconst (v := nI 3) (by decide) ?_
  refine p_cs3i rfl rfl rfl rfl rfl (c_89) ?_
  refine p_ifB_eq (tgt := 38) (by decide) (fun hc11 => ?_) (fun hc11 => ?_)
  · skip
    rw [e1] at hc11; cases hc11 --STOP
  · skip
    refine p_iloadn_2 ?_
    refine p_iconst (v := nI 0) (by decide) ?_
    refine p_iloadn_1 ?_
    refine p_cs1i rfl rfl rfl rfl rfl (c_91 (p := p) (by omega)) ?_
    refine p_iconst (v := nI 1) (by decide) ?_
    refine p_isubN (by omega) ?_
    refine p_cs3i rfl rfl rfl rfl rfl (c_89) ?_
    refine p_ifB_eq (tgt := 38) (by decide) (fun hc25 => ?_) (fun hc25 => ?_)
    · skip
      rw [e2] at hc25; cases hc25 --STOP
    · skip
      refine p_iloadn_3 ?_
      refine p_iconst (v := nI 1) (by decide) ?_
      refine p_bipush (v := nI 9) (by decide) ?_
      refine p_cs3i rfl rfl rfl rfl rfl (c_89) ?_
      refine p_ifB_ne (tgt := 40) (by decide) (fun hc35 => ?_) (fun hc35 => ?_)
      · skip
        refine zK.blk rfl ?_
        refine p_aloadn_0 ?_
        refine p_geti rfl rfl hm ?_
        refine p_bipush (v := nI 6) (by decide) ?_
        refine p_icmpN_ne (tgt := 52) (by decide) (by omega) (by omega) (fun hc46 => ?_) (fun hc46 => ?_)
        · skip
          refine zK.blk rfl ?_
          refine p_aloadn_0 ?_
          refine p_getr rfl rfl ?_
          refine p_aloadn_0 ?_
          refine p_geti rfl rfl hm ?_
          refine p_iloadn_1 ?_
          refine p_iast rfl (by omega) (by decide) ?_
          refine p_aloadn_0 ?_
          refine p_getr rfl rfl ?_
          refine p_aloadn_0 ?_
          refine p_geti rfl rfl hg1 ?_
          refine p_iloadn_2 ?_
          refine p_iast rfl (by omega) (by decide) ?_
          refine p_aloadn_0 ?_
          refine p_getr rfl rfl ?_
          refine p_aloadn_0 ?_
          refine p_geti rfl rfl hg2 ?_
          refine p_iloadn_3 ?_
          refine p_iast rfl (by omega) (by decide) ?_
          refine p_aloadn_0 ?_
          refine p_dupa ?_
          refine p_geti rfl rfl hg3 ?_
          refine p_iconst (v := nI 1) (by decide) ?_
          refine p_iaddN ?_
          refine p_put rfl rfl (by simp) ?_
          refine p_aloadn_0 ?_
          refine p_cv0v rfl rfl rfl rfl rfl (c_90) ?_
          refine p_aloadn_0 ?_
          refine p_geti rfl rfl hg4 ?_
          refine p_iconst (v := nI 1) (by decide) ?_
          refine p_isubN (by omega) ?_
          exact p_iret trivial (by rw [Nat.add_sub_cancel]) rfl
        · skip
          exact absurd h5 (by omega) --STOP
      · skip
        rw [e3] at hc35; cases hc35 --STOP
set_option maxRecDepth 100000 in
set_option maxHeartbeats 4000000 in
theorem c_93a {sc : Nat × (Nat → Int32)} {d : Nat} {M : zM} {n : Nat} {P T K : Nat → Nat} (hsm : sgM M n P T K) (h0 : n = 0) : zC 47 sc (d + 2) 93 [.ref 33] M (some (.int (-1))) (M) := by
  obtain ⟨hth, hm, hn6, hR, hT⟩ := id hsm
  refine z_enter (L := [.ref 33]) rfl rfl rfl ?_
  refine zK.blk rfl ?_
  refine p_aloadn_0 ?_
  refine p_iconst (v := nI 0) (by decide) ?_
  refine p_put rfl rfl (by simp) ?_
  rw [zup_id hth]
  refine p_aloadn_0 ?_
  refine p_geti rfl rfl (hm) ?_
  refine p_ifN_ne (tgt := 14) (by decide) (by omega) (fun hc9 => ?_) (fun hc9 => ?_)
  · skip
    exact absurd h0 hc9 --STOP
  · skip
    refine p_iconst (v := -1) (by decide) ?_
    exact p_iret trivial rfl rfl
set_option maxRecDepth 100000 in
set_option maxHeartbeats 4000000 in
theorem c_93b {sc : Nat × (Nat → Int32)} {d : Nat} {M : zM} {n : Nat} {P T K : Nat → Nat} (hsm : sgM M n P T K) (h0 : 1 ≤ n) : zC 47 sc (d + 2) 93 [.ref 33] M (some (.int (nI (n - 1)))) (zem (zup M 33 1 (nI (n - 1))) 0 4) := by
  obtain ⟨hth, hm, hn6, hR, hT⟩ := id hsm
  have hg4 : zem (zup M 33 1 (nI (n - 1))) 0 4 33 1 = nI (n - 1) := by simp [zem, zup]
  refine z_enter (L := [.ref 33]) rfl rfl rfl ?_
  refine zK.blk rfl ?_
  refine p_aloadn_0 ?_
  refine p_iconst (v := nI 0) (by decide) ?_
  refine p_put rfl rfl (by simp) ?_
  rw [zup_id hth]
  refine p_aloadn_0 ?_
  refine p_geti rfl rfl hm ?_
  refine p_ifN_ne (tgt := 14) (by decide) (by omega) (fun hc9 => ?_) (fun hc9 => ?_)
  · skip
    refine zK.blk rfl ?_
    refine p_aloadn_0 ?_
    refine p_dupa ?_
    refine p_geti rfl rfl hm ?_
    refine p_iconst (v := nI 1) (by decide) ?_
    refine p_isubN (by omega) ?_
    refine p_put rfl rfl (by simp) ?_
    refine p_aloadn_0 ?_
    refine p_cv0v rfl rfl rfl rfl rfl (c_90) ?_
    refine p_aloadn_0 ?_
    refine p_geti rfl rfl hg4 ?_
    exact p_iret trivial rfl rfl
  · skip
    exact absurd h0 (by omega) --STOP
set_option maxRecDepth 100000 in
set_option maxHeartbeats 4000000 in
theorem c_75 {sc : Nat × (Nat → Int32)} {d : Nat} {M : zM} {len : Nat} (hln : M 24 1 = nI len) : zC 47 sc (d + 1) 75 [.ref 0] M (some (.int (nI len))) (zup M 24 1 (nI 0)) := by
  refine z_enter (L := [.ref 0, .null]) rfl rfl rfl ?_
  refine zK.blk rfl ?_
  refine p_aloadn_0 ?_
  refine p_getr rfl rfl ?_
  refine p_geti rfl rfl (hln) ?_
  refine p_istoren_1 rfl ?_
  refine p_aloadn_0 ?_
  refine p_getr rfl rfl ?_
  refine p_iconst (v := nI 0) (by decide) ?_
  refine p_put rfl rfl (by simp) ?_
  refine p_iloadn_1 ?_
  exact p_iret trivial rfl rfl
set_option maxRecDepth 100000 in
set_option maxHeartbeats 4000000 in
theorem c_126 {sc : Nat × (Nat → Int32)} {d : Nat} {M : zM} {n : Nat} {P T K : Nat → Nat} {len : Nat} (hsm : sgM M n P T K) (hty : M 33 10 = nI len) : zC 47 sc (d + 1) 126 [.ref 33] M (some (.int (nI len))) (zup M 33 10 (nI 0)) := by
  obtain ⟨hth, hm, hn6, hR, hT⟩ := id hsm
  refine z_enter (L := [.ref 33, .null]) rfl rfl rfl ?_
  refine zK.blk rfl ?_
  refine p_aloadn_0 ?_
  refine p_iconst (v := nI 0) (by decide) ?_
  refine p_put rfl rfl (by simp) ?_
  rw [zup_id hth]
  refine p_aloadn_0 ?_
  refine p_geti rfl rfl (hty) ?_
  refine p_istoren_1 rfl ?_
  refine p_aloadn_0 ?_
  refine p_iconst (v := nI 0) (by decide) ?_
  refine p_put rfl rfl (by simp) ?_
  refine p_iloadn_1 ?_
  exact p_iret trivial rfl rfl
theorem zN_m1 (j : Nat) : nI j + Int32.ofInt (-1) = nI j - nI 1 := by
  rw [show Int32.ofInt (-1) = -nI 1 by decide, Int32.sub_eq_add_neg]
theorem zN_m1lt : nI 0 - nI 1 < 0 := by decide
def bvC (v : Int64) (j : Nat) : Int32 := vp_nar .byte (((v.toUInt64 >>> ((nI (8 * j)).toInt64.toUInt64 &&& Int64.toUInt64 63)).toInt64).toInt32.toInt8.toInt32)
def bvM (v : Int64) (j : Nat) : Int32 := (v >>> ((nI (8 * j)).toInt64 &&& 63) &&& Int64.ofNat 255).toInt32
def zapC (v : Int64) : Nat → Nat → zM → zM
  | 0, _, M => M
  | j + 1, len, M => zapC v j (len + 1) (zup (zup M 25 len (bvC v j)) 24 1 (nI (len + 1)))
def zapM (v : Int64) : Nat → Nat → zM → zM
  | 0, _, M => M
  | j + 1, len, M => zapM v j (len + 1) (zup (zup M 38 len (bvM v j)) 33 10 (nI (len + 1)))
set_option maxRecDepth 100000 in
set_option maxHeartbeats 4000000 in
theorem lp_35_5 {sc : Nat × (Nat → Int32)} {d : Nat} {r : Option Value} {M' : zM} {v : Int64} {n0 : Nat} : ∀ (j len : Nat) (M : zM), M 24 1 = nI len → len + j ≤ 80 → zK 47 sc (zC 47 sc (d + 0)) 35 r M' 53 [.ref 24, .long v, .null, .int (nI n0), .int (nI 0 - nI 1)] [] (zapC v j len M) → zK 47 sc (zC 47 sc (d + 0)) 35 r M' 5 [.ref 24, .long v, .null, .int (nI n0), .int (nI j - nI 1)] [] M := by
  intro j
  induction j with
  | zero =>
    intro len M hl hj hk
    refine zK.blk rfl ?_
    refine p_iload_4 ?_
    refine p_if_lt (tgt := 53) (by decide) (fun hc7 => ?_) (fun hc7 => ?_)
    · skip
      exact hk
    · skip
      exact absurd zN_m1lt hc7 --STOP
  | succ j ih =>
    intro len M hl hj hk
    rw [show nI (j + 1) - nI 1 = nI j by rw [zN_sub (by omega)]; rfl]
    refine zK.blk rfl ?_
    refine p_iload_4 ?_
    refine p_ifN_lt (tgt := 53) (by decide) (by omega) (fun hc7 => ?_) (fun hc7 => ?_)
    · skip
      exact absurd hc7 (by omega) --STOP
    · skip
      refine p_aloadn_0 ?_
      refine p_geti rfl rfl hl ?_
      refine p_bipush (v := nI 80) (by decide) ?_
      refine p_icmpN_ge (tgt := 53) (by decide) (by omega) (by omega) (fun hc16 => ?_) (fun hc16 => ?_)
      · skip
        exact absurd hc16 (by omega) --STOP
      · skip
        refine p_aloadn_0 ?_
        refine p_getr rfl rfl ?_
        refine p_aloadn_0 ?_
        refine p_geti rfl rfl hl ?_
        refine p_lloadn_1 ?_
        refine p_bipush (v := nI 8) (by decide) ?_
        refine p_iload_4 ?_
        refine p_imulN ?_
        refine p_lushr ?_
        refine p_l2i rfl ?_
        refine p_i2b rfl ?_
        refine p_bast (v := bvC v j) rfl (by omega) (by decide) rfl ?_
        refine p_aloadn_0 ?_
        refine p_dupa ?_
        refine p_geti (v := nI len) rfl rfl (by simp [zup]; exact hl) ?_
        refine p_iconst (v := nI 1) (by decide) ?_
        refine p_iaddN ?_
        refine p_put rfl rfl (by simp) ?_
        refine p_iinc_4 (zN_m1 _) rfl ?_
        refine p_goto (tgt := 5) (by decide) ?_
        exact ih (len + 1) _ (by simp [zup]) (by omega) hk
set_option maxRecDepth 100000 in
set_option maxHeartbeats 4000000 in
theorem lp_125_36 {sc : Nat × (Nat → Int32)} {d : Nat} {r : Option Value} {M' : zM} {v : Int64} {n0 : Nat} : ∀ (j len : Nat) (M : zM), M 33 10 = nI len → len + j ≤ 80 → zK 47 sc (zC 47 sc (d + 1)) 125 r M' 78 [.ref 33, .long v, .null, .int (nI n0), .int (nI 0 - nI 1)] [] (zapM v j len M) → zK 47 sc (zC 47 sc (d + 1)) 125 r M' 36 [.ref 33, .long v, .null, .int (nI n0), .int (nI j - nI 1)] [] M := by
  intro j
  induction j with
  | zero =>
    intro len M hl hj hk
    refine zK.blk rfl ?_
    refine p_iload_4 ?_
    refine p_if_lt (tgt := 78) (by decide) (fun hc38 => ?_) (fun hc38 => ?_)
    · skip
      exact hk
    · skip
      exact absurd zN_m1lt hc38 --STOP
  | succ j ih =>
    intro len M hl hj hk
    rw [show nI (j + 1) - nI 1 = nI j by rw [zN_sub (by omega)]; rfl]
    refine zK.blk rfl ?_
    refine p_iload_4 ?_
    refine p_ifN_lt (tgt := 78) (by decide) (by omega) (fun hc38 => ?_) (fun hc38 => ?_)
    · skip
      exact absurd hc38 (by omega) --STOP
    · skip
      refine p_aloadn_0 ?_
      refine p_getr rfl rfl ?_
      refine p_aloadn_0 ?_
      refine p_geti rfl rfl hl ?_
      refine p_lloadn_1 ?_
      refine p_bipush (v := nI 8) (by decide) ?_
      refine p_iload_4 ?_
      refine p_imulN ?_
      refine p_lshr ?_
      refine p_ldc2 ?_
      refine p_land ?_
      refine p_l2i rfl ?_
      refine p_iast rfl (by omega) (by decide) ?_
      refine p_aloadn_0 ?_
      refine p_dupa ?_
      refine p_geti (v := nI len) rfl rfl (by simp [zup]; exact hl) ?_
      refine p_iconst (v := nI 1) (by decide) ?_
      refine p_iaddN ?_
      refine p_put rfl rfl (by simp) ?_
      refine p_iinc_4 (zN_m1 _) rfl ?_
      refine p_goto (tgt := 36) (by decide) ?_
      exact ih (len + 1) _ (by simp [zup]) (by omega) hk
end
section
theorem zapC_len (v : Int64) : ∀ (j len : Nat) (M : zM), M 24 1 = nI len → zapC v j len M 24 1 = nI (len + j) := by
  intro j
  induction j with
  | zero => intro len M h; exact h
  | succ j ih =>
    intro len M h
    show zapC v j (len + 1) _ 24 1 = _
    rw [ih (len + 1) _ (by simp [zup])]
    congr 1
    omega
theorem zapM_len (v : Int64) : ∀ (j len : Nat) (M : zM), M 33 10 = nI len → zapM v j len M 33 10 = nI (len + j) := by
  intro j
  induction j with
  | zero => intro len M h; exact h
  | succ j ih =>
    intro len M h
    show zapM v j (len + 1) _ 33 10 = _
    rw [ih (len + 1) _ (by simp [zup])]
    congr 1
    omega
theorem zin_x2 {x : Int32} {lo hi : Nat} (hl : lo < 2 ^ 31) (hh : hi < 2 ^ 31) (h : zin x (nI lo) (nI hi) = true) : ∃ a, lo ≤ a ∧ a ≤ hi ∧ x = nI a := by
  unfold zin at h
  simp only [Bool.and_eq_true, decide_eq_true_eq] at h
  have h0 : ¬ x < 0 := fun w => h.1 (Int32.lt_of_lt_of_le w (nI_pos' hl))
  obtain ⟨a, ha, rfl⟩ := nI_of2 (M := nI hi) (n := hi) (nI_toInt hh) h0 (Int32.not_lt.mp h.2)
  exact ⟨a, by have h2 := h.1; rw [nI_ltI (by omega) hl] at h2; omega, ha, rfl⟩
set_option maxRecDepth 100000 in
set_option maxHeartbeats 4000000 in
theorem c_34 {sc : Nat × (Nat → Int32)} {d : Nat} {M : zM} {len m : Nat} (hln : M 24 1 = nI len) (hl8 : len ≤ 80) (hm8 : m ≤ 8) : zC 47 sc (d + 1) 34 [.ref 24, .int (nI m)] M (some (.int (zB (decide (len + m ≤ 80))))) (M) := by
  refine z_enter (L := [.ref 24, .int (nI m)]) rfl rfl rfl ?_
  refine zK.blk rfl ?_
  refine p_aloadn_0 ?_
  refine p_geti rfl rfl (hln) ?_
  refine p_iloadn_1 ?_
  refine p_iaddN ?_
  refine p_bipush (v := nI 80) (by decide) ?_
  refine p_icmpN_gt (tgt := 15) (by decide) (by omega) (by omega) (fun hc8 => ?_) (fun hc8 => ?_)
  · skip
    refine zK.blk rfl ?_
    refine p_iconst (v := nI 0) (by decide) ?_
    refine zK.blk rfl ?_
    exact p_iret (by first | exact Or.inl rfl | exact Or.inr rfl) (by first | rw [decide_eq_true (by omega)]; rfl | rw [decide_eq_false (by omega)]; rfl) rfl
  · skip
    refine p_iconst (v := nI 1) (by decide) ?_
    refine p_goto (tgt := 16) (by decide) ?_
    refine zK.blk rfl ?_
    exact p_iret (by first | exact Or.inl rfl | exact Or.inr rfl) (by first | rw [decide_eq_true (by omega)]; rfl | rw [decide_eq_false (by omega)]; rfl) rfl
set_option maxRecDepth 100000 in
set_option maxHeartbeats 4000000 in
theorem c_35 {sc : Nat × (Nat → Int32)} {d : Nat} {M : zM} {len m : Nat} {v : Int64} (hln : M 24 1 = nI len) (hl8 : len ≤ 80) (hm : len + m ≤ 80) (hm1 : 1 ≤ m) : zC 47 sc (d + 1) 35 [.ref 24, .long v, .int (nI m)] M (none) (zapC v m len M) := by
  refine z_enter (L := [.ref 24, .long v, .null, .int (nI m), .null]) rfl rfl rfl ?_
  refine zK.blk rfl ?_
  refine p_iloadn_3 ?_
  refine p_iconst (v := nI 1) (by decide) ?_
  refine p_isub ?_
  refine p_istore_4 rfl ?_
  refine lp_35_5 m len M hln hm ?_
  refine zK.blk rfl ?_
  exact p_vret trivial rfl rfl
set_option maxRecDepth 100000 in
set_option maxHeartbeats 4000000 in
theorem c_74a {sc : Nat × (Nat → Int32)} {d : Nat} {M : zM} {x : Int32} {v : Int64} (hx : zin x (nI 1) (nI 8) = false) : zC 47 sc (d + 2) 74 [.ref 0, .long v, .int x] M (some (.int (-1))) (M) := by
  refine z_enter (L := [.ref 0, .long v, .null, .int x]) rfl rfl rfl ?_
  refine zK.blk rfl ?_
  refine p_iloadn_3 ?_
  refine p_iconst (v := nI 1) (by decide) ?_
  refine p_icmp_lt (tgt := 11) (by decide) (fun hc2 => ?_) (fun hc2 => ?_)
  · skip
    refine zK.blk rfl ?_
    refine p_iconst (v := -1) (by decide) ?_
    exact p_iret trivial rfl rfl
  · skip
    refine p_iloadn_3 ?_
    refine p_bipush (v := nI 8) (by decide) ?_
    refine p_icmp_le (tgt := 13) (by decide) (fun hc8 => ?_) (fun hc8 => ?_)
    · skip
      exact absurd hx (by unfold zin; rw [decide_eq_true hc2, decide_eq_true (Int32.not_lt.mpr hc8)]; decide) --STOP
    · skip
      refine zK.blk rfl ?_
      refine p_iconst (v := -1) (by decide) ?_
      exact p_iret trivial rfl rfl
set_option maxRecDepth 100000 in
set_option maxHeartbeats 4000000 in
theorem c_74b {sc : Nat × (Nat → Int32)} {d : Nat} {M : zM} {len m : Nat} {v : Int64} (hln : M 24 1 = nI len) (hl8 : len ≤ 80) (hm1 : 1 ≤ m) (hm8 : m ≤ 8) (hf : ¬ len + m ≤ 80) : zC 47 sc (d + 2) 74 [.ref 0, .long v, .int (nI m)] M (some (.int (-3))) (M) := by
  refine z_enter (L := [.ref 0, .long v, .null, .int (nI m)]) rfl rfl rfl ?_
  refine zK.blk rfl ?_
  refine p_iloadn_3 ?_
  refine p_iconst (v := nI 1) (by decide) ?_
  refine p_icmpN_lt (tgt := 11) (by decide) (by omega) (by omega) (fun hc2 => ?_) (fun hc2 => ?_)
  · skip
    exact absurd hc2 (by omega) --STOP
  · skip
    refine p_iloadn_3 ?_
    refine p_bipush (v := nI 8) (by decide) ?_
    refine p_icmpN_le (tgt := 13) (by decide) (by omega) (by omega) (fun hc8 => ?_) (fun hc8 => ?_)
    · skip
      refine zK.blk rfl ?_
      refine p_aloadn_0 ?_
      refine p_getr rfl rfl ?_
      refine p_iloadn_3 ?_
      refine p_cv1i rfl rfl rfl rfl rfl (c_34 hln hl8 hm8) ?_
      refine p_ifB_ne (tgt := 27) (by decide) (fun hc21 => ?_) (fun hc21 => ?_)
      · skip
        exact absurd (of_decide_eq_true hc21) hf --STOP
      · skip
        refine p_bipush (v := -3) (by decide) ?_
        exact p_iret trivial rfl rfl
    · skip
      exact absurd hm8 hc8 --STOP
set_option maxRecDepth 100000 in
set_option maxHeartbeats 4000000 in
theorem c_74c {sc : Nat × (Nat → Int32)} {d : Nat} {M : zM} {len m : Nat} {v : Int64} (hln : M 24 1 = nI len) (hl8 : len ≤ 80) (hm1 : 1 ≤ m) (hm8 : m ≤ 8) (hf : len + m ≤ 80) : zC 47 sc (d + 2) 74 [.ref 0, .long v, .int (nI m)] M (some (.int (nI (len + m)))) (zapC v m len M) := by
  refine z_enter (L := [.ref 0, .long v, .null, .int (nI m)]) rfl rfl rfl ?_
  refine zK.blk rfl ?_
  refine p_iloadn_3 ?_
  refine p_iconst (v := nI 1) (by decide) ?_
  refine p_icmpN_lt (tgt := 11) (by decide) (by omega) (by omega) (fun hc2 => ?_) (fun hc2 => ?_)
  · skip
    exact absurd hc2 (by omega) --STOP
  · skip
    refine p_iloadn_3 ?_
    refine p_bipush (v := nI 8) (by decide) ?_
    refine p_icmpN_le (tgt := 13) (by decide) (by omega) (by omega) (fun hc8 => ?_) (fun hc8 => ?_)
    · skip
      refine zK.blk rfl ?_
      refine p_aloadn_0 ?_
      refine p_getr rfl rfl ?_
      refine p_iloadn_3 ?_
      refine p_cv1i rfl rfl rfl rfl rfl (c_34 hln hl8 hm8) ?_
      refine p_ifB_ne (tgt := 27) (by decide) (fun hc21 => ?_) (fun hc21 => ?_)
      · skip
        refine zK.blk rfl ?_
        refine p_aloadn_0 ?_
        refine p_getr rfl rfl ?_
        refine p_lloadn_1 ?_
        refine p_iloadn_3 ?_
        refine p_cv2v rfl rfl rfl rfl rfl (c_35 hln hl8 hf hm1) ?_
        refine p_aloadn_0 ?_
        refine p_getr rfl rfl ?_
        refine p_geti rfl rfl (zapC_len v m len M hln) ?_
        exact p_iret trivial rfl rfl
      · skip
        exact absurd hf (of_decide_eq_false hc21) --STOP
    · skip
      exact absurd hm8 hc8 --STOP
set_option maxRecDepth 100000 in
set_option maxHeartbeats 4000000 in
theorem c_125a {sc : Nat × (Nat → Int32)} {d : Nat} {M : zM} {n : Nat} {P T K : Nat → Nat} {x : Int32} {v : Int64} (hsm : sgM M n P T K) (hx : zin x (nI 1) (nI 8) = false) : zC 47 sc (d + 2) 125 [.ref 33, .long v, .int x] M (some (.int (-1))) (M) := by
  obtain ⟨hth, hm, hn6, hR, hT⟩ := id hsm
  refine z_enter (L := [.ref 33, .long v, .null, .int x, .null]) rfl rfl rfl ?_
  refine zK.blk rfl ?_
  refine p_aloadn_0 ?_
  refine p_iconst (v := nI 0) (by decide) ?_
  refine p_put rfl rfl (by simp) ?_
  rw [zup_id hth]
  refine p_iloadn_3 ?_
  refine p_iconst (v := nI 1) (by decide) ?_
  refine p_bipush (v := nI 8) (by decide) ?_
  refine p_cs3i rfl rfl rfl rfl rfl (c_89) ?_
  refine p_ifB_ne (tgt := 17) (by decide) (fun hc12 => ?_) (fun hc12 => ?_)
  · skip
    rw [hx] at hc12; cases hc12 --STOP
  · skip
    refine p_iconst (v := -1) (by decide) ?_
    exact p_iret trivial rfl rfl
set_option maxRecDepth 100000 in
set_option maxHeartbeats 4000000 in
theorem c_125b {sc : Nat × (Nat → Int32)} {d : Nat} {M : zM} {n : Nat} {P T K : Nat → Nat} {len m : Nat} {v : Int64} (hsm : sgM M n P T K) (hty : M 33 10 = nI len) (hl8 : len ≤ 80) (hm1 : 1 ≤ m) (hm8 : m ≤ 8) (hf : ¬ len + m ≤ 80) : zC 47 sc (d + 2) 125 [.ref 33, .long v, .int (nI m)] M (some (.int (-3))) (M) := by
  obtain ⟨hth, hm, hn6, hR, hT⟩ := id hsm
  have e1 := zin_t (a := m) (lo := 1) (hi := 8) hm1 hm8 (by decide)
  refine z_enter (L := [.ref 33, .long v, .null, .int (nI m), .null]) rfl rfl rfl ?_
  refine zK.blk rfl ?_
  refine p_aloadn_0 ?_
  refine p_iconst (v := nI 0) (by decide) ?_
  refine p_put rfl rfl (by simp) ?_
  rw [zup_id hth]
  refine p_iloadn_3 ?_
  refine p_iconst (v := nI 1) (by decide) ?_
  refine p_bipush (v := nI 8) (by decide) ?_
  refine p_cs3i rfl rfl rfl rfl rfl (c_89) ?_
  refine p_ifB_ne (tgt := 17) (by decide) (fun hc12 => ?_) (fun hc12 => ?_)
  · skip
    refine zK.blk rfl ?_
    refine p_aloadn_0 ?_
    refine p_geti rfl rfl (hty) ?_
    refine p_iloadn_3 ?_
    refine p_iaddN ?_
    refine p_bipush (v := nI 80) (by decide) ?_
    refine p_icmpN_le (tgt := 31) (by decide) (by omega) (by omega) (fun hc25 => ?_) (fun hc25 => ?_)
    · skip
      exact absurd hc25 hf --STOP
    · skip
      refine p_bipush (v := -3) (by decide) ?_
      exact p_iret trivial rfl rfl
  · skip
    rw [e1] at hc12; cases hc12 --STOP
set_option maxRecDepth 100000 in
set_option maxHeartbeats 4000000 in
theorem c_125c {sc : Nat × (Nat → Int32)} {d : Nat} {M : zM} {n : Nat} {P T K : Nat → Nat} {len m : Nat} {v : Int64} (hsm : sgM M n P T K) (hty : M 33 10 = nI len) (hl8 : len ≤ 80) (hm1 : 1 ≤ m) (hm8 : m ≤ 8) (hf : len + m ≤ 80) : zC 47 sc (d + 2) 125 [.ref 33, .long v, .int (nI m)] M (some (.int (nI (len + m)))) (zapM v m len M) := by
  obtain ⟨hth, hm, hn6, hR, hT⟩ := id hsm
  have e1 := zin_t (a := m) (lo := 1) (hi := 8) hm1 hm8 (by decide)
  refine z_enter (L := [.ref 33, .long v, .null, .int (nI m), .null]) rfl rfl rfl ?_
  refine zK.blk rfl ?_
  refine p_aloadn_0 ?_
  refine p_iconst (v := nI 0) (by decide) ?_
  refine p_put rfl rfl (by simp) ?_
  rw [zup_id hth]
  refine p_iloadn_3 ?_
  refine p_iconst (v := nI 1) (by decide) ?_
  refine p_bipush (v := nI 8) (by decide) ?_
  refine p_cs3i rfl rfl rfl rfl rfl (c_89) ?_
  refine p_ifB_ne (tgt := 17) (by decide) (fun hc12 => ?_) (fun hc12 => ?_)
  · skip
    refine zK.blk rfl ?_
    refine p_aloadn_0 ?_
    refine p_geti rfl rfl (hty) ?_
    refine p_iloadn_3 ?_
    refine p_iaddN ?_
    refine p_bipush (v := nI 80) (by decide) ?_
    refine p_icmpN_le (tgt := 31) (by decide) (by omega) (by omega) (fun hc25 => ?_) (fun hc25 => ?_)
    · skip
      refine zK.blk rfl ?_
      refine p_iloadn_3 ?_
      refine p_iconst (v := nI 1) (by decide) ?_
      refine p_isub ?_
      refine p_istore_4 rfl ?_
      refine lp_125_36 m len M hty hf ?_
      refine zK.blk rfl ?_
      refine p_aloadn_0 ?_
      refine p_geti rfl rfl (zapM_len v m len M hty) ?_
      exact p_iret trivial rfl rfl
    · skip
      exact absurd hf hc25 --STOP
  · skip
    rw [e1] at hc12; cases hc12 --STOP
theorem o3_le (P : Nat → Nat) : ∀ j i v, zfor (o3F P) j i v ≤ v + j := by
  intro j
  induction j with
  | zero => intro i v; exact Nat.le_refl _
  | succ j ih =>
    intro i v
    have h1 := ih (i + 1) (o3F P i v)
    have h2 : o3F P i v ≤ v + 1 := by unfold o3F; split <;> omega
    show zfor (o3F P) j (i + 1) (o3F P i v) ≤ _
    omega
theorem o3N_le (P : Nat → Nat) (n : Nat) : o3N P n ≤ n := by have := o3_le P n 0 0; unfold o3N; omega
/-- tables of three places, and a sign of three places -/
def zbar (P : Nat → Nat) (n q : Nat) : Bool := decide (q = 3) && decide (¬ o3N P n = 0)
set_option maxRecDepth 100000 in
set_option maxHeartbeats 4000000 in
theorem c_85 {sc : Nat × (Nat → Int32)} {d : Nat} {M : zM} {n : Nat} {P T K : Nat → Nat} {q : Nat} (hsg : sgC M n P T K) (hq : q < 2 ^ 31) : zC 47 sc (d + 2) 85 [.ref 0, .int (nI q)] M (some (.int (zB (zbar P n q)))) (M) := by
  have h3 := o3N_le P n
  have h6 := hsg.1
  refine z_enter (L := [.ref 0, .int (nI q)]) rfl rfl rfl ?_
  refine zK.blk rfl ?_
  refine p_iloadn_1 ?_
  refine p_iconst (v := nI 3) (by decide) ?_
  refine p_icmpN_ne (tgt := 19) (by decide) (by omega) (by omega) (fun hc2 => ?_) (fun hc2 => ?_)
  · skip
    refine zK.blk rfl ?_
    refine p_iconst (v := nI 0) (by decide) ?_
    refine zK.blk rfl ?_
    exact p_iret (by first | exact Or.inl rfl | exact Or.inr rfl) (by unfold zbar; first | (rw [decide_eq_true (show q = 3 by omega), decide_eq_true (show ¬ o3N P n = 0 by omega)]; rfl) | (rw [decide_eq_false (show ¬ q = 3 by omega)]; rfl) | (rw [decide_eq_false (show ¬ ¬ o3N P n = 0 by omega), Bool.and_false]; rfl)) rfl
  · skip
    refine p_aloadn_0 ?_
    refine p_getr rfl rfl ?_
    refine p_cv0i rfl rfl rfl rfl rfl (c_27 hsg) ?_
    refine p_ifN_le (tgt := 19) (by decide) (by omega) (fun hc12 => ?_) (fun hc12 => ?_)
    · skip
      refine zK.blk rfl ?_
      refine p_iconst (v := nI 0) (by decide) ?_
      refine zK.blk rfl ?_
      exact p_iret (by first | exact Or.inl rfl | exact Or.inr rfl) (by unfold zbar; first | (rw [decide_eq_true (show q = 3 by omega), decide_eq_true (show ¬ o3N P n = 0 by omega)]; rfl) | (rw [decide_eq_false (show ¬ q = 3 by omega)]; rfl) | (rw [decide_eq_false (show ¬ ¬ o3N P n = 0 by omega), Bool.and_false]; rfl)) rfl
    · skip
      refine p_iconst (v := nI 1) (by decide) ?_
      refine p_goto (tgt := 20) (by decide) ?_
      refine zK.blk rfl ?_
      exact p_iret (by first | exact Or.inl rfl | exact Or.inr rfl) (by unfold zbar; first | (rw [decide_eq_true (show q = 3 by omega), decide_eq_true (show ¬ o3N P n = 0 by omega)]; rfl) | (rw [decide_eq_false (show ¬ q = 3 by omega)]; rfl) | (rw [decide_eq_false (show ¬ ¬ o3N P n = 0 by omega), Bool.and_false]; rfl)) rfl
set_option maxRecDepth 100000 in
set_option maxHeartbeats 4000000 in
theorem c_101 {sc : Nat × (Nat → Int32)} {d : Nat} {M : zM} {n : Nat} {P T K : Nat → Nat} {q : Nat} (hsm : sgM M n P T K) (hq1 : 1 ≤ q) (hq : q < 4) : zC 47 sc (d + 2) 101 [.ref 33, .int (nI q)] M (some (.int (if zbar P n q = true then -2 else nI 0))) (M) := by
  have e1 := zin_t (a := q) (lo := 1) (hi := 3) hq1 (by omega) (by decide)
  refine z_enter (L := [.ref 33, .int (nI q)]) rfl rfl rfl ?_
  refine zK.blk rfl ?_
  refine p_iloadn_1 ?_
  refine p_iconst (v := nI 1) (by decide) ?_
  refine p_iconst (v := nI 3) (by decide) ?_
  refine p_cs3i rfl rfl rfl rfl rfl (c_89) ?_
  refine p_ifB_ne (tgt := 13) (by decide) (fun hc6 => ?_) (fun hc6 => ?_)
  · skip
    refine zK.blk rfl ?_
    refine p_iloadn_1 ?_
    refine p_iconst (v := nI 3) (by decide) ?_
    refine p_icmpN_ne (tgt := 30) (by decide) (by omega) (by omega) (fun hc15 => ?_) (fun hc15 => ?_)
    · skip
      rw [if_neg (by unfold zbar; rw [decide_eq_false hc15, Bool.false_and]; decide)]
      refine zK.blk rfl ?_
      refine p_iconst (v := nI 0) (by decide) ?_
      refine zK.blk rfl ?_
      exact p_iret trivial rfl rfl
    · skip
      refine p_aloadn_0 ?_
      refine p_cv0i rfl rfl rfl rfl rfl (c_97 hsm) ?_
      refine p_ifB_eq (tgt := 30) (by decide) (fun hc22 => ?_) (fun hc22 => ?_)
      · skip
        rw [if_neg (by unfold zbar; rw [hc22, Bool.and_false]; decide)]
        refine zK.blk rfl ?_
        refine p_iconst (v := nI 0) (by decide) ?_
        refine zK.blk rfl ?_
        exact p_iret trivial rfl rfl
      · skip
        rw [if_pos (by unfold zbar; rw [hc22, decide_eq_true (show q = 3 by omega)]; rfl)]
        refine p_bipush (v := -2) (by decide) ?_
        refine p_goto (tgt := 31) (by decide) ?_
        refine zK.blk rfl ?_
        exact p_iret trivial rfl rfl
  · skip
    rw [e1] at hc6; cases hc6 --STOP
set_option maxRecDepth 100000 in
set_option maxHeartbeats 4000000 in
theorem c_101a {sc : Nat × (Nat → Int32)} {d : Nat} {M : zM} {x : Int32} (hx : zcnt x = false) : zC 47 sc (d + 2) 101 [.ref 33, .int x] M (some (.int (-1))) (M) := by
  refine z_enter (L := [.ref 33, .int x]) rfl rfl rfl ?_
  refine zK.blk rfl ?_
  refine p_iloadn_1 ?_
  refine p_iconst (v := nI 1) (by decide) ?_
  refine p_iconst (v := nI 3) (by decide) ?_
  refine p_cs3i rfl rfl rfl rfl rfl (c_89) ?_
  refine p_ifB_ne (tgt := 13) (by decide) (fun hc6 => ?_) (fun hc6 => ?_)
  · skip
    exact absurd (show zcnt x = true from hc6) (by rw [hx]; decide) --STOP
  · skip
    refine p_iconst (v := -1) (by decide) ?_
    refine p_goto (tgt := 31) (by decide) ?_
    refine zK.blk rfl ?_
    exact p_iret trivial rfl rfl
end
section
/-- rc is the cell of the Reach of n places, N its tables -/
def zrc (rc n N : Nat) : Prop := (rc = 9 ∧ n = 1 ∧ N = 4) ∨ (rc = 14 ∧ n = 2 ∧ N = 16) ∨ (rc = 19 ∧ n = 3 ∧ N = 256)
theorem zl_r {rc n N : Nat} (h : zrc rc n N) : zlay 47 rc = some (.inl (1, [none, none, some (rc + 1), some (rc + 2), some (rc + 3), some (rc + 4), none, none, none])) := by
  rcases h with ⟨rfl, -, -⟩ | ⟨rfl, -, -⟩ | ⟨rfl, -, -⟩ <;> rfl
theorem zl_a2 {rc n N : Nat} (h : zrc rc n N) : zlay 47 (rc + 1) = some (.inr (N, .int, [])) := by
  rcases h with ⟨rfl, -, rfl⟩ | ⟨rfl, -, rfl⟩ | ⟨rfl, -, rfl⟩ <;> rfl
theorem zl_a3 {rc n N : Nat} (h : zrc rc n N) : zlay 47 (rc + 2) = some (.inr (N, .int, [])) := by
  rcases h with ⟨rfl, -, rfl⟩ | ⟨rfl, -, rfl⟩ | ⟨rfl, -, rfl⟩ <;> rfl
theorem zl_a4 {rc n N : Nat} (h : zrc rc n N) : zlay 47 (rc + 3) = some (.inr (N, .boolean, [])) := by
  rcases h with ⟨rfl, -, rfl⟩ | ⟨rfl, -, rfl⟩ | ⟨rfl, -, rfl⟩ <;> rfl
theorem zl_a5 {rc n N : Nat} (h : zrc rc n N) : zlay 47 (rc + 4) = some (.inr (N, .int, [])) := by
  rcases h with ⟨rfl, -, rfl⟩ | ⟨rfl, -, rfl⟩ | ⟨rfl, -, rfl⟩ <;> rfl
theorem zl_N {rc n N : Nat} (h : zrc rc n N) : 4 ≤ N ∧ N ≤ 256 ∧ N = z22 n ∧ 1 ≤ n ∧ n < 4 := by
  rcases h with ⟨-, rfl, rfl⟩ | ⟨-, rfl, rfl⟩ | ⟨-, rfl, rfl⟩ <;> decide
theorem zl_n {rc n N : Nat} (h : zrc rc n N) : N < 2 ^ 31 := by have := zl_N h; omega

/-- what a Reach holds of costs -/
def rcC (M : zM) (rc N : Nat) (c : Nat → Nat) : Prop := M rc 1 = nI (N - 1) ∧ ∀ t, t < N → M (rc + 1) t = nI (c t) ∧ c t ≤ 1073741824
set_option maxRecDepth 100000 in
set_option maxHeartbeats 4000000 in
theorem c_15 {sc : Nat × (Nat → Int32)} {d : Nat} {M : zM} {l : Nat} : zC 47 sc (d + 1) 15 [.int (nI l)] M (some (.int (nI (l <<< 24)))) (M) := by
  refine z_enter (L := [.int (nI l)]) rfl rfl rfl ?_
  refine zK.blk rfl ?_
  refine p_iloadn_0 ?_
  refine p_bipush (v := nI 24) (by decide) ?_
  refine p_ishlN (by omega) ?_
  exact p_iret trivial rfl rfl
set_option maxRecDepth 100000 in
set_option maxHeartbeats 4000000 in
theorem c_19 {sc : Nat × (Nat → Int32)} {d : Nat} {M : zM} {p : Nat} (hp : p < 3) : zC 47 sc (d + 1) 19 [.int (nI p)] M (some (.int (nI (8 * (2 - p))))) (M) := by
  refine z_enter (L := [.int (nI p)]) rfl rfl rfl ?_
  refine zK.blk rfl ?_
  refine p_bipush (v := nI 8) (by decide) ?_
  refine p_iconst (v := nI 2) (by decide) ?_
  refine p_iloadn_0 ?_
  refine p_isubN (by omega) ?_
  refine p_imulN ?_
  exact p_iret trivial rfl rfl
set_option maxRecDepth 100000 in
set_option maxHeartbeats 4000000 in
theorem c_16 {sc : Nat × (Nat → Int32)} {d : Nat} {M : zM} {w p t : Nat} (hp : p < 3) : zC 47 sc (d + 2) 16 [.int (nI w), .int (nI p), .int (nI t)] M (some (.int (nI (w ||| t <<< (8 * (2 - p)))))) (M) := by
  refine z_enter (L := [.int (nI w), .int (nI p), .int (nI t)]) rfl rfl rfl ?_
  refine zK.blk rfl ?_
  refine p_iloadn_0 ?_
  refine p_iloadn_2 ?_
  refine p_iloadn_1 ?_
  refine p_cs1i rfl rfl rfl rfl rfl (c_19 hp) ?_
  refine p_ishlN (by omega) ?_
  refine p_iorN ?_
  exact p_iret trivial rfl rfl
set_option maxRecDepth 100000 in
set_option maxHeartbeats 4000000 in
theorem c_17 {sc : Nat × (Nat → Int32)} {d : Nat} {M : zM} {w : Nat} (hw : w < 2 ^ 31) : zC 47 sc (d + 1) 17 [.int (nI w)] M (some (.int (nI (w >>> 24)))) (M) := by
  refine z_enter (L := [.int (nI w)]) rfl rfl rfl ?_
  refine zK.blk rfl ?_
  refine p_iloadn_0 ?_
  refine p_bipush (v := nI 24) (by decide) ?_
  refine p_ishrN (by omega) (by omega) ?_
  exact p_iret trivial rfl rfl
set_option maxRecDepth 100000 in
set_option maxHeartbeats 4000000 in
theorem c_18 {sc : Nat × (Nat → Int32)} {d : Nat} {M : zM} {w p : Nat} (hw : w < 2 ^ 31) (hp : p < 3) : zC 47 sc (d + 2) 18 [.int (nI w), .int (nI p)] M (some (.int (nI (w >>> (8 * (2 - p)) &&& 255)))) (M) := by
  refine z_enter (L := [.int (nI w), .int (nI p)]) rfl rfl rfl ?_
  refine zK.blk rfl ?_
  refine p_iloadn_0 ?_
  refine p_iloadn_1 ?_
  refine p_cs1i rfl rfl rfl rfl rfl (c_19 hp) ?_
  refine p_ishrN (by omega) (by omega) ?_
  refine p_sipush (v := nI 255) (by decide) ?_
  refine p_iandN ?_
  exact p_iret trivial rfl rfl
def lfN (w nx at0 row : Nat) : Nat := pkN nx ((w >>> (row ||| 1 <<< at0) &&& 1) * zFF) ((w >>> row &&& 1) * zFF)
set_option maxRecDepth 100000 in
set_option maxHeartbeats 4000000 in
theorem c_47 {sc : Nat × (Nat → Int32)} {d : Nat} {M : zM} {i w nx at0 row : Nat} (hi : i < 6) (h3 : M (3 + i) 3 = nI w) (hw : w < 2 ^ 31) (ha : at0 < 3) (hro : row < 8) : zC 47 sc (d + 2) 47 [.ref (3 + i), .int (nI nx), .int (nI at0), .int (nI row)] M (some (.int (nI (lfN w nx at0 row)))) (M) := by
  have hx := zo_lt hro ha
  refine z_enter (L := [.ref (3 + i), .int (nI nx), .int (nI at0), .int (nI row), .null, .null]) rfl rfl rfl ?_
  refine zK.blk rfl ?_
  refine p_aloadn_0 ?_
  refine p_geti (zlay_sg (by omega)) rfl (h3) ?_
  refine p_iloadn_3 ?_
  refine p_iconst (v := nI 1) (by decide) ?_
  refine p_iloadn_2 ?_
  refine p_ishlN (by omega) ?_
  refine p_iorN ?_
  refine p_cs2i rfl rfl rfl rfl rfl (c_3 (by omega) (by omega)) ?_
  refine p_ineg (zN_neg (zb_lt _ _)) ?_
  refine p_istore_4 rfl ?_
  refine p_aloadn_0 ?_
  refine p_geti (zlay_sg (by omega)) rfl (h3) ?_
  refine p_iloadn_3 ?_
  refine p_cs2i rfl rfl rfl rfl rfl (c_3 (by omega) (by omega)) ?_
  refine p_ineg (zN_neg (zb_lt _ _)) ?_
  refine p_istore_5 rfl ?_
  refine p_iloadn_1 ?_
  refine p_iload_4 ?_
  refine p_iload_5 ?_
  refine p_cs3i rfl rfl rfl rfl rfl (c_5) ?_
  exact p_iret trivial rfl rfl
set_option maxRecDepth 100000 in
set_option maxHeartbeats 4000000 in
theorem c_49 {sc : Nat × (Nat → Int32)} {d : Nat} {M : zM} {rc n N : Nat} {c : Nat → Nat} {t : Nat} (hrc : zrc rc n N) (hcs : rcC M rc N c) (ht : t < N) : zC 47 sc (d + 1) 49 [.ref rc, .int (nI t)] M (some (.int (zB (decide (¬ c t = 1073741824))))) (M) := by
  have hN := zl_N hrc
  obtain ⟨hfu, hco⟩ := id hcs
  have hct := hco t ht
  refine z_enter (L := [.ref rc, .int (nI t)]) rfl rfl rfl ?_
  refine zK.blk rfl ?_
  refine p_iloadn_1 ?_
  refine p_ifN_lt (tgt := 27) (by decide) (by omega) (fun hc1 => ?_) (fun hc1 => ?_)
  · skip
    exact absurd hc1 (by omega) --STOP
  · skip
    refine p_iloadn_1 ?_
    refine p_aloadn_0 ?_
    refine p_geti (zl_r hrc) rfl (hfu) ?_
    refine p_icmpN_gt (tgt := 27) (by decide) (by omega) (by omega) (fun hc9 => ?_) (fun hc9 => ?_)
    · skip
      exact absurd hc9 (by omega) --STOP
    · skip
      refine p_aloadn_0 ?_
      refine p_getr (zl_r hrc) rfl ?_
      refine p_iloadn_1 ?_
      refine p_iald (zl_a2 hrc) (by omega) (zl_n hrc) ((hco _ (by omega)).1) ?_
      refine p_ldc ?_
      refine p_icmpN_eq (tgt := 27) (by decide) (by omega) (by omega) (fun hc20 => ?_) (fun hc20 => ?_)
      · skip
        refine zK.blk rfl ?_
        refine p_iconst (v := nI 0) (by decide) ?_
        refine zK.blk rfl ?_
        exact p_iret (by first | exact Or.inl rfl | exact Or.inr rfl) (by first | rw [decide_eq_true (by omega)]; rfl | rw [decide_eq_false (by omega)]; rfl) rfl
      · skip
        refine p_iconst (v := nI 1) (by decide) ?_
        refine p_goto (tgt := 28) (by decide) ?_
        refine zK.blk rfl ?_
        exact p_iret (by first | exact Or.inl rfl | exact Or.inr rfl) (by first | rw [decide_eq_true (by omega)]; rfl | rw [decide_eq_false (by omega)]; rfl) rfl
set_option maxRecDepth 100000 in
set_option maxHeartbeats 4000000 in
theorem c_50 {sc : Nat × (Nat → Int32)} {d : Nat} {M : zM} {rc n N : Nat} {c : Nat → Nat} {t : Nat} (hrc : zrc rc n N) (hcs : rcC M rc N c) (ht : t < N) : zC 47 sc (d + 2) 50 [.ref rc, .int (nI t)] M (some (.int (if c t = 1073741824 then -9 else nI (c t)))) (M) := by
  have hN := zl_N hrc
  obtain ⟨hfu, hco⟩ := id hcs
  refine z_enter (L := [.ref rc, .int (nI t)]) rfl rfl rfl ?_
  refine zK.blk rfl ?_
  refine p_aloadn_0 ?_
  refine p_iloadn_1 ?_
  refine p_cv1i rfl rfl rfl rfl (zl_r hrc) (c_49 hrc hcs ht) ?_
  refine p_ifB_eq (tgt := 17) (by decide) (fun hc5 => ?_) (fun hc5 => ?_)
  · skip
    rw [if_pos (Classical.not_not.mp (of_decide_eq_false hc5))]
    refine zK.blk rfl ?_
    refine p_bipush (v := -9) (by decide) ?_
    refine zK.blk rfl ?_
    exact p_iret trivial rfl rfl
  · skip
    rw [if_neg (of_decide_eq_true hc5)]
    refine p_aloadn_0 ?_
    refine p_getr (zl_r hrc) rfl ?_
    refine p_iloadn_1 ?_
    refine p_iald (zl_a2 hrc) (by omega) (zl_n hrc) ((hco _ (by omega)).1) ?_
    refine p_goto (tgt := 19) (by decide) ?_
    refine zK.blk rfl ?_
    exact p_iret trivial rfl rfl
set_option maxRecDepth 100000 in
set_option maxHeartbeats 4000000 in
theorem c_51 {sc : Nat × (Nat → Int32)} {d : Nat} {M : zM} {rc n N : Nat} {c : Nat → Nat} {t : Nat} {w : Int32} (hrc : zrc rc n N) (hcs : rcC M rc N c) (ht : t < N) (hw : M (rc + 2) t = w) : zC 47 sc (d + 2) 51 [.ref rc, .int (nI t)] M (some (.int (if c t = 1073741824 then -1 else w))) (M) := by
  have hN := zl_N hrc
  obtain ⟨hfu, hco⟩ := id hcs
  refine z_enter (L := [.ref rc, .int (nI t)]) rfl rfl rfl ?_
  refine zK.blk rfl ?_
  refine p_aloadn_0 ?_
  refine p_iloadn_1 ?_
  refine p_cv1i rfl rfl rfl rfl (zl_r hrc) (c_49 hrc hcs ht) ?_
  refine p_ifB_eq (tgt := 17) (by decide) (fun hc5 => ?_) (fun hc5 => ?_)
  · skip
    rw [if_pos (Classical.not_not.mp (of_decide_eq_false hc5))]
    refine zK.blk rfl ?_
    refine p_iconst (v := -1) (by decide) ?_
    refine zK.blk rfl ?_
    exact p_iret trivial rfl rfl
  · skip
    rw [if_neg (of_decide_eq_true hc5)]
    refine p_aloadn_0 ?_
    refine p_getr (zl_r hrc) rfl ?_
    refine p_iloadn_1 ?_
    refine p_iald (zl_a3 hrc) (by omega) (zl_n hrc) (hw) ?_
    refine p_goto (tgt := 18) (by decide) ?_
    refine zK.blk rfl ?_
    exact p_iret trivial rfl rfl
def gcF (c : Nat → Nat) (t v : Nat) : Nat := if c t = 1073741824 then v else (if v < c t then c t else v)
def gcN (c : Nat → Nat) (N : Nat) : Nat := zfor (gcF c) N 0 0
theorem gc_le {c : Nat → Nat} {N : Nat} (h : ∀ t, t < N → c t ≤ 1073741824) : ∀ j i v, i + j = N → v ≤ 1073741824 → zfor (gcF c) j i v ≤ 1073741824 := by
  intro j
  induction j with
  | zero => intro i v _ hv; exact hv
  | succ j ih =>
    intro i v hij hv
    refine ih (i + 1) _ (by omega) ?_
    unfold gcF
    have := h i (by omega)
    split
    · exact hv
    · split <;> omega
theorem zN_max {x y : Nat} (hx : x < 2 ^ 31) (hy : y < 2 ^ 31) : (if nI x < nI y then nI y else nI x) = nI (if x < y then y else x) := by
  by_cases h : x < y
  · rw [if_pos h, if_pos ((nI_ltI hx hy).mpr h)]
  · rw [if_neg h, if_neg (fun z => h ((nI_ltI hx hy).mp z))]
set_option maxRecDepth 100000 in
set_option maxHeartbeats 4000000 in
theorem lp_52_4 {sc : Nat × (Nat → Int32)} {d : Nat} {M : zM} {r : Option Value} {M' : zM} {rc n N : Nat} {c : Nat → Nat} (hrc : zrc rc n N) (hcs : rcC M rc N c) : ∀ (j i v : Nat), i + j = N → v ≤ 1073741824 → zK 47 sc (zC 47 sc (d + 1)) 52 r M' 37 [.ref rc, .int (nI (zfor (gcF c) j i v)), .int (nI N)] [] (M) → zK 47 sc (zC 47 sc (d + 1)) 52 r M' 4 [.ref rc, .int (nI v), .int (nI i)] [] (M) := by
  intro j
  induction j with
  | zero =>
    intro i v  hj hv hk
    obtain rfl : i = N := by omega
    have hN := zl_N hrc
    obtain ⟨hfu, hco⟩ := id hcs
    refine zK.blk rfl ?_
    refine p_iloadn_2 ?_
    refine p_aloadn_0 ?_
    refine p_geti (zl_r hrc) rfl (hfu) ?_
    refine p_icmpN_gt (tgt := 37) (by decide) (by omega) (by omega) (fun hc9 => ?_) (fun hc9 => ?_)
    · skip
      exact hk
    · skip
      exact absurd hc9 (by omega) --STOP
  | succ j ih =>
    intro i v  hj hv hk
    have hN := zl_N hrc
    obtain ⟨hfu, hco⟩ := id hcs
    have hct := hco i (by omega)
    refine zK.blk rfl ?_
    refine p_iloadn_2 ?_
    refine p_aloadn_0 ?_
    refine p_geti (zl_r hrc) rfl (hfu) ?_
    refine p_icmpN_gt (tgt := 37) (by decide) (by omega) (by omega) (fun hc9 => ?_) (fun hc9 => ?_)
    · skip
      exact absurd hc9 (by omega) --STOP
    · skip
      refine p_aloadn_0 ?_
      refine p_iloadn_2 ?_
      refine p_cv1i rfl rfl rfl rfl (zl_r hrc) (c_49 hrc hcs (by omega)) ?_
      refine p_ifB_eq (tgt := 31) (by decide) (fun hc17 => ?_) (fun hc17 => ?_)
      · skip
        rw [zfor_step (f := gcF c) (a' := v) (by unfold gcF; rw [if_pos (Classical.not_not.mp (of_decide_eq_false hc17))])] at hk
        refine zK.blk rfl ?_
        refine p_iinc_2 (zN_inc _ 1) rfl ?_
        refine p_goto (tgt := 4) (by decide) ?_
        exact ih _ _ (by omega) (by first | exact hv | (split <;> omega)) hk
      · skip
        rw [zfor_step (f := gcF c) (a' := if v < c i then c i else v) (by unfold gcF; rw [if_neg (of_decide_eq_true hc17)])] at hk
        refine p_iloadn_1 ?_
        refine p_aloadn_0 ?_
        refine p_getr (zl_r hrc) rfl ?_
        refine p_iloadn_2 ?_
        refine p_iald (zl_a2 hrc) (by omega) (zl_n hrc) ((hco _ (by omega)).1) ?_
        refine p_max rfl rfl ?_
        rw [zN_max (by omega) (by omega)]
        refine p_istoren_1 rfl ?_
        refine zK.blk rfl ?_
        refine p_iinc_2 (zN_inc _ 1) rfl ?_
        refine p_goto (tgt := 4) (by decide) ?_
        exact ih _ _ (by omega) (by first | exact hv | (split <;> omega)) hk
set_option maxRecDepth 100000 in
set_option maxHeartbeats 4000000 in
theorem c_52 {sc : Nat × (Nat → Int32)} {d : Nat} {M : zM} {rc n N : Nat} {c : Nat → Nat} (hrc : zrc rc n N) (hcs : rcC M rc N c) : zC 47 sc (d + 2) 52 [.ref rc] M (some (.int (nI (gcN c N)))) (M) := by
  refine z_enter (L := [.ref rc, .null, .null]) rfl rfl rfl ?_
  refine zK.blk rfl ?_
  refine p_iconst (v := nI 0) (by decide) ?_
  refine p_istoren_1 rfl ?_
  refine p_iconst (v := nI 0) (by decide) ?_
  refine p_istoren_2 rfl ?_
  refine lp_52_4 hrc hcs N 0 0 (by omega) (by decide) ?_
  refine zK.blk rfl ?_
  refine p_iloadn_1 ?_
  exact p_iret trivial rfl rfl
def hmF (c : Nat → Nat) (x : Int32) (t v : Nat) : Nat := if ¬ c t = 1073741824 ∧ nI (c t) = x then v + 1 else v
def hmN (c : Nat → Nat) (N : Nat) (x : Int32) : Nat := zfor (hmF c x) N 0 0
def zfirst (f : Nat → Bool) : Nat → Nat → Int32
  | 0, _ => -9
  | j + 1, i => if f i = true then nI i else zfirst f j (i + 1)
set_option maxRecDepth 100000 in
set_option maxHeartbeats 4000000 in
theorem lp_55_4 {sc : Nat × (Nat → Int32)} {d : Nat} {M : zM} {r : Option Value} {M' : zM} {rc n N : Nat} {c : Nat → Nat} {x : Int32} (hrc : zrc rc n N) (hcs : rcC M rc N c) : ∀ (j i v : Nat), i + j = N → zK 47 sc (zC 47 sc (d + 1)) 55 r M' 39 [.ref rc, .int x, .int (nI (zfor (hmF c x) j i v)), .int (nI N)] [] (M) → zK 47 sc (zC 47 sc (d + 1)) 55 r M' 4 [.ref rc, .int x, .int (nI v), .int (nI i)] [] (M) := by
  intro j
  induction j with
  | zero =>
    intro i v  hj hk
    obtain rfl : i = N := by omega
    have hN := zl_N hrc
    obtain ⟨hfu, hco⟩ := id hcs
    refine zK.blk rfl ?_
    refine p_iloadn_3 ?_
    refine p_aloadn_0 ?_
    refine p_geti (zl_r hrc) rfl (hfu) ?_
    refine p_icmpN_gt (tgt := 39) (by decide) (by omega) (by omega) (fun hc9 => ?_) (fun hc9 => ?_)
    · skip
      exact hk
    · skip
      exact absurd hc9 (by omega) --STOP
  | succ j ih =>
    intro i v  hj hk
    have hN := zl_N hrc
    obtain ⟨hfu, hco⟩ := id hcs
    have hct := hco i (by omega)
    refine zK.blk rfl ?_
    refine p_iloadn_3 ?_
    refine p_aloadn_0 ?_
    refine p_geti (zl_r hrc) rfl (hfu) ?_
    refine p_icmpN_gt (tgt := 39) (by decide) (by omega) (by omega) (fun hc9 => ?_) (fun hc9 => ?_)
    · skip
      exact absurd hc9 (by omega) --STOP
    · skip
      refine p_aloadn_0 ?_
      refine p_iloadn_3 ?_
      refine p_cv1i rfl rfl rfl rfl (zl_r hrc) (c_49 hrc hcs (by omega)) ?_
      refine p_ifB_eq (tgt := 33) (by decide) (fun hc17 => ?_) (fun hc17 => ?_)
      · skip
        rw [zfor_step (f := hmF c x) (a' := v) (by unfold hmF; rw [if_neg (fun z => of_decide_eq_false hc17 z.1)])] at hk
        refine zK.blk rfl ?_
        refine p_iinc_3 (zN_inc _ 1) rfl ?_
        refine p_goto (tgt := 4) (by decide) ?_
        exact ih _ _ (by omega) hk
      · skip
        refine p_aloadn_0 ?_
        refine p_getr (zl_r hrc) rfl ?_
        refine p_iloadn_3 ?_
        refine p_iald (zl_a2 hrc) (by omega) (zl_n hrc) ((hco _ (by omega)).1) ?_
        refine p_iloadn_1 ?_
        refine p_icmp_ne (tgt := 33) (by decide) (fun hc27 => ?_) (fun hc27 => ?_)
        · skip
          rw [zfor_step (f := hmF c x) (a' := v) (by unfold hmF; rw [if_neg (fun z => hc27 z.2)])] at hk
          refine zK.blk rfl ?_
          refine p_iinc_3 (zN_inc _ 1) rfl ?_
          refine p_goto (tgt := 4) (by decide) ?_
          exact ih _ _ (by omega) hk
        · skip
          rw [zfor_step (f := hmF c x) (a' := v + 1) (by unfold hmF; rw [if_pos ⟨of_decide_eq_true hc17, Classical.not_not.mp hc27⟩])] at hk
          refine p_iinc_2 (zN_inc _ 1) rfl ?_
          refine zK.blk rfl ?_
          refine p_iinc_3 (zN_inc _ 1) rfl ?_
          refine p_goto (tgt := 4) (by decide) ?_
          exact ih _ _ (by omega) hk
set_option maxRecDepth 100000 in
set_option maxHeartbeats 4000000 in
theorem c_55 {sc : Nat × (Nat → Int32)} {d : Nat} {M : zM} {rc n N : Nat} {c : Nat → Nat} {x : Int32} (hrc : zrc rc n N) (hcs : rcC M rc N c) : zC 47 sc (d + 2) 55 [.ref rc, .int x] M (some (.int (nI (hmN c N x)))) (M) := by
  refine z_enter (L := [.ref rc, .int x, .null, .null]) rfl rfl rfl ?_
  refine zK.blk rfl ?_
  refine p_iconst (v := nI 0) (by decide) ?_
  refine p_istoren_2 rfl ?_
  refine p_iconst (v := nI 0) (by decide) ?_
  refine p_istoren_3 rfl ?_
  refine lp_55_4 hrc hcs N 0 0 (by omega) ?_
  refine zK.blk rfl ?_
  refine p_iloadn_2 ?_
  exact p_iret trivial rfl rfl
theorem zfirst_y {f : Nat → Bool} {j i : Nat} (h : f i = true) : zfirst f (j + 1) i = nI i := by
  show (if f i = true then _ else _) = _
  rw [if_pos h]
theorem zfirst_n {f : Nat → Bool} {j i : Nat} (h : f i = false) : zfirst f (j + 1) i = zfirst f j (i + 1) := by
  show (if f i = true then _ else _) = _
  rw [if_neg (by rw [h]; decide)]
def fcB (c : Nat → Nat) (x : Int32) (t : Nat) : Bool := decide (¬ c t = 1073741824) && decide (nI (c t) = x)
def fuB (c : Nat → Nat) (t : Nat) : Bool := decide (c t = 1073741824)
set_option maxRecDepth 100000 in
set_option maxHeartbeats 4000000 in
theorem lp_53_2 {sc : Nat × (Nat → Int32)} {d : Nat} {M : zM} {rc n N : Nat} {c : Nat → Nat} {x : Int32} (hrc : zrc rc n N) (hcs : rcC M rc N c) : ∀ (j i : Nat), i + j = N → zK 47 sc (zC 47 sc (d + 1)) 53 (some (.int (zfirst (fcB c x) j i))) M 2 [.ref rc, .int x, .int (nI i)] [] M := by
  intro j
  induction j with
  | zero =>
    intro i hj
    have hN := zl_N hrc
    obtain ⟨hfu, hco⟩ := id hcs
    refine zK.blk rfl ?_
    refine p_iloadn_2 ?_
    refine p_aloadn_0 ?_
    refine p_geti (zl_r hrc) rfl (hfu) ?_
    refine p_icmpN_gt (tgt := 36) (by decide) (by omega) (by omega) (fun hc7 => ?_) (fun hc7 => ?_)
    · skip
      refine zK.blk rfl ?_
      refine p_bipush (v := -9) (by decide) ?_
      exact p_iret trivial rfl rfl
    · skip
      exact absurd hc7 (by omega) --STOP
  | succ j ih =>
    intro i hj
    have hN := zl_N hrc
    obtain ⟨hfu, hco⟩ := id hcs
    have hct := hco i (by omega)
    refine zK.blk rfl ?_
    refine p_iloadn_2 ?_
    refine p_aloadn_0 ?_
    refine p_geti (zl_r hrc) rfl (hfu) ?_
    refine p_icmpN_gt (tgt := 36) (by decide) (by omega) (by omega) (fun hc7 => ?_) (fun hc7 => ?_)
    · skip
      exact absurd hc7 (by omega) --STOP
    · skip
      refine p_aloadn_0 ?_
      refine p_iloadn_2 ?_
      refine p_cv1i rfl rfl rfl rfl (zl_r hrc) (c_49 hrc hcs (by omega)) ?_
      refine p_ifB_eq (tgt := 30) (by decide) (fun hc15 => ?_) (fun hc15 => ?_)
      · skip
        rw [zfirst_n (by unfold fcB; rw [hc15]; rfl)]
        refine zK.blk rfl ?_
        refine p_iinc_2 (zN_inc _ 1) rfl ?_
        refine p_goto (tgt := 2) (by decide) ?_
        exact ih _ (by omega)
      · skip
        refine p_aloadn_0 ?_
        refine p_getr (zl_r hrc) rfl ?_
        refine p_iloadn_2 ?_
        refine p_iald (zl_a2 hrc) (by omega) (zl_n hrc) ((hco _ (by omega)).1) ?_
        refine p_iloadn_1 ?_
        refine p_icmp_ne (tgt := 30) (by decide) (fun hc25 => ?_) (fun hc25 => ?_)
        · skip
          rw [zfirst_n (by unfold fcB; rw [decide_eq_false hc25, Bool.and_false])]
          refine zK.blk rfl ?_
          refine p_iinc_2 (zN_inc _ 1) rfl ?_
          refine p_goto (tgt := 2) (by decide) ?_
          exact ih _ (by omega)
        · skip
          rw [zfirst_y (by unfold fcB; rw [hc15, decide_eq_true (Classical.not_not.mp hc25)]; rfl)]
          refine p_iloadn_2 ?_
          exact p_iret trivial rfl rfl
set_option maxRecDepth 100000 in
set_option maxHeartbeats 4000000 in
theorem c_53 {sc : Nat × (Nat → Int32)} {d : Nat} {M : zM} {rc n N : Nat} {c : Nat → Nat} {x : Int32} (hrc : zrc rc n N) (hcs : rcC M rc N c) : zC 47 sc (d + 2) 53 [.ref rc, .int x] M (some (.int (zfirst (fcB c x) N 0))) (M) := by
  refine z_enter (L := [.ref rc, .int x, .null]) rfl rfl rfl ?_
  refine zK.blk rfl ?_
  refine p_iconst (v := nI 0) (by decide) ?_
  refine p_istoren_2 rfl ?_
  exact lp_53_2 hrc hcs N 0 (by omega)
set_option maxRecDepth 100000 in
set_option maxHeartbeats 4000000 in
theorem lp_54_2 {sc : Nat × (Nat → Int32)} {d : Nat} {M : zM} {rc n N : Nat} {c : Nat → Nat}  (hrc : zrc rc n N) (hcs : rcC M rc N c) : ∀ (j i : Nat), i + j = N → zK 47 sc (zC 47 sc (d + 1)) 54 (some (.int (zfirst (fuB c) j i))) M 2 [.ref rc, .int (nI i)] [] M := by
  intro j
  induction j with
  | zero =>
    intro i hj
    have hN := zl_N hrc
    obtain ⟨hfu, hco⟩ := id hcs
    refine zK.blk rfl ?_
    refine p_iloadn_1 ?_
    refine p_aloadn_0 ?_
    refine p_geti (zl_r hrc) rfl (hfu) ?_
    refine p_icmpN_gt (tgt := 26) (by decide) (by omega) (by omega) (fun hc7 => ?_) (fun hc7 => ?_)
    · skip
      refine zK.blk rfl ?_
      refine p_bipush (v := -9) (by decide) ?_
      exact p_iret trivial rfl rfl
    · skip
      exact absurd hc7 (by omega) --STOP
  | succ j ih =>
    intro i hj
    have hN := zl_N hrc
    obtain ⟨hfu, hco⟩ := id hcs
    have hct := hco i (by omega)
    refine zK.blk rfl ?_
    refine p_iloadn_1 ?_
    refine p_aloadn_0 ?_
    refine p_geti (zl_r hrc) rfl (hfu) ?_
    refine p_icmpN_gt (tgt := 26) (by decide) (by omega) (by omega) (fun hc7 => ?_) (fun hc7 => ?_)
    · skip
      exact absurd hc7 (by omega) --STOP
    · skip
      refine p_aloadn_0 ?_
      refine p_iloadn_1 ?_
      refine p_cv1i rfl rfl rfl rfl (zl_r hrc) (c_49 hrc hcs (by omega)) ?_
      refine p_ifB_ne (tgt := 20) (by decide) (fun hc15 => ?_) (fun hc15 => ?_)
      · skip
        rw [zfirst_n (by unfold fuB; exact decide_eq_false (of_decide_eq_true hc15))]
        refine zK.blk rfl ?_
        refine p_iinc_1 (zN_inc _ 1) rfl ?_
        refine p_goto (tgt := 2) (by decide) ?_
        exact ih _ (by omega)
      · skip
        rw [zfirst_y (by unfold fuB; exact decide_eq_true (Classical.not_not.mp (of_decide_eq_false hc15)))]
        refine p_iloadn_1 ?_
        exact p_iret trivial rfl rfl
set_option maxRecDepth 100000 in
set_option maxHeartbeats 4000000 in
theorem c_54 {sc : Nat × (Nat → Int32)} {d : Nat} {M : zM} {rc n N : Nat} {c : Nat → Nat} (hrc : zrc rc n N) (hcs : rcC M rc N c) : zC 47 sc (d + 2) 54 [.ref rc] M (some (.int (zfirst (fuB c) N 0))) (M) := by
  refine z_enter (L := [.ref rc, .null]) rfl rfl rfl ?_
  refine zK.blk rfl ?_
  refine p_iconst (v := nI 0) (by decide) ?_
  refine p_istoren_1 rfl ?_
  exact lp_54_2 hrc hcs N 0 (by omega)
end
section
/-- what offer does -/
def ofM (rc N : Nat) (M : zM) (told : Nat) (price : Int32) (going : Nat) : zM :=
  if price < M (rc + 1) (told &&& (N - 1)) ∨ (price = M (rc + 1) (told &&& (N - 1)) ∧ nI going < M (rc + 2) (told &&& (N - 1))) then zup (zup M (rc + 1) (told &&& (N - 1)) price) (rc + 2) (told &&& (N - 1)) (nI going) else M
theorem ofM_ne {rc N : Nat} {M : zM} {told : Nat} {price : Int32} {going a : Nat} (h1 : ¬ a = rc + 1) (h2 : ¬ a = rc + 2) (b : Nat) : ofM rc N M told price going a b = M a b := by
  unfold ofM
  split
  · unfold zup; rw [if_neg h2, if_neg h1]
  · rfl
/-- a Reach whose first s tables are settled, in the order o; no join dearer than D -/
def rcI (M : zM) (rc N s : Nat) (o : Nat → Nat) (D : Int32) : Prop := M rc 1 = nI (N - 1) ∧ M rc 7 = nI s ∧ s ≤ N ∧ M rc 6 = D ∧ ∀ k, k < s → M (rc + 4) k = nI (o k) ∧ o k < N
theorem ofM_rcI {rc N s : Nat} {M : zM} {o : Nat → Nat} {D : Int32} {told : Nat} {price : Int32} {going : Nat} (h : rcI M rc N s o D) : rcI (ofM rc N M told price going) rc N s o D := by
  obtain ⟨h1, h2, h3, h4, h5⟩ := h
  refine ⟨?_, ?_, h3, ?_, fun k hk => ?_⟩
  · rw [ofM_ne (by omega) (by omega)]; exact h1
  · rw [ofM_ne (by omega) (by omega)]; exact h2
  · rw [ofM_ne (by omega) (by omega)]; exact h4
  · rw [ofM_ne (by omega) (by omega)]; exact h5 k hk
/-- joinLast, j turns from k on -/
def jlM (rc N : Nat) (o : Nat → Nat) (D : Int32) (one no : Nat) (price : Int32) (begun at0 : Nat) : Nat → Nat → zM → zM
  | 0, _, M => M
  | j + 1, k, M => if D < price + M (rc + 1) (o k) then M else jlM rc N o D one no price begun at0 j (k + 1) (ofM rc N M (pkN (o k) one no) (price + M (rc + 1) (o k)) (begun ||| (o k) <<< (8 * (2 - at0))))
theorem jlM_rcI {rc N s : Nat} {o : Nat → Nat} {D : Int32} {one no : Nat} {price : Int32} {begun at0 : Nat} : ∀ j k M, rcI M rc N s o D → rcI (jlM rc N o D one no price begun at0 j k M) rc N s o D := by
  intro j
  induction j with
  | zero => intro k M h; exact h
  | succ j ih =>
    intro k M h
    show rcI (if D < price + M (rc + 1) (o k) then M else _) rc N s o D
    split
    · exact h
    · exact ih _ _ (ofM_rcI h)
theorem jlM_ne {rc N : Nat} {o : Nat → Nat} {D : Int32} {one no : Nat} {price : Int32} {begun at0 a : Nat} (h1 : ¬ a = rc + 1) (h2 : ¬ a = rc + 2) (b : Nat) : ∀ j k M, jlM rc N o D one no price begun at0 j k M a b = M a b := by
  intro j
  induction j with
  | zero => intro k M; rfl
  | succ j ih =>
    intro k M
    show (if D < price + M (rc + 1) (o k) then M else _) a b = _
    split
    · rfl
    · rw [ih, ofM_ne h1 h2]
set_option maxRecDepth 100000 in
set_option maxHeartbeats 4000000 in
theorem c_48 {sc : Nat × (Nat → Int32)} {d : Nat} {M : zM} {rc n N told going : Nat} {price : Int32} (hrc : zrc rc n N) (hfu : M rc 1 = nI (N - 1)) : zC 47 sc (d + 1) 48 [.ref rc, .int (nI told), .int price, .int (nI going)] M (none) (ofM rc N M told price going) := by
  have hN := zl_N hrc
  have hx : told &&& (N - 1) < N := zand_r told (by omega)
  refine z_enter (L := [.ref rc, .int (nI told), .int price, .int (nI going), .null]) rfl rfl rfl ?_
  refine zK.blk rfl ?_
  refine p_iloadn_1 ?_
  refine p_aloadn_0 ?_
  refine p_geti (zl_r hrc) rfl (hfu) ?_
  refine p_iandN ?_
  refine p_istore_4 rfl ?_
  refine p_iloadn_2 ?_
  refine p_aloadn_0 ?_
  refine p_getr (zl_r hrc) rfl ?_
  refine p_iload_4 ?_
  refine p_iald (zl_a2 hrc) (by omega) (zl_n hrc) (rfl) ?_
  refine p_icmp_lt (tgt := 41) (by decide) (fun hc16 => ?_) (fun hc16 => ?_)
  · skip
    rw [show ofM rc N M told price going = zup (zup M (rc + 1) (told &&& (N - 1)) price) (rc + 2) (told &&& (N - 1)) (nI going) from if_pos (Or.inl hc16)]
    refine zK.blk rfl ?_
    refine p_aloadn_0 ?_
    refine p_getr (zl_r hrc) rfl ?_
    refine p_iload_4 ?_
    refine p_iloadn_2 ?_
    refine p_iast (zl_a2 hrc) (by omega) (zl_n hrc) ?_
    refine p_aloadn_0 ?_
    refine p_getr (zl_r hrc) rfl ?_
    refine p_iload_4 ?_
    refine p_iloadn_3 ?_
    refine p_iast (zl_a3 hrc) (by omega) (zl_n hrc) ?_
    refine zK.blk rfl ?_
    exact p_vret trivial rfl rfl
  · skip
    refine p_iloadn_2 ?_
    refine p_aloadn_0 ?_
    refine p_getr (zl_r hrc) rfl ?_
    refine p_iload_4 ?_
    refine p_iald (zl_a2 hrc) (by omega) (zl_n hrc) (rfl) ?_
    refine p_icmp_ne (tgt := 57) (by decide) (fun hc27 => ?_) (fun hc27 => ?_)
    · skip
      rw [show ofM rc N M told price going = M from if_neg (fun z => z.elim hc16 (fun w => hc27 w.1))]
      refine zK.blk rfl ?_
      exact p_vret trivial rfl rfl
    · skip
      refine p_iloadn_3 ?_
      refine p_aloadn_0 ?_
      refine p_getr (zl_r hrc) rfl ?_
      refine p_iload_4 ?_
      refine p_iald (zl_a3 hrc) (by omega) (zl_n hrc) (rfl) ?_
      refine p_icmp_ge (tgt := 57) (by decide) (fun hc38 => ?_) (fun hc38 => ?_)
      · skip
        rw [show ofM rc N M told price going = M from if_neg (fun z => z.elim hc16 (fun w => Int32.not_lt.mpr hc38 w.2))]
        refine zK.blk rfl ?_
        exact p_vret trivial rfl rfl
      · skip
        rw [show ofM rc N M told price going = zup (zup M (rc + 1) (told &&& (N - 1)) price) (rc + 2) (told &&& (N - 1)) (nI going) from if_pos (Or.inr ⟨Classical.not_not.mp hc27, Int32.not_le.mp hc38⟩)]
        refine zK.blk rfl ?_
        refine p_aloadn_0 ?_
        refine p_getr (zl_r hrc) rfl ?_
        refine p_iload_4 ?_
        refine p_iloadn_2 ?_
        refine p_iast (zl_a2 hrc) (by omega) (zl_n hrc) ?_
        refine p_aloadn_0 ?_
        refine p_getr (zl_r hrc) rfl ?_
        refine p_iload_4 ?_
        refine p_iloadn_3 ?_
        refine p_iast (zl_a3 hrc) (by omega) (zl_n hrc) ?_
        refine zK.blk rfl ?_
        exact p_vret trivial rfl rfl
set_option maxRecDepth 100000 in
set_option maxHeartbeats 4000000 in
theorem lp_46_3 {sc : Nat × (Nat → Int32)} {d : Nat} {rc n N s : Nat} {o : Nat → Nat} {D : Int32} {one no begun at0 : Nat} {price : Int32} (hrc : zrc rc n N) (hat : at0 < 3) : ∀ (j k : Nat) (M : zM), rcI M rc N s o D → k + j = s → zK 47 sc (zC 47 sc (d + 2)) 46 none (jlM rc N o D one no price begun at0 j k M) 3 [.ref rc, .int (nI one), .int (nI no), .int price, .int (nI begun), .int (nI at0), .int (nI k), .null, .null] [] M := by
  intro j
  induction j with
  | zero =>
    intro k M hI hj
    have hN := zl_N hrc
    have hs := hI.2.2.1
    refine zK.blk rfl ?_
    refine p_iload_6 ?_
    refine p_aloadn_0 ?_
    refine p_geti (zl_r hrc) rfl (hI.2.1) ?_
    refine p_icmpN_ge (tgt := 72) (by decide) (by omega) (by omega) (fun hc9 => ?_) (fun hc9 => ?_)
    · skip
      refine zK.blk rfl ?_
      exact p_vret trivial rfl rfl
    · skip
      exact absurd hc9 (by omega) --STOP
  | succ j ih =>
    intro k M hI hj
    have hN := zl_N hrc
    have hs := hI.2.2.1
    have hok := (hI.2.2.2.2 k (by omega)).2
    refine zK.blk rfl ?_
    refine p_iload_6 ?_
    refine p_aloadn_0 ?_
    refine p_geti (zl_r hrc) rfl (hI.2.1) ?_
    refine p_icmpN_ge (tgt := 72) (by decide) (by omega) (by omega) (fun hc9 => ?_) (fun hc9 => ?_)
    · skip
      exact absurd hc9 (by omega) --STOP
    · skip
      refine p_aloadn_0 ?_
      refine p_getr (zl_r hrc) rfl ?_
      refine p_iload_6 ?_
      refine p_iald (zl_a5 hrc) (by omega) (zl_n hrc) ((hI.2.2.2.2 k (by omega)).1) ?_
      refine p_istore_7 rfl ?_
      refine p_iloadn_3 ?_
      refine p_aloadn_0 ?_
      refine p_getr (zl_r hrc) rfl ?_
      refine p_iload_7 ?_
      refine p_iald (zl_a2 hrc) (by omega) (zl_n hrc) (rfl) ?_
      refine p_iadd ?_
      refine p_istore_8 rfl ?_
      refine p_iload_8 ?_
      refine p_aloadn_0 ?_
      refine p_geti (zl_r hrc) rfl (hI.2.2.2.1) ?_
      refine p_icmp_le (tgt := 44) (by decide) (fun hc38 => ?_) (fun hc38 => ?_)
      · skip
        rw [show jlM rc N o D one no price begun at0 (j + 1) k M = jlM rc N o D one no price begun at0 j (k + 1) (ofM rc N M (pkN (o k) one no) (price + M (rc + 1) (o k)) (begun ||| (o k) <<< (8 * (2 - at0)))) by (show (if D < price + M (rc + 1) (o k) then M else _) = _; rw [if_neg (Int32.not_lt.mpr hc38)])]
        refine zK.blk rfl ?_
        refine p_aloadn_0 ?_
        refine p_iload_7 ?_
        refine p_iloadn_1 ?_
        refine p_iloadn_2 ?_
        refine p_cs3i rfl rfl rfl rfl rfl (c_5) ?_
        refine p_iload_8 ?_
        refine p_iload_4 ?_
        refine p_iload_5 ?_
        refine p_iload_7 ?_
        refine p_cs3i rfl rfl rfl rfl rfl (c_16 hat) ?_
        refine p_cv3v rfl rfl rfl rfl (zl_r hrc) (c_48 hrc hI.1) ?_
        refine p_iinc_6 (zN_inc _ 1) rfl ?_
        refine p_goto (tgt := 3) (by decide) ?_
        refine zK.forget _ ?_ (ih (k + 1) _ (ofM_rcI hI) (by omega))
        exact ⟨Or.inl rfl, Or.inl rfl, Or.inl rfl, Or.inl rfl, Or.inl rfl, Or.inl rfl, Or.inl rfl, Or.inr rfl, Or.inr rfl, trivial⟩
      · skip
        rw [show jlM rc N o D one no price begun at0 (j + 1) k M = M by (show (if D < price + M (rc + 1) (o k) then M else _) = _; rw [if_pos (Int32.not_le.mp hc38)])]
        refine p_goto (tgt := 72) (by decide) ?_
        refine zK.blk rfl ?_
        exact p_vret trivial rfl rfl
set_option maxRecDepth 100000 in
set_option maxHeartbeats 4000000 in
theorem c_46 {sc : Nat × (Nat → Int32)} {d : Nat} {M : zM} {rc n N s one no begun at0 : Nat} {o : Nat → Nat} {D price : Int32} (hrc : zrc rc n N) (hI : rcI M rc N s o D) (hat : at0 < 3) : zC 47 sc (d + 3) 46 [.ref rc, .int (nI one), .int (nI no), .int price, .int (nI begun), .int (nI at0)] M (none) (jlM rc N o D one no price begun at0 s 0 M) := by
  refine z_enter (L := [.ref rc, .int (nI one), .int (nI no), .int price, .int (nI begun), .int (nI at0), .null, .null, .null]) rfl rfl rfl ?_
  refine zK.blk rfl ?_
  refine p_iconst (v := nI 0) (by decide) ?_
  refine p_istore_6 rfl ?_
  exact lp_46_3 hrc hat s 0 M hI (by omega)
end
section
/-- joinAt's turns -/
def jaM (rc N s : Nat) (o : Nat → Nat) (D : Int32) (pl ne sa ta tg : Nat) (price : Int32) (begun se th : Nat) : Nat → Nat → zM → zM
  | 0, _, M => M
  | j + 1, k, M => if D < price + M (rc + 1) (o k) then M else jaM rc N s o D pl ne sa ta tg price begun se th j (k + 1) (if pl < 3 then ofM rc N M (pkN (o k) sa ne) (price + M (rc + 1) (o k)) (begun ||| (o k) <<< (8 * (2 - se))) else jlM rc N o D (pkN (o k) tg ta) (pkN (o k) sa ne) (price + M (rc + 1) (o k)) (begun ||| (o k) <<< (8 * (2 - se))) th s 0 M)
theorem jaM_rcI {rc N s : Nat} {o : Nat → Nat} {D : Int32} {pl ne sa ta tg : Nat} {price : Int32} {begun se th : Nat} : ∀ j k M, rcI M rc N s o D → rcI (jaM rc N s o D pl ne sa ta tg price begun se th j k M) rc N s o D := by
  intro j
  induction j with
  | zero => intro k M h; exact h
  | succ j ih =>
    intro k M h
    show rcI (if D < price + M (rc + 1) (o k) then M else _) rc N s o D
    split
    · exact h
    · refine ih _ _ ?_
      split
      · exact ofM_rcI h
      · exact jlM_rcI _ _ _ h
theorem jaM_ne {rc N s : Nat} {o : Nat → Nat} {D : Int32} {pl ne sa ta tg : Nat} {price : Int32} {begun se th a : Nat} (h1 : ¬ a = rc + 1) (h2 : ¬ a = rc + 2) (b : Nat) : ∀ j k M, jaM rc N s o D pl ne sa ta tg price begun se th j k M a b = M a b := by
  intro j
  induction j with
  | zero => intro k M; rfl
  | succ j ih =>
    intro k M
    show (if D < price + M (rc + 1) (o k) then M else _) a b = _
    split
    · rfl
    · rw [ih]
      split
      · rw [ofM_ne h1 h2]
      · rw [jlM_ne h1 h2]
def zse (at0 : Nat) : Nat := if at0 = 0 then 1 else 0
def zth (at0 : Nat) : Nat := if at0 = 2 then 1 else 2
/-- joinAt -/
def jAM (rc N s : Nat) (o : Nat → Nat) (D : Int32) (pl kc w begun nx at0 : Nat) (M : zM) : zM :=
  if pl < 2 then ofM rc N M (lfN w nx at0 0) (nI kc + M (rc + 1) nx) begun
  else jaM rc N s o D pl (lfN w nx at0 0) (lfN w nx at0 (1 <<< zse at0)) (lfN w nx at0 (1 <<< zth at0)) (lfN w nx at0 (1 <<< zse at0 ||| 1 <<< zth at0)) (nI kc + M (rc + 1) nx) begun (zse at0) (zth at0) s 0 M
theorem jAM_rcI {rc N s : Nat} {o : Nat → Nat} {D : Int32} {pl kc w begun nx at0 : Nat} {M : zM} (h : rcI M rc N s o D) : rcI (jAM rc N s o D pl kc w begun nx at0 M) rc N s o D := by
  unfold jAM
  split
  · exact ofM_rcI h
  · exact jaM_rcI _ _ _ h
theorem jAM_ne {rc N s : Nat} {o : Nat → Nat} {D : Int32} {pl kc w begun nx at0 a : Nat} {M : zM} (h1 : ¬ a = rc + 1) (h2 : ¬ a = rc + 2) (b : Nat) : jAM rc N s o D pl kc w begun nx at0 M a b = M a b := by
  unfold jAM
  split
  · exact ofM_ne h1 h2 b
  · exact jaM_ne h1 h2 b _ _ _
/-- join, j places from at0 on -/
def jnM (rc N s : Nat) (o : Nat → Nat) (D : Int32) (pl kc w l nx : Nat) : Nat → Nat → zM → zM
  | 0, _, M => M
  | j + 1, at0, M => jnM rc N s o D pl kc w l nx j (at0 + 1) (jAM rc N s o D pl kc w (l <<< 24 ||| nx <<< (8 * (2 - at0))) nx at0 M)
theorem jnM_rcI {rc N s : Nat} {o : Nat → Nat} {D : Int32} {pl kc w l nx : Nat} : ∀ j at0 M, rcI M rc N s o D → rcI (jnM rc N s o D pl kc w l nx j at0 M) rc N s o D := by
  intro j
  induction j with
  | zero => intro k M h; exact h
  | succ j ih => intro k M h; exact ih _ _ (jAM_rcI h)
theorem jnM_ne {rc N s : Nat} {o : Nat → Nat} {D : Int32} {pl kc w l nx a : Nat} (h1 : ¬ a = rc + 1) (h2 : ¬ a = rc + 2) (b : Nat) : ∀ j at0 M, jnM rc N s o D pl kc w l nx j at0 M a b = M a b := by
  intro j
  induction j with
  | zero => intro k M; rfl
  | succ j ih =>
    intro k M
    show jnM rc N s o D pl kc w l nx j (k + 1) _ a b = _
    rw [ih, jAM_ne h1 h2]
theorem zrc_ge {rc n N : Nat} (h : zrc rc n N) : 9 ≤ rc := by rcases h with ⟨rfl, -, -⟩ | ⟨rfl, -, -⟩ | ⟨rfl, -, -⟩ <;> decide
set_option maxRecDepth 100000 in
set_option maxHeartbeats 4000000 in
theorem lp_45_113 {sc : Nat × (Nat → Int32)} {d : Nat} {rc n N s i pl ne sa ta tg begun nx at0 se th : Nat} {o : Nat → Nat} {D price : Int32} (hrc : zrc rc n N) (hi : i < 6) (hpl : pl < 4) (hse : se < 3) (hth : th < 3) : ∀ (j k : Nat) (M : zM), rcI M rc N s o D → M (3 + i) 0 = nI pl → k + j = s → zK 47 sc (zC 47 sc (d + 3)) 45 none (jaM rc N s o D pl ne sa ta tg price begun se th j k M) 113 [.ref rc, .ref (3 + i), .int (nI begun), .int (nI nx), .int (nI at0), .int (nI se), .int (nI th), .int (nI ne), .int (nI sa), .int (nI ta), .int (nI tg), .int price, .int (nI k), .null, .null, .null, .null] [] M := by
  intro j
  induction j with
  | zero =>
    intro k M hI h0 hj
    have hN := zl_N hrc
    have hs := hI.2.2.1
    refine zK.blk rfl ?_
    refine p_iload_12 ?_
    refine p_aloadn_0 ?_
    refine p_geti (zl_r hrc) rfl (hI.2.1) ?_
    refine p_icmpN_ge (tgt := 224) (by decide) (by omega) (by omega) (fun hc119 => ?_) (fun hc119 => ?_)
    · skip
      refine zK.blk rfl ?_
      exact p_vret trivial rfl rfl
    · skip
      exact absurd hc119 (by omega) --STOP
  | succ j ih =>
    intro k M hI h0 hj
    have hN := zl_N hrc
    have hs := hI.2.2.1
    have hok := (hI.2.2.2.2 k (by omega)).2
    have hr9 := zrc_ge hrc
    refine zK.blk rfl ?_
    refine p_iload_12 ?_
    refine p_aloadn_0 ?_
    refine p_geti (zl_r hrc) rfl (hI.2.1) ?_
    refine p_icmpN_ge (tgt := 224) (by decide) (by omega) (by omega) (fun hc119 => ?_) (fun hc119 => ?_)
    · skip
      exact absurd hc119 (by omega) --STOP
    · skip
      refine p_aloadn_0 ?_
      refine p_getr (zl_r hrc) rfl ?_
      refine p_iload_12 ?_
      refine p_iald (zl_a5 hrc) (by omega) (zl_n hrc) ((hI.2.2.2.2 k (by omega)).1) ?_
      refine p_istore_13 rfl ?_
      refine p_iload_11 ?_
      refine p_aloadn_0 ?_
      refine p_getr (zl_r hrc) rfl ?_
      refine p_iload_13 ?_
      refine p_iald (zl_a2 hrc) (by omega) (zl_n hrc) (rfl) ?_
      refine p_iadd ?_
      refine p_istore_14 rfl ?_
      refine p_iload_14 ?_
      refine p_aloadn_0 ?_
      refine p_geti (zl_r hrc) rfl (hI.2.2.2.1) ?_
      refine p_icmp_le (tgt := 155) (by decide) (fun hc149 => ?_) (fun hc149 => ?_)
      · skip
        rw [show jaM rc N s o D pl ne sa ta tg price begun se th (j + 1) k M = jaM rc N s o D pl ne sa ta tg price begun se th j (k + 1) (if pl < 3 then ofM rc N M (pkN (o k) sa ne) (price + M (rc + 1) (o k)) (begun ||| (o k) <<< (8 * (2 - se))) else jlM rc N o D (pkN (o k) tg ta) (pkN (o k) sa ne) (price + M (rc + 1) (o k)) (begun ||| (o k) <<< (8 * (2 - se))) th s 0 M) by (show (if D < price + M (rc + 1) (o k) then M else _) = _; rw [if_neg (Int32.not_lt.mpr hc149)])]
        refine zK.blk rfl ?_
        refine p_iload_13 ?_
        refine p_iload_8 ?_
        refine p_iload_7 ?_
        refine p_cs3i rfl rfl rfl rfl rfl (c_5) ?_
        refine p_istore_15 rfl ?_
        refine p_iloadn_2 ?_
        refine p_iload_5 ?_
        refine p_iload_13 ?_
        refine p_cs3i rfl rfl rfl rfl rfl (c_16 hse) ?_
        refine p_istore_16 rfl ?_
        refine p_aloadn_1 ?_
        refine p_geti (zlay_sg (by omega)) rfl (h0) ?_
        refine p_iconst (v := nI 3) (by decide) ?_
        refine p_icmpN_ge (tgt := 197) (by decide) (by omega) (by omega) (fun hc181 => ?_) (fun hc181 => ?_)
        · skip
          rw [if_neg (show ¬ pl < 3 by omega)]
          refine zK.blk rfl ?_
          refine p_aloadn_0 ?_
          refine p_iload_13 ?_
          refine p_iload_10 ?_
          refine p_iload_9 ?_
          refine p_cs3i rfl rfl rfl rfl rfl (c_5) ?_
          refine p_iload_15 ?_
          refine p_iload_14 ?_
          refine p_iload_16 ?_
          refine p_iload_6 ?_
          refine p_cv5v rfl rfl rfl rfl (zl_r hrc) (c_46 hrc hI hth) ?_
          refine zK.blk rfl ?_
          refine p_iinc_12 (zN_inc _ 1) rfl ?_
          refine p_goto (tgt := 113) (by decide) ?_
          refine zK.forget _ ?_ (ih (k + 1) _ (by first | exact ofM_rcI hI | exact jlM_rcI _ _ _ hI) (by first | (rw [ofM_ne (by omega) (by omega)]; exact h0) | (rw [jlM_ne (by omega) (by omega)]; exact h0)) (by omega))
          exact ⟨Or.inl rfl, Or.inl rfl, Or.inl rfl, Or.inl rfl, Or.inl rfl, Or.inl rfl, Or.inl rfl, Or.inl rfl, Or.inl rfl, Or.inl rfl, Or.inl rfl, Or.inl rfl, Or.inl rfl, Or.inr rfl, Or.inr rfl, Or.inr rfl, Or.inr rfl, trivial⟩
        · skip
          rw [if_pos (show pl < 3 by omega)]
          refine p_aloadn_0 ?_
          refine p_iload_15 ?_
          refine p_iload_14 ?_
          refine p_iload_16 ?_
          refine p_cv3v rfl rfl rfl rfl (zl_r hrc) (c_48 hrc hI.1) ?_
          refine p_goto (tgt := 218) (by decide) ?_
          refine zK.blk rfl ?_
          refine p_iinc_12 (zN_inc _ 1) rfl ?_
          refine p_goto (tgt := 113) (by decide) ?_
          refine zK.forget _ ?_ (ih (k + 1) _ (by first | exact ofM_rcI hI | exact jlM_rcI _ _ _ hI) (by first | (rw [ofM_ne (by omega) (by omega)]; exact h0) | (rw [jlM_ne (by omega) (by omega)]; exact h0)) (by omega))
          exact ⟨Or.inl rfl, Or.inl rfl, Or.inl rfl, Or.inl rfl, Or.inl rfl, Or.inl rfl, Or.inl rfl, Or.inl rfl, Or.inl rfl, Or.inl rfl, Or.inl rfl, Or.inl rfl, Or.inl rfl, Or.inr rfl, Or.inr rfl, Or.inr rfl, Or.inr rfl, trivial⟩
      · skip
        rw [show jaM rc N s o D pl ne sa ta tg price begun se th (j + 1) k M = M by (show (if D < price + M (rc + 1) (o k) then M else _) = _; rw [if_pos (Int32.not_le.mp hc149)])]
        refine p_goto (tgt := 224) (by decide) ?_
        refine zK.blk rfl ?_
        exact p_vret trivial rfl rfl
set_option maxRecDepth 100000 in
set_option maxHeartbeats 4000000 in
theorem c_45_0 {sc : Nat × (Nat → Int32)} {d : Nat} {M : zM} {rc n N s i pl kc w begun nx : Nat} {o : Nat → Nat} {D : Int32} (hrc : zrc rc n N) (hI : rcI M rc N s o D) (hi : i < 6) (h0 : M (3 + i) 0 = nI pl) (h2 : M (3 + i) 2 = nI kc) (h3 : M (3 + i) 3 = nI w) (hpl : pl < 4) (hw : w < 2 ^ 31) (hnx : nx < N) : zC 47 sc (d + 4) 45 [.ref rc, .ref (3 + i), .int (nI begun), .int (nI nx), .int (nI 0)] M (none) (jAM rc N s o D pl kc w begun nx 0 M) := by
  have hN := zl_N hrc
  unfold jAM
  refine z_enter (L := [.ref rc, .ref (3 + i), .int (nI begun), .int (nI nx), .int (nI 0), .null, .null, .null, .null, .null, .null, .null, .null, .null, .null, .null, .null]) rfl rfl rfl ?_
  refine zK.blk rfl ?_
  refine p_iload_4 ?_
  refine p_ifN_ne (tgt := 9) (by decide) (by omega) (fun hc2 => ?_) (fun hc2 => ?_)
  · skip
    exact absurd rfl hc2 --STOP
  · skip
    refine p_iconst (v := nI 1) (by decide) ?_
    refine p_goto (tgt := 10) (by decide) ?_
    refine zK.blk rfl ?_
    refine p_istore_5 rfl ?_
    refine p_iload_4 ?_
    refine p_iconst (v := nI 2) (by decide) ?_
    refine p_icmpN_ne (tgt := 22) (by decide) (by omega) (by omega) (fun hc15 => ?_) (fun hc15 => ?_)
    · skip
      refine zK.blk rfl ?_
      refine p_iconst (v := nI 2) (by decide) ?_
      refine zK.blk rfl ?_
      refine p_istore_6 rfl ?_
      refine p_aloadn_1 ?_
      refine p_iloadn_3 ?_
      refine p_iload_4 ?_
      refine p_iconst (v := nI 0) (by decide) ?_
      refine p_cs4i rfl rfl rfl rfl rfl (c_47 hi h3 hw (by decide) (by decide)) ?_
      refine p_istore_7 rfl ?_
      refine p_aloadn_1 ?_
      refine p_iloadn_3 ?_
      refine p_iload_4 ?_
      refine p_iconst (v := nI 1) (by decide) ?_
      refine p_iload_5 ?_
      refine p_ishlN (by omega) ?_
      refine p_cs4i rfl rfl rfl rfl rfl (c_47 hi h3 hw (by decide) (by decide)) ?_
      refine p_istore_8 rfl ?_
      refine p_aloadn_1 ?_
      refine p_iloadn_3 ?_
      refine p_iload_4 ?_
      refine p_iconst (v := nI 1) (by decide) ?_
      refine p_iload_6 ?_
      refine p_ishlN (by omega) ?_
      refine p_cs4i rfl rfl rfl rfl rfl (c_47 hi h3 hw (by decide) (by decide)) ?_
      refine p_istore_9 rfl ?_
      refine p_aloadn_1 ?_
      refine p_iloadn_3 ?_
      refine p_iload_4 ?_
      refine p_iconst (v := nI 1) (by decide) ?_
      refine p_iload_5 ?_
      refine p_ishlN (by omega) ?_
      refine p_iconst (v := nI 1) (by decide) ?_
      refine p_iload_6 ?_
      refine p_ishlN (by omega) ?_
      refine p_iorN ?_
      refine p_cs4i rfl rfl rfl rfl rfl (c_47 hi h3 hw (by decide) (by decide)) ?_
      refine p_istore_10 rfl ?_
      refine p_aloadn_1 ?_
      refine p_geti (zlay_sg (by omega)) rfl (h2) ?_
      refine p_aloadn_0 ?_
      refine p_getr (zl_r hrc) rfl ?_
      refine p_iloadn_3 ?_
      refine p_iald (zl_a2 hrc) (by omega) (zl_n hrc) (rfl) ?_
      refine p_iadd ?_
      refine p_istore_11 rfl ?_
      refine p_aloadn_1 ?_
      refine p_geti (zlay_sg (by omega)) rfl (h0) ?_
      refine p_iconst (v := nI 2) (by decide) ?_
      refine p_icmpN_ge (tgt := 110) (by decide) (by omega) (by omega) (fun hc97 => ?_) (fun hc97 => ?_)
      · skip
        rw [if_neg (show ¬ pl < 2 by omega)]
        refine zK.blk rfl ?_
        refine p_iconst (v := nI 0) (by decide) ?_
        refine p_istore_12 rfl ?_
        exact lp_45_113 hrc hi hpl (by decide) (by decide) s 0 M hI h0 (by omega)
      · skip
        rw [if_pos (show pl < 2 by omega)]
        refine p_aloadn_0 ?_
        refine p_iload_7 ?_
        refine p_iload_11 ?_
        refine p_iloadn_2 ?_
        refine p_cv3v rfl rfl rfl rfl (zl_r hrc) (c_48 hrc hI.1) ?_
        exact p_vret trivial rfl rfl
    · skip
      exact absurd hc15 (by decide) --STOP
set_option maxRecDepth 100000 in
set_option maxHeartbeats 4000000 in
theorem c_45_1 {sc : Nat × (Nat → Int32)} {d : Nat} {M : zM} {rc n N s i pl kc w begun nx : Nat} {o : Nat → Nat} {D : Int32} (hrc : zrc rc n N) (hI : rcI M rc N s o D) (hi : i < 6) (h0 : M (3 + i) 0 = nI pl) (h2 : M (3 + i) 2 = nI kc) (h3 : M (3 + i) 3 = nI w) (hpl : pl < 4) (hw : w < 2 ^ 31) (hnx : nx < N) : zC 47 sc (d + 4) 45 [.ref rc, .ref (3 + i), .int (nI begun), .int (nI nx), .int (nI 1)] M (none) (jAM rc N s o D pl kc w begun nx 1 M) := by
  have hN := zl_N hrc
  unfold jAM
  refine z_enter (L := [.ref rc, .ref (3 + i), .int (nI begun), .int (nI nx), .int (nI 1), .null, .null, .null, .null, .null, .null, .null, .null, .null, .null, .null, .null]) rfl rfl rfl ?_
  refine zK.blk rfl ?_
  refine p_iload_4 ?_
  refine p_ifN_ne (tgt := 9) (by decide) (by omega) (fun hc2 => ?_) (fun hc2 => ?_)
  · skip
    refine zK.blk rfl ?_
    refine p_iconst (v := nI 0) (by decide) ?_
    refine zK.blk rfl ?_
    refine p_istore_5 rfl ?_
    refine p_iload_4 ?_
    refine p_iconst (v := nI 2) (by decide) ?_
    refine p_icmpN_ne (tgt := 22) (by decide) (by omega) (by omega) (fun hc15 => ?_) (fun hc15 => ?_)
    · skip
      refine zK.blk rfl ?_
      refine p_iconst (v := nI 2) (by decide) ?_
      refine zK.blk rfl ?_
      refine p_istore_6 rfl ?_
      refine p_aloadn_1 ?_
      refine p_iloadn_3 ?_
      refine p_iload_4 ?_
      refine p_iconst (v := nI 0) (by decide) ?_
      refine p_cs4i rfl rfl rfl rfl rfl (c_47 hi h3 hw (by decide) (by decide)) ?_
      refine p_istore_7 rfl ?_
      refine p_aloadn_1 ?_
      refine p_iloadn_3 ?_
      refine p_iload_4 ?_
      refine p_iconst (v := nI 1) (by decide) ?_
      refine p_iload_5 ?_
      refine p_ishlN (by omega) ?_
      refine p_cs4i rfl rfl rfl rfl rfl (c_47 hi h3 hw (by decide) (by decide)) ?_
      refine p_istore_8 rfl ?_
      refine p_aloadn_1 ?_
      refine p_iloadn_3 ?_
      refine p_iload_4 ?_
      refine p_iconst (v := nI 1) (by decide) ?_
      refine p_iload_6 ?_
      refine p_ishlN (by omega) ?_
      refine p_cs4i rfl rfl rfl rfl rfl (c_47 hi h3 hw (by decide) (by decide)) ?_
      refine p_istore_9 rfl ?_
      refine p_aloadn_1 ?_
      refine p_iloadn_3 ?_
      refine p_iload_4 ?_
      refine p_iconst (v := nI 1) (by decide) ?_
      refine p_iload_5 ?_
      refine p_ishlN (by omega) ?_
      refine p_iconst (v := nI 1) (by decide) ?_
      refine p_iload_6 ?_
      refine p_ishlN (by omega) ?_
      refine p_iorN ?_
      refine p_cs4i rfl rfl rfl rfl rfl (c_47 hi h3 hw (by decide) (by decide)) ?_
      refine p_istore_10 rfl ?_
      refine p_aloadn_1 ?_
      refine p_geti (zlay_sg (by omega)) rfl (h2) ?_
      refine p_aloadn_0 ?_
      refine p_getr (zl_r hrc) rfl ?_
      refine p_iloadn_3 ?_
      refine p_iald (zl_a2 hrc) (by omega) (zl_n hrc) (rfl) ?_
      refine p_iadd ?_
      refine p_istore_11 rfl ?_
      refine p_aloadn_1 ?_
      refine p_geti (zlay_sg (by omega)) rfl (h0) ?_
      refine p_iconst (v := nI 2) (by decide) ?_
      refine p_icmpN_ge (tgt := 110) (by decide) (by omega) (by omega) (fun hc97 => ?_) (fun hc97 => ?_)
      · skip
        rw [if_neg (show ¬ pl < 2 by omega)]
        refine zK.blk rfl ?_
        refine p_iconst (v := nI 0) (by decide) ?_
        refine p_istore_12 rfl ?_
        exact lp_45_113 hrc hi hpl (by decide) (by decide) s 0 M hI h0 (by omega)
      · skip
        rw [if_pos (show pl < 2 by omega)]
        refine p_aloadn_0 ?_
        refine p_iload_7 ?_
        refine p_iload_11 ?_
        refine p_iloadn_2 ?_
        refine p_cv3v rfl rfl rfl rfl (zl_r hrc) (c_48 hrc hI.1) ?_
        exact p_vret trivial rfl rfl
    · skip
      exact absurd hc15 (by decide) --STOP
  · skip
    exact absurd hc2 (by decide) --STOP
set_option maxRecDepth 100000 in
set_option maxHeartbeats 4000000 in
theorem c_45_2 {sc : Nat × (Nat → Int32)} {d : Nat} {M : zM} {rc n N s i pl kc w begun nx : Nat} {o : Nat → Nat} {D : Int32} (hrc : zrc rc n N) (hI : rcI M rc N s o D) (hi : i < 6) (h0 : M (3 + i) 0 = nI pl) (h2 : M (3 + i) 2 = nI kc) (h3 : M (3 + i) 3 = nI w) (hpl : pl < 4) (hw : w < 2 ^ 31) (hnx : nx < N) : zC 47 sc (d + 4) 45 [.ref rc, .ref (3 + i), .int (nI begun), .int (nI nx), .int (nI 2)] M (none) (jAM rc N s o D pl kc w begun nx 2 M) := by
  have hN := zl_N hrc
  unfold jAM
  refine z_enter (L := [.ref rc, .ref (3 + i), .int (nI begun), .int (nI nx), .int (nI 2), .null, .null, .null, .null, .null, .null, .null, .null, .null, .null, .null, .null]) rfl rfl rfl ?_
  refine zK.blk rfl ?_
  refine p_iload_4 ?_
  refine p_ifN_ne (tgt := 9) (by decide) (by omega) (fun hc2 => ?_) (fun hc2 => ?_)
  · skip
    refine zK.blk rfl ?_
    refine p_iconst (v := nI 0) (by decide) ?_
    refine zK.blk rfl ?_
    refine p_istore_5 rfl ?_
    refine p_iload_4 ?_
    refine p_iconst (v := nI 2) (by decide) ?_
    refine p_icmpN_ne (tgt := 22) (by decide) (by omega) (by omega) (fun hc15 => ?_) (fun hc15 => ?_)
    · skip
      exact absurd rfl hc15 --STOP
    · skip
      refine p_iconst (v := nI 1) (by decide) ?_
      refine p_goto (tgt := 23) (by decide) ?_
      refine zK.blk rfl ?_
      refine p_istore_6 rfl ?_
      refine p_aloadn_1 ?_
      refine p_iloadn_3 ?_
      refine p_iload_4 ?_
      refine p_iconst (v := nI 0) (by decide) ?_
      refine p_cs4i rfl rfl rfl rfl rfl (c_47 hi h3 hw (by decide) (by decide)) ?_
      refine p_istore_7 rfl ?_
      refine p_aloadn_1 ?_
      refine p_iloadn_3 ?_
      refine p_iload_4 ?_
      refine p_iconst (v := nI 1) (by decide) ?_
      refine p_iload_5 ?_
      refine p_ishlN (by omega) ?_
      refine p_cs4i rfl rfl rfl rfl rfl (c_47 hi h3 hw (by decide) (by decide)) ?_
      refine p_istore_8 rfl ?_
      refine p_aloadn_1 ?_
      refine p_iloadn_3 ?_
      refine p_iload_4 ?_
      refine p_iconst (v := nI 1) (by decide) ?_
      refine p_iload_6 ?_
      refine p_ishlN (by omega) ?_
      refine p_cs4i rfl rfl rfl rfl rfl (c_47 hi h3 hw (by decide) (by decide)) ?_
      refine p_istore_9 rfl ?_
      refine p_aloadn_1 ?_
      refine p_iloadn_3 ?_
      refine p_iload_4 ?_
      refine p_iconst (v := nI 1) (by decide) ?_
      refine p_iload_5 ?_
      refine p_ishlN (by omega) ?_
      refine p_iconst (v := nI 1) (by decide) ?_
      refine p_iload_6 ?_
      refine p_ishlN (by omega) ?_
      refine p_iorN ?_
      refine p_cs4i rfl rfl rfl rfl rfl (c_47 hi h3 hw (by decide) (by decide)) ?_
      refine p_istore_10 rfl ?_
      refine p_aloadn_1 ?_
      refine p_geti (zlay_sg (by omega)) rfl (h2) ?_
      refine p_aloadn_0 ?_
      refine p_getr (zl_r hrc) rfl ?_
      refine p_iloadn_3 ?_
      refine p_iald (zl_a2 hrc) (by omega) (zl_n hrc) (rfl) ?_
      refine p_iadd ?_
      refine p_istore_11 rfl ?_
      refine p_aloadn_1 ?_
      refine p_geti (zlay_sg (by omega)) rfl (h0) ?_
      refine p_iconst (v := nI 2) (by decide) ?_
      refine p_icmpN_ge (tgt := 110) (by decide) (by omega) (by omega) (fun hc97 => ?_) (fun hc97 => ?_)
      · skip
        rw [if_neg (show ¬ pl < 2 by omega)]
        refine zK.blk rfl ?_
        refine p_iconst (v := nI 0) (by decide) ?_
        refine p_istore_12 rfl ?_
        exact lp_45_113 hrc hi hpl (by decide) (by decide) s 0 M hI h0 (by omega)
      · skip
        rw [if_pos (show pl < 2 by omega)]
        refine p_aloadn_0 ?_
        refine p_iload_7 ?_
        refine p_iload_11 ?_
        refine p_iloadn_2 ?_
        refine p_cv3v rfl rfl rfl rfl (zl_r hrc) (c_48 hrc hI.1) ?_
        exact p_vret trivial rfl rfl
  · skip
    exact absurd hc2 (by decide) --STOP
theorem c_45 {sc : Nat × (Nat → Int32)} {d : Nat} {M : zM} {rc n N s i pl kc w begun nx at0 : Nat} {o : Nat → Nat} {D : Int32} (hrc : zrc rc n N) (hI : rcI M rc N s o D) (hi : i < 6) (h0 : M (3 + i) 0 = nI pl) (h2 : M (3 + i) 2 = nI kc) (h3 : M (3 + i) 3 = nI w) (hpl : pl < 4) (hw : w < 2 ^ 31) (hnx : nx < N) (hat : at0 < 3) : zC 47 sc (d + 4) 45 [.ref rc, .ref (3 + i), .int (nI begun), .int (nI nx), .int (nI at0)] M none (jAM rc N s o D pl kc w begun nx at0 M) := by
  rcases (show at0 = 0 ∨ at0 = 1 ∨ at0 = 2 by omega) with rfl | rfl | rfl
  · exact c_45_0 hrc hI hi h0 h2 h3 hpl hw hnx
  · exact c_45_1 hrc hI hi h0 h2 h3 hpl hw hnx
  · exact c_45_2 hrc hI hi h0 h2 h3 hpl hw hnx
set_option maxRecDepth 100000 in
set_option maxHeartbeats 4000000 in
theorem lp_44_3 {sc : Nat × (Nat → Int32)} {d : Nat} {rc n N s i pl kc w l nx : Nat} {o : Nat → Nat} {D : Int32} (hrc : zrc rc n N) (hi : i < 6) (hpl : pl < 4) (hw : w < 2 ^ 31) (hnx : nx < N) : ∀ (j at0 : Nat) (M : zM), rcI M rc N s o D → M (3 + i) 0 = nI pl → M (3 + i) 2 = nI kc → M (3 + i) 3 = nI w → at0 + j = pl → zK 47 sc (zC 47 sc (d + 4)) 44 none (jnM rc N s o D pl kc w l nx j at0 M) 3 [.ref rc, .ref (3 + i), .int (nI l), .int (nI nx), .int (nI at0)] [] M := by
  intro j
  induction j with
  | zero =>
    intro at0 M hI h0 h2 h3 hj
    refine zK.blk rfl ?_
    refine p_iload_4 ?_
    refine p_aloadn_1 ?_
    refine p_geti (zlay_sg (by omega)) rfl (h0) ?_
    refine p_icmpN_ge (tgt := 36) (by decide) (by omega) (by omega) (fun hc9 => ?_) (fun hc9 => ?_)
    · skip
      refine zK.blk rfl ?_
      exact p_vret trivial rfl rfl
    · skip
      exact absurd hc9 (by omega) --STOP
  | succ j ih =>
    intro at0 M hI h0 h2 h3 hj
    have hr9 := zrc_ge hrc
    refine zK.blk rfl ?_
    refine p_iload_4 ?_
    refine p_aloadn_1 ?_
    refine p_geti (zlay_sg (by omega)) rfl (h0) ?_
    refine p_icmpN_ge (tgt := 36) (by decide) (by omega) (by omega) (fun hc9 => ?_) (fun hc9 => ?_)
    · skip
      exact absurd hc9 (by omega) --STOP
    · skip
      refine p_aloadn_0 ?_
      refine p_aloadn_1 ?_
      refine p_iloadn_2 ?_
      refine p_cs1i rfl rfl rfl rfl rfl (c_15) ?_
      refine p_iload_4 ?_
      refine p_iloadn_3 ?_
      refine p_cs3i rfl rfl rfl rfl rfl (c_16 (by omega)) ?_
      refine p_iloadn_3 ?_
      refine p_iload_4 ?_
      refine p_cv4v rfl rfl rfl rfl (zl_r hrc) (c_45 hrc hI hi h0 h2 h3 hpl hw hnx (by omega)) ?_
      refine p_iinc_4 (zN_inc _ 1) rfl ?_
      refine p_goto (tgt := 3) (by decide) ?_
      exact ih (at0 + 1) _ (jAM_rcI hI) (by rw [jAM_ne (by omega) (by omega)]; exact h0) (by rw [jAM_ne (by omega) (by omega)]; exact h2) (by rw [jAM_ne (by omega) (by omega)]; exact h3) (by omega)
set_option maxRecDepth 100000 in
set_option maxHeartbeats 4000000 in
theorem c_44 {sc : Nat × (Nat → Int32)} {d : Nat} {M : zM} {rc n N s i pl kc w l nx : Nat} {o : Nat → Nat} {D : Int32} (hrc : zrc rc n N) (hI : rcI M rc N s o D) (hi : i < 6) (h0 : M (3 + i) 0 = nI pl) (h2 : M (3 + i) 2 = nI kc) (h3 : M (3 + i) 3 = nI w) (hpl : pl < 4) (hw : w < 2 ^ 31) (hnx : nx < N) : zC 47 sc (d + 5) 44 [.ref rc, .ref (3 + i), .int (nI l), .int (nI nx)] M (none) (jnM rc N s o D pl kc w l nx pl 0 M) := by
  refine z_enter (L := [.ref rc, .ref (3 + i), .int (nI l), .int (nI nx), .null]) rfl rfl rfl ?_
  refine zK.blk rfl ?_
  refine p_iconst (v := nI 0) (by decide) ?_
  refine p_istore_4 rfl ?_
  exact lp_44_3 hrc hi hpl hw hnx pl 0 M hI h0 h2 h3 (by omega)
end
section
theorem zup_zup {M : zM} {k j : Nat} {x y : Int32} : zup (zup M k j x) k j y = zup M k j y := by
  funext a b
  unfold zup
  split
  · split <;> rfl
  · rfl
def zob (ob : Option Nat) : Int32 := match ob with
  | none => -1
  | some b => nI b
/-- the cheapest table that isn't settled, and the dearest cost: j turns from i on -/
def coB (c st : Nat → Nat) (i : Nat) (ob : Option Nat) : Option Nat :=
  if c i = 1073741824 then ob else if ¬ st i = 0 then ob else match ob with
    | none => some i
    | some b => if c b ≤ c i then some b else some i
def coD (c : Nat → Nat) (i dr : Nat) : Nat := if c i ≤ dr then dr else c i
def coN (c st : Nat → Nat) : Nat → Nat → Option Nat → Nat → Option Nat × Nat
  | 0, _, ob, dr => (ob, dr)
  | j + 1, i, ob, dr => coN c st j (i + 1) (coB c st i ob) (coD c i dr)
/-- costs and flags of a Reach -/
def rcS (M : zM) (rc N : Nat) (c st : Nat → Nat) : Prop := M rc 1 = nI (N - 1) ∧ ∀ t, t < N → M (rc + 1) t = nI (c t) ∧ c t ≤ 1073741824 ∧ M (rc + 3) t = nI (st t) ∧ st t < 2
theorem rcS_up {M : zM} {rc N : Nat} {c st : Nat → Nat} {x : Int32} (h : rcS M rc N c st) : rcS (zup M rc 6 x) rc N c st := by
  refine ⟨?_, fun t ht => ?_⟩
  · unfold zup; simp; exact h.1
  · have := h.2 t ht
    unfold zup
    rw [if_neg (by omega), if_neg (by omega)]
    exact this
set_option maxRecDepth 100000 in
set_option maxHeartbeats 4000000 in
theorem lp_43_9 {sc : Nat × (Nat → Int32)} {d : Nat} {M : zM} {rc n N : Nat} {c st : Nat → Nat} (hrc : zrc rc n N) (hS : rcS M rc N c st) : ∀ (j i : Nat) (ob : Option Nat) (dr : Nat), i + j = N → dr ≤ 1073741824 → (∀ b, ob = some b → b < N) → zK 47 sc (zC 47 sc (d + 0)) 43 (some (.int (zob (coN c st j i ob dr).1))) (zup M rc 6 (nI (coN c st j i ob dr).2)) 9 [.ref rc, .int (zob ob), .int (nI i), .null] [] (zup M rc 6 (nI dr)) := by
  intro j
  induction j with
  | zero =>
    intro i ob dr hj hd hob
    have hN := zl_N hrc
    have hS2 := rcS_up (x := nI dr) hS
    refine zK.blk rfl ?_
    refine p_iloadn_2 ?_
    refine p_aloadn_0 ?_
    refine p_geti (zl_r hrc) rfl (hS2.1) ?_
    refine p_icmpN_gt (tgt := 74) (by decide) (by omega) (by omega) (fun hc14 => ?_) (fun hc14 => ?_)
    · skip
      refine zK.blk rfl ?_
      refine p_iloadn_1 ?_
      exact p_iret trivial rfl rfl
    · skip
      exact absurd hc14 (by omega) --STOP
  | succ j ih =>
    intro i ob dr hj hd hob
    show zK 47 sc (zC 47 sc (d + 0)) 43 (some (.int (zob (coN c st j (i + 1) (coB c st i ob) (coD c i dr)).1))) (zup M rc 6 (nI (coN c st j (i + 1) (coB c st i ob) (coD c i dr)).2)) 9 _ _ _
    have hN := zl_N hrc
    have hS2 := rcS_up (x := nI dr) hS
    have hci := hS.2 i (by omega)
    have h6 : zup M rc 6 (nI dr) rc 6 = nI dr := by unfold zup; simp
    refine zK.blk rfl ?_
    refine p_iloadn_2 ?_
    refine p_aloadn_0 ?_
    refine p_geti (zl_r hrc) rfl (hS2.1) ?_
    refine p_icmpN_gt (tgt := 74) (by decide) (by omega) (by omega) (fun hc14 => ?_) (fun hc14 => ?_)
    · skip
      exact absurd hc14 (by omega) --STOP
    · skip
      refine p_aloadn_0 ?_
      refine p_getr (zl_r hrc) rfl ?_
      refine p_iloadn_2 ?_
      refine p_iald (zl_a2 hrc) (by omega) (zl_n hrc) ((hS2.2 _ (by omega)).1) ?_
      refine p_istoren_3 rfl ?_
      refine p_iloadn_3 ?_
      refine p_aloadn_0 ?_
      refine p_geti (zl_r hrc) rfl (h6) ?_
      refine p_icmpN_le (tgt := 37) (by decide) (by omega) (by omega) (fun hc29 => ?_) (fun hc29 => ?_)
      · skip
        rw [show coD c i dr = dr from if_pos hc29]
        refine zK.blk rfl ?_
        refine p_iloadn_3 ?_
        refine p_ldc ?_
        refine p_icmpN_eq (tgt := 68) (by decide) (by omega) (by omega) (fun hc40 => ?_) (fun hc40 => ?_)
        · skip
          rw [show coB c st i ob = ob from if_pos hc40]
          refine zK.blk rfl ?_
          refine p_iinc_2 (zN_inc _ 1) rfl ?_
          refine p_goto (tgt := 9) (by decide) ?_
          refine zK.forget _ ?_ (ih (i + 1) ob dr (by omega) (by omega) hob)
          exact ⟨Or.inl rfl, Or.inl rfl, Or.inl rfl, Or.inr rfl, trivial⟩ --STOP
        · skip
          refine p_aloadn_0 ?_
          refine p_getr (zl_r hrc) rfl ?_
          refine p_iloadn_2 ?_
          refine p_zald (zl_a4 hrc) (by omega) (zl_n hrc) ((hS2.2 _ (by omega)).2.2.1) ?_
          refine p_ifN_ne (tgt := 68) (by decide) (by omega) (fun hc49 => ?_) (fun hc49 => ?_)
          · skip
            rw [show coB c st i ob = ob by (unfold coB; rw [if_neg hc40, if_pos hc49])]
            refine zK.blk rfl ?_
            refine p_iinc_2 (zN_inc _ 1) rfl ?_
            refine p_goto (tgt := 9) (by decide) ?_
            refine zK.forget _ ?_ (ih (i + 1) ob dr (by omega) (by omega) hob)
            exact ⟨Or.inl rfl, Or.inl rfl, Or.inl rfl, Or.inr rfl, trivial⟩ --STOP
          · skip
            refine p_iloadn_1 ?_
            refine p_if_lt (tgt := 66) (by decide) (fun hc53 => ?_) (fun hc53 => ?_)
            · skip
              obtain rfl : ob = none := by (cases ob with | none => rfl | some b => exact absurd hc53 (nI_pos (by have := hob b rfl; omega)))
              rw [show coB c st i none = some i by (unfold coB; rw [if_neg hc40, if_neg (fun z => hc49 z)])]
              refine zK.blk rfl ?_
              refine p_iloadn_2 ?_
              refine p_istoren_1 rfl ?_
              refine zK.blk rfl ?_
              refine p_iinc_2 (zN_inc _ 1) rfl ?_
              refine p_goto (tgt := 9) (by decide) ?_
              refine zK.forget _ ?_ (ih (i + 1) (some i) dr (by omega) (by omega) (fun b hb => by cases hb; omega))
              exact ⟨Or.inl rfl, Or.inl rfl, Or.inl rfl, Or.inr rfl, trivial⟩
            · skip
              obtain ⟨b, rfl⟩ : ∃ b, ob = some b := by (cases ob with | none => exact absurd (by decide) hc53 | some b => exact ⟨b, rfl⟩)
              have hb := hob b rfl
              have hcb := (hS.2 b hb).2.1
              rw [show zob (some b) = nI b from rfl]
              refine p_iloadn_3 ?_
              refine p_aloadn_0 ?_
              refine p_getr (zl_r hrc) rfl ?_
              refine p_iloadn_1 ?_
              refine p_iald (zl_a2 hrc) (by omega) (zl_n hrc) ((hS2.2 _ (by omega)).1) ?_
              refine p_icmpN_ge (tgt := 68) (by decide) (by omega) (by omega) (fun hc63 => ?_) (fun hc63 => ?_)
              · skip
                rw [show coB c st i (some b) = some b by (unfold coB; rw [if_neg hc40, if_neg (fun z => hc49 z)]; exact if_pos hc63)]
                refine zK.blk rfl ?_
                refine p_iinc_2 (zN_inc _ 1) rfl ?_
                refine p_goto (tgt := 9) (by decide) ?_
                refine zK.forget _ ?_ (ih (i + 1) (some b) dr (by omega) (by omega) hob)
                exact ⟨Or.inl rfl, Or.inl rfl, Or.inl rfl, Or.inr rfl, trivial⟩ --STOP
              · skip
                rw [show coB c st i (some b) = some i by (unfold coB; rw [if_neg hc40, if_neg (fun z => hc49 z)]; exact if_neg hc63)]
                refine zK.blk rfl ?_
                refine p_iloadn_2 ?_
                refine p_istoren_1 rfl ?_
                refine zK.blk rfl ?_
                refine p_iinc_2 (zN_inc _ 1) rfl ?_
                refine p_goto (tgt := 9) (by decide) ?_
                refine zK.forget _ ?_ (ih (i + 1) (some i) dr (by omega) (by omega) (fun b hb => by cases hb; omega))
                exact ⟨Or.inl rfl, Or.inl rfl, Or.inl rfl, Or.inr rfl, trivial⟩ --STOP
      · skip
        refine p_aloadn_0 ?_
        refine p_iloadn_3 ?_
        refine p_put (zl_r hrc) rfl (by simp) ?_
        rw [zup_zup, show coD c i dr = c i from if_neg hc29]
        have hS2 := rcS_up (x := nI (c i)) hS
        refine zK.blk rfl ?_
        refine p_iloadn_3 ?_
        refine p_ldc ?_
        refine p_icmpN_eq (tgt := 68) (by decide) (by omega) (by omega) (fun hc40 => ?_) (fun hc40 => ?_)
        · skip
          rw [show coB c st i ob = ob from if_pos hc40]
          refine zK.blk rfl ?_
          refine p_iinc_2 (zN_inc _ 1) rfl ?_
          refine p_goto (tgt := 9) (by decide) ?_
          refine zK.forget _ ?_ (ih (i + 1) ob (c i) (by omega) (by omega) hob)
          exact ⟨Or.inl rfl, Or.inl rfl, Or.inl rfl, Or.inr rfl, trivial⟩ --STOP
        · skip
          refine p_aloadn_0 ?_
          refine p_getr (zl_r hrc) rfl ?_
          refine p_iloadn_2 ?_
          refine p_zald (zl_a4 hrc) (by omega) (zl_n hrc) ((hS2.2 _ (by omega)).2.2.1) ?_
          refine p_ifN_ne (tgt := 68) (by decide) (by omega) (fun hc49 => ?_) (fun hc49 => ?_)
          · skip
            rw [show coB c st i ob = ob by (unfold coB; rw [if_neg hc40, if_pos hc49])]
            refine zK.blk rfl ?_
            refine p_iinc_2 (zN_inc _ 1) rfl ?_
            refine p_goto (tgt := 9) (by decide) ?_
            refine zK.forget _ ?_ (ih (i + 1) ob (c i) (by omega) (by omega) hob)
            exact ⟨Or.inl rfl, Or.inl rfl, Or.inl rfl, Or.inr rfl, trivial⟩ --STOP
          · skip
            refine p_iloadn_1 ?_
            refine p_if_lt (tgt := 66) (by decide) (fun hc53 => ?_) (fun hc53 => ?_)
            · skip
              obtain rfl : ob = none := by (cases ob with | none => rfl | some b => exact absurd hc53 (nI_pos (by have := hob b rfl; omega)))
              rw [show coB c st i none = some i by (unfold coB; rw [if_neg hc40, if_neg (fun z => hc49 z)])]
              refine zK.blk rfl ?_
              refine p_iloadn_2 ?_
              refine p_istoren_1 rfl ?_
              refine zK.blk rfl ?_
              refine p_iinc_2 (zN_inc _ 1) rfl ?_
              refine p_goto (tgt := 9) (by decide) ?_
              refine zK.forget _ ?_ (ih (i + 1) (some i) (c i) (by omega) (by omega) (fun b hb => by cases hb; omega))
              exact ⟨Or.inl rfl, Or.inl rfl, Or.inl rfl, Or.inr rfl, trivial⟩
            · skip
              obtain ⟨b, rfl⟩ : ∃ b, ob = some b := by (cases ob with | none => exact absurd (by decide) hc53 | some b => exact ⟨b, rfl⟩)
              have hb := hob b rfl
              have hcb := (hS.2 b hb).2.1
              rw [show zob (some b) = nI b from rfl]
              refine p_iloadn_3 ?_
              refine p_aloadn_0 ?_
              refine p_getr (zl_r hrc) rfl ?_
              refine p_iloadn_1 ?_
              refine p_iald (zl_a2 hrc) (by omega) (zl_n hrc) ((hS2.2 _ (by omega)).1) ?_
              refine p_icmpN_ge (tgt := 68) (by decide) (by omega) (by omega) (fun hc63 => ?_) (fun hc63 => ?_)
              · skip
                rw [show coB c st i (some b) = some b by (unfold coB; rw [if_neg hc40, if_neg (fun z => hc49 z)]; exact if_pos hc63)]
                refine zK.blk rfl ?_
                refine p_iinc_2 (zN_inc _ 1) rfl ?_
                refine p_goto (tgt := 9) (by decide) ?_
                refine zK.forget _ ?_ (ih (i + 1) (some b) (c i) (by omega) (by omega) hob)
                exact ⟨Or.inl rfl, Or.inl rfl, Or.inl rfl, Or.inr rfl, trivial⟩ --STOP
              · skip
                rw [show coB c st i (some b) = some i by (unfold coB; rw [if_neg hc40, if_neg (fun z => hc49 z)]; exact if_neg hc63)]
                refine zK.blk rfl ?_
                refine p_iloadn_2 ?_
                refine p_istoren_1 rfl ?_
                refine zK.blk rfl ?_
                refine p_iinc_2 (zN_inc _ 1) rfl ?_
                refine p_goto (tgt := 9) (by decide) ?_
                refine zK.forget _ ?_ (ih (i + 1) (some i) (c i) (by omega) (by omega) (fun b hb => by cases hb; omega))
                exact ⟨Or.inl rfl, Or.inl rfl, Or.inl rfl, Or.inr rfl, trivial⟩ --STOP
set_option maxRecDepth 100000 in
set_option maxHeartbeats 4000000 in
theorem c_43 {sc : Nat × (Nat → Int32)} {d : Nat} {M : zM} {rc n N : Nat} {c st : Nat → Nat} (hrc : zrc rc n N) (hS : rcS M rc N c st) : zC 47 sc (d + 1) 43 [.ref rc] M (some (.int (zob (coN c st N 0 none 0).1))) (zup M rc 6 (nI (coN c st N 0 none 0).2)) := by
  refine z_enter (L := [.ref rc, .null, .null, .null]) rfl rfl rfl ?_
  refine zK.blk rfl ?_
  refine p_iconst (v := -1) (by decide) ?_
  refine p_istoren_1 rfl ?_
  refine p_aloadn_0 ?_
  refine p_iconst (v := nI 0) (by decide) ?_
  refine p_put (zl_r hrc) rfl (by simp) ?_
  refine p_iconst (v := nI 0) (by decide) ?_
  refine p_istoren_2 rfl ?_
  exact lp_43_9 hrc hS N 0 none 0 (by omega) (by decide) (fun b hb => by cases hb)
end
section
/-- all costs unknown, for tables i .. i + j - 1 -/
def bgF (rc : Nat) (M : zM) (i j : Nat) : zM := fun a b => if i ≤ b ∧ b < i + j then (if a = rc + 1 then nI 1073741824 else if a = rc + 2 then -1 else if a = rc + 3 then nI 0 else M a b) else M a b
theorem bgF_0 {rc : Nat} {M : zM} {i : Nat} : bgF rc M i 0 = M := by
  funext a b
  unfold bgF
  rw [if_neg (by omega)]
theorem bgF_s {rc : Nat} {M : zM} {i j : Nat} : bgF rc (zup (zup (zup M (rc + 1) i (nI 1073741824)) (rc + 2) i (-1)) (rc + 3) i (nI 0)) (i + 1) j = bgF rc M i (j + 1) := by
  funext a b
  unfold bgF zup
  repeat' split
  all_goals first | rfl | (exfalso; omega)
theorem bgF_ne {rc : Nat} {M : zM} {i j a : Nat} (h1 : ¬ a = rc + 1) (h2 : ¬ a = rc + 2) (h3 : ¬ a = rc + 3) (b : Nat) : bgF rc M i j a b = M a b := by
  unfold bgF
  rw [if_neg h1, if_neg h2, if_neg h3]
  split <;> rfl
def bg2 (rc N : Nat) : Nat → Nat → zM → zM
  | 0, _, M => M
  | j + 1, i, M => bg2 rc N j (i + 1) (zup M (rc + 1) (zpl i &&& (N - 1)) (nI 0))
theorem bg2_ne {rc N a : Nat} (h1 : ¬ a = rc + 1) (b : Nat) : ∀ j i M, bg2 rc N j i M a b = M a b := by
  intro j
  induction j with
  | zero => intro i M; rfl
  | succ j ih =>
    intro i M
    show bg2 rc N j (i + 1) _ a b = _
    rw [ih]
    unfold zup
    rw [if_neg h1]
def bg3 (rc N : Nat) (P T K : Nat → Nat) : Nat → Nat → zM → zM
  | 0, _, M => M
  | j + 1, i, M => bg3 rc N P T K j (i + 1) (if P i = 0 then ofM rc N M (T i * zFF) (nI (K i)) (i <<< 24) else M)
theorem bg3_ne {rc N a : Nat} {P T K : Nat → Nat} (h1 : ¬ a = rc + 1) (h2 : ¬ a = rc + 2) (b : Nat) : ∀ j i M, bg3 rc N P T K j i M a b = M a b := by
  intro j
  induction j with
  | zero => intro i M; rfl
  | succ j ih =>
    intro i M
    show bg3 rc N P T K j (i + 1) _ a b = _
    rw [ih]
    split
    · exact ofM_ne h1 h2 b
    · rfl
theorem sg_frame {M M' : zM} {n : Nat} {P T K : Nat → Nat} (h : ∀ a b, a ≤ 8 → M' a b = M a b) (hs : sgC M n P T K) : sgC M' n P T K := by
  obtain ⟨h1, h2, h3, h4⟩ := hs
  refine ⟨h1, by rw [h 1 1 (by decide)]; exact h2, h3, fun i hi => ?_⟩
  have := h4 i hi
  rw [h (3 + i) 0 (by omega), h (3 + i) 1 (by omega), h (3 + i) 2 (by omega), h (3 + i) 3 (by omega), h (3 + i) 4 (by omega)]
  exact this
/-- begin -/
def bgM (rc n N m : Nat) (P T K : Nat → Nat) (M : zM) : zM := bg3 rc N P T K m 0 (bg2 rc N n 0 (bgF rc (zup M rc 7 (nI 0)) 0 N))
set_option maxRecDepth 100000 in
set_option maxHeartbeats 4000000 in
theorem lp_42_7 {sc : Nat × (Nat → Int32)} {d : Nat} {r : Option Value} {M' : zM} {rc n N : Nat} (hrc : zrc rc n N) : ∀ (j i : Nat) (M : zM), M rc 1 = nI (N - 1) → i + j = N → zK 47 sc (zC 47 sc (d + 1)) 42 r M' 43 [.ref rc, .ref 1, .int (nI N), .null] [] (bgF rc M i j) → zK 47 sc (zC 47 sc (d + 1)) 42 r M' 7 [.ref rc, .ref 1, .int (nI i), .null] [] M := by
  intro j
  induction j with
  | zero =>
    intro i M hF hj hk
    have hN := zl_N hrc
    have hin : i = N := by omega
    subst hin
    rw [bgF_0] at hk
    refine zK.blk rfl ?_
    refine p_iloadn_2 ?_
    refine p_aloadn_0 ?_
    refine p_geti (zl_r hrc) rfl (hF) ?_
    refine p_icmpN_gt (tgt := 43) (by decide) (by omega) (by omega) (fun hc12 => ?_) (fun hc12 => ?_)
    · skip
      exact hk
    · skip
      exact absurd hc12 (by omega) --STOP
  | succ j ih =>
    intro i M hF hj hk
    have hN := zl_N hrc
    rw [← bgF_s] at hk
    refine zK.blk rfl ?_
    refine p_iloadn_2 ?_
    refine p_aloadn_0 ?_
    refine p_geti (zl_r hrc) rfl hF ?_
    refine p_icmpN_gt (tgt := 43) (by decide) (by omega) (by omega) (fun hc12 => ?_) (fun hc12 => ?_)
    · skip
      exact absurd hc12 (by omega) --STOP
    · skip
      refine p_aloadn_0 ?_
      refine p_getr (zl_r hrc) rfl ?_
      refine p_iloadn_2 ?_
      refine p_ldc ?_
      refine p_iast (zl_a2 hrc) (by omega) (zl_n hrc) ?_
      refine p_aloadn_0 ?_
      refine p_getr (zl_r hrc) rfl ?_
      refine p_iloadn_2 ?_
      refine p_iconst (v := -1) (by decide) ?_
      refine p_iast (zl_a3 hrc) (by omega) (zl_n hrc) ?_
      refine p_aloadn_0 ?_
      refine p_getr (zl_r hrc) rfl ?_
      refine p_iloadn_2 ?_
      refine p_iconst (v := nI 0) (by decide) ?_
      refine p_zast (v := nI 0) (zl_a4 hrc) (by omega) (zl_n hrc) (by decide) ?_
      refine p_iinc_2 (zN_inc _ 1) rfl ?_
      refine p_goto (tgt := 7) (by decide) ?_
      exact ih (i + 1) _ (by simp [zup]; exact hF) (by omega) hk
set_option maxRecDepth 100000 in
set_option maxHeartbeats 4000000 in
theorem lp_42_45 {sc : Nat × (Nat → Int32)} {d : Nat} {r : Option Value} {M' : zM} {rc n N : Nat} (hrc : zrc rc n N) : ∀ (j i : Nat) (M : zM), (M rc 1 = nI (N - 1) ∧ M rc 0 = nI n) → i + j = n → zK 47 sc (zC 47 sc (d + 1)) 42 r M' 74 [.ref rc, .ref 1, .int (nI n), .null] [] (bg2 rc N j i M) → zK 47 sc (zC 47 sc (d + 1)) 42 r M' 45 [.ref rc, .ref 1, .int (nI i), .null] [] M := by
  intro j
  induction j with
  | zero =>
    intro i M hF hj hk
    have hN := zl_N hrc
    have hin : i = n := by omega
    subst hin
    skip
    refine zK.blk rfl ?_
    refine p_iloadn_2 ?_
    refine p_aloadn_0 ?_
    refine p_geti (zl_r hrc) rfl (hF.2) ?_
    refine p_icmpN_ge (tgt := 74) (by decide) (by omega) (by omega) (fun hc50 => ?_) (fun hc50 => ?_)
    · skip
      exact hk
    · skip
      exact absurd hc50 (by omega) --STOP
  | succ j ih =>
    intro i M hF hj hk
    have hN := zl_N hrc
    skip
    have hx : zpl i &&& (N - 1) < N := zand_r _ (by omega)
    refine zK.blk rfl ?_
    refine p_iloadn_2 ?_
    refine p_aloadn_0 ?_
    refine p_geti (zl_r hrc) rfl (hF.2) ?_
    refine p_icmpN_ge (tgt := 74) (by decide) (by omega) (by omega) (fun hc50 => ?_) (fun hc50 => ?_)
    · skip
      exact absurd hc50 (by omega) --STOP
    · skip
      refine p_aloadn_0 ?_
      refine p_getr (zl_r hrc) rfl ?_
      refine p_iloadn_2 ?_
      refine p_cs1i rfl rfl rfl rfl rfl (c_2 (by omega)) ?_
      refine p_aloadn_0 ?_
      refine p_geti (zl_r hrc) rfl (hF.1) ?_
      refine p_iandN ?_
      refine p_iconst (v := nI 0) (by decide) ?_
      refine p_iast (zl_a2 hrc) (by omega) (zl_n hrc) ?_
      refine p_iinc_2 (zN_inc _ 1) rfl ?_
      refine p_goto (tgt := 45) (by decide) ?_
      exact ih (i + 1) _ ⟨by simp [zup]; exact hF.1, by simp [zup]; exact hF.2⟩ (by omega) hk
set_option maxRecDepth 100000 in
set_option maxHeartbeats 4000000 in
theorem lp_42_76 {sc : Nat × (Nat → Int32)} {d : Nat} {rc n N m : Nat} {P T K : Nat → Nat} (hrc : zrc rc n N) : ∀ (j i : Nat) (M : zM), M rc 1 = nI (N - 1) → sgC M m P T K → i + j = m → zK 47 sc (zC 47 sc (d + 1)) 42 none (bg3 rc N P T K j i M) 76 [.ref rc, .ref 1, .int (nI i), .null] [] M := by
  intro j
  induction j with
  | zero =>
    intro i M hF hsg hj
    obtain ⟨hn6, hn, hR, hS⟩ := id hsg
    refine zK.blk rfl ?_
    refine p_iloadn_2 ?_
    refine p_aloadn_1 ?_
    refine p_geti rfl rfl (hn) ?_
    refine p_icmpN_ge (tgt := 121) (by decide) (by omega) (by omega) (fun hc81 => ?_) (fun hc81 => ?_)
    · skip
      refine zK.blk rfl ?_
      exact p_vret trivial rfl rfl
    · skip
      exact absurd hc81 (by omega) --STOP
  | succ j ih =>
    intro i M hF hsg hj
    show zK 47 sc (zC 47 sc (d + 1)) 42 none (bg3 rc N P T K j (i + 1) (if P i = 0 then ofM rc N M (T i * zFF) (nI (K i)) (i <<< 24) else M)) 76 _ _ _
    obtain ⟨hn6, hn, hR, hS⟩ := id hsg
    have hP := hR i (by omega)
    have hr9 := zrc_ge hrc
    refine zK.blk rfl ?_
    refine p_iloadn_2 ?_
    refine p_aloadn_1 ?_
    refine p_geti rfl rfl (hn) ?_
    refine p_icmpN_ge (tgt := 121) (by decide) (by omega) (by omega) (fun hc81 => ?_) (fun hc81 => ?_)
    · skip
      exact absurd hc81 (by omega) --STOP
    · skip
      refine p_aloadn_1 ?_
      refine p_getr rfl rfl ?_
      refine p_iloadn_2 ?_
      refine p_aald rfl (by omega) (by decide) (zget_sg (by omega)) ?_
      refine p_astoren_3 rfl ?_
      refine p_aloadn_3 ?_
      refine p_geti (zlay_sg (by omega)) rfl ((hS _ (by omega)).1) ?_
      refine p_ifN_ne (tgt := 115) (by decide) (by omega) (fun hc95 => ?_) (fun hc95 => ?_)
      · skip
        rw [if_neg hc95]
        refine zK.blk rfl ?_
        refine p_iinc_2 (zN_inc _ 1) rfl ?_
        refine p_goto (tgt := 76) (by decide) ?_
        refine zK.forget _ ?_ (ih (i + 1) _ (by first | exact hF | (rw [ofM_ne (by omega) (by omega)]; exact hF)) (by first | exact hsg | exact sg_frame (fun a b h => ofM_ne (by omega) (by omega) b) hsg) (by omega))
        exact ⟨Or.inl rfl, Or.inl rfl, Or.inl rfl, Or.inr rfl, trivial⟩
      · skip
        rw [if_pos (Classical.not_not.mp hc95)]
        have hT2 : T i < 2 := by (have h9 := hP.2.1; rw [Classical.not_not.mp hc95] at h9; exact h9)
        refine p_aloadn_0 ?_
        refine p_aloadn_3 ?_
        refine p_geti (zlay_sg (by omega)) rfl ((hS _ (by omega)).2.1) ?_
        refine p_ineg (zN_neg hT2) ?_
        refine p_aloadn_3 ?_
        refine p_geti (zlay_sg (by omega)) rfl ((hS _ (by omega)).2.2.1) ?_
        refine p_iloadn_2 ?_
        refine p_cs1i rfl rfl rfl rfl rfl (c_15) ?_
        refine p_cv3v rfl rfl rfl rfl (zl_r hrc) (c_48 hrc hF) ?_
        refine zK.blk rfl ?_
        refine p_iinc_2 (zN_inc _ 1) rfl ?_
        refine p_goto (tgt := 76) (by decide) ?_
        refine zK.forget _ ?_ (ih (i + 1) _ (by first | exact hF | (rw [ofM_ne (by omega) (by omega)]; exact hF)) (by first | exact hsg | exact sg_frame (fun a b h => ofM_ne (by omega) (by omega) b) hsg) (by omega))
        exact ⟨Or.inl rfl, Or.inl rfl, Or.inl rfl, Or.inr rfl, trivial⟩
set_option maxRecDepth 100000 in
set_option maxHeartbeats 4000000 in
theorem c_42 {sc : Nat × (Nat → Int32)} {d : Nat} {M : zM} {rc n N m : Nat} {P T K : Nat → Nat} (hrc : zrc rc n N) (hF : M rc 1 = nI (N - 1)) (h0 : M rc 0 = nI n) (hsg : sgC M m P T K) : zC 47 sc (d + 2) 42 [.ref rc, .ref 1] M (none) (bgM rc n N m P T K M) := by
  have hr9 := zrc_ge hrc
  refine z_enter (L := [.ref rc, .ref 1, .null, .null]) rfl rfl rfl ?_
  refine zK.blk rfl ?_
  refine p_aloadn_0 ?_
  refine p_iconst (v := nI 0) (by decide) ?_
  refine p_put (zl_r hrc) rfl (by simp) ?_
  refine p_iconst (v := nI 0) (by decide) ?_
  refine p_istoren_2 rfl ?_
  refine lp_42_7 hrc N 0 _ (by simp [zup]; exact hF) (by omega) ?_
  refine zK.blk rfl ?_
  refine p_iconst (v := nI 0) (by decide) ?_
  refine p_istoren_2 rfl ?_
  refine lp_42_45 hrc n 0 _ ⟨by rw [bgF_ne (by omega) (by omega) (by omega)]; simp [zup]; exact hF, by rw [bgF_ne (by omega) (by omega) (by omega)]; simp [zup]; exact h0⟩ (by omega) ?_
  refine zK.blk rfl ?_
  refine p_iconst (v := nI 0) (by decide) ?_
  refine p_istoren_2 rfl ?_
  exact lp_42_76 hrc m 0 _ (by rw [bg2_ne (by omega), bgF_ne (by omega) (by omega) (by omega)]; simp [zup]; exact hF) (sg_frame (fun a b h => by rw [bg2_ne (by omega), bgF_ne (by omega) (by omega) (by omega)]; unfold zup; rw [if_neg (by omega)]) hsg) (by omega)
end
section
/-- the class's text: len bytes Y -/
def txC (M : zM) (len : Nat) (Y : Nat → Nat) : Prop := M 24 1 = nI len ∧ len ≤ 80 ∧ ∀ j, j < len → M 25 j &&& nI 255 = nI (Y j) ∧ Y j < 256
def zby (len : Nat) (Y : Nat → Nat) (p : Nat) : Int32 := if p < len then nI (Y p) else -1
set_option maxRecDepth 100000 in
set_option maxHeartbeats 4000000 in
theorem c_36 {sc : Nat × (Nat → Int32)} {d : Nat} {M : zM} {len : Nat} {Y : Nat → Nat} {p : Nat} (htx : txC M len Y) (hp : p < 2 ^ 31) : zC 47 sc (d + 1) 36 [.ref 24, .int (nI p)] M (some (.int (zby len Y p))) (M) := by
  obtain ⟨hln, hl8, hB⟩ := id htx
  unfold zby
  refine z_enter (L := [.ref 24, .int (nI p)]) rfl rfl rfl ?_
  refine zK.blk rfl ?_
  refine p_iloadn_1 ?_
  refine p_ifN_lt (tgt := 31) (by decide) (by omega) (fun hc1 => ?_) (fun hc1 => ?_)
  · skip
    exact absurd hc1 (by omega) --STOP
  · skip
    refine p_iloadn_1 ?_
    refine p_aloadn_0 ?_
    refine p_geti rfl rfl (hln) ?_
    refine p_icmpN_ge (tgt := 31) (by decide) (by omega) (by omega) (fun hc9 => ?_) (fun hc9 => ?_)
    · skip
      rw [if_neg (show ¬ p < len by omega)]
      refine zK.blk rfl ?_
      refine p_iconst (v := -1) (by decide) ?_
      refine zK.blk rfl ?_
      exact p_iret trivial rfl rfl
    · skip
      rw [if_pos (show p < len by omega)]
      refine p_iloadn_1 ?_
      refine p_bipush (v := nI 80) (by decide) ?_
      refine p_icmpN_ge (tgt := 31) (by decide) (by omega) (by omega) (fun hc15 => ?_) (fun hc15 => ?_)
      · skip
        exact absurd hc15 (by omega) --STOP
      · skip
        refine p_aloadn_0 ?_
        refine p_getr rfl rfl ?_
        refine p_iloadn_1 ?_
        refine p_bald (v := M 25 p) rfl (by omega) (by decide) rfl ?_
        refine p_sipush (v := nI 255) (by decide) ?_
        refine p_iand ?_
        rw [(hB p (by omega)).1]
        refine p_goto (tgt := 32) (by decide) ?_
        refine zK.blk rfl ?_
        exact p_iret trivial rfl rfl
set_option maxRecDepth 100000 in
set_option maxHeartbeats 4000000 in
theorem c_40y {sc : Nat × (Nat → Int32)} {d : Nat} {M : zM} {len : Nat} {Y : Nat → Nat} {p ch : Nat} (htx : txC M len Y) (h2 : M 26 2 = nI p) (hp : p < 2 ^ 31) (hpl : p < len) (hY : Y p = ch) : zC 47 sc (d + 2) 40 [.ref 26, .int (nI ch)] M (some (.int (nI 1))) (zup M 26 2 (nI (p + 1))) := by
  have hz : zby len Y p = nI ch := by unfold zby; rw [if_pos hpl, hY]
  refine z_enter (L := [.ref 26, .int (nI ch)]) rfl rfl rfl ?_
  refine zK.blk rfl ?_
  refine p_aloadn_0 ?_
  refine p_getr rfl rfl ?_
  refine p_aloadn_0 ?_
  refine p_geti rfl rfl (h2) ?_
  refine p_cv1i rfl rfl rfl rfl rfl (c_36 htx hp) ?_
  refine p_iloadn_1 ?_
  refine p_icmp_eq (tgt := 17) (by decide) (fun hc12 => ?_) (fun hc12 => ?_)
  · skip
    refine zK.blk rfl ?_
    refine p_aloadn_0 ?_
    refine p_dupa ?_
    refine p_geti rfl rfl (h2) ?_
    refine p_iconst (v := nI 1) (by decide) ?_
    refine p_iaddN ?_
    refine p_put rfl rfl (by simp) ?_
    refine p_iconst (v := nI 1) (by decide) ?_
    exact p_iret (Or.inr rfl) rfl rfl
  · skip
    exact absurd hz hc12 --STOP
set_option maxRecDepth 100000 in
set_option maxHeartbeats 4000000 in
theorem c_40n {sc : Nat × (Nat → Int32)} {d : Nat} {M : zM} {len : Nat} {Y : Nat → Nat} {p ch : Nat} (htx : txC M len Y) (h2 : M 26 2 = nI p) (hp : p < 2 ^ 31) (hch : ch < 2 ^ 31) (hn : ¬ (p < len ∧ Y p = ch)) : zC 47 sc (d + 2) 40 [.ref 26, .int (nI ch)] M (some (.int (nI 0))) (M) := by
  have hz : ¬ zby len Y p = nI ch := by
    unfold zby
    by_cases q : p < len
    · rw [if_pos q, nI_eq (by have := (htx.2.2 p q).2; omega) hch]; exact fun z => hn ⟨q, z⟩
    · rw [if_neg q]; exact fun z => nI_nm1 hch z.symm
  refine z_enter (L := [.ref 26, .int (nI ch)]) rfl rfl rfl ?_
  refine zK.blk rfl ?_
  refine p_aloadn_0 ?_
  refine p_getr rfl rfl ?_
  refine p_aloadn_0 ?_
  refine p_geti rfl rfl (h2) ?_
  refine p_cv1i rfl rfl rfl rfl rfl (c_36 htx hp) ?_
  refine p_iloadn_1 ?_
  refine p_icmp_eq (tgt := 17) (by decide) (fun hc12 => ?_) (fun hc12 => ?_)
  · skip
    exact absurd hc12 hz --STOP
  · skip
    refine p_iconst (v := nI 0) (by decide) ?_
    exact p_iret (Or.inl rfl) rfl rfl
theorem zN_ushr {x y : Nat} (hx : x < 2 ^ 31) (hy : y < 32) : ((nI x).toUInt32 >>> ((nI y).toUInt32 &&& Int32.toUInt32 31)).toInt32 = nI (x >>> y) := by
  apply zN_ext
  have e : (nI y).toUInt32 &&& Int32.toUInt32 31 = (nI y).toUInt32 := by
    have h := zN_31 hy
    have h2 : (nI y &&& 31).toUInt32 = (nI y).toUInt32 := by rw [h]
    exact h2
  rw [e]
  show (((nI x).toUInt32 >>> (nI y).toUInt32).toBitVec) = BitVec.ofNat 32 (x >>> y)
  rw [UInt32.toBitVec_shiftRight]
  apply BitVec.eq_of_toNat_eq
  have h1 : (nI x).toUInt32.toBitVec = BitVec.ofNat 32 x := rfl
  have h2 : (nI y).toUInt32.toBitVec = BitVec.ofNat 32 y := rfl
  rw [h1, h2, BitVec.ushiftRight_eq', BitVec.toNat_ushiftRight]
  have h4 : ∀ y, y < 32 → (BitVec.ofNat 32 y % 32).toNat = y := by decide +kernel
  simp only [BitVec.toNat_ofNat]
  rw [h4 y hy, Nat.mod_eq_of_lt (a := x) (by omega), Nat.mod_eq_of_lt (Nat.lt_of_le_of_lt (Nat.shiftRight_le x y) (by omega))]
def bc1 (x : Nat) : Nat := x - (x >>> 1 &&& 1431655765)
def bc2 (x : Nat) : Nat := (bc1 x &&& 858993459) + (bc1 x >>> 2 &&& 858993459)
def bc3 (x : Nat) : Nat := bc2 x + bc2 x >>> 4 &&& 252645135
def bc4 (x : Nat) : Nat := bc3 x + bc3 x >>> 8
def bcN (x : Nat) : Nat := bc4 x + bc4 x >>> 16 &&& 63
theorem bc_le {x : Nat} (hx : x < 256) : x >>> 1 &&& 1431655765 ≤ x ∧ bc1 x ≤ 256 ∧ bc2 x ≤ 512 ∧ bc3 x ≤ 1024 ∧ bc4 x ≤ 2048 := by
  have a1 : x >>> 1 &&& 1431655765 ≤ x := Nat.le_trans Nat.and_le_left (Nat.shiftRight_le x 1)
  have a2 : bc1 x ≤ 256 := by unfold bc1; omega
  have b1 : bc1 x &&& 858993459 ≤ bc1 x := Nat.and_le_left
  have b2 : bc1 x >>> 2 &&& 858993459 ≤ bc1 x := Nat.le_trans Nat.and_le_left (Nat.shiftRight_le _ 2)
  have a3 : bc2 x ≤ 512 := by unfold bc2; omega
  have c1 : bc2 x >>> 4 ≤ bc2 x := Nat.shiftRight_le _ 4
  have a4 : bc3 x ≤ 1024 := by unfold bc3; exact Nat.le_trans Nat.and_le_left (by omega)
  have c2 : bc3 x >>> 8 ≤ bc3 x := Nat.shiftRight_le _ 8
  exact ⟨a1, a2, a3, a4, by unfold bc4; omega⟩
theorem bcN_ok : ∀ x, x < 256 → bcN x = zfor (fun r a => a + (x >>> r &&& 1)) 8 0 0 := by decide +kernel
set_option maxRecDepth 100000 in
set_option maxHeartbeats 4000000 in
theorem c_87 {sc : Nat × (Nat → Int32)} {d : Nat} {M : zM} {x : Nat} (hx : x < 256) : zC 47 sc (d + 1) 87 [.int (nI x)] M (some (.int (nI (bcN x)))) (M) := by
  obtain ⟨a1, a2, a3, a4, a5⟩ := bc_le hx
  unfold bc1 at a2
  unfold bc2 bc1 at a3
  unfold bc3 bc2 bc1 at a4
  unfold bc4 bc3 bc2 bc1 at a5
  refine z_enter (L := [.int (nI x)]) rfl rfl rfl ?_
  refine zK.blk rfl ?_
  refine p_iloadn_0 ?_
  refine p_iloadn_0 ?_
  refine p_iconst (v := nI 1) (by decide) ?_
  refine p_iushrv (zN_ushr (by omega) (by omega)) ?_
  refine p_ldcw ?_
  refine p_iandN ?_
  refine p_isubN (by omega) ?_
  refine p_istoren_0 rfl ?_
  refine p_iloadn_0 ?_
  refine p_ldcw ?_
  refine p_iandN ?_
  refine p_iloadn_0 ?_
  refine p_iconst (v := nI 2) (by decide) ?_
  refine p_iushrv (zN_ushr (by omega) (by omega)) ?_
  refine p_ldcw ?_
  refine p_iandN ?_
  refine p_iaddN ?_
  refine p_istoren_0 rfl ?_
  refine p_iloadn_0 ?_
  refine p_iloadn_0 ?_
  refine p_iconst (v := nI 4) (by decide) ?_
  refine p_iushrv (zN_ushr (by omega) (by omega)) ?_
  refine p_iaddN ?_
  refine p_ldcw ?_
  refine p_iandN ?_
  refine p_istoren_0 rfl ?_
  refine p_iloadn_0 ?_
  refine p_iloadn_0 ?_
  refine p_bipush (v := nI 8) (by decide) ?_
  refine p_iushrv (zN_ushr (by omega) (by omega)) ?_
  refine p_iaddN ?_
  refine p_istoren_0 rfl ?_
  refine p_iloadn_0 ?_
  refine p_iloadn_0 ?_
  refine p_bipush (v := nI 16) (by decide) ?_
  refine p_iushrv (zN_ushr (by omega) (by omega)) ?_
  refine p_iaddN ?_
  refine p_istoren_0 rfl ?_
  refine p_iloadn_0 ?_
  refine p_bipush (v := nI 63) (by decide) ?_
  refine p_iandN ?_
  exact p_iret trivial rfl rfl
end
section
/-- the class's formulas: table, cost, depth, letters -/
def foC (M : zM) (tb co de le : Nat → Nat) : Prop := (∀ i, i < 4 → M (28 + i) 0 = nI (tb i) ∧ M (28 + i) 1 = nI (co i) ∧ M (28 + i) 2 = nI (de i) ∧ M (28 + i) 3 = nI (le i)) ∧ ∀ i, i < 4 → tb i < 256
theorem zfo_x {x : Int32} (h : zfo x = true) : ∃ i, i < 4 ∧ x = nI i := by
  unfold zfo at h
  simp only [Bool.and_eq_true, decide_eq_true_eq] at h
  obtain ⟨j, hj, rfl⟩ := nI_of h.1
  exact ⟨j, by have h2 := h.2; rw [nI_leI (by decide) hj] at h2; omega, rfl⟩
def fForm (tb co de le : Nat → Nat) (x w : Int32) : Int32 := if zfo x = true then (if w = nI 0 then nI (tb x.toNatClampNeg) else if w = nI 1 then nI (co x.toNatClampNeg) else if w = nI 2 then nI (de x.toNatClampNeg) else if w = nI 3 then nI (le x.toNatClampNeg) else if w = nI 4 then nI (mpN 3 (tb x.toNatClampNeg)) else if w = nI 5 then nI (ohN 3 (tb x.toNatClampNeg)) else if w = nI 6 then nI (bcN (tb x.toNatClampNeg)) else if w = nI 7 then nI (kbN 3 (tb x.toNatClampNeg)) else -1) else -1
def fBoth (tb : Nat → Nat) (x y w : Int32) : Int32 := if zfo x = true ∧ zfo y = true then (if w = nI 0 then (if tb x.toNatClampNeg = tb y.toNatClampNeg then nI 1 else nI 0) else if w = nI 1 then (if tb x.toNatClampNeg &&& (tb y.toNatClampNeg ^^^ zFF) = 0 then nI 1 else nI 0) else if w = nI 2 then (if ohN 3 (tb x.toNatClampNeg) = tb y.toNatClampNeg then nI 1 else nI 0) else -1) else -1
section ZPL
variable {NC : Nat} {sc : Nat × (Nat → Int32)} {C : Nat → List Value → zM → Option Value → zM → Prop} {J : Nat → List Value → List Value → zM → Prop} {fin : Option Value → zM → Prop} {np pc len a b t : Nat} {es : List zE} {L st : List Value} {M : zM}
theorem p_lk {x : Int32} {d off : Int} {ps : Array (Int × Int)} {tgt : Nat} (hp : (ps.toList.zip (ps.toList.drop 1)).all (fun (a, next) => a.1 < next.1) = true) (ho : Op.lookupswitch.offset ps.toList d x.toInt = off) (ht : (pc : Int) + off = (tgt : Int)) (h : J tgt L st M) : zwp NC sc zinfo C J fin np ((pc, .lookupswitch d ps, len, a, b, t) :: es) L (.int x :: st) M := by
  dsimp only [zwp, zop, zlks, zjmp]
  refine ⟨hp, ?_⟩
  rw [ho, ht]
  exact ⟨rfl, h⟩
end ZPL
theorem z22_3 : z22 3 = 256 := by decide
set_option maxRecDepth 100000 in
set_option maxHeartbeats 4000000 in
theorem c_77 {sc : Nat × (Nat → Int32)} {d : Nat} {M : zM} {tb co de le : Nat → Nat} {x w : Int32} (hfo : foC M tb co de le) : zC 47 sc (d + 4) 77 [.ref 0, .int x, .int w] M (some (.int (fForm tb co de le x w))) (M) := by
  obtain ⟨hFo, hTb⟩ := id hfo
  unfold fForm
  refine z_enter (L := [.ref 0, .int x, .int w, .null]) rfl rfl rfl ?_
  refine zK.blk rfl ?_
  refine p_iloadn_1 ?_
  refine p_cs1i rfl rfl rfl rfl rfl (c_84) ?_
  refine p_ifB_ne (tgt := 9) (by decide) (fun hc4 => ?_) (fun hc4 => ?_)
  · skip
    rw [if_pos hc4]
    obtain ⟨i1, hi1, rfl⟩ := zfo_x hc4
    rw [nI_clamp (by omega)]
    have hTi := hTb i1 hi1
    refine zK.blk rfl ?_
    refine p_aloadn_0 ?_
    refine p_getr rfl rfl ?_
    refine p_iloadn_1 ?_
    refine p_aald rfl (by omega) (by decide) (zget_fo (by omega)) ?_
    refine p_astoren_3 rfl ?_
    refine p_iloadn_2 ?_
    refine p_tab (td := 119) (N := 7) (by decide) rfl (by decide) (fun i => if i = 0 then 64 else if i = 1 then 69 else if i = 2 then 74 else if i = 3 then 79 else if i = 4 then 84 else if i = 5 then 93 else if i = 6 then 102 else 110) (fun i hi => by rcases (show i = 0 ∨ i = 1 ∨ i = 2 ∨ i = 3 ∨ i = 4 ∨ i = 5 ∨ i = 6 ∨ i = 7 by omega) with rfl | rfl | rfl | rfl | rfl | rfl | rfl | rfl <;> exact ⟨_, rfl, by decide⟩) (fun hno => ?_) (fun i hi e => ?_)
    · rw [if_neg (hno 0 (by decide)), if_neg (hno 1 (by decide)), if_neg (hno 2 (by decide)), if_neg (hno 3 (by decide)), if_neg (hno 4 (by decide)), if_neg (hno 5 (by decide)), if_neg (hno 6 (by decide)), if_neg (hno 7 (by decide))]
      refine zK.blk rfl ?_
      refine p_iconst (v := -1) (by decide) ?_
      exact p_iret trivial rfl rfl
    · rcases (show i = 0 ∨ i = 1 ∨ i = 2 ∨ i = 3 ∨ i = 4 ∨ i = 5 ∨ i = 6 ∨ i = 7 by omega) with rfl | rfl | rfl | rfl | rfl | rfl | rfl | rfl
      · subst e
        rw [if_pos rfl]
        refine zK.blk rfl ?_
        refine p_aloadn_3 ?_
        refine p_geti (zlay_fo (by omega)) rfl ((hFo _ (by omega)).1) ?_
        exact p_iret trivial rfl rfl
      · subst e
        rw [if_neg (by decide), if_pos rfl]
        refine zK.blk rfl ?_
        refine p_aloadn_3 ?_
        refine p_geti (zlay_fo (by omega)) rfl ((hFo _ (by omega)).2.1) ?_
        exact p_iret trivial rfl rfl
      · subst e
        rw [if_neg (by decide), if_neg (by decide), if_pos rfl]
        refine zK.blk rfl ?_
        refine p_aloadn_3 ?_
        refine p_geti (zlay_fo (by omega)) rfl ((hFo _ (by omega)).2.2.1) ?_
        exact p_iret trivial rfl rfl
      · subst e
        rw [if_neg (by decide), if_neg (by decide), if_neg (by decide), if_pos rfl]
        refine zK.blk rfl ?_
        refine p_aloadn_3 ?_
        refine p_geti (zlay_fo (by omega)) rfl ((hFo _ (by omega)).2.2.2) ?_
        exact p_iret trivial rfl rfl
      · subst e
        rw [if_neg (by decide), if_neg (by decide), if_neg (by decide), if_neg (by decide), if_pos rfl]
        refine zK.blk rfl ?_
        refine p_iconst (v := nI 3) (by decide) ?_
        refine p_aloadn_3 ?_
        refine p_geti (zlay_fo (by omega)) rfl ((hFo _ (by omega)).1) ?_
        refine p_cs2i rfl rfl rfl rfl rfl (c_11 (by decide) (by omega)) ?_
        exact p_iret trivial rfl rfl
      · subst e
        rw [if_neg (by decide), if_neg (by decide), if_neg (by decide), if_neg (by decide), if_neg (by decide), if_pos rfl]
        refine zK.blk rfl ?_
        refine p_iconst (v := nI 3) (by decide) ?_
        refine p_aloadn_3 ?_
        refine p_geti (zlay_fo (by omega)) rfl ((hFo _ (by omega)).1) ?_
        refine p_cs2i rfl rfl rfl rfl rfl (c_10 (by decide) (by omega)) ?_
        exact p_iret trivial rfl rfl
      · subst e
        rw [if_neg (by decide), if_neg (by decide), if_neg (by decide), if_neg (by decide), if_neg (by decide), if_neg (by decide), if_pos rfl]
        refine zK.blk rfl ?_
        refine p_aloadn_3 ?_
        refine p_geti (zlay_fo (by omega)) rfl ((hFo _ (by omega)).1) ?_
        refine p_cs1i rfl rfl rfl rfl rfl (c_87 hTi) ?_
        exact p_iret trivial rfl rfl
      · subst e
        rw [if_neg (by decide), if_neg (by decide), if_neg (by decide), if_neg (by decide), if_neg (by decide), if_neg (by decide), if_neg (by decide), if_pos rfl]
        refine zK.blk rfl ?_
        refine p_iconst (v := nI 3) (by decide) ?_
        refine p_aloadn_3 ?_
        refine p_geti (zlay_fo (by omega)) rfl ((hFo _ (by omega)).1) ?_
        refine p_cs2i rfl rfl rfl rfl rfl (c_12 (by decide) (by rw [z22_3]; exact hTi)) ?_
        exact p_iret trivial rfl rfl
  · skip
    rw [if_neg (by rw [hc4]; decide)]
    refine p_iconst (v := -1) (by decide) ?_
    exact p_iret trivial rfl rfl
set_option maxRecDepth 100000 in
set_option maxHeartbeats 4000000 in
theorem st_79_1 {sc : Nat × (Nat → Int32)} {d : Nat} {M : zM} {x1 x2 x3 x4 x5 : Value} : zK 47 sc (zC 47 sc (d + 2)) 79 (some (.int (nI 1))) M 131 [.ref 0, x1, x2, x3, x4, x5, .int (nI 1)] [] M := by
  refine zK.blk rfl ?_
  refine p_iload_6 ?_
  refine p_ifN_eq (tgt := 140) (by decide) (by omega) (fun hc133 => ?_) (fun hc133 => ?_)
  · skip
    exact absurd hc133 (by decide) --STOP
  · skip
    skip
    refine p_iconst (v := nI 1) (by decide) ?_
    refine p_goto (tgt := 141) (by decide) ?_
    refine zK.blk rfl ?_
    exact p_iret trivial rfl rfl
set_option maxRecDepth 100000 in
set_option maxHeartbeats 4000000 in
theorem st_79_0 {sc : Nat × (Nat → Int32)} {d : Nat} {M : zM} {x1 x2 x3 x4 x5 : Value} : zK 47 sc (zC 47 sc (d + 2)) 79 (some (.int (nI 0))) M 131 [.ref 0, x1, x2, x3, x4, x5, .int (nI 0)] [] M := by
  refine zK.blk rfl ?_
  refine p_iload_6 ?_
  refine p_ifN_eq (tgt := 140) (by decide) (by omega) (fun hc133 => ?_) (fun hc133 => ?_)
  · skip
    skip
    refine zK.blk rfl ?_
    refine p_iconst (v := nI 0) (by decide) ?_
    refine zK.blk rfl ?_
    exact p_iret trivial rfl rfl
  · skip
    exact absurd rfl hc133 --STOP
set_option maxRecDepth 100000 in
set_option maxHeartbeats 4000000 in
theorem c_79 {sc : Nat × (Nat → Int32)} {d : Nat} {M : zM} {tb co de le : Nat → Nat} {x y w : Int32} (hfo : foC M tb co de le) : zC 47 sc (d + 3) 79 [.ref 0, .int x, .int y, .int w] M (some (.int (fBoth tb x y w))) (M) := by
  obtain ⟨hFo, hTb⟩ := id hfo
  unfold fBoth
  refine z_enter (L := [.ref 0, .int x, .int y, .int w, .null, .null, .null]) rfl rfl rfl ?_
  refine zK.blk rfl ?_
  refine p_iloadn_1 ?_
  refine p_cs1i rfl rfl rfl rfl rfl (c_84) ?_
  refine p_ifB_eq (tgt := 23) (by decide) (fun hc4 => ?_) (fun hc4 => ?_)
  · skip
    rw [if_neg (by rw [hc4]; simp)]
    refine zK.blk rfl ?_
    refine p_iconst (v := -1) (by decide) ?_
    exact p_iret trivial rfl rfl
  · skip
    refine p_iloadn_2 ?_
    refine p_cs1i rfl rfl rfl rfl rfl (c_84) ?_
    refine p_ifB_eq (tgt := 23) (by decide) (fun hc11 => ?_) (fun hc11 => ?_)
    · skip
      rw [if_neg (by rw [hc11]; simp)]
      refine zK.blk rfl ?_
      refine p_iconst (v := -1) (by decide) ?_
      exact p_iret trivial rfl rfl
    · skip
      rw [if_pos ⟨hc4, hc11⟩]
      obtain ⟨i, hi, rfl⟩ := zfo_x hc4
      obtain ⟨k, hk, rfl⟩ := zfo_x hc11
      rw [nI_clamp (by omega), nI_clamp (by omega)]
      have hTi := hTb i hi
      have hTk := hTb k hk
      have hoh := oh_mo (tb i) hTi
      have han : tb i &&& (tb k ^^^ zFF) < 256 := zand_lt hTi
      have hoh2 : ohN 3 (tb i) < 256 := by rw [hoh.1]; exact hoh.2
      refine p_iloadn_3 ?_
      refine p_if_lt (tgt := 23) (by decide) (fun hc15 => ?_) (fun hc15 => ?_)
      · skip
        rw [if_neg (fun z => by rw [z] at hc15; revert hc15; decide), if_neg (fun z => by rw [z] at hc15; revert hc15; decide), if_neg (fun z => by rw [z] at hc15; revert hc15; decide)]
        refine zK.blk rfl ?_
        refine p_iconst (v := -1) (by decide) ?_
        exact p_iret trivial rfl rfl
      · skip
        refine p_iloadn_3 ?_
        refine p_iconst (v := nI 2) (by decide) ?_
        refine p_icmp_le (tgt := 25) (by decide) (fun hc20 => ?_) (fun hc20 => ?_)
        · skip
          obtain ⟨w0, hw0, rfl⟩ := nI_of2 (M := nI 2) (n := 2) (by decide) hc15 hc20
          refine zK.blk rfl ?_
          refine p_aloadn_0 ?_
          refine p_getr rfl rfl ?_
          refine p_iloadn_1 ?_
          refine p_aald rfl (by omega) (by decide) (zget_fo (by omega)) ?_
          refine p_geti (zlay_fo (by omega)) rfl ((hFo _ (by omega)).1) ?_
          refine p_istore_4 rfl ?_
          refine p_aloadn_0 ?_
          refine p_getr rfl rfl ?_
          refine p_iloadn_2 ?_
          refine p_aald rfl (by omega) (by decide) (zget_fo (by omega)) ?_
          refine p_geti (zlay_fo (by omega)) rfl ((hFo _ (by omega)).1) ?_
          refine p_istore_5 rfl ?_
          refine p_iloadn_3 ?_
          rcases (show w0 = 0 ∨ w0 = 1 ∨ w0 = 2 by omega) with rfl | rfl | rfl
          · refine p_lk (off := 28) (tgt := 76) (by decide) (by decide) (by decide) ?_
            rw [if_pos rfl]
            refine zK.blk rfl ?_
            refine p_iload_4 ?_
            refine p_iload_5 ?_
            refine p_icmpN_ne (tgt := 87) (by decide) (by omega) (by omega) (fun hc80 => ?_) (fun hc80 => ?_)
            · skip
              rw [if_neg hc80]
              refine zK.blk rfl ?_
              refine p_iconst (v := nI 0) (by decide) ?_
              refine zK.blk rfl ?_
              refine p_istore_6 rfl ?_
              refine p_goto (tgt := 131) (by decide) ?_
              first | exact st_79_1 | exact st_79_0
            · skip
              rw [if_pos (by omega)]
              refine p_iconst (v := nI 1) (by decide) ?_
              refine p_goto (tgt := 88) (by decide) ?_
              refine zK.blk rfl ?_
              refine p_istore_6 rfl ?_
              refine p_goto (tgt := 131) (by decide) ?_
              first | exact st_79_1 | exact st_79_0
          · refine p_lk (off := 45) (tgt := 93) (by decide) (by decide) (by decide) ?_
            rw [if_neg (by decide), if_pos rfl]
            refine zK.blk rfl ?_
            refine p_iload_4 ?_
            refine p_iload_5 ?_
            refine p_iconst (v := nI zFF) (by decide) ?_
            refine p_ixorN ?_
            refine p_iandN ?_
            refine p_ifN_ne (tgt := 107) (by decide) (by omega) (fun hc100 => ?_) (fun hc100 => ?_)
            · skip
              rw [if_neg hc100]
              refine zK.blk rfl ?_
              refine p_iconst (v := nI 0) (by decide) ?_
              refine zK.blk rfl ?_
              refine p_istore_6 rfl ?_
              refine p_goto (tgt := 131) (by decide) ?_
              first | exact st_79_1 | exact st_79_0
            · skip
              rw [if_pos (by omega)]
              refine p_iconst (v := nI 1) (by decide) ?_
              refine p_goto (tgt := 108) (by decide) ?_
              refine zK.blk rfl ?_
              refine p_istore_6 rfl ?_
              refine p_goto (tgt := 131) (by decide) ?_
              first | exact st_79_1 | exact st_79_0
          · refine p_lk (off := 65) (tgt := 113) (by decide) (by decide) (by decide) ?_
            rw [if_neg (by decide), if_neg (by decide), if_pos rfl]
            refine zK.blk rfl ?_
            refine p_iconst (v := nI 3) (by decide) ?_
            refine p_iload_4 ?_
            refine p_cs2i rfl rfl rfl rfl rfl (c_10 (by decide) (by omega)) ?_
            refine p_iload_5 ?_
            refine p_icmpN_ne (tgt := 128) (by decide) (by omega) (by omega) (fun hc121 => ?_) (fun hc121 => ?_)
            · skip
              rw [if_neg hc121]
              refine zK.blk rfl ?_
              refine p_iconst (v := nI 0) (by decide) ?_
              refine zK.blk rfl ?_
              refine p_istore_6 rfl ?_
              first | exact st_79_1 | exact st_79_0
            · skip
              rw [if_pos (by omega)]
              refine p_iconst (v := nI 1) (by decide) ?_
              refine p_goto (tgt := 129) (by decide) ?_
              refine zK.blk rfl ?_
              refine p_istore_6 rfl ?_
              first | exact st_79_1 | exact st_79_0
        · skip
          rw [if_neg (fun z => by rw [z] at hc20; revert hc20; decide), if_neg (fun z => by rw [z] at hc20; revert hc20; decide), if_neg (fun z => by rw [z] at hc20; revert hc20; decide)]
          refine zK.blk rfl ?_
          refine p_iconst (v := -1) (by decide) ?_
          exact p_iret trivial rfl rfl
end
section
theorem zcnt_t {q : Nat} (h1 : 1 ≤ q) (h2 : q < 4) : zcnt (nI q) = true := by
  unfold zcnt
  rw [decide_eq_true (nI_nlt (by omega) (by omega)), decide_eq_true (nI_nlt (by omega) (by decide))]
  rfl
theorem zfits_t {p t : Nat} (hp : p < 4) (ht : t < z22 p) : zfits (nI p) (nI t) = true := by
  have hz := z22_lt hp
  rw [zfits_zin hp]
  exact zin_t (Nat.zero_le t) (by omega) (by omega)
set_option maxRecDepth 100000 in
set_option maxHeartbeats 4000000 in
theorem c_60 {sc : Nat × (Nat → Int32)} {d : Nat} {M M2 : zM} {m rc q N : Nat} {P T K : Nat → Nat} {c : Nat → Nat} {s : Nat} (hsg : sgC M m P T K) (hq1 : 1 ≤ q) (hq : q < 4) (hb : zbar P m q = false) (hrc : zrc rc q N) (hR : zC 47 sc (d + 9) 86 [.ref 0, .int (nI q)] M (some (.ref rc)) M2) (hs : M2 rc 7 = nI s) : zC 47 sc (d + 10) 60 [.ref 0, .int (nI q)] M (some (.int (nI s))) (M2) := by
  have hzc := zcnt_t hq1 hq
  refine z_enter (L := [.ref 0, .int (nI q)]) rfl rfl rfl ?_
  refine zK.blk rfl ?_
  refine p_iloadn_1 ?_
  refine p_cs1i rfl rfl rfl rfl rfl (c_82) ?_
  refine p_ifB_ne (tgt := 9) (by decide) (fun hc4 => ?_) (fun hc4 => ?_)
  · skip
    refine zK.blk rfl ?_
    refine p_aloadn_0 ?_
    refine p_iloadn_1 ?_
    refine p_cv1i rfl rfl rfl rfl rfl (c_85 hsg (by omega)) ?_
    refine p_ifB_eq (tgt := 22) (by decide) (fun hc14 => ?_) (fun hc14 => ?_)
    · skip
      refine zK.blk rfl ?_
      refine p_aloadn_0 ?_
      refine p_iloadn_1 ?_
      refine p_cv1a rfl rfl rfl rfl rfl (hR) ?_
      refine p_geti (zl_r hrc) rfl (hs) ?_
      refine zK.blk rfl ?_
      exact p_iret trivial rfl rfl
    · skip
      rw [hb] at hc14; cases hc14 --STOP
  · skip
    rw [hzc] at hc4; cases hc4 --STOP
set_option maxRecDepth 100000 in
set_option maxHeartbeats 4000000 in
theorem c_60s {sc : Nat × (Nat → Int32)} {d : Nat} {M M2 : zM} {m rc q N : Nat} {P T K : Nat → Nat} {c : Nat → Nat} {s : Nat} (hsg : sgC M m P T K) (hq1 : 1 ≤ q) (hq : q < 4) (hb : zbar P m q = true) : zC 47 sc (d + 10) 60 [.ref 0, .int (nI q)] M (some (.int (-2))) (M) := by
  have hzc := zcnt_t hq1 hq
  refine z_enter (L := [.ref 0, .int (nI q)]) rfl rfl rfl ?_
  refine zK.blk rfl ?_
  refine p_iloadn_1 ?_
  refine p_cs1i rfl rfl rfl rfl rfl (c_82) ?_
  refine p_ifB_ne (tgt := 9) (by decide) (fun hc4 => ?_) (fun hc4 => ?_)
  · skip
    refine zK.blk rfl ?_
    refine p_aloadn_0 ?_
    refine p_iloadn_1 ?_
    refine p_cv1i rfl rfl rfl rfl rfl (c_85 hsg (by omega)) ?_
    refine p_ifB_eq (tgt := 22) (by decide) (fun hc14 => ?_) (fun hc14 => ?_)
    · skip
      rw [hb] at hc14; cases hc14 --STOP
    · skip
      refine p_bipush (v := -2) (by decide) ?_
      refine p_goto (tgt := 30) (by decide) ?_
      refine zK.blk rfl ?_
      exact p_iret trivial rfl rfl
  · skip
    rw [hzc] at hc4; cases hc4 --STOP
set_option maxRecDepth 100000 in
set_option maxHeartbeats 4000000 in
theorem c_60b {sc : Nat × (Nat → Int32)} {d : Nat} {M : zM} {x : Int32} (hx : zcnt x = false) : zC 47 sc (d + 10) 60 [.ref 0, .int x] M (some (.int (-1))) (M) := by
  refine z_enter (L := [.ref 0, .int x]) rfl rfl rfl ?_
  refine zK.blk rfl ?_
  refine p_iloadn_1 ?_
  refine p_cs1i rfl rfl rfl rfl rfl (c_82) ?_
  refine p_ifB_ne (tgt := 9) (by decide) (fun hc4 => ?_) (fun hc4 => ?_)
  · skip
    rw [hx] at hc4; cases hc4 --STOP
  · skip
    refine p_iconst (v := -1) (by decide) ?_
    exact p_iret trivial rfl rfl
set_option maxRecDepth 100000 in
set_option maxHeartbeats 4000000 in
theorem c_61 {sc : Nat × (Nat → Int32)} {d : Nat} {M M2 : zM} {m rc q N : Nat} {P T K : Nat → Nat} {c : Nat → Nat} {t : Nat} (hsg : sgC M m P T K) (hq1 : 1 ≤ q) (hq : q < 4) (ht : t < z22 q) (hb : zbar P m q = false) (hrc : zrc rc q N) (hR : zC 47 sc (d + 9) 86 [.ref 0, .int (nI q)] M (some (.ref rc)) M2) (hcs : rcC M2 rc N c) : zC 47 sc (d + 10) 61 [.ref 0, .int (nI q), .int (nI t)] M (some (.int (if c t = 1073741824 then -9 else nI (c t)))) (M2) := by
  have hzc := zcnt_t hq1 hq
  have hzf := zfits_t hq ht
  have hN := zl_N hrc
  refine z_enter (L := [.ref 0, .int (nI q), .int (nI t)]) rfl rfl rfl ?_
  refine zK.blk rfl ?_
  refine p_iloadn_1 ?_
  refine p_cs1i rfl rfl rfl rfl rfl (c_82) ?_
  refine p_ifB_eq (tgt := 15) (by decide) (fun hc4 => ?_) (fun hc4 => ?_)
  · skip
    rw [hzc] at hc4; cases hc4 --STOP
  · skip
    refine p_iloadn_1 ?_
    refine p_iloadn_2 ?_
    refine p_cs2i rfl rfl rfl rfl rfl (c_0) ?_
    refine p_ifB_ne (tgt := 17) (by decide) (fun hc12 => ?_) (fun hc12 => ?_)
    · skip
      refine zK.blk rfl ?_
      refine p_aloadn_0 ?_
      refine p_iloadn_1 ?_
      refine p_cv1i rfl rfl rfl rfl rfl (c_85 hsg (by omega)) ?_
      refine p_ifB_eq (tgt := 30) (by decide) (fun hc22 => ?_) (fun hc22 => ?_)
      · skip
        refine zK.blk rfl ?_
        refine p_aloadn_0 ?_
        refine p_iloadn_1 ?_
        refine p_cv1a rfl rfl rfl rfl rfl (hR) ?_
        refine p_iloadn_2 ?_
        refine p_cv1i rfl rfl rfl rfl (zl_r hrc) (c_50 hrc hcs (by omega)) ?_
        refine zK.blk rfl ?_
        exact p_iret trivial rfl rfl
      · skip
        rw [hb] at hc22; cases hc22 --STOP
    · skip
      rw [hzf] at hc12; cases hc12 --STOP
set_option maxRecDepth 100000 in
set_option maxHeartbeats 4000000 in
theorem c_61s {sc : Nat × (Nat → Int32)} {d : Nat} {M M2 : zM} {m rc q N : Nat} {P T K : Nat → Nat} {c : Nat → Nat} {t : Nat} (hsg : sgC M m P T K) (hq1 : 1 ≤ q) (hq : q < 4) (ht : t < z22 q) (hb : zbar P m q = true) : zC 47 sc (d + 10) 61 [.ref 0, .int (nI q), .int (nI t)] M (some (.int (-2))) (M) := by
  have hzc := zcnt_t hq1 hq
  have hzf := zfits_t hq ht
  refine z_enter (L := [.ref 0, .int (nI q), .int (nI t)]) rfl rfl rfl ?_
  refine zK.blk rfl ?_
  refine p_iloadn_1 ?_
  refine p_cs1i rfl rfl rfl rfl rfl (c_82) ?_
  refine p_ifB_eq (tgt := 15) (by decide) (fun hc4 => ?_) (fun hc4 => ?_)
  · skip
    rw [hzc] at hc4; cases hc4 --STOP
  · skip
    refine p_iloadn_1 ?_
    refine p_iloadn_2 ?_
    refine p_cs2i rfl rfl rfl rfl rfl (c_0) ?_
    refine p_ifB_ne (tgt := 17) (by decide) (fun hc12 => ?_) (fun hc12 => ?_)
    · skip
      refine zK.blk rfl ?_
      refine p_aloadn_0 ?_
      refine p_iloadn_1 ?_
      refine p_cv1i rfl rfl rfl rfl rfl (c_85 hsg (by omega)) ?_
      refine p_ifB_eq (tgt := 30) (by decide) (fun hc22 => ?_) (fun hc22 => ?_)
      · skip
        rw [hb] at hc22; cases hc22 --STOP
      · skip
        refine p_bipush (v := -2) (by decide) ?_
        refine p_goto (tgt := 39) (by decide) ?_
        refine zK.blk rfl ?_
        exact p_iret trivial rfl rfl
    · skip
      rw [hzf] at hc12; cases hc12 --STOP
set_option maxRecDepth 100000 in
set_option maxHeartbeats 4000000 in
theorem c_61b {sc : Nat × (Nat → Int32)} {d : Nat} {M : zM} {x y : Int32} (hx : zrl x y = false) : zC 47 sc (d + 10) 61 [.ref 0, .int x, .int y] M (some (.int (-1))) (M) := by
  unfold zrl at hx
  refine z_enter (L := [.ref 0, .int x, .int y]) rfl rfl rfl ?_
  refine zK.blk rfl ?_
  refine p_iloadn_1 ?_
  refine p_cs1i rfl rfl rfl rfl rfl (c_82) ?_
  refine p_ifB_eq (tgt := 15) (by decide) (fun hc4 => ?_) (fun hc4 => ?_)
  · skip
    refine zK.blk rfl ?_
    refine p_iconst (v := -1) (by decide) ?_
    exact p_iret trivial rfl rfl
  · skip
    refine p_iloadn_1 ?_
    refine p_iloadn_2 ?_
    refine p_cs2i rfl rfl rfl rfl rfl (c_0) ?_
    refine p_ifB_ne (tgt := 17) (by decide) (fun hc12 => ?_) (fun hc12 => ?_)
    · skip
      rw [hc4, hc12] at hx; cases hx --STOP
    · skip
      refine zK.blk rfl ?_
      refine p_iconst (v := -1) (by decide) ?_
      exact p_iret trivial rfl rfl
set_option maxRecDepth 100000 in
set_option maxHeartbeats 4000000 in
theorem c_64 {sc : Nat × (Nat → Int32)} {d : Nat} {M M2 : zM} {m rc q N : Nat} {P T K : Nat → Nat} {c : Nat → Nat} {x : Int32} (hsg : sgC M m P T K) (hq1 : 1 ≤ q) (hq : q < 4) (hx : 0 ≤ x) (hb : zbar P m q = false) (hrc : zrc rc q N) (hR : zC 47 sc (d + 9) 86 [.ref 0, .int (nI q)] M (some (.ref rc)) M2) (hcs : rcC M2 rc N c) : zC 47 sc (d + 10) 64 [.ref 0, .int (nI q), .int x] M (some (.int (nI (hmN c N x)))) (M2) := by
  have hzc := zcnt_t hq1 hq
  refine z_enter (L := [.ref 0, .int (nI q), .int x]) rfl rfl rfl ?_
  refine zK.blk rfl ?_
  refine p_iloadn_1 ?_
  refine p_cs1i rfl rfl rfl rfl rfl (c_82) ?_
  refine p_ifB_eq (tgt := 11) (by decide) (fun hc4 => ?_) (fun hc4 => ?_)
  · skip
    rw [hzc] at hc4; cases hc4 --STOP
  · skip
    refine p_iloadn_2 ?_
    refine p_if_ge (tgt := 13) (by decide) (fun hc8 => ?_) (fun hc8 => ?_)
    · skip
      refine zK.blk rfl ?_
      refine p_aloadn_0 ?_
      refine p_iloadn_1 ?_
      refine p_cv1i rfl rfl rfl rfl rfl (c_85 hsg (by omega)) ?_
      refine p_ifB_eq (tgt := 26) (by decide) (fun hc18 => ?_) (fun hc18 => ?_)
      · skip
        refine zK.blk rfl ?_
        refine p_aloadn_0 ?_
        refine p_iloadn_1 ?_
        refine p_cv1a rfl rfl rfl rfl rfl (hR) ?_
        refine p_iloadn_2 ?_
        refine p_cv1i rfl rfl rfl rfl (zl_r hrc) (c_55 hrc hcs) ?_
        refine zK.blk rfl ?_
        exact p_iret trivial rfl rfl
      · skip
        rw [hb] at hc18; cases hc18 --STOP
    · skip
      exact absurd hx hc8 --STOP
set_option maxRecDepth 100000 in
set_option maxHeartbeats 4000000 in
theorem c_64s {sc : Nat × (Nat → Int32)} {d : Nat} {M M2 : zM} {m rc q N : Nat} {P T K : Nat → Nat} {c : Nat → Nat} {x : Int32} (hsg : sgC M m P T K) (hq1 : 1 ≤ q) (hq : q < 4) (hx : 0 ≤ x) (hb : zbar P m q = true) : zC 47 sc (d + 10) 64 [.ref 0, .int (nI q), .int x] M (some (.int (-2))) (M) := by
  have hzc := zcnt_t hq1 hq
  refine z_enter (L := [.ref 0, .int (nI q), .int x]) rfl rfl rfl ?_
  refine zK.blk rfl ?_
  refine p_iloadn_1 ?_
  refine p_cs1i rfl rfl rfl rfl rfl (c_82) ?_
  refine p_ifB_eq (tgt := 11) (by decide) (fun hc4 => ?_) (fun hc4 => ?_)
  · skip
    rw [hzc] at hc4; cases hc4 --STOP
  · skip
    refine p_iloadn_2 ?_
    refine p_if_ge (tgt := 13) (by decide) (fun hc8 => ?_) (fun hc8 => ?_)
    · skip
      refine zK.blk rfl ?_
      refine p_aloadn_0 ?_
      refine p_iloadn_1 ?_
      refine p_cv1i rfl rfl rfl rfl rfl (c_85 hsg (by omega)) ?_
      refine p_ifB_eq (tgt := 26) (by decide) (fun hc18 => ?_) (fun hc18 => ?_)
      · skip
        rw [hb] at hc18; cases hc18 --STOP
      · skip
        refine p_bipush (v := -2) (by decide) ?_
        refine p_goto (tgt := 35) (by decide) ?_
        refine zK.blk rfl ?_
        exact p_iret trivial rfl rfl
    · skip
      exact absurd hx hc8 --STOP
set_option maxRecDepth 100000 in
set_option maxHeartbeats 4000000 in
theorem c_64b {sc : Nat × (Nat → Int32)} {d : Nat} {M : zM} {x y : Int32} (hx : ¬ (zcnt x = true ∧ 0 ≤ y)) : zC 47 sc (d + 10) 64 [.ref 0, .int x, .int y] M (some (.int (-1))) (M) := by
  refine z_enter (L := [.ref 0, .int x, .int y]) rfl rfl rfl ?_
  refine zK.blk rfl ?_
  refine p_iloadn_1 ?_
  refine p_cs1i rfl rfl rfl rfl rfl (c_82) ?_
  refine p_ifB_eq (tgt := 11) (by decide) (fun hc4 => ?_) (fun hc4 => ?_)
  · skip
    refine zK.blk rfl ?_
    refine p_iconst (v := -1) (by decide) ?_
    exact p_iret trivial rfl rfl
  · skip
    refine p_iloadn_2 ?_
    refine p_if_ge (tgt := 13) (by decide) (fun hc8 => ?_) (fun hc8 => ?_)
    · skip
      exact absurd ⟨hc4, hc8⟩ hx --STOP
    · skip
      refine zK.blk rfl ?_
      refine p_iconst (v := -1) (by decide) ?_
      exact p_iret trivial rfl rfl
set_option maxRecDepth 100000 in
set_option maxHeartbeats 4000000 in
theorem c_63 {sc : Nat × (Nat → Int32)} {d : Nat} {M M2 : zM} {m rc q N : Nat} {P T K : Nat → Nat} {c : Nat → Nat} {w : Nat} (hsg : sgC M m P T K) (hq1 : 1 ≤ q) (hq : q < 4) (hw : w ≤ 2) (hb : zbar P m q = false) (hrc : zrc rc q N) (hR : zC 47 sc (d + 9) 86 [.ref 0, .int (nI q)] M (some (.ref rc)) M2) (hcs : rcC M2 rc N c) : zC 47 sc (d + 10) 63 [.ref 0, .int (nI q), .int (nI w)] M (some (.int (if w = 0 then nI (gcN c N) else if w = 1 then zfirst (fcB c (nI (gcN c N))) N 0 else zfirst (fuB c) N 0))) (M2) := by
  have hzc := zcnt_t hq1 hq
  refine z_enter (L := [.ref 0, .int (nI q), .int (nI w), .null]) rfl rfl rfl ?_
  refine zK.blk rfl ?_
  refine p_iloadn_1 ?_
  refine p_cs1i rfl rfl rfl rfl rfl (c_82) ?_
  refine p_ifB_eq (tgt := 16) (by decide) (fun hc4 => ?_) (fun hc4 => ?_)
  · skip
    rw [hzc] at hc4; cases hc4 --STOP
  · skip
    refine p_iloadn_2 ?_
    refine p_ifN_lt (tgt := 16) (by decide) (by omega) (fun hc8 => ?_) (fun hc8 => ?_)
    · skip
      exact absurd hc8 (by omega) --STOP
    · skip
      refine p_iloadn_2 ?_
      refine p_iconst (v := nI 2) (by decide) ?_
      refine p_icmpN_le (tgt := 18) (by decide) (by omega) (by omega) (fun hc13 => ?_) (fun hc13 => ?_)
      · skip
        refine zK.blk rfl ?_
        refine p_aloadn_0 ?_
        refine p_iloadn_1 ?_
        refine p_cv1i rfl rfl rfl rfl rfl (c_85 hsg (by omega)) ?_
        refine p_ifB_eq (tgt := 29) (by decide) (fun hc23 => ?_) (fun hc23 => ?_)
        · skip
          refine zK.blk rfl ?_
          refine p_aloadn_0 ?_
          refine p_iloadn_1 ?_
          refine p_cv1a rfl rfl rfl rfl rfl (hR) ?_
          refine p_astoren_3 rfl ?_
          refine p_iloadn_2 ?_
          rcases (show w = 0 ∨ w = 1 ∨ w = 2 by omega) with rfl | rfl | rfl
          · refine p_lk (off := 28) (tgt := 64) (by decide) (by decide) (by decide) ?_
            rw [if_pos rfl]
            refine zK.blk rfl ?_
            refine p_aloadn_3 ?_
            refine p_cv0i rfl rfl rfl rfl (zl_r hrc) (c_52 hrc hcs) ?_
            exact p_iret trivial rfl rfl
          · refine p_lk (off := 33) (tgt := 69) (by decide) (by decide) (by decide) ?_
            rw [if_neg (by decide), if_pos rfl]
            refine zK.blk rfl ?_
            refine p_aloadn_3 ?_
            refine p_aloadn_3 ?_
            refine p_cv0i rfl rfl rfl rfl (zl_r hrc) (c_52 hrc hcs) ?_
            refine p_cv1i rfl rfl rfl rfl (zl_r hrc) (c_53 hrc hcs) ?_
            exact p_iret trivial rfl rfl
          · refine p_lk (off := 42) (tgt := 78) (by decide) (by decide) (by decide) ?_
            rw [if_neg (by decide), if_neg (by decide)]
            refine zK.blk rfl ?_
            refine p_aloadn_3 ?_
            refine p_cv0i rfl rfl rfl rfl (zl_r hrc) (c_54 hrc hcs) ?_
            exact p_iret trivial rfl rfl
        · skip
          rw [hb] at hc23; cases hc23 --STOP
      · skip
        exact absurd hw hc13 --STOP
set_option maxRecDepth 100000 in
set_option maxHeartbeats 4000000 in
theorem c_63s {sc : Nat × (Nat → Int32)} {d : Nat} {M M2 : zM} {m rc q N : Nat} {P T K : Nat → Nat} {c : Nat → Nat} {w : Nat} (hsg : sgC M m P T K) (hq1 : 1 ≤ q) (hq : q < 4) (hw : w ≤ 2) (hb : zbar P m q = true) : zC 47 sc (d + 10) 63 [.ref 0, .int (nI q), .int (nI w)] M (some (.int (-2))) (M) := by
  have hzc := zcnt_t hq1 hq
  refine z_enter (L := [.ref 0, .int (nI q), .int (nI w), .null]) rfl rfl rfl ?_
  refine zK.blk rfl ?_
  refine p_iloadn_1 ?_
  refine p_cs1i rfl rfl rfl rfl rfl (c_82) ?_
  refine p_ifB_eq (tgt := 16) (by decide) (fun hc4 => ?_) (fun hc4 => ?_)
  · skip
    rw [hzc] at hc4; cases hc4 --STOP
  · skip
    refine p_iloadn_2 ?_
    refine p_ifN_lt (tgt := 16) (by decide) (by omega) (fun hc8 => ?_) (fun hc8 => ?_)
    · skip
      exact absurd hc8 (by omega) --STOP
    · skip
      refine p_iloadn_2 ?_
      refine p_iconst (v := nI 2) (by decide) ?_
      refine p_icmpN_le (tgt := 18) (by decide) (by omega) (by omega) (fun hc13 => ?_) (fun hc13 => ?_)
      · skip
        refine zK.blk rfl ?_
        refine p_aloadn_0 ?_
        refine p_iloadn_1 ?_
        refine p_cv1i rfl rfl rfl rfl rfl (c_85 hsg (by omega)) ?_
        refine p_ifB_eq (tgt := 29) (by decide) (fun hc23 => ?_) (fun hc23 => ?_)
        · skip
          rw [hb] at hc23; cases hc23 --STOP
        · skip
          refine p_bipush (v := -2) (by decide) ?_
          exact p_iret trivial rfl rfl
      · skip
        exact absurd hw hc13 --STOP
set_option maxRecDepth 100000 in
set_option maxHeartbeats 4000000 in
theorem c_63b {sc : Nat × (Nat → Int32)} {d : Nat} {M : zM} {x y : Int32} (hx : ¬ (zcnt x = true ∧ zin y (nI 0) (nI 2) = true)) : zC 47 sc (d + 10) 63 [.ref 0, .int x, .int y] M (some (.int (-1))) (M) := by
  refine z_enter (L := [.ref 0, .int x, .int y, .null]) rfl rfl rfl ?_
  refine zK.blk rfl ?_
  refine p_iloadn_1 ?_
  refine p_cs1i rfl rfl rfl rfl rfl (c_82) ?_
  refine p_ifB_eq (tgt := 16) (by decide) (fun hc4 => ?_) (fun hc4 => ?_)
  · skip
    refine zK.blk rfl ?_
    refine p_iconst (v := -1) (by decide) ?_
    exact p_iret trivial rfl rfl
  · skip
    refine p_iloadn_2 ?_
    refine p_if_lt (tgt := 16) (by decide) (fun hc8 => ?_) (fun hc8 => ?_)
    · skip
      refine zK.blk rfl ?_
      refine p_iconst (v := -1) (by decide) ?_
      exact p_iret trivial rfl rfl
    · skip
      refine p_iloadn_2 ?_
      refine p_iconst (v := nI 2) (by decide) ?_
      refine p_icmp_le (tgt := 18) (by decide) (fun hc13 => ?_) (fun hc13 => ?_)
      · skip
        exact absurd ⟨hc4, by unfold zin; rw [decide_eq_true (show ¬ y < nI 0 from hc8), decide_eq_true (Int32.not_lt.mpr hc13)]; rfl⟩ hx --STOP
      · skip
        refine zK.blk rfl ?_
        refine p_iconst (v := -1) (by decide) ?_
        exact p_iret trivial rfl rfl
end
section
set_option maxRecDepth 100000 in
set_option maxHeartbeats 4000000 in
theorem c_86f_1 {sc : Nat × (Nat → Int32)} {d : Nat} {M M2 : zM}  (hf : M 9 8 = nI 1) : zC 47 sc (d + 9) 86 [.ref 0, .int (nI 1)] M (some (.ref 9)) (M) := by
  refine z_enter (L := [.ref 0, .int (nI 1), .null]) rfl rfl rfl ?_
  refine zK.blk rfl ?_
  refine p_iloadn_1 ?_
  refine p_iconst (v := nI 1) (by decide) ?_
  refine p_icmpN_ne (tgt := 12) (by decide) (by omega) (by omega) (fun hc2 => ?_) (fun hc2 => ?_)
  · skip
    exact absurd rfl hc2 --STOP
  · skip
    refine p_aloadn_0 ?_
    refine p_getr rfl rfl ?_
    refine p_goto (tgt := 28) (by decide) ?_
    refine zK.blk rfl ?_
    refine p_astoren_2 rfl ?_
    refine p_aloadn_2 ?_
    refine p_geti rfl rfl (hf) ?_
    refine p_ifN_ne (tgt := 44) (by decide) (by omega) (fun hc33 => ?_) (fun hc33 => ?_)
    · skip
      refine zK.blk rfl ?_
      refine p_aloadn_2 ?_
      exact p_aret trivial rfl rfl
    · skip
      exact absurd hc33 (by decide) --STOP
set_option maxRecDepth 100000 in
set_option maxHeartbeats 4000000 in
theorem c_86n_1 {sc : Nat × (Nat → Int32)} {d : Nat} {M M2 : zM}  (hf : M 9 8 = nI 0) (hE : zC 47 sc (d + 8) 41 [.ref 9, .ref 1] M none M2) : zC 47 sc (d + 9) 86 [.ref 0, .int (nI 1)] M (some (.ref 9)) (M2) := by
  refine z_enter (L := [.ref 0, .int (nI 1), .null]) rfl rfl rfl ?_
  refine zK.blk rfl ?_
  refine p_iloadn_1 ?_
  refine p_iconst (v := nI 1) (by decide) ?_
  refine p_icmpN_ne (tgt := 12) (by decide) (by omega) (by omega) (fun hc2 => ?_) (fun hc2 => ?_)
  · skip
    exact absurd rfl hc2 --STOP
  · skip
    refine p_aloadn_0 ?_
    refine p_getr rfl rfl ?_
    refine p_goto (tgt := 28) (by decide) ?_
    refine zK.blk rfl ?_
    refine p_astoren_2 rfl ?_
    refine p_aloadn_2 ?_
    refine p_geti rfl rfl (hf) ?_
    refine p_ifN_ne (tgt := 44) (by decide) (by omega) (fun hc33 => ?_) (fun hc33 => ?_)
    · skip
      exact absurd rfl hc33 --STOP
    · skip
      refine p_aloadn_2 ?_
      refine p_aloadn_0 ?_
      refine p_getr rfl rfl ?_
      refine p_cv1v rfl rfl rfl rfl rfl (hE) ?_
      refine zK.blk rfl ?_
      refine p_aloadn_2 ?_
      exact p_aret trivial rfl rfl
set_option maxRecDepth 100000 in
set_option maxHeartbeats 4000000 in
theorem c_86f_2 {sc : Nat × (Nat → Int32)} {d : Nat} {M M2 : zM}  (hf : M 14 8 = nI 1) : zC 47 sc (d + 9) 86 [.ref 0, .int (nI 2)] M (some (.ref 14)) (M) := by
  refine z_enter (L := [.ref 0, .int (nI 2), .null]) rfl rfl rfl ?_
  refine zK.blk rfl ?_
  refine p_iloadn_1 ?_
  refine p_iconst (v := nI 1) (by decide) ?_
  refine p_icmpN_ne (tgt := 12) (by decide) (by omega) (by omega) (fun hc2 => ?_) (fun hc2 => ?_)
  · skip
    refine zK.blk rfl ?_
    refine p_iloadn_1 ?_
    refine p_iconst (v := nI 2) (by decide) ?_
    refine p_icmpN_ne (tgt := 24) (by decide) (by omega) (by omega) (fun hc14 => ?_) (fun hc14 => ?_)
    · skip
      exact absurd rfl hc14 --STOP
    · skip
      refine p_aloadn_0 ?_
      refine p_getr rfl rfl ?_
      refine p_goto (tgt := 28) (by decide) ?_
      refine zK.blk rfl ?_
      refine p_astoren_2 rfl ?_
      refine p_aloadn_2 ?_
      refine p_geti rfl rfl (hf) ?_
      refine p_ifN_ne (tgt := 44) (by decide) (by omega) (fun hc33 => ?_) (fun hc33 => ?_)
      · skip
        refine zK.blk rfl ?_
        refine p_aloadn_2 ?_
        exact p_aret trivial rfl rfl
      · skip
        exact absurd hc33 (by decide) --STOP
  · skip
    exact absurd hc2 (by decide) --STOP
set_option maxRecDepth 100000 in
set_option maxHeartbeats 4000000 in
theorem c_86n_2 {sc : Nat × (Nat → Int32)} {d : Nat} {M M2 : zM}  (hf : M 14 8 = nI 0) (hE : zC 47 sc (d + 8) 41 [.ref 14, .ref 1] M none M2) : zC 47 sc (d + 9) 86 [.ref 0, .int (nI 2)] M (some (.ref 14)) (M2) := by
  refine z_enter (L := [.ref 0, .int (nI 2), .null]) rfl rfl rfl ?_
  refine zK.blk rfl ?_
  refine p_iloadn_1 ?_
  refine p_iconst (v := nI 1) (by decide) ?_
  refine p_icmpN_ne (tgt := 12) (by decide) (by omega) (by omega) (fun hc2 => ?_) (fun hc2 => ?_)
  · skip
    refine zK.blk rfl ?_
    refine p_iloadn_1 ?_
    refine p_iconst (v := nI 2) (by decide) ?_
    refine p_icmpN_ne (tgt := 24) (by decide) (by omega) (by omega) (fun hc14 => ?_) (fun hc14 => ?_)
    · skip
      exact absurd rfl hc14 --STOP
    · skip
      refine p_aloadn_0 ?_
      refine p_getr rfl rfl ?_
      refine p_goto (tgt := 28) (by decide) ?_
      refine zK.blk rfl ?_
      refine p_astoren_2 rfl ?_
      refine p_aloadn_2 ?_
      refine p_geti rfl rfl (hf) ?_
      refine p_ifN_ne (tgt := 44) (by decide) (by omega) (fun hc33 => ?_) (fun hc33 => ?_)
      · skip
        exact absurd rfl hc33 --STOP
      · skip
        refine p_aloadn_2 ?_
        refine p_aloadn_0 ?_
        refine p_getr rfl rfl ?_
        refine p_cv1v rfl rfl rfl rfl rfl (hE) ?_
        refine zK.blk rfl ?_
        refine p_aloadn_2 ?_
        exact p_aret trivial rfl rfl
  · skip
    exact absurd hc2 (by decide) --STOP
set_option maxRecDepth 100000 in
set_option maxHeartbeats 4000000 in
theorem c_86f_3 {sc : Nat × (Nat → Int32)} {d : Nat} {M M2 : zM}  (hf : M 19 8 = nI 1) : zC 47 sc (d + 9) 86 [.ref 0, .int (nI 3)] M (some (.ref 19)) (M) := by
  refine z_enter (L := [.ref 0, .int (nI 3), .null]) rfl rfl rfl ?_
  refine zK.blk rfl ?_
  refine p_iloadn_1 ?_
  refine p_iconst (v := nI 1) (by decide) ?_
  refine p_icmpN_ne (tgt := 12) (by decide) (by omega) (by omega) (fun hc2 => ?_) (fun hc2 => ?_)
  · skip
    refine zK.blk rfl ?_
    refine p_iloadn_1 ?_
    refine p_iconst (v := nI 2) (by decide) ?_
    refine p_icmpN_ne (tgt := 24) (by decide) (by omega) (by omega) (fun hc14 => ?_) (fun hc14 => ?_)
    · skip
      refine zK.blk rfl ?_
      refine p_aloadn_0 ?_
      refine p_getr rfl rfl ?_
      refine zK.blk rfl ?_
      refine p_astoren_2 rfl ?_
      refine p_aloadn_2 ?_
      refine p_geti rfl rfl (hf) ?_
      refine p_ifN_ne (tgt := 44) (by decide) (by omega) (fun hc33 => ?_) (fun hc33 => ?_)
      · skip
        refine zK.blk rfl ?_
        refine p_aloadn_2 ?_
        exact p_aret trivial rfl rfl
      · skip
        exact absurd hc33 (by decide) --STOP
    · skip
      exact absurd hc14 (by decide) --STOP
  · skip
    exact absurd hc2 (by decide) --STOP
set_option maxRecDepth 100000 in
set_option maxHeartbeats 4000000 in
theorem c_86n_3 {sc : Nat × (Nat → Int32)} {d : Nat} {M M2 : zM}  (hf : M 19 8 = nI 0) (hE : zC 47 sc (d + 8) 41 [.ref 19, .ref 1] M none M2) : zC 47 sc (d + 9) 86 [.ref 0, .int (nI 3)] M (some (.ref 19)) (M2) := by
  refine z_enter (L := [.ref 0, .int (nI 3), .null]) rfl rfl rfl ?_
  refine zK.blk rfl ?_
  refine p_iloadn_1 ?_
  refine p_iconst (v := nI 1) (by decide) ?_
  refine p_icmpN_ne (tgt := 12) (by decide) (by omega) (by omega) (fun hc2 => ?_) (fun hc2 => ?_)
  · skip
    refine zK.blk rfl ?_
    refine p_iloadn_1 ?_
    refine p_iconst (v := nI 2) (by decide) ?_
    refine p_icmpN_ne (tgt := 24) (by decide) (by omega) (by omega) (fun hc14 => ?_) (fun hc14 => ?_)
    · skip
      refine zK.blk rfl ?_
      refine p_aloadn_0 ?_
      refine p_getr rfl rfl ?_
      refine zK.blk rfl ?_
      refine p_astoren_2 rfl ?_
      refine p_aloadn_2 ?_
      refine p_geti rfl rfl (hf) ?_
      refine p_ifN_ne (tgt := 44) (by decide) (by omega) (fun hc33 => ?_) (fun hc33 => ?_)
      · skip
        exact absurd rfl hc33 --STOP
      · skip
        refine p_aloadn_2 ?_
        refine p_aloadn_0 ?_
        refine p_getr rfl rfl ?_
        refine p_cv1v rfl rfl rfl rfl rfl (hE) ?_
        refine zK.blk rfl ?_
        refine p_aloadn_2 ?_
        exact p_aret trivial rfl rfl
    · skip
      exact absurd hc14 (by decide) --STOP
  · skip
    exact absurd hc2 (by decide) --STOP
theorem c_86f {sc : Nat × (Nat → Int32)} {d : Nat} {M : zM} {rc q N : Nat} (hrc : zrc rc q N) (hf : M rc 8 = nI 1) : zC 47 sc (d + 9) 86 [.ref 0, .int (nI q)] M (some (.ref rc)) M := by
  rcases hrc with ⟨rfl, rfl, -⟩ | ⟨rfl, rfl, -⟩ | ⟨rfl, rfl, -⟩
  · exact c_86f_1 (M2 := M) hf
  · exact c_86f_2 (M2 := M) hf
  · exact c_86f_3 (M2 := M) hf
theorem c_86n {sc : Nat × (Nat → Int32)} {d : Nat} {M M2 : zM} {rc q N : Nat} (hrc : zrc rc q N) (hf : M rc 8 = nI 0) (hE : zC 47 sc (d + 8) 41 [.ref rc, .ref 1] M none M2) : zC 47 sc (d + 9) 86 [.ref 0, .int (nI q)] M (some (.ref rc)) M2 := by
  rcases hrc with ⟨rfl, rfl, -⟩ | ⟨rfl, rfl, -⟩ | ⟨rfl, rfl, -⟩
  · exact c_86n_1 hf hE
  · exact c_86n_2 hf hE
  · exact c_86n_3 hf hE
end
section
set_option maxRecDepth 100000 in
set_option maxHeartbeats 4000000 in
theorem c_62n {sc : Nat × (Nat → Int32)} {d : Nat} {M M2 : zM} {m rc q N t : Nat} {P T K : Nat → Nat} {c : Nat → Nat} {x : Int32} (hsg : sgC M m P T K) (hq1 : 1 ≤ q) (hq : q < 4) (ht : t < z22 q) (hb : zbar P m q = false) (hrc : zrc rc q N) (hR : zC 47 sc (d + 9) 86 [.ref 0, .int (nI q)] M (some (.ref rc)) M2) (hcs : rcC M2 rc N c) (hx1 : ¬ x < -1) (hx2 : x < nI 3) (hw : M2 (rc + 2) t = -1) : zC 47 sc (d + 10) 62 [.ref 0, .int (nI q), .int (nI t), .int x] M (some (.int (-9))) (M2) := by
  have hzc := zcnt_t hq1 hq
  have hzf := zfits_t hq ht
  have hN := zl_N hrc
  have htN : t < N := by omega
  refine z_enter (L := [.ref 0, .int (nI q), .int (nI t), .int x, .null, .null]) rfl rfl rfl ?_
  refine zK.blk rfl ?_
  refine p_iloadn_1 ?_
  refine p_cs1i rfl rfl rfl rfl rfl (c_82) ?_
  refine p_ifB_eq (tgt := 25) (by decide) (fun hc4 => ?_) (fun hc4 => ?_)
  · skip
    rw [hzc] at hc4; cases hc4 --STOP
  · skip
    refine p_iloadn_1 ?_
    refine p_iloadn_2 ?_
    refine p_cs2i rfl rfl rfl rfl rfl (c_0) ?_
    refine p_ifB_eq (tgt := 25) (by decide) (fun hc12 => ?_) (fun hc12 => ?_)
    · skip
      rw [hzf] at hc12; cases hc12 --STOP
    · skip
      refine p_iloadn_3 ?_
      refine p_iconst (v := -1) (by decide) ?_
      refine p_icmp_lt (tgt := 25) (by decide) (fun hc17 => ?_) (fun hc17 => ?_)
      · skip
        exact absurd hc17 hx1 --STOP
      · skip
        refine p_iloadn_3 ?_
        refine p_iconst (v := nI 3) (by decide) ?_
        refine p_icmp_lt (tgt := 27) (by decide) (fun hc22 => ?_) (fun hc22 => ?_)
        · skip
          refine zK.blk rfl ?_
          refine p_aloadn_0 ?_
          refine p_iloadn_1 ?_
          refine p_cv1i rfl rfl rfl rfl rfl (c_85 hsg (by omega)) ?_
          refine p_ifB_eq (tgt := 38) (by decide) (fun hc32 => ?_) (fun hc32 => ?_)
          · skip
            refine zK.blk rfl ?_
            refine p_aloadn_0 ?_
            refine p_iloadn_1 ?_
            refine p_cv1a rfl rfl rfl rfl rfl (hR) ?_
            refine p_iloadn_2 ?_
            refine p_cv1i rfl rfl rfl rfl (zl_r hrc) (c_51 hrc hcs htN hw) ?_
            rw [show (if c t = 1073741824 then (-1 : Int32) else -1) = -1 by split <;> rfl]
            refine p_istore_4 rfl ?_
            refine p_iload_4 ?_
            refine p_if_ge (tgt := 57) (by decide) (fun hc51 => ?_) (fun hc51 => ?_)
            · skip
              exact absurd hc51 (by decide) --STOP
            · skip
              refine p_bipush (v := -9) (by decide) ?_
              exact p_iret trivial rfl rfl
          · skip
            rw [hb] at hc32; cases hc32 --STOP
        · skip
          exact absurd hx2 hc22 --STOP
set_option maxRecDepth 100000 in
set_option maxHeartbeats 4000000 in
theorem c_62l {sc : Nat × (Nat → Int32)} {d : Nat} {M M2 : zM} {m rc q N t : Nat} {P T K : Nat → Nat} {c : Nat → Nat} {w : Nat} (hsg : sgC M m P T K) (hq1 : 1 ≤ q) (hq : q < 4) (ht : t < z22 q) (hb : zbar P m q = false) (hrc : zrc rc q N) (hR : zC 47 sc (d + 9) 86 [.ref 0, .int (nI q)] M (some (.ref rc)) M2) (hcs : rcC M2 rc N c) (hct : ¬ c t = 1073741824) (hw : M2 (rc + 2) t = nI w) (hw31 : w < 2 ^ 31) : zC 47 sc (d + 10) 62 [.ref 0, .int (nI q), .int (nI t), .int (-1)] M (some (.int (nI (w >>> 24)))) (M2) := by
  have hzc := zcnt_t hq1 hq
  have hzf := zfits_t hq ht
  have hN := zl_N hrc
  have htN : t < N := by omega
  refine z_enter (L := [.ref 0, .int (nI q), .int (nI t), .int (-1), .null, .null]) rfl rfl rfl ?_
  refine zK.blk rfl ?_
  refine p_iloadn_1 ?_
  refine p_cs1i rfl rfl rfl rfl rfl (c_82) ?_
  refine p_ifB_eq (tgt := 25) (by decide) (fun hc4 => ?_) (fun hc4 => ?_)
  · skip
    rw [hzc] at hc4; cases hc4 --STOP
  · skip
    refine p_iloadn_1 ?_
    refine p_iloadn_2 ?_
    refine p_cs2i rfl rfl rfl rfl rfl (c_0) ?_
    refine p_ifB_eq (tgt := 25) (by decide) (fun hc12 => ?_) (fun hc12 => ?_)
    · skip
      rw [hzf] at hc12; cases hc12 --STOP
    · skip
      refine p_iloadn_3 ?_
      refine p_iconst (v := -1) (by decide) ?_
      refine p_icmp_lt (tgt := 25) (by decide) (fun hc17 => ?_) (fun hc17 => ?_)
      · skip
        exact absurd hc17 (by decide) --STOP
      · skip
        refine p_iloadn_3 ?_
        refine p_iconst (v := nI 3) (by decide) ?_
        refine p_icmp_lt (tgt := 27) (by decide) (fun hc22 => ?_) (fun hc22 => ?_)
        · skip
          refine zK.blk rfl ?_
          refine p_aloadn_0 ?_
          refine p_iloadn_1 ?_
          refine p_cv1i rfl rfl rfl rfl rfl (c_85 hsg (by omega)) ?_
          refine p_ifB_eq (tgt := 38) (by decide) (fun hc32 => ?_) (fun hc32 => ?_)
          · skip
            refine zK.blk rfl ?_
            refine p_aloadn_0 ?_
            refine p_iloadn_1 ?_
            refine p_cv1a rfl rfl rfl rfl rfl (hR) ?_
            refine p_iloadn_2 ?_
            refine p_cv1i rfl rfl rfl rfl (zl_r hrc) (c_51 hrc hcs htN hw) ?_
            rw [if_neg hct]
            refine p_istore_4 rfl ?_
            refine p_iload_4 ?_
            refine p_ifN_ge (tgt := 57) (by decide) (by omega) (fun hc51 => ?_) (fun hc51 => ?_)
            · skip
              refine zK.blk rfl ?_
              refine p_iload_4 ?_
              refine p_cs1i rfl rfl rfl rfl rfl (c_17 hw31) ?_
              refine p_istore_5 rfl ?_
              refine p_iloadn_3 ?_
              refine p_iconst (v := -1) (by decide) ?_
              refine p_icmp_ne (tgt := 72) (by decide) (fun hc66 => ?_) (fun hc66 => ?_)
              · skip
                exact absurd rfl hc66 --STOP
              · skip
                refine p_iload_5 ?_
                exact p_iret trivial rfl rfl
            · skip
              exact absurd (Nat.zero_le w) hc51 --STOP
          · skip
            rw [hb] at hc32; cases hc32 --STOP
        · skip
          exact absurd (by decide) hc22 --STOP
set_option maxRecDepth 100000 in
set_option maxHeartbeats 4000000 in
theorem c_62p {sc : Nat × (Nat → Int32)} {d : Nat} {M M2 : zM} {m rc q N t : Nat} {P T K : Nat → Nat} {c : Nat → Nat} {w p : Nat} (hsg : sgC M m P T K) (hq1 : 1 ≤ q) (hq : q < 4) (ht : t < z22 q) (hb : zbar P m q = false) (hrc : zrc rc q N) (hR : zC 47 sc (d + 9) 86 [.ref 0, .int (nI q)] M (some (.ref rc)) M2) (hcs : rcC M2 rc N c) (hct : ¬ c t = 1073741824) (hw : M2 (rc + 2) t = nI w) (hw31 : w < 2 ^ 31) (hp : p < 3) (hsg2 : sgC M2 m P T K) (hl : w >>> 24 < m) : zC 47 sc (d + 10) 62 [.ref 0, .int (nI q), .int (nI t), .int (nI p)] M (some (.int (if p < P (w >>> 24) then nI (w >>> (8 * (2 - p)) &&& 255) else -9))) (M2) := by
  have hzc := zcnt_t hq1 hq
  have hzf := zfits_t hq ht
  have hN := zl_N hrc
  have htN : t < N := by omega
  obtain ⟨hn6, hn, hR2, hS⟩ := id hsg2
  have hP := hR2 _ hl
  have hzh : zhas m (nI (w >>> 24)) = true := by unfold zhas; rw [decide_eq_true (nI_pos (by omega)), decide_eq_true (nI_ge hl (by omega))]; rfl
  refine z_enter (L := [.ref 0, .int (nI q), .int (nI t), .int (nI p), .null, .null]) rfl rfl rfl ?_
  refine zK.blk rfl ?_
  refine p_iloadn_1 ?_
  refine p_cs1i rfl rfl rfl rfl rfl (c_82) ?_
  refine p_ifB_eq (tgt := 25) (by decide) (fun hc4 => ?_) (fun hc4 => ?_)
  · skip
    rw [hzc] at hc4; cases hc4 --STOP
  · skip
    refine p_iloadn_1 ?_
    refine p_iloadn_2 ?_
    refine p_cs2i rfl rfl rfl rfl rfl (c_0) ?_
    refine p_ifB_eq (tgt := 25) (by decide) (fun hc12 => ?_) (fun hc12 => ?_)
    · skip
      rw [hzf] at hc12; cases hc12 --STOP
    · skip
      refine p_iloadn_3 ?_
      refine p_iconst (v := -1) (by decide) ?_
      refine p_icmp_lt (tgt := 25) (by decide) (fun hc17 => ?_) (fun hc17 => ?_) --BR
      · skip
        exact absurd (Int32.lt_trans hc17 (by decide)) (nI_pos (by omega)) --STOP
      · skip
        refine p_iloadn_3 ?_
        refine p_iconst (v := nI 3) (by decide) ?_
        refine p_icmpN_lt (tgt := 27) (by decide) (by omega) (by omega) (fun hc22 => ?_) (fun hc22 => ?_)
        · skip
          refine zK.blk rfl ?_
          refine p_aloadn_0 ?_
          refine p_iloadn_1 ?_
          refine p_cv1i rfl rfl rfl rfl rfl (c_85 hsg (by omega)) ?_
          refine p_ifB_eq (tgt := 38) (by decide) (fun hc32 => ?_) (fun hc32 => ?_)
          · skip
            refine zK.blk rfl ?_
            refine p_aloadn_0 ?_
            refine p_iloadn_1 ?_
            refine p_cv1a rfl rfl rfl rfl rfl (hR) ?_
            refine p_iloadn_2 ?_
            refine p_cv1i rfl rfl rfl rfl (zl_r hrc) (c_51 hrc hcs htN hw) ?_
            rw [if_neg hct]
            refine p_istore_4 rfl ?_
            refine p_iload_4 ?_
            refine p_ifN_ge (tgt := 57) (by decide) (by omega) (fun hc51 => ?_) (fun hc51 => ?_)
            · skip
              refine zK.blk rfl ?_
              refine p_iload_4 ?_
              refine p_cs1i rfl rfl rfl rfl rfl (c_17 hw31) ?_
              refine p_istore_5 rfl ?_
              refine p_iloadn_3 ?_
              refine p_iconst (v := -1) (by decide) ?_
              refine p_icmp_ne (tgt := 72) (by decide) (fun hc66 => ?_) (fun hc66 => ?_) --BR
              · skip
                refine zK.blk rfl ?_
                refine p_aloadn_0 ?_
                refine p_getr rfl rfl ?_
                refine p_iload_5 ?_
                refine p_cv1i rfl rfl rfl rfl rfl (c_24 hsg2) ?_
                refine p_ifB_eq (tgt := 110) (by decide) (fun hc81 => ?_) (fun hc81 => ?_)
                · skip
                  rw [hzh] at hc81; cases hc81 --STOP
                · skip
                  refine p_iloadn_3 ?_
                  refine p_aloadn_0 ?_
                  refine p_getr rfl rfl ?_
                  refine p_getr rfl rfl ?_
                  refine p_iload_5 ?_
                  refine p_aald rfl (by omega) (by decide) (zget_sg (by omega)) ?_
                  refine p_geti (zlay_sg (by omega)) rfl ((hS _ (by omega)).1) ?_
                  refine p_icmpN_ge (tgt := 110) (by decide) (by omega) (by omega) (fun hc98 => ?_) (fun hc98 => ?_)
                  · skip
                    rw [if_neg (by omega)]
                    refine zK.blk rfl ?_
                    refine p_bipush (v := -9) (by decide) ?_
                    refine zK.blk rfl ?_
                    exact p_iret trivial rfl rfl
                  · skip
                    rw [if_pos (by omega)]
                    refine p_iload_4 ?_
                    refine p_iloadn_3 ?_
                    refine p_cs2i rfl rfl rfl rfl rfl (c_18 hw31 (by omega)) ?_
                    refine p_goto (tgt := 112) (by decide) ?_
                    refine zK.blk rfl ?_
                    exact p_iret trivial rfl rfl
              · skip
                exact absurd (nI_nm1 (by omega)) hc66 --STOP
            · skip
              exact absurd (Nat.zero_le w) hc51 --STOP
          · skip
            rw [hb] at hc32; cases hc32 --STOP
        · skip
          exact absurd hp hc22 --STOP
set_option maxRecDepth 100000 in
set_option maxHeartbeats 4000000 in
theorem c_62s {sc : Nat × (Nat → Int32)} {d : Nat} {M : zM} {m q t : Nat} {P T K : Nat → Nat} {x : Int32} (hsg : sgC M m P T K) (hq1 : 1 ≤ q) (hq : q < 4) (ht : t < z22 q) (hb : zbar P m q = true) (hx1 : ¬ x < -1) (hx2 : x < nI 3) : zC 47 sc (d + 10) 62 [.ref 0, .int (nI q), .int (nI t), .int x] M (some (.int (-2))) (M) := by
  have hzc := zcnt_t hq1 hq
  have hzf := zfits_t hq ht
  refine z_enter (L := [.ref 0, .int (nI q), .int (nI t), .int x, .null, .null]) rfl rfl rfl ?_
  refine zK.blk rfl ?_
  refine p_iloadn_1 ?_
  refine p_cs1i rfl rfl rfl rfl rfl (c_82) ?_
  refine p_ifB_eq (tgt := 25) (by decide) (fun hc4 => ?_) (fun hc4 => ?_)
  · skip
    rw [hzc] at hc4; cases hc4 --STOP
  · skip
    refine p_iloadn_1 ?_
    refine p_iloadn_2 ?_
    refine p_cs2i rfl rfl rfl rfl rfl (c_0) ?_
    refine p_ifB_eq (tgt := 25) (by decide) (fun hc12 => ?_) (fun hc12 => ?_)
    · skip
      rw [hzf] at hc12; cases hc12 --STOP
    · skip
      refine p_iloadn_3 ?_
      refine p_iconst (v := -1) (by decide) ?_
      refine p_icmp_lt (tgt := 25) (by decide) (fun hc17 => ?_) (fun hc17 => ?_)
      · skip
        exact absurd hc17 hx1 --STOP
      · skip
        refine p_iloadn_3 ?_
        refine p_iconst (v := nI 3) (by decide) ?_
        refine p_icmp_lt (tgt := 27) (by decide) (fun hc22 => ?_) (fun hc22 => ?_)
        · skip
          refine zK.blk rfl ?_
          refine p_aloadn_0 ?_
          refine p_iloadn_1 ?_
          refine p_cv1i rfl rfl rfl rfl rfl (c_85 hsg (by omega)) ?_
          refine p_ifB_eq (tgt := 38) (by decide) (fun hc32 => ?_) (fun hc32 => ?_)
          · skip
            rw [hb] at hc32; cases hc32 --STOP
          · skip
            refine p_bipush (v := -2) (by decide) ?_
            exact p_iret trivial rfl rfl
        · skip
          exact absurd hx2 hc22 --STOP
set_option maxRecDepth 100000 in
set_option maxHeartbeats 4000000 in
theorem c_62b {sc : Nat × (Nat → Int32)} {d : Nat} {M : zM} {x y z : Int32} (hx : ¬ (zrl x y = true ∧ ¬ z < -1 ∧ z < nI 3)) : zC 47 sc (d + 10) 62 [.ref 0, .int x, .int y, .int z] M (some (.int (-1))) (M) := by
  unfold zrl at hx
  refine z_enter (L := [.ref 0, .int x, .int y, .int z, .null, .null]) rfl rfl rfl ?_
  refine zK.blk rfl ?_
  refine p_iloadn_1 ?_
  refine p_cs1i rfl rfl rfl rfl rfl (c_82) ?_
  refine p_ifB_eq (tgt := 25) (by decide) (fun hc4 => ?_) (fun hc4 => ?_)
  · skip
    refine zK.blk rfl ?_
    refine p_iconst (v := -1) (by decide) ?_
    exact p_iret trivial rfl rfl
  · skip
    refine p_iloadn_1 ?_
    refine p_iloadn_2 ?_
    refine p_cs2i rfl rfl rfl rfl rfl (c_0) ?_
    refine p_ifB_eq (tgt := 25) (by decide) (fun hc12 => ?_) (fun hc12 => ?_)
    · skip
      refine zK.blk rfl ?_
      refine p_iconst (v := -1) (by decide) ?_
      exact p_iret trivial rfl rfl
    · skip
      refine p_iloadn_3 ?_
      refine p_iconst (v := -1) (by decide) ?_
      refine p_icmp_lt (tgt := 25) (by decide) (fun hc17 => ?_) (fun hc17 => ?_)
      · skip
        refine zK.blk rfl ?_
        refine p_iconst (v := -1) (by decide) ?_
        exact p_iret trivial rfl rfl
      · skip
        refine p_iloadn_3 ?_
        refine p_iconst (v := nI 3) (by decide) ?_
        refine p_icmp_lt (tgt := 27) (by decide) (fun hc22 => ?_) (fun hc22 => ?_)
        · skip
          exact absurd ⟨by rw [hc4, hc12]; rfl, hc17, hc22⟩ hx --STOP
        · skip
          refine zK.blk rfl ?_
          refine p_iconst (v := -1) (by decide) ?_
          exact p_iret trivial rfl rfl
set_option maxRecDepth 100000 in
set_option maxHeartbeats 4000000 in
theorem c_78 {sc : Nat × (Nat → Int32)} {d : Nat} {M M2 : zM} {m rc i : Nat} {P T K : Nat → Nat} {c tb co de le : Nat → Nat} (hsg : sgC M m P T K) (hi : i < 4) (hb : zbar P m 3 = false) (hrc : zrc rc 3 256) (hR : zC 47 sc (d + 9) 86 [.ref 0, .int (nI 3)] M (some (.ref rc)) M2) (hcs : rcC M2 rc 256 c) (hfo : foC M2 tb co de le) : zC 47 sc (d + 10) 78 [.ref 0, .int (nI i)] M (some (.int (if c (tb i) = 1073741824 then -9 else nI (c (tb i))))) (M2) := by
  obtain ⟨hFo, hTb⟩ := id hfo
  have hz : zfo (nI i) = true := by unfold zfo; rw [decide_eq_true (nI_pos (by omega)), decide_eq_true (nI_ge hi (by decide))]; rfl
  refine z_enter (L := [.ref 0, .int (nI i)]) rfl rfl rfl ?_
  refine zK.blk rfl ?_
  refine p_iloadn_1 ?_
  refine p_cs1i rfl rfl rfl rfl rfl (c_84) ?_
  refine p_ifB_ne (tgt := 9) (by decide) (fun hc4 => ?_) (fun hc4 => ?_)
  · skip
    refine zK.blk rfl ?_
    refine p_aloadn_0 ?_
    refine p_iconst (v := nI 3) (by decide) ?_
    refine p_cv1i rfl rfl rfl rfl rfl (c_85 hsg (by decide)) ?_
    refine p_ifB_eq (tgt := 22) (by decide) (fun hc14 => ?_) (fun hc14 => ?_)
    · skip
      refine zK.blk rfl ?_
      refine p_aloadn_0 ?_
      refine p_iconst (v := nI 3) (by decide) ?_
      refine p_cv1a rfl rfl rfl rfl rfl (hR) ?_
      refine p_aloadn_0 ?_
      refine p_getr rfl rfl ?_
      refine p_iloadn_1 ?_
      refine p_aald rfl (by omega) (by decide) (zget_fo (by omega)) ?_
      refine p_geti (zlay_fo (by omega)) rfl ((hFo _ (by omega)).1) ?_
      refine p_cv1i rfl rfl rfl rfl (zl_r hrc) (c_50 hrc hcs (hTb i hi)) ?_
      refine zK.blk rfl ?_
      exact p_iret trivial rfl rfl
    · skip
      rw [hb] at hc14; cases hc14 --STOP
  · skip
    rw [hz] at hc4; cases hc4 --STOP
set_option maxRecDepth 100000 in
set_option maxHeartbeats 4000000 in
theorem c_78s {sc : Nat × (Nat → Int32)} {d : Nat} {M : zM} {m i : Nat} {P T K : Nat → Nat} (hsg : sgC M m P T K) (hi : i < 4) (hb : zbar P m 3 = true) : zC 47 sc (d + 10) 78 [.ref 0, .int (nI i)] M (some (.int (-2))) (M) := by
  have hz : zfo (nI i) = true := by unfold zfo; rw [decide_eq_true (nI_pos (by omega)), decide_eq_true (nI_ge hi (by decide))]; rfl
  refine z_enter (L := [.ref 0, .int (nI i)]) rfl rfl rfl ?_
  refine zK.blk rfl ?_
  refine p_iloadn_1 ?_
  refine p_cs1i rfl rfl rfl rfl rfl (c_84) ?_
  refine p_ifB_ne (tgt := 9) (by decide) (fun hc4 => ?_) (fun hc4 => ?_)
  · skip
    refine zK.blk rfl ?_
    refine p_aloadn_0 ?_
    refine p_iconst (v := nI 3) (by decide) ?_
    refine p_cv1i rfl rfl rfl rfl rfl (c_85 hsg (by decide)) ?_
    refine p_ifB_eq (tgt := 22) (by decide) (fun hc14 => ?_) (fun hc14 => ?_)
    · skip
      rw [hb] at hc14; cases hc14 --STOP
    · skip
      refine p_bipush (v := -2) (by decide) ?_
      refine p_goto (tgt := 39) (by decide) ?_
      refine zK.blk rfl ?_
      exact p_iret trivial rfl rfl
  · skip
    rw [hz] at hc4; cases hc4 --STOP
set_option maxRecDepth 100000 in
set_option maxHeartbeats 4000000 in
theorem c_78b {sc : Nat × (Nat → Int32)} {d : Nat} {M : zM} {x : Int32} (hx : zfo x = false) : zC 47 sc (d + 10) 78 [.ref 0, .int x] M (some (.int (-1))) (M) := by
  refine z_enter (L := [.ref 0, .int x]) rfl rfl rfl ?_
  refine zK.blk rfl ?_
  refine p_iloadn_1 ?_
  refine p_cs1i rfl rfl rfl rfl rfl (c_84) ?_
  refine p_ifB_ne (tgt := 9) (by decide) (fun hc4 => ?_) (fun hc4 => ?_)
  · skip
    rw [hx] at hc4; cases hc4 --STOP
  · skip
    refine p_iconst (v := -1) (by decide) ?_
    exact p_iret trivial rfl rfl
end
section
def cM (rc : Nat) (M : zM) (t : Nat) : Nat := (M (rc + 1) t).toNatClampNeg
def sM (rc : Nat) (M : zM) (t : Nat) : Nat := (M (rc + 3) t).toNatClampNeg
/-- joins of the table b with signs i .. i + j - 1 -/
def jsM (rc N s : Nat) (o : Nat → Nat) (D : Int32) (P T K : Nat → Nat) (b : Nat) : Nat → Nat → zM → zM
  | 0, _, M => M
  | j + 1, i, M => jsM rc N s o D P T K b j (i + 1) (jnM rc N s o D (P i) (K i) (T i * zrep (P i)) i b (P i) 0 M)
def zoo (o : Nat → Nat) (s b : Nat) : Nat → Nat := fun k => if k = s then b else o k
/-- the table b is settled, as number s, then joined -/
def spM (rc N m : Nat) (P T K : Nat → Nat) (s : Nat) (o : Nat → Nat) (b dr : Nat) (M : zM) : zM :=
  jsM rc N (s + 1) (zoo o s b) (nI dr) P T K b m 0 (zup (zup (zup (zup M rc 6 (nI dr)) (rc + 3) b (nI 1)) (rc + 4) s (nI b)) rc 7 (nI (s + 1)))
def exM (rc N m : Nat) (P T K : Nat → Nat) : Nat → Nat → (Nat → Nat) → zM → zM
  | 0, _, _, M => M
  | j + 1, s, o, M => match coN (cM rc M) (sM rc M) N 0 none 0 with
    | (none, dr) => zup M rc 6 (nI dr)
    | (some b, dr) => exM rc N m P T K j (s + 1) (zoo o s b) (spM rc N m P T K s o b dr M)
/-- all costs stay numbers along the way -/
def exOK (rc N m : Nat) (P T K : Nat → Nat) : Nat → Nat → (Nat → Nat) → zM → Prop
  | 0, _, _, _ => True
  | j + 1, s, o, M => rcS M rc N (cM rc M) (sM rc M) ∧ match coN (cM rc M) (sM rc M) N 0 none 0 with
    | (none, _) => True
    | (some b, dr) => exOK rc N m P T K j (s + 1) (zoo o s b) (spM rc N m P T K s o b dr M)
theorem coN_lt {c st : Nat → Nat} {N : Nat} : ∀ j i ob dr, i + j = N → (∀ b, ob = some b → b < N) → ∀ b, (coN c st j i ob dr).1 = some b → b < N := by
  intro j
  induction j with
  | zero => intro i ob dr h hob b hb; exact hob b hb
  | succ j ih =>
    intro i ob dr h hob b hb
    refine ih (i + 1) (coB c st i ob) (coD c i dr) (by omega) (fun b hb => ?_) b hb
    unfold coB at hb
    split at hb
    · exact hob b hb
    · split at hb
      · exact hob b hb
      · cases ob with
        | none => cases hb; omega
        | some x =>
          dsimp only at hb
          split at hb
          · cases hb; exact hob _ rfl
          · cases hb; omega
theorem jsM_ne {rc N s : Nat} {o : Nat → Nat} {D : Int32} {P T K : Nat → Nat} {b a : Nat} (h1 : ¬ a = rc + 1) (h2 : ¬ a = rc + 2) (x : Nat) : ∀ j i M, jsM rc N s o D P T K b j i M a x = M a x := by
  intro j
  induction j with
  | zero => intro i M; rfl
  | succ j ih =>
    intro i M
    show jsM rc N s o D P T K b j (i + 1) _ a x = _
    rw [ih, jnM_ne h1 h2]
theorem jsM_rcI {rc N s : Nat} {o : Nat → Nat} {D : Int32} {P T K : Nat → Nat} {b : Nat} : ∀ j i M, rcI M rc N s o D → rcI (jsM rc N s o D P T K b j i M) rc N s o D := by
  intro j
  induction j with
  | zero => intro i M h; exact h
  | succ j ih => intro i M h; exact ih _ _ (jnM_rcI _ _ _ h)
theorem sp_rcI {rc n N s : Nat} {o : Nat → Nat} {D : Int32} {b dr : Nat} {M : zM} (hrc : zrc rc n N) (h : rcI M rc N s o D) (hb : b < N) (hs : s < N) : rcI (zup (zup (zup (zup M rc 6 (nI dr)) (rc + 3) b (nI 1)) (rc + 4) s (nI b)) rc 7 (nI (s + 1))) rc N (s + 1) (zoo o s b) (nI dr) := by
  obtain ⟨h1, h2, h3, h4, h5⟩ := h
  refine ⟨by simp [zup]; exact h1, by simp [zup], by omega, by simp [zup], fun k hk => ?_⟩
  unfold zoo
  by_cases e : k = s
  · subst e; rw [if_pos rfl]; exact ⟨by simp [zup], hb⟩
  · rw [if_neg e]
    have := h5 k (by omega)
    exact ⟨by simp [zup, e]; exact this.1, this.2⟩
set_option maxRecDepth 100000 in
set_option maxHeartbeats 4000000 in
theorem lp_41_57 {sc : Nat × (Nat → Int32)} {d : Nat} {r : Option Value} {M' : zM} {rc n N s m s0 b : Nat} {o : Nat → Nat} {D : Int32} {P T K : Nat → Nat} (hrc : zrc rc n N) (hb : b < N) : ∀ (j i : Nat) (M : zM), rcI M rc N s o D → sgC M m P T K → i + j = m → zK 47 sc (zC 47 sc (d + 5)) 41 r M' 86 [.ref rc, .ref 1, .int (nI s0), .int (nI b), .int (nI m)] [] (jsM rc N s o D P T K b j i M) → zK 47 sc (zC 47 sc (d + 5)) 41 r M' 57 [.ref rc, .ref 1, .int (nI s0), .int (nI b), .int (nI i)] [] M := by
  intro j
  induction j with
  | zero =>
    intro i M hI hsg hj hk
    obtain ⟨hn6, hn, hR, hS⟩ := id hsg
    have hin : i = m := by omega
    subst hin
    refine zK.blk rfl ?_
    refine p_iload_4 ?_
    refine p_aloadn_1 ?_
    refine p_geti rfl rfl (hn) ?_
    refine p_icmpN_ge (tgt := 86) (by decide) (by omega) (by omega) (fun hc63 => ?_) (fun hc63 => ?_)
    · skip
      exact hk
    · skip
      exact absurd hc63 (by omega) --STOP
  | succ j ih =>
    intro i M hI hsg hj hk
    obtain ⟨hn6, hn, hR, hS⟩ := id hsg
    have hP := hR i (by omega)
    have hw := zwide_lt (P i) hP.1 (T i) hP.2.1
    have hr9 := zrc_ge hrc
    refine zK.blk rfl ?_
    refine p_iload_4 ?_
    refine p_aloadn_1 ?_
    refine p_geti rfl rfl (hn) ?_
    refine p_icmpN_ge (tgt := 86) (by decide) (by omega) (by omega) (fun hc63 => ?_) (fun hc63 => ?_)
    · skip
      exact absurd hc63 (by omega) --STOP
    · skip
      refine p_aloadn_0 ?_
      refine p_aloadn_1 ?_
      refine p_getr rfl rfl ?_
      refine p_iload_4 ?_
      refine p_aald rfl (by omega) (by decide) (zget_sg (by omega)) ?_
      refine p_iload_4 ?_
      refine p_iloadn_3 ?_
      refine p_cv3v rfl rfl rfl rfl (zl_r hrc) (c_44 hrc hI (by omega) (hS _ (by omega)).1 (hS _ (by omega)).2.2.1 (hS _ (by omega)).2.2.2.1 hP.1 (by omega) hb) ?_
      refine p_iinc_4 (zN_inc _ 1) rfl ?_
      refine p_goto (tgt := 57) (by decide) ?_
      exact ih (i + 1) _ (jnM_rcI _ _ _ hI) (sg_frame (fun a x h => jnM_ne (by omega) (by omega) x _ _ _) hsg) (by omega) hk
set_option maxRecDepth 100000 in
set_option maxHeartbeats 4000000 in
theorem lp_41_7 {sc : Nat × (Nat → Int32)} {d : Nat} {rc n N m : Nat} {P T K : Nat → Nat} (hrc : zrc rc n N) : ∀ (j s : Nat) (o : Nat → Nat) (M : zM) (D : Int32), rcI M rc N s o D → sgC M m P T K → exOK rc N m P T K j s o M → s + j = N → zK 47 sc (zC 47 sc (d + 5)) 41 none (zup (exM rc N m P T K j s o M) rc 8 (nI 1)) 7 [.ref rc, .ref 1, .int (nI s), .null, .null] [] M := by
  intro j
  induction j with
  | zero =>
    intro s o M D hI hsg hok hj
    have hN := zl_N hrc
    have hF := hI.1
    refine zK.blk rfl ?_
    refine p_iloadn_2 ?_
    refine p_aloadn_0 ?_
    refine p_geti (zl_r hrc) rfl (hF) ?_
    refine p_icmpN_gt (tgt := 92) (by decide) (by omega) (by omega) (fun hc12 => ?_) (fun hc12 => ?_)
    · skip
      refine zK.blk rfl ?_
      refine p_aloadn_0 ?_
      refine p_iconst (v := nI 1) (by decide) ?_
      refine p_put (zl_r hrc) rfl (by decide) ?_
      exact p_vret trivial rfl rfl
    · skip
      exact absurd hc12 (by omega) --STOP
  | succ j ih =>
    intro s o M D hI hsg hok hj
    have hN := zl_N hrc
    have hF := hI.1
    have hr9 := zrc_ge hrc
    obtain ⟨hS0, hnx⟩ := hok
    have hcall := c_43 (sc := sc) (d := d + 4) hrc hS0
    have hlt := coN_lt (c := cM rc M) (st := sM rc M) (N := N) N 0 none 0 (by omega) (fun b hb => by cases hb)
    have hex : exM rc N m P T K (j + 1) s o M = match coN (cM rc M) (sM rc M) N 0 none 0 with
      | (none, dr) => zup M rc 6 (nI dr)
      | (some b, dr) => exM rc N m P T K j (s + 1) (zoo o s b) (spM rc N m P T K s o b dr M) := rfl
    rw [hex]
    rcases hco : coN (cM rc M) (sM rc M) N 0 none 0 with ⟨ob, dr⟩
    rw [hco] at hcall hnx hlt
    cases ob with
    | none =>
      dsimp only at hcall ⊢
      refine zK.blk rfl ?_
      refine p_iloadn_2 ?_
      refine p_aloadn_0 ?_
      refine p_geti (zl_r hrc) rfl (hF) ?_
      refine p_icmpN_gt (tgt := 92) (by decide) (by omega) (by omega) (fun hc12 => ?_) (fun hc12 => ?_)
      · skip
        exact absurd hc12 (by omega) --STOP
      · skip
        refine p_aloadn_0 ?_
        refine p_cv0i rfl rfl rfl rfl (zl_r hrc) (hcall) ?_
        refine p_istoren_3 rfl ?_
        refine p_iloadn_3 ?_
        refine p_if_ge (tgt := 27) (by decide) (fun hc21 => ?_) (fun hc21 => ?_)
        · skip
          exact absurd hc21 (by decide) --STOP
        · skip
          refine p_goto (tgt := 92) (by decide) ?_
          refine zK.blk rfl ?_
          refine p_aloadn_0 ?_
          refine p_iconst (v := nI 1) (by decide) ?_
          refine p_put (zl_r hrc) rfl (by decide) ?_
          exact p_vret trivial rfl rfl
    | some b =>
      dsimp only at hcall hnx hlt ⊢
      have hb := hlt b rfl
      refine zK.blk rfl ?_
      refine p_iloadn_2 ?_
      refine p_aloadn_0 ?_
      refine p_geti (zl_r hrc) rfl (hF) ?_
      refine p_icmpN_gt (tgt := 92) (by decide) (by omega) (by omega) (fun hc12 => ?_) (fun hc12 => ?_)
      · skip
        exact absurd hc12 (by omega) --STOP
      · skip
        refine p_aloadn_0 ?_
        refine p_cv0i rfl rfl rfl rfl (zl_r hrc) (hcall) ?_
        refine p_istoren_3 rfl ?_
        refine p_iloadn_3 ?_
        refine p_if_ge (tgt := 27) (by decide) (fun hc21 => ?_) (fun hc21 => ?_)
        · skip
          rw [show zob (some b) = nI b from rfl]
          refine zK.blk rfl ?_
          refine p_aloadn_0 ?_
          refine p_getr (zl_r hrc) rfl ?_
          refine p_iloadn_3 ?_
          refine p_iconst (v := nI 1) (by decide) ?_
          refine p_zast (v := nI 1) (zl_a4 hrc) (by omega) (zl_n hrc) (by decide) ?_
          refine p_aloadn_0 ?_
          refine p_getr (zl_r hrc) rfl ?_
          refine p_aloadn_0 ?_
          refine p_geti (v := nI s) (zl_r hrc) rfl (by simp [zup]; exact hI.2.1) ?_
          refine p_iloadn_3 ?_
          refine p_iast (zl_a5 hrc) (by omega) (zl_n hrc) ?_
          refine p_aloadn_0 ?_
          refine p_dupa ?_
          refine p_geti (v := nI s) (zl_r hrc) rfl (by simp [zup]; exact hI.2.1) ?_
          refine p_iconst (v := nI 1) (by decide) ?_
          refine p_iaddN ?_
          refine p_put (zl_r hrc) rfl (by simp) ?_
          refine p_iconst (v := nI 0) (by decide) ?_
          refine p_istore_4 rfl ?_
          refine lp_41_57 (s := s + 1) (o := zoo o s b) (D := nI dr) hrc hb m 0 _ (sp_rcI hrc hI hb (by omega)) (sg_frame (fun a x h => by unfold zup; rw [if_neg (by omega), if_neg (by omega), if_neg (by omega), if_neg (by omega)]) hsg) (by omega) ?_
          refine zK.blk rfl ?_
          refine p_iinc_2 (zN_inc _ 1) rfl ?_
          refine p_goto (tgt := 7) (by decide) ?_
          refine zK.forget _ ?_ (ih (s + 1) (zoo o s b) _ (nI dr) (jsM_rcI _ _ _ (sp_rcI hrc hI hb (by omega))) (sg_frame (fun a x h => by unfold spM; rw [jsM_ne (by omega) (by omega)]; unfold zup; rw [if_neg (by omega), if_neg (by omega), if_neg (by omega), if_neg (by omega)]) hsg) hnx (by omega))
          exact ⟨Or.inl rfl, Or.inl rfl, Or.inl rfl, Or.inr rfl, Or.inr rfl, trivial⟩
        · skip
          exact absurd (nI_pos' (by omega)) hc21 --STOP
theorem bgM_ne {rc n N m : Nat} {P T K : Nat → Nat} {M : zM} {a : Nat} (h1 : ¬ a = rc + 1) (h2 : ¬ a = rc + 2) (h3 : ¬ a = rc + 3) (h0 : ¬ a = rc) (b : Nat) : bgM rc n N m P T K M a b = M a b := by
  unfold bgM
  rw [bg3_ne h1 h2, bg2_ne h1, bgF_ne h1 h2 h3]
  unfold zup
  rw [if_neg h0]
theorem bgM_rc {rc n N m : Nat} {P T K : Nat → Nat} {M : zM} (b : Nat) : bgM rc n N m P T K M rc b = if b = 7 then nI 0 else M rc b := by
  unfold bgM
  rw [bg3_ne (by omega) (by omega), bg2_ne (by omega), bgF_ne (by omega) (by omega) (by omega)]
  unfold zup
  rw [if_pos rfl]
set_option maxRecDepth 100000 in
set_option maxHeartbeats 4000000 in
theorem c_41 {sc : Nat × (Nat → Int32)} {d : Nat} {M : zM} {rc n N m : Nat} {P T K : Nat → Nat} (hrc : zrc rc n N) (hF : M rc 1 = nI (N - 1)) (h0 : M rc 0 = nI n) (hsg : sgC M m P T K) (hok : exOK rc N m P T K N 0 (fun _ => 0) (bgM rc n N m P T K M)) : zC 47 sc (d + 6) 41 [.ref rc, .ref 1] M (none) (zup (exM rc N m P T K N 0 (fun _ => 0) (bgM rc n N m P T K M)) rc 8 (nI 1)) := by
  have hN := zl_N hrc
  have hr9 := zrc_ge hrc
  refine z_enter (L := [.ref rc, .ref 1, .null, .null, .null]) rfl rfl rfl ?_
  refine zK.blk rfl ?_
  refine p_aloadn_0 ?_
  refine p_aloadn_1 ?_
  refine p_cv1v rfl rfl rfl rfl (zl_r hrc) (c_42 hrc hF h0 hsg) ?_
  refine p_iconst (v := nI 0) (by decide) ?_
  refine p_istoren_2 rfl ?_
  exact lp_41_7 hrc N 0 _ _ (M rc 6) ⟨by rw [bgM_rc, if_neg (by decide)]; exact hF, by rw [bgM_rc, if_pos rfl], by omega, by rw [bgM_rc, if_neg (by decide)], fun k hk => absurd hk (by omega)⟩ (sg_frame (fun a b h => bgM_ne (by omega) (by omega) (by omega) (by omega) b) hsg) hok (by omega)
end
section
/-! the bytes of a long, on both sides -/
def bvN (v : Int64) (j : Nat) : Nat := v.toBitVec.toNat >>> (8 * j) % 256
theorem bvN_lt (v : Int64) (j : Nat) : bvN v j < 256 := Nat.mod_lt _ (by decide)
theorem bvN_bit (v : Int64) (j i : Nat) : (BitVec.ofNat 32 (bvN v j)).getLsbD i = (decide (i < 8) && v.toBitVec.getLsbD (8 * j + i)) := by
  unfold bvN
  rw [BitVec.getLsbD_ofNat, show (256 : Nat) = 2 ^ 8 from rfl, Nat.testBit_mod_two_pow, Nat.testBit_shiftRight]
  by_cases h : i < 8
  · have : i < 32 := by omega
    simp [h, this, BitVec.getLsbD]
  · simp [h]
theorem bvM_ok (v : Int64) {j : Nat} (hj : j < 8) : bvM v j = nI (bvN v j) := by
  unfold bvM
  apply zN_ext
  rw [zN_bv]
  apply BitVec.eq_of_getLsbD_eq
  intro i hi
  rw [bvN_bit]
  have e : ((nI (8 * j)).toInt64 &&& 63).toBitVec.smod 64 = BitVec.ofNat 64 (8 * j) := by
    rcases (show j = 0 ∨ j = 1 ∨ j = 2 ∨ j = 3 ∨ j = 4 ∨ j = 5 ∨ j = 6 ∨ j = 7 by omega) with rfl | rfl | rfl | rfl | rfl | rfl | rfl | rfl <;> decide
  rw [Int64.toBitVec_toInt32, BitVec.getLsbD_signExtend, Int64.toBitVec_and, Int64.toBitVec_shiftRight, e]
  rw [BitVec.getLsbD_and]
  have h255 : (Int64.ofNat 255).toBitVec.getLsbD i = decide (i < 8) := by
    have : (Int64.ofNat 255).toBitVec = BitVec.ofNat 64 255 := rfl
    rw [this, BitVec.getLsbD_ofNat, show (255 : Nat) = 2 ^ 8 - 1 from rfl, Nat.testBit_two_pow_sub_one]
    have : i < 64 := by omega
    simp [this]
  rw [h255]
  by_cases h : i < 8
  · rw [BitVec.sshiftRight_eq', BitVec.getLsbD_sshiftRight]
    have h1 : (BitVec.ofNat 64 (8 * j)).toNat = 8 * j := by
      rw [BitVec.toNat_ofNat]; exact Nat.mod_eq_of_lt (by omega)
    rw [h1]
    have h2 : ¬ 64 ≤ i := by omega
    have h3 : 8 * j + i < 64 := by omega
    simp [h, h2, h3, hi]
  · have h64 : ¬ 64 ≤ i := by omega
    simp [h, h64]
theorem bvC_ok (v : Int64) {j : Nat} (hj : j < 8) : bvC v j &&& nI 255 = nI (bvN v j) := by
  unfold bvC vp_nar narrow
  dsimp only
  apply zN_ext
  rw [zN_bv]
  apply BitVec.eq_of_getLsbD_eq
  intro i hi
  rw [bvN_bit, Int32.toBitVec_and, BitVec.getLsbD_and]
  have h255 : (nI 255).toBitVec.getLsbD i = decide (i < 8) := by
    rw [zN_bv, BitVec.getLsbD_ofNat, show (255 : Nat) = 2 ^ 8 - 1 from rfl, Nat.testBit_two_pow_sub_one]
    simp [hi]
  rw [h255]
  by_cases h : i < 8
  · have e : ((nI (8 * j)).toInt64.toUInt64 &&& Int64.toUInt64 63).toBitVec % 64 = BitVec.ofNat 64 (8 * j) := by
      rcases (show j = 0 ∨ j = 1 ∨ j = 2 ∨ j = 3 ∨ j = 4 ∨ j = 5 ∨ j = 6 ∨ j = 7 by omega) with rfl | rfl | rfl | rfl | rfl | rfl | rfl | rfl <;> decide
    have h1 : (BitVec.ofNat 64 (8 * j)).toNat = 8 * j := by
      rw [BitVec.toNat_ofNat]; exact Nat.mod_eq_of_lt (by omega)
    rw [Int8.toBitVec_toInt32, BitVec.getLsbD_signExtend, Int32.toBitVec_toInt8, BitVec.getLsbD_signExtend, Int8.toBitVec_toInt32, BitVec.getLsbD_signExtend, Int32.toBitVec_toInt8, BitVec.getLsbD_signExtend, Int64.toBitVec_toInt32, BitVec.getLsbD_signExtend]
    have e2 : ((v.toUInt64 >>> ((nI (8 * j)).toInt64.toUInt64 &&& Int64.toUInt64 63)).toInt64).toBitVec = v.toBitVec >>> (8 * j) := by
      show (v.toUInt64 >>> ((nI (8 * j)).toInt64.toUInt64 &&& Int64.toUInt64 63)).toBitVec = _
      rw [UInt64.toBitVec_shiftRight, e, BitVec.ushiftRight_eq', h1]
      rfl
    rw [e2, BitVec.getLsbD_ushiftRight]
    have q1 : i < 32 := hi
    have q2 : i < 64 := by omega
    simp [h, q1, q2]
  · simp [h]
end
section
/-- the reference's text: len bytes Y -/
def txM (M : zM) (len : Nat) (Y : Nat → Nat) : Prop := M 33 10 = nI len ∧ len ≤ 80 ∧ ∀ j, j < len → M 38 j = nI (Y j) ∧ Y j < 256
def zYN (v : Int64) : Nat → Nat → (Nat → Nat) → Nat → Nat
  | 0, _, Y => Y
  | j + 1, len, Y => zYN v j (len + 1) (fun k => if k = len then bvN v j else Y k)
theorem zapC_tx (v : Int64) : ∀ (j len : Nat) (M : zM) (Y : Nat → Nat), j ≤ 8 → len + j ≤ 80 → txC M len Y → txC (zapC v j len M) (len + j) (zYN v j len Y) := by
  intro j
  induction j with
  | zero => intro len M Y _ _ h; exact h
  | succ j ih =>
    intro len M Y h8 h80 h
    rw [show len + (j + 1) = len + 1 + j by omega]
    refine ih (len + 1) _ _ (by omega) (by omega) ⟨by simp [zup], by omega, fun k hk => ?_⟩
    dsimp only
    by_cases e : k = len
    · subst e
      rw [if_pos rfl]
      refine ⟨?_, bvN_lt v j⟩
      rw [show zup (zup M 25 k (bvC v j)) 24 1 (nI (k + 1)) 25 k = bvC v j by simp [zup]]
      exact bvC_ok v (by omega)
    · rw [if_neg e]
      have := h.2.2 k (by omega)
      refine ⟨?_, this.2⟩
      rw [show zup (zup M 25 len (bvC v j)) 24 1 (nI (len + 1)) 25 k = M 25 k by simp [zup, e]]
      exact this.1
theorem zapM_tx (v : Int64) : ∀ (j len : Nat) (M : zM) (Y : Nat → Nat), j ≤ 8 → len + j ≤ 80 → txM M len Y → txM (zapM v j len M) (len + j) (zYN v j len Y) := by
  intro j
  induction j with
  | zero => intro len M Y _ _ h; exact h
  | succ j ih =>
    intro len M Y h8 h80 h
    rw [show len + (j + 1) = len + 1 + j by omega]
    refine ih (len + 1) _ _ (by omega) (by omega) ⟨by simp [zup], by omega, fun k hk => ?_⟩
    dsimp only
    by_cases e : k = len
    · subst e
      rw [if_pos rfl]
      refine ⟨?_, bvN_lt v j⟩
      rw [show zup (zup M 38 k (bvM v j)) 33 10 (nI (k + 1)) 38 k = bvM v j by simp [zup]]
      exact bvM_ok v (by omega)
    · rw [if_neg e]
      have := h.2.2 k (by omega)
      refine ⟨?_, this.2⟩
      rw [show zup (zup M 38 len (bvM v j)) 33 10 (nI (len + 1)) 38 k = M 38 k by simp [zup, e]]
      exact this.1
theorem zapC_ne (v : Int64) {a : Nat} (b : Nat) (h1 : ¬ a = 24) (h2 : ¬ a = 25) : ∀ (j len : Nat) (M : zM), zapC v j len M a b = M a b := by
  intro j
  induction j with
  | zero => intro len M; rfl
  | succ j ih =>
    intro len M
    show zapC v j (len + 1) _ a b = _
    rw [ih]
    unfold zup
    rw [if_neg h1, if_neg h2]
theorem zapM_ne (v : Int64) {a b : Nat} (h1 : ¬ (a = 33 ∧ b = 10)) (h2 : ¬ a = 38) : ∀ (j len : Nat) (M : zM), zapM v j len M a b = M a b := by
  intro j
  induction j with
  | zero => intro len M; rfl
  | succ j ih =>
    intro len M
    show zapM v j (len + 1) _ a b = _
    rw [ih]
    unfold zup
    by_cases e : a = 33
    · rw [if_pos e, if_neg (fun z => h1 ⟨e, z⟩), if_neg h2]
    · rw [if_neg e, if_neg h2]
end
section
def onF (t r a : Nat) : Nat := a + (t >>> r &&& 1)
def fFormN (t co de le w : Nat) : Nat := if w = 0 then t else if w = 1 then co else if w = 2 then de else if w = 3 then le else if w = 4 then mpN 3 t else if w = 5 then ohN 3 t else if w = 6 then bcN t else kbN 3 t
set_option maxRecDepth 100000 in
set_option maxHeartbeats 4000000 in
theorem lp_133_38 {sc : Nat × (Nat → Int32)} {d : Nat} {M : zM} {r : Option Value} {M' : zM} {i0 w t : Nat} (ht : t < 2 ^ 31) : ∀ (j i v : Nat), i + j = 8 → zK 47 sc (zC 47 sc (d + 9)) 133 r M' 62 [.ref 33, .int (nI i0), .int (nI w), .int (nI t), .int (nI (zfor (onF t) j i v)), .int (nI 8)] [] (M) → zK 47 sc (zC 47 sc (d + 9)) 133 r M' 38 [.ref 33, .int (nI i0), .int (nI w), .int (nI t), .int (nI v), .int (nI i)] [] (M) := by
  intro j
  induction j with
  | zero =>
    intro i v  hj hk
    obtain rfl : i = 8 := by omega
    refine zK.blk rfl ?_
    refine p_iload_5 ?_
    refine p_bipush (v := nI 8) (by decide) ?_
    refine p_icmpN_ge (tgt := 62) (by decide) (by omega) (by omega) (fun hc42 => ?_) (fun hc42 => ?_)
    · skip
      exact hk
    · skip
      exact absurd hc42 (by omega) --STOP
  | succ j ih =>
    intro i v  hj hk
    refine zK.blk rfl ?_
    refine p_iload_5 ?_
    refine p_bipush (v := nI 8) (by decide) ?_
    refine p_icmpN_ge (tgt := 62) (by decide) (by omega) (by omega) (fun hc42 => ?_) (fun hc42 => ?_)
    · skip
      exact absurd hc42 (by omega) --STOP
    · skip
      refine p_iload_4 ?_
      refine p_iloadn_3 ?_
      refine p_iload_5 ?_
      refine p_ishrN (by omega) (by omega) ?_
      refine p_iconst (v := nI 1) (by decide) ?_
      refine p_iandN ?_
      refine p_iaddN ?_
      refine p_istore_4 rfl ?_
      refine p_iinc_5 (zN_inc _ 1) rfl ?_
      refine p_goto (tgt := 38) (by decide) ?_
      exact ih _ _ (by omega) hk
set_option maxRecDepth 100000 in
set_option maxHeartbeats 4000000 in
theorem c_133 {sc : Nat × (Nat → Int32)} {d : Nat} {M M2 : zM} {n : Nat} {P T K : Nat → Nat} {i0 w t co de le : Nat} (hsm : sgM M n P T K) (hi : i0 < 4) (hw : w ≤ 7) (ht : t < 256) (hTb : zC 47 sc (d + 9) 132 [.ref 33, .int (nI i0)] M (some (.int (nI t))) M2) (h45 : M2 45 0 = nI co) (h46 : M2 46 0 = nI de) (h40 : M2 40 i0 = nI le) : zC 47 sc (d + 10) 133 [.ref 33, .int (nI i0), .int (nI w)] M (some (.int (nI (fFormN t co de le w)))) (M2) := by
  obtain ⟨hth, hm, hn6, hR, hT⟩ := id hsm
  have e1 := zin_t (a := i0) (lo := 0) (hi := 3) (by omega) (by omega) (by decide)
  have e2 := zin_t (a := w) (lo := 0) (hi := 7) (by omega) (by omega) (by decide)
  refine z_enter (L := [.ref 33, .int (nI i0), .int (nI w), .null, .null, .null]) rfl rfl rfl ?_
  refine zK.blk rfl ?_
  refine p_aloadn_0 ?_
  refine p_iconst (v := nI 0) (by decide) ?_
  refine p_put rfl rfl (by simp) ?_
  rw [zup_id hth]
  refine p_iloadn_1 ?_
  refine p_iconst (v := nI 0) (by decide) ?_
  refine p_iconst (v := nI 3) (by decide) ?_
  refine p_cs3i rfl rfl rfl rfl rfl (c_89) ?_
  refine p_ifB_eq (tgt := 24) (by decide) (fun hc11 => ?_) (fun hc11 => ?_)
  · skip
    rw [e1] at hc11; cases hc11 --STOP
  · skip
    refine p_iloadn_2 ?_
    refine p_iconst (v := nI 0) (by decide) ?_
    refine p_bipush (v := nI 7) (by decide) ?_
    refine p_cs3i rfl rfl rfl rfl rfl (c_89) ?_
    refine p_ifB_ne (tgt := 26) (by decide) (fun hc21 => ?_) (fun hc21 => ?_)
    · skip
      refine zK.blk rfl ?_
      refine p_aloadn_0 ?_
      refine p_iloadn_1 ?_
      refine p_cv1i rfl rfl rfl rfl rfl (hTb) ?_
      refine p_istoren_3 rfl ?_
      refine p_iconst (v := nI 0) (by decide) ?_
      refine p_istore_4 rfl ?_
      refine p_iconst (v := nI 0) (by decide) ?_
      refine p_istore_5 rfl ?_
      refine lp_133_38 (by omega) 8 0 0 (by omega) ?_
      refine zK.blk rfl ?_
      refine p_iloadn_2 ?_
      refine p_tab (td := 140) (N := 6) (by decide) rfl (by decide) (fun i => if i = 0 then 104 else if i = 1 then 106 else if i = 2 then 113 else if i = 3 then 120 else if i = 4 then 127 else if i = 5 then 132 else 137) (fun i hi => by rcases (show i = 0 ∨ i = 1 ∨ i = 2 ∨ i = 3 ∨ i = 4 ∨ i = 5 ∨ i = 6 by omega) with rfl | rfl | rfl | rfl | rfl | rfl | rfl <;> exact ⟨_, rfl, by decide⟩) (fun hno => ?_) (fun i hi e => ?_)
      · have hw7 : w = 7 := by
          apply Classical.byContradiction
          intro hne
          exact hno w (by omega) rfl
        subst hw7
        rw [show fFormN t co de le 7 = kmN 3 t from (kb_km 3 (by decide) t (by rw [z22_3]; exact ht)).1]
        refine zK.blk rfl ?_
        refine p_iconst (v := nI 3) (by decide) ?_
        refine p_iloadn_3 ?_
        refine p_cs2i rfl rfl rfl rfl rfl (c_94 (by decide) (by rw [z22_3]; exact ht)) ?_
        exact p_iret trivial rfl rfl
      · obtain rfl : w = i := (nI_eq (by omega) (by omega)).mp e
        rcases (show w = 0 ∨ w = 1 ∨ w = 2 ∨ w = 3 ∨ w = 4 ∨ w = 5 ∨ w = 6 by omega) with rfl | rfl | rfl | rfl | rfl | rfl | rfl
        · skip
          refine zK.blk rfl ?_
          refine p_iloadn_3 ?_
          exact p_iret trivial rfl rfl
        · skip
          refine zK.blk rfl ?_
          refine p_aloadn_0 ?_
          refine p_getr rfl rfl ?_
          refine p_iconst (v := nI 0) (by decide) ?_
          refine p_iald rfl (by omega) (by decide) (h45) ?_
          exact p_iret trivial rfl rfl
        · skip
          refine zK.blk rfl ?_
          refine p_aloadn_0 ?_
          refine p_getr rfl rfl ?_
          refine p_iconst (v := nI 0) (by decide) ?_
          refine p_iald rfl (by omega) (by decide) (h46) ?_
          exact p_iret trivial rfl rfl
        · skip
          refine zK.blk rfl ?_
          refine p_aloadn_0 ?_
          refine p_getr rfl rfl ?_
          refine p_iloadn_1 ?_
          refine p_iald rfl (by omega) (by decide) (h40) ?_
          exact p_iret trivial rfl rfl
        · rw [show fFormN t co de le 4 = maN t from (mp_ma t ht).1]
          refine zK.blk rfl ?_
          refine p_iloadn_3 ?_
          refine p_cs1i rfl rfl rfl rfl rfl (c_131 (by omega)) ?_
          exact p_iret trivial rfl rfl
        · rw [show fFormN t co de le 5 = moN t from (oh_mo t ht).1]
          refine zK.blk rfl ?_
          refine p_iloadn_3 ?_
          refine p_cs1i rfl rfl rfl rfl rfl (c_130 (by omega)) ?_
          exact p_iret trivial rfl rfl
        · rw [show fFormN t co de le 6 = zfor (onF t) 8 0 0 from bcN_ok t ht]
          refine zK.blk rfl ?_
          refine p_iload_4 ?_
          exact p_iret trivial rfl rfl
    · skip
      rw [e2] at hc21; cases hc21 --STOP
end
