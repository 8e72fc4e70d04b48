-- ===== PART A: goes FIRST, ahead of the names: the tables' words, and 'selects' of the private methods out of them =====
/-- a private method of a class that the tables say can be made, by its rows of tables_1 -/
def lw_okq (q : MethodName × Nat) : Prop := (q.1.cls ≠ "java/lang/invoke/MethodHandle" ∧ q.1.cls ≠ "java/lang/invoke/VarHandle") ∧ Cond.instantiable q.1.cls q.2 ∈ tables_1 ∧ Cond.privateMethod q.1 ∈ tables_1 ∧ Cond.instanceMethod q.1 ∈ tables_1
theorem lw_p0 : lw_okq (⟨"CrossedModulesLaw$World", "group", "(LCrossedModulesLaw$Draws;)V"⟩, 8) := ⟨⟨by decide +kernel, by decide +kernel⟩, List.mem_of_getElem? (i := 315) (by decide +kernel), List.mem_of_getElem? (i := 486) (by decide +kernel), List.mem_of_getElem? (i := 487) (by decide +kernel)⟩
theorem lw_p1 : lw_okq (⟨"CrossedModulesLaw$World", "module", "(LCrossedModulesLaw$Draws;)V"⟩, 8) := ⟨⟨by decide +kernel, by decide +kernel⟩, List.mem_of_getElem? (i := 315) (by decide +kernel), List.mem_of_getElem? (i := 557) (by decide +kernel), List.mem_of_getElem? (i := 558) (by decide +kernel)⟩
theorem lw_p2 : lw_okq (⟨"CrossedModulesLaw$World", "arrow", "(LCrossedModulesLaw$Draws;)V"⟩, 8) := ⟨⟨by decide +kernel, by decide +kernel⟩, List.mem_of_getElem? (i := 315) (by decide +kernel), List.mem_of_getElem? (i := 613) (by decide +kernel), List.mem_of_getElem? (i := 614) (by decide +kernel)⟩
theorem lw_p3 : lw_okq (⟨"CrossedModules", "appendWord", "(I)V"⟩, 14) := ⟨⟨by decide +kernel, by decide +kernel⟩, List.mem_of_getElem? (i := 33) (by decide +kernel), List.mem_of_getElem? (i := 704) (by decide +kernel), List.mem_of_getElem? (i := 705) (by decide +kernel)⟩
theorem lw_p4 : lw_okq (⟨"java/lang/Throwable", "fillInStackTrace", "(I)Ljava/lang/Throwable;"⟩, 6) := ⟨⟨by decide +kernel, by decide +kernel⟩, List.mem_of_getElem? (i := 753) (by decide +kernel), List.mem_of_getElem? (i := 751) (by decide +kernel), List.mem_of_getElem? (i := 752) (by decide +kernel)⟩
theorem lw_p5 : lw_okq (⟨"CrossedModules", "forgetChanges", "()V"⟩, 14) := ⟨⟨by decide +kernel, by decide +kernel⟩, List.mem_of_getElem? (i := 33) (by decide +kernel), List.mem_of_getElem? (i := 1081) (by decide +kernel), List.mem_of_getElem? (i := 1082) (by decide +kernel)⟩
theorem lw_p6 : lw_okq (⟨"CrossedModules", "demandText", "()V"⟩, 14) := ⟨⟨by decide +kernel, by decide +kernel⟩, List.mem_of_getElem? (i := 33) (by decide +kernel), List.mem_of_getElem? (i := 1098) (by decide +kernel), List.mem_of_getElem? (i := 1099) (by decide +kernel)⟩
theorem lw_p7 : lw_okq (⟨"CrossedModules", "groupAt", "(I)LCrossedModules$Group;"⟩, 14) := ⟨⟨by decide +kernel, by decide +kernel⟩, List.mem_of_getElem? (i := 33) (by decide +kernel), List.mem_of_getElem? (i := 1146) (by decide +kernel), List.mem_of_getElem? (i := 1147) (by decide +kernel)⟩
theorem lw_p8 : lw_okq (⟨"CrossedModules", "moduleAt", "(I)LCrossedModules$Crossed;"⟩, 14) := ⟨⟨by decide +kernel, by decide +kernel⟩, List.mem_of_getElem? (i := 33) (by decide +kernel), List.mem_of_getElem? (i := 1176) (by decide +kernel), List.mem_of_getElem? (i := 1177) (by decide +kernel)⟩
theorem lw_p9 : lw_okq (⟨"CrossedModules", "lawfulModuleAt", "(I)LCrossedModules$Crossed;"⟩, 14) := ⟨⟨by decide +kernel, by decide +kernel⟩, List.mem_of_getElem? (i := 33) (by decide +kernel), List.mem_of_getElem? (i := 1194) (by decide +kernel), List.mem_of_getElem? (i := 1195) (by decide +kernel)⟩
theorem lw_p10 : lw_okq (⟨"CrossedModules", "arrowAt", "(I)LCrossedModules$Arrow;"⟩, 14) := ⟨⟨by decide +kernel, by decide +kernel⟩, List.mem_of_getElem? (i := 33) (by decide +kernel), List.mem_of_getElem? (i := 1331) (by decide +kernel), List.mem_of_getElem? (i := 1332) (by decide +kernel)⟩
theorem lw_p11 : lw_okq (⟨"CrossedModules", "beginChange", "()V"⟩, 14) := ⟨⟨by decide +kernel, by decide +kernel⟩, List.mem_of_getElem? (i := 33) (by decide +kernel), List.mem_of_getElem? (i := 1426) (by decide +kernel), List.mem_of_getElem? (i := 1427) (by decide +kernel)⟩
theorem lw_p12 : lw_okq (⟨"CrossedModules", "undoPlace", "(I)I"⟩, 14) := ⟨⟨by decide +kernel, by decide +kernel⟩, List.mem_of_getElem? (i := 33) (by decide +kernel), List.mem_of_getElem? (i := 1430) (by decide +kernel), List.mem_of_getElem? (i := 1431) (by decide +kernel)⟩
theorem lw_p13 : lw_okq (⟨"CrossedModules", "write", "(I)V"⟩, 14) := ⟨⟨by decide +kernel, by decide +kernel⟩, List.mem_of_getElem? (i := 33) (by decide +kernel), List.mem_of_getElem? (i := 1584) (by decide +kernel), List.mem_of_getElem? (i := 1585) (by decide +kernel)⟩
def lw_privs_1 : List (MethodName × Nat) := [(⟨"CrossedModulesLaw$World", "group", "(LCrossedModulesLaw$Draws;)V"⟩, 8), (⟨"CrossedModulesLaw$World", "module", "(LCrossedModulesLaw$Draws;)V"⟩, 8), (⟨"CrossedModulesLaw$World", "arrow", "(LCrossedModulesLaw$Draws;)V"⟩, 8), (⟨"CrossedModules", "appendWord", "(I)V"⟩, 14), (⟨"java/lang/Throwable", "fillInStackTrace", "(I)Ljava/lang/Throwable;"⟩, 6), (⟨"CrossedModules", "forgetChanges", "()V"⟩, 14), (⟨"CrossedModules", "demandText", "()V"⟩, 14), (⟨"CrossedModules", "groupAt", "(I)LCrossedModules$Group;"⟩, 14), (⟨"CrossedModules", "moduleAt", "(I)LCrossedModules$Crossed;"⟩, 14), (⟨"CrossedModules", "lawfulModuleAt", "(I)LCrossedModules$Crossed;"⟩, 14), (⟨"CrossedModules", "arrowAt", "(I)LCrossedModules$Arrow;"⟩, 14), (⟨"CrossedModules", "beginChange", "()V"⟩, 14), (⟨"CrossedModules", "undoPlace", "(I)I"⟩, 14), (⟨"CrossedModules", "write", "(I)V"⟩, 14)]
theorem lw_r1 : ∀ q ∈ lw_privs_1, lw_okq q := List.forall_mem_cons.mpr ⟨lw_p0, List.forall_mem_cons.mpr ⟨lw_p1, List.forall_mem_cons.mpr ⟨lw_p2, List.forall_mem_cons.mpr ⟨lw_p3, List.forall_mem_cons.mpr ⟨lw_p4, List.forall_mem_cons.mpr ⟨lw_p5, List.forall_mem_cons.mpr ⟨lw_p6, List.forall_mem_cons.mpr ⟨lw_p7, List.forall_mem_cons.mpr ⟨lw_p8, List.forall_mem_cons.mpr ⟨lw_p9, List.forall_mem_cons.mpr ⟨lw_p10, List.forall_mem_cons.mpr ⟨lw_p11, List.forall_mem_cons.mpr ⟨lw_p12, List.forall_mem_cons.mpr ⟨lw_p13, fun _ h => absurd h List.not_mem_nil⟩⟩⟩⟩⟩⟩⟩⟩⟩⟩⟩⟩⟩⟩
def lw_privs : List (MethodName × Nat) := lw_privs_1
def lw_tbl : List Cond := k2_sels lw_privs ++ tables_1
theorem lw_privs_ok : ∀ q ∈ lw_privs, lw_okq q := lw_r1
-- ===== end of PART A; then your names; then what follows =====
def RX0 : String := "CrossedModules$Arrow"
def TX0 : u_T := fun k => match k with
  | 0 => ("CrossedModules$Arrow", "from", "LCrossedModules$Crossed;", false)
  | 1 => ("CrossedModules$Arrow", "to", "LCrossedModules$Crossed;", false)
  | 2 => ("CrossedModules$Arrow", "tops", "[I", true)
  | _ => ("CrossedModules$Arrow", "bottoms", "[I", true)
def tyX0 : Nat → FieldType := fun k => match k with
  | 0 => .object "CrossedModules$Crossed"
  | 1 => .object "CrossedModules$Crossed"
  | 2 => .array .int
  | _ => .array .int
abbrev wsX00 : List Cond := u_ws RX0 TX0 4
theorem nmX0 : ∀ a, a < 4 → ∀ b, b < 4 → a ≠ b → (TX0 a).2.1 ≠ (TX0 b).2.1 := by decide +kernel
theorem tyX0_ok : ∀ k, k < 4 → parseFieldDescriptor (TX0 k).2.2.1 = some (tyX0 k) := by decide +kernel
abbrev cX0_init : ByteArray := prog_2_method_1_code
def yX0_init : MethodName := ⟨RX0, "<init>", "(LCrossedModules$Crossed;)V"⟩
abbrev cX0_topOf : ByteArray := prog_2_method_2_code
def yX0_topOf : MethodName := ⟨RX0, "topOf", "(I)I"⟩
abbrev cX0_bottomOf : ByteArray := prog_2_method_3_code
def yX0_bottomOf : MethodName := ⟨RX0, "bottomOf", "(I)I"⟩
abbrev cX0_firstReason : ByteArray := prog_2_method_4_code
def yX0_firstReason : MethodName := ⟨RX0, "firstReason", "()I"⟩
abbrev cX0_keepsProducts : ByteArray := prog_2_method_5_code
def yX0_keepsProducts : MethodName := ⟨RX0, "keepsProducts", "([ILCrossedModules$Group;LCrossedModules$Group;)Z"⟩
abbrev cX0_keepsBoundaries : ByteArray := prog_2_method_6_code
def yX0_keepsBoundaries : MethodName := ⟨RX0, "keepsBoundaries", "()Z"⟩
abbrev cX0_keepsActions : ByteArray := prog_2_method_7_code
def yX0_keepsActions : MethodName := ⟨RX0, "keepsActions", "()Z"⟩
abbrev cX0_joinsAlikePairs : ByteArray := prog_2_method_8_code
def yX0_joinsAlikePairs : MethodName := ⟨RX0, "joinsAlikePairs", "()Z"⟩
abbrev cX0_partsKernel : ByteArray := prog_2_method_9_code
def yX0_partsKernel : MethodName := ⟨RX0, "partsKernel", "(I)Z"⟩
abbrev cX0_matchesClasses : ByteArray := prog_2_method_10_code
def yX0_matchesClasses : MethodName := ⟨RX0, "matchesClasses", "()Z"⟩
def RX1 : String := "CrossedModules$Crossed"
def TX1 : u_T := fun k => match k with
  | 0 => ("CrossedModules$Crossed", "number", "I", true)
  | 1 => ("CrossedModules$Crossed", "upper", "LCrossedModules$Group;", false)
  | 2 => ("CrossedModules$Crossed", "lower", "LCrossedModules$Group;", false)
  | 3 => ("CrossedModules$Crossed", "boundaries", "[I", true)
  | 4 => ("CrossedModules$Crossed", "actions", "[I", true)
  | 5 => ("CrossedModules$Crossed", "pair", "LCrossedModules$Pair;", true)
  | 6 => ("CrossedModules$Crossed", "told", "I", false)
  | _ => ("CrossedModules$Crossed", "reason", "I", false)
def tyX1 : Nat → FieldType := fun k => match k with
  | 0 => .int
  | 1 => .object "CrossedModules$Group"
  | 2 => .object "CrossedModules$Group"
  | 3 => .array .int
  | 4 => .array .int
  | 5 => .object "CrossedModules$Pair"
  | 6 => .int
  | _ => .int
abbrev wsX10 : List Cond := u_ws RX1 TX1 8
theorem nmX1 : ∀ a, a < 8 → ∀ b, b < 8 → a ≠ b → (TX1 a).2.1 ≠ (TX1 b).2.1 := by decide +kernel
theorem tyX1_ok : ∀ k, k < 8 → parseFieldDescriptor (TX1 k).2.2.1 = some (tyX1 k) := by decide +kernel
abbrev cX1_init : ByteArray := prog_3_method_1_code
def yX1_init : MethodName := ⟨RX1, "<init>", "(ILCrossedModules$Group;)V"⟩
abbrev cX1_start : ByteArray := prog_3_method_2_code
def yX1_start : MethodName := ⟨RX1, "start", "(LCrossedModules$Group;LCrossedModules$Group;)V"⟩
abbrev cX1_boundaryOf : ByteArray := prog_3_method_3_code
def yX1_boundaryOf : MethodName := ⟨RX1, "boundaryOf", "(I)I"⟩
abbrev cX1_actionOf : ByteArray := prog_3_method_4_code
def yX1_actionOf : MethodName := ⟨RX1, "actionOf", "(II)I"⟩
abbrev cX1_replaceAction : ByteArray := prog_3_method_5_code
def yX1_replaceAction : MethodName := ⟨RX1, "replaceAction", "(III)I"⟩
abbrev cX1_becomeRestful : ByteArray := prog_3_method_6_code
def yX1_becomeRestful : MethodName := ⟨RX1, "becomeRestful", "()I"⟩
abbrev cX1_becomeConjugation : ByteArray := prog_3_method_7_code
def yX1_becomeConjugation : MethodName := ⟨RX1, "becomeConjugation", "()I"⟩
abbrev cX1_firstReason : ByteArray := prog_3_method_8_code
def yX1_firstReason : MethodName := ⟨RX1, "firstReason", "()I"⟩
abbrev cX1_boundaryKeepsProducts : ByteArray := prog_3_method_9_code
def yX1_boundaryKeepsProducts : MethodName := ⟨RX1, "boundaryKeepsProducts", "()Z"⟩
abbrev cX1_isAutomorphism : ByteArray := prog_3_method_10_code
def yX1_isAutomorphism : MethodName := ⟨RX1, "isAutomorphism", "(I)Z"⟩
abbrev cX1_actionKeepsProducts : ByteArray := prog_3_method_11_code
def yX1_actionKeepsProducts : MethodName := ⟨RX1, "actionKeepsProducts", "()Z"⟩
abbrev cX1_boundaryFollowsAction : ByteArray := prog_3_method_12_code
def yX1_boundaryFollowsAction : MethodName := ⟨RX1, "boundaryFollowsAction", "()Z"⟩
abbrev cX1_boundaryActsAsConjugation : ByteArray := prog_3_method_13_code
def yX1_boundaryActsAsConjugation : MethodName := ⟨RX1, "boundaryActsAsConjugation", "()Z"⟩
abbrev cX1_kernelSet : ByteArray := prog_3_method_14_code
def yX1_kernelSet : MethodName := ⟨RX1, "kernelSet", "()I"⟩
abbrev cX1_imageSet : ByteArray := prog_3_method_15_code
def yX1_imageSet : MethodName := ⟨RX1, "imageSet", "()I"⟩
abbrev cX1_stabilizer : ByteArray := prog_3_method_16_code
def yX1_stabilizer : MethodName := ⟨RX1, "stabilizer", "(I)I"⟩
abbrev cX1_orbitSet : ByteArray := prog_3_method_17_code
def yX1_orbitSet : MethodName := ⟨RX1, "orbitSet", "(I)I"⟩
abbrev cX1_freshPair : ByteArray := prog_3_method_18_code
def yX1_freshPair : MethodName := ⟨RX1, "freshPair", "()LCrossedModules$Pair;"⟩
abbrev cX1_hasLarge : ByteArray := prog_3_method_19_code
def yX1_hasLarge : MethodName := ⟨RX1, "hasLarge", "(I)Z"⟩
abbrev cX1_upperPart : ByteArray := prog_3_method_20_code
def yX1_upperPart : MethodName := ⟨RX1, "upperPart", "(I)I"⟩
abbrev cX1_lowerPart : ByteArray := prog_3_method_21_code
def yX1_lowerPart : MethodName := ⟨RX1, "lowerPart", "(I)I"⟩
abbrev cX1_largeProduct : ByteArray := prog_3_method_22_code
def yX1_largeProduct : MethodName := ⟨RX1, "largeProduct", "(II)I"⟩
abbrev cX1_largePeriod : ByteArray := prog_3_method_23_code
def yX1_largePeriod : MethodName := ⟨RX1, "largePeriod", "(I)I"⟩
abbrev cX1_targetOf : ByteArray := prog_3_method_24_code
def yX1_targetOf : MethodName := ⟨RX1, "targetOf", "(II)I"⟩
abbrev cX1_countBetween : ByteArray := prog_3_method_25_code
def yX1_countBetween : MethodName := ⟨RX1, "countBetween", "(II)I"⟩
def RX2 : String := "CrossedModules$Group"
def TX2 : u_T := fun k => match k with
  | 0 => ("CrossedModules$Group", "number", "I", true)
  | 1 => ("CrossedModules$Group", "table", "[I", true)
  | 2 => ("CrossedModules$Group", "opposites", "[I", true)
  | _ => ("CrossedModules$Group", "elements", "I", false)
def tyX2 : Nat → FieldType := fun k => match k with
  | 0 => .int
  | 1 => .array .int
  | 2 => .array .int
  | _ => .int
abbrev wsX20 : List Cond := u_ws RX2 TX2 4
theorem nmX2 : ∀ a, a < 4 → ∀ b, b < 4 → a ≠ b → (TX2 a).2.1 ≠ (TX2 b).2.1 := by decide +kernel
theorem tyX2_ok : ∀ k, k < 4 → parseFieldDescriptor (TX2 k).2.2.1 = some (tyX2 k) := by decide +kernel
abbrev cX2_init : ByteArray := prog_4_method_1_code
def yX2_init : MethodName := ⟨RX2, "<init>", "(I)V"⟩
abbrev cX2_has : ByteArray := prog_4_method_2_code
def yX2_has : MethodName := ⟨RX2, "has", "(I)Z"⟩
abbrev cX2_hasAll : ByteArray := prog_4_method_3_code
def yX2_hasAll : MethodName := ⟨RX2, "hasAll", "(I)Z"⟩
abbrev cX2_product : ByteArray := prog_4_method_4_code
def yX2_product : MethodName := ⟨RX2, "product", "(II)I"⟩
abbrev cX2_setProduct : ByteArray := prog_4_method_5_code
def yX2_setProduct : MethodName := ⟨RX2, "setProduct", "(III)V"⟩
abbrev cX2_opposite : ByteArray := prog_4_method_6_code
def yX2_opposite : MethodName := ⟨RX2, "opposite", "(I)I"⟩
abbrev cX2_conjugateBy : ByteArray := prog_4_method_7_code
def yX2_conjugateBy : MethodName := ⟨RX2, "conjugateBy", "(II)I"⟩
abbrev cX2_becomeCyclic : ByteArray := prog_4_method_8_code
def yX2_becomeCyclic : MethodName := ⟨RX2, "becomeCyclic", "(I)V"⟩
abbrev cX2_becomeDihedral : ByteArray := prog_4_method_9_code
def yX2_becomeDihedral : MethodName := ⟨RX2, "becomeDihedral", "(I)V"⟩
abbrev cX2_becomeQuaternion : ByteArray := prog_4_method_10_code
def yX2_becomeQuaternion : MethodName := ⟨RX2, "becomeQuaternion", "()V"⟩
abbrev cX2_productOfUnits : ByteArray := prog_4_method_11_code
def yX2_productOfUnits : MethodName := ⟨RX2, "productOfUnits", "(II)I"⟩
abbrev cX2_becomeProduct : ByteArray := prog_4_method_12_code
def yX2_becomeProduct : MethodName := ⟨RX2, "becomeProduct", "(LCrossedModules$Group;LCrossedModules$Group;)V"⟩
abbrev cX2_findOpposites : ByteArray := prog_4_method_13_code
def yX2_findOpposites : MethodName := ⟨RX2, "findOpposites", "()V"⟩
abbrev cX2_period : ByteArray := prog_4_method_14_code
def yX2_period : MethodName := ⟨RX2, "period", "(I)I"⟩
abbrev cX2_middle : ByteArray := prog_4_method_15_code
def yX2_middle : MethodName := ⟨RX2, "middle", "()I"⟩
abbrev cX2_closure : ByteArray := prog_4_method_18_code
def yX2_closure : MethodName := ⟨RX2, "closure", "(I)I"⟩
abbrev cX2_productsWithin : ByteArray := prog_4_method_19_code
def yX2_productsWithin : MethodName := ⟨RX2, "productsWithin", "(I)I"⟩
def RX3 : String := "CrossedModules$Names"
def TX3 : u_T := fun k => match k with
  | 0 => ("CrossedModules$Names", "words", "[J", true)
  | 1 => ("CrossedModules$Names", "lengths", "[I", true)
  | _ => ("CrossedModules$Names", "total", "I", false)
def tyX3 : Nat → FieldType := fun k => match k with
  | 0 => .array .long
  | 1 => .array .int
  | _ => .int
abbrev wsX30 : List Cond := u_ws RX3 TX3 3
theorem nmX3 : ∀ a, a < 3 → ∀ b, b < 3 → a ≠ b → (TX3 a).2.1 ≠ (TX3 b).2.1 := by decide +kernel
theorem tyX3_ok : ∀ k, k < 3 → parseFieldDescriptor (TX3 k).2.2.1 = some (tyX3 k) := by decide +kernel
abbrev cX3_init : ByteArray := prog_5_method_1_code
def yX3_init : MethodName := ⟨RX3, "<init>", "(I)V"⟩
abbrev cX3_isFull : ByteArray := prog_5_method_2_code
def yX3_isFull : MethodName := ⟨RX3, "isFull", "()Z"⟩
abbrev cX3_has : ByteArray := prog_5_method_3_code
def yX3_has : MethodName := ⟨RX3, "has", "(I)Z"⟩
abbrev cX3_lengthOf : ByteArray := prog_5_method_4_code
def yX3_lengthOf : MethodName := ⟨RX3, "lengthOf", "(I)I"⟩
abbrev cX3_letterOf : ByteArray := prog_5_method_5_code
def yX3_letterOf : MethodName := ⟨RX3, "letterOf", "(II)I"⟩
abbrev cX3_numberOf : ByteArray := prog_5_method_6_code
def yX3_numberOf : MethodName := ⟨RX3, "numberOf", "(J)I"⟩
abbrev cX3_noteNext : ByteArray := prog_5_method_7_code
def yX3_noteNext : MethodName := ⟨RX3, "noteNext", "(JI)V"⟩
def RX4 : String := "CrossedModules$Pair"
def TX4 : u_T := fun k => match k with
  | 0 => ("CrossedModules$Pair", "numbers", "[I", true)
  | 1 => ("CrossedModules$Pair", "leasts", "[I", true)
  | 2 => ("CrossedModules$Pair", "kernelOrders", "[I", true)
  | 3 => ("CrossedModules$Pair", "classOrders", "[I", true)
  | _ => ("CrossedModules$Pair", "classCount", "I", false)
def tyX4 : Nat → FieldType := fun k => match k with
  | 0 => .array .int
  | 1 => .array .int
  | 2 => .array .int
  | 3 => .array .int
  | _ => .int
abbrev wsX40 : List Cond := u_ws RX4 TX4 5
theorem nmX4 : ∀ a, a < 5 → ∀ b, b < 5 → a ≠ b → (TX4 a).2.1 ≠ (TX4 b).2.1 := by decide +kernel
theorem tyX4_ok : ∀ k, k < 5 → parseFieldDescriptor (TX4 k).2.2.1 = some (tyX4 k) := by decide +kernel
abbrev cX4_init : ByteArray := prog_6_method_1_code
def yX4_init : MethodName := ⟨RX4, "<init>", "()V"⟩
abbrev cX4_has : ByteArray := prog_6_method_2_code
def yX4_has : MethodName := ⟨RX4, "has", "(I)Z"⟩
abbrev cX4_classHolding : ByteArray := prog_6_method_3_code
def yX4_classHolding : MethodName := ⟨RX4, "classHolding", "(I)I"⟩
abbrev cX4_leastOf : ByteArray := prog_6_method_4_code
def yX4_leastOf : MethodName := ⟨RX4, "leastOf", "(I)I"⟩
abbrev cX4_product : ByteArray := prog_6_method_5_code
def yX4_product : MethodName := ⟨RX4, "product", "(LCrossedModules$Group;II)I"⟩
abbrev cX4_period : ByteArray := prog_6_method_6_code
def yX4_period : MethodName := ⟨RX4, "period", "(LCrossedModules$Group;I)I"⟩
abbrev cX4_sortClasses : ByteArray := prog_6_method_7_code
def yX4_sortClasses : MethodName := ⟨RX4, "sortClasses", "(LCrossedModules$Crossed;)V"⟩
abbrev cX4_countOrders : ByteArray := prog_6_method_8_code
def yX4_countOrders : MethodName := ⟨RX4, "countOrders", "(LCrossedModules$Crossed;)V"⟩
abbrev cX4_addOne : ByteArray := prog_6_method_9_code
def yX4_addOne : MethodName := ⟨RX4, "addOne", "([II)V"⟩
abbrev cX4_matches : ByteArray := prog_6_method_10_code
def yX4_matches : MethodName := ⟨RX4, "matches", "(LCrossedModules$Pair;)Z"⟩
def RX5 : String := "CrossedModules$Parser"
def TX5 : u_T := fun k => match k with
  | 0 => ("CrossedModules$Parser", "tokens", "LCrossedModules$Tokens;", true)
  | 1 => ("CrossedModules$Parser", "world", "LCrossedModules$World;", true)
  | 2 => ("CrossedModules$Parser", "error", "I", false)
  | _ => ("CrossedModules$Parser", "errorAt", "I", false)
def tyX5 : Nat → FieldType := fun k => match k with
  | 0 => .object "CrossedModules$Tokens"
  | 1 => .object "CrossedModules$World"
  | 2 => .int
  | _ => .int
abbrev wsX50 : List Cond := u_ws RX5 TX5 4
theorem nmX5 : ∀ a, a < 4 → ∀ b, b < 4 → a ≠ b → (TX5 a).2.1 ≠ (TX5 b).2.1 := by decide +kernel
theorem tyX5_ok : ∀ k, k < 4 → parseFieldDescriptor (TX5 k).2.2.1 = some (tyX5 k) := by decide +kernel
abbrev cX5_init : ByteArray := prog_7_method_1_code
def yX5_init : MethodName := ⟨RX5, "<init>", "(LCrossedModules$Tokens;LCrossedModules$World;)V"⟩
abbrev cX5_refuse : ByteArray := prog_7_method_2_code
def yX5_refuse : MethodName := ⟨RX5, "refuse", "(I)Z"⟩
abbrev cX5_readText : ByteArray := prog_7_method_3_code
def yX5_readText : MethodName := ⟨RX5, "readText", "()Z"⟩
abbrev cX5_readLine : ByteArray := prog_7_method_4_code
def yX5_readLine : MethodName := ⟨RX5, "readLine", "()Z"⟩
abbrev cX5_readGroup : ByteArray := prog_7_method_5_code
def yX5_readGroup : MethodName := ⟨RX5, "readGroup", "()Z"⟩
abbrev cX5_readCyclic : ByteArray := prog_7_method_6_code
def yX5_readCyclic : MethodName := ⟨RX5, "readCyclic", "(LCrossedModules$Group;)Z"⟩
abbrev cX5_readDihedral : ByteArray := prog_7_method_7_code
def yX5_readDihedral : MethodName := ⟨RX5, "readDihedral", "(LCrossedModules$Group;)Z"⟩
abbrev cX5_readQuaternion : ByteArray := prog_7_method_8_code
def yX5_readQuaternion : MethodName := ⟨RX5, "readQuaternion", "(LCrossedModules$Group;)Z"⟩
abbrev cX5_readProduct : ByteArray := prog_7_method_9_code
def yX5_readProduct : MethodName := ⟨RX5, "readProduct", "(LCrossedModules$Group;)Z"⟩
abbrev cX5_readModule : ByteArray := prog_7_method_10_code
def yX5_readModule : MethodName := ⟨RX5, "readModule", "()Z"⟩
abbrev cX5_readAct : ByteArray := prog_7_method_11_code
def yX5_readAct : MethodName := ⟨RX5, "readAct", "()Z"⟩
abbrev cX5_readArrow : ByteArray := prog_7_method_12_code
def yX5_readArrow : MethodName := ⟨RX5, "readArrow", "()Z"⟩
abbrev cX5_readNewName : ByteArray := prog_7_method_13_code
def yX5_readNewName : MethodName := ⟨RX5, "readNewName", "(LCrossedModules$Names;)Z"⟩
abbrev cX5_readElements : ByteArray := prog_7_method_14_code
def yX5_readElements : MethodName := ⟨RX5, "readElements", "([IILCrossedModules$Group;LCrossedModules$Group;)Z"⟩
abbrev cX5_isNumber : ByteArray := prog_7_method_15_code
def yX5_isNumber : MethodName := ⟨RX5, "isNumber", "(II)Z"⟩
abbrev cX5_isKnown : ByteArray := prog_7_method_16_code
def yX5_isKnown : MethodName := ⟨RX5, "isKnown", "(LCrossedModules$Names;)Z"⟩
abbrev cX5_groupTold : ByteArray := prog_7_method_17_code
def yX5_groupTold : MethodName := ⟨RX5, "groupTold", "()LCrossedModules$Group;"⟩
abbrev cX5_moduleTold : ByteArray := prog_7_method_18_code
def yX5_moduleTold : MethodName := ⟨RX5, "moduleTold", "()LCrossedModules$Crossed;"⟩
def RX6 : String := "CrossedModules$Tokens"
def TX6 : u_T := fun k => match k with
  | 0 => ("CrossedModules$Tokens", "bytes", "[B", true)
  | 1 => ("CrossedModules$Tokens", "length", "I", true)
  | 2 => ("CrossedModules$Tokens", "start", "I", false)
  | 3 => ("CrossedModules$Tokens", "stop", "I", false)
  | 4 => ("CrossedModules$Tokens", "kind", "I", false)
  | 5 => ("CrossedModules$Tokens", "word", "J", false)
  | _ => ("CrossedModules$Tokens", "value", "I", false)
def tyX6 : Nat → FieldType := fun k => match k with
  | 0 => .array .byte
  | 1 => .int
  | 2 => .int
  | 3 => .int
  | 4 => .int
  | 5 => .long
  | _ => .int
abbrev wsX60 : List Cond := u_ws RX6 TX6 7
theorem nmX6 : ∀ a, a < 7 → ∀ b, b < 7 → a ≠ b → (TX6 a).2.1 ≠ (TX6 b).2.1 := by decide +kernel
theorem tyX6_ok : ∀ k, k < 7 → parseFieldDescriptor (TX6 k).2.2.1 = some (tyX6 k) := by decide +kernel
abbrev cX6_init : ByteArray := prog_8_method_1_code
def yX6_init : MethodName := ⟨RX6, "<init>", "([BI)V"⟩
abbrev cX6_byteAt : ByteArray := prog_8_method_2_code
def yX6_byteAt : MethodName := ⟨RX6, "byteAt", "(I)I"⟩
abbrev cX6_advance : ByteArray := prog_8_method_3_code
def yX6_advance : MethodName := ⟨RX6, "advance", "()V"⟩
abbrev cX6_endOfRun : ByteArray := prog_8_method_4_code
def yX6_endOfRun : MethodName := ⟨RX6, "endOfRun", "(III)I"⟩
abbrev cX6_packed : ByteArray := prog_8_method_5_code
def yX6_packed : MethodName := ⟨RX6, "packed", "()J"⟩
abbrev cX6_spells : ByteArray := prog_8_method_6_code
def yX6_spells : MethodName := ⟨RX6, "spells", "(Ljava/lang/String;)Z"⟩
abbrev cX6_reckoned : ByteArray := prog_8_method_7_code
def yX6_reckoned : MethodName := ⟨RX6, "reckoned", "()I"⟩
def RX7 : String := "CrossedModules$World"
def TX7 : u_T := fun k => match k with
  | 0 => ("CrossedModules$World", "groupNames", "LCrossedModules$Names;", true)
  | 1 => ("CrossedModules$World", "moduleNames", "LCrossedModules$Names;", true)
  | 2 => ("CrossedModules$World", "arrowNames", "LCrossedModules$Names;", true)
  | 3 => ("CrossedModules$World", "groups", "[LCrossedModules$Group;", true)
  | 4 => ("CrossedModules$World", "modules", "[LCrossedModules$Crossed;", true)
  | 5 => ("CrossedModules$World", "arrows", "[LCrossedModules$Arrow;", true)
  | _ => ("CrossedModules$World", "accounts", "[I", true)
def tyX7 : Nat → FieldType := fun k => match k with
  | 0 => .object "CrossedModules$Names"
  | 1 => .object "CrossedModules$Names"
  | 2 => .object "CrossedModules$Names"
  | 3 => .array (.object "CrossedModules$Group")
  | 4 => .array (.object "CrossedModules$Crossed")
  | 5 => .array (.object "CrossedModules$Arrow")
  | _ => .array .int
abbrev wsX70 : List Cond := u_ws RX7 TX7 7
theorem nmX7 : ∀ a, a < 7 → ∀ b, b < 7 → a ≠ b → (TX7 a).2.1 ≠ (TX7 b).2.1 := by decide +kernel
theorem tyX7_ok : ∀ k, k < 7 → parseFieldDescriptor (TX7 k).2.2.1 = some (tyX7 k) := by decide +kernel
abbrev cX7_init : ByteArray := prog_9_method_1_code
def yX7_init : MethodName := ⟨RX7, "<init>", "()V"⟩
abbrev cX7_clear : ByteArray := prog_9_method_2_code
def yX7_clear : MethodName := ⟨RX7, "clear", "()V"⟩
abbrev cX7_namesOf : ByteArray := prog_9_method_3_code
def yX7_namesOf : MethodName := ⟨RX7, "namesOf", "(I)LCrossedModules$Names;"⟩
abbrev cX7_settle : ByteArray := prog_9_method_4_code
def yX7_settle : MethodName := ⟨RX7, "settle", "()V"⟩
abbrev cX7_addToAccount : ByteArray := prog_9_method_5_code
def yX7_addToAccount : MethodName := ⟨RX7, "addToAccount", "(I)V"⟩
abbrev cX7_judgeAgain : ByteArray := prog_9_method_6_code
def yX7_judgeAgain : MethodName := ⟨RX7, "judgeAgain", "(LCrossedModules$Crossed;)V"⟩
abbrev cX7_lawfulModules : ByteArray := prog_9_method_7_code
def yX7_lawfulModules : MethodName := ⟨RX7, "lawfulModules", "()I"⟩
abbrev cX7_firstLike : ByteArray := prog_9_method_8_code
def yX7_firstLike : MethodName := ⟨RX7, "firstLike", "(LCrossedModules$Crossed;)I"⟩
abbrev cX7_equivalenceSet : ByteArray := prog_9_method_9_code
def yX7_equivalenceSet : MethodName := ⟨RX7, "equivalenceSet", "()I"⟩
abbrev cX7_oneStepFrom : ByteArray := prog_9_method_10_code
def yX7_oneStepFrom : MethodName := ⟨RX7, "oneStepFrom", "(II)I"⟩
abbrev cX7_stepsBetween : ByteArray := prog_9_method_11_code
def yX7_stepsBetween : MethodName := ⟨RX7, "stepsBetween", "(III)I"⟩
abbrev cX7_giveState : ByteArray := prog_9_method_13_code
def yX7_giveState : MethodName := ⟨RX7, "giveState", "([I)V"⟩
abbrev cX7_takeState : ByteArray := prog_9_method_14_code
def yX7_takeState : MethodName := ⟨RX7, "takeState", "([I)V"⟩
def RX8 : String := "CrossedModules"
def TX8 : u_T := fun k => match k with
  | 0 => ("CrossedModules", "buffer", "[B", true)
  | 1 => ("CrossedModules", "filled", "I", false)
  | 2 => ("CrossedModules", "lastError", "I", false)
  | 3 => ("CrossedModules", "lastErrorAt", "I", false)
  | 4 => ("CrossedModules", "loaded", "Z", false)
  | 5 => ("CrossedModules", "world", "LCrossedModules$World;", false)
  | 6 => ("CrossedModules", "spare", "LCrossedModules$World;", false)
  | 7 => ("CrossedModules", "undoStates", "[[I", true)
  | 8 => ("CrossedModules", "firstUndo", "I", false)
  | 9 => ("CrossedModules", "undoCount", "I", false)
  | 10 => ("CrossedModules", "slotStates", "[[I", true)
  | 11 => ("CrossedModules", "savedSlots", "I", false)
  | 12 => ("CrossedModules", "text", "[B", true)
  | _ => ("CrossedModules", "textLength", "I", false)
def tyX8 : Nat → FieldType := fun k => match k with
  | 0 => .array .byte
  | 1 => .int
  | 2 => .int
  | 3 => .int
  | 4 => .boolean
  | 5 => .object "CrossedModules$World"
  | 6 => .object "CrossedModules$World"
  | 7 => .array (.array .int)
  | 8 => .int
  | 9 => .int
  | 10 => .array (.array .int)
  | 11 => .int
  | 12 => .array .byte
  | _ => .int
abbrev wsX80 : List Cond := u_ws RX8 TX8 14
theorem nmX8 : ∀ a, a < 14 → ∀ b, b < 14 → a ≠ b → (TX8 a).2.1 ≠ (TX8 b).2.1 := by decide +kernel
theorem tyX8_ok : ∀ k, k < 14 → parseFieldDescriptor (TX8 k).2.2.1 = some (tyX8 k) := by decide +kernel
abbrev cX8_init : ByteArray := prog_1_method_1_code
def yX8_init : MethodName := ⟨RX8, "<init>", "()V"⟩
abbrev cX8_append : ByteArray := prog_1_method_2_code
def yX8_append : MethodName := ⟨RX8, "append", "(IIIII)I"⟩
abbrev cX8_load : ByteArray := prog_1_method_3_code
def yX8_load : MethodName := ⟨RX8, "load", "(I)I"⟩
abbrev cX8_parseError : ByteArray := prog_1_method_4_code
def yX8_parseError : MethodName := ⟨RX8, "parseError", "()I"⟩
abbrev cX8_errorPosition : ByteArray := prog_1_method_5_code
def yX8_errorPosition : MethodName := ⟨RX8, "errorPosition", "()I"⟩
abbrev cX8_count : ByteArray := prog_1_method_7_code
def yX8_count : MethodName := ⟨RX8, "count", "(I)I"⟩
abbrev cX8_letter : ByteArray := prog_1_method_8_code
def yX8_letter : MethodName := ⟨RX8, "letter", "(III)I"⟩
abbrev cX8_size : ByteArray := prog_1_method_9_code
def yX8_size : MethodName := ⟨RX8, "size", "(I)I"⟩
abbrev cX8_times : ByteArray := prog_1_method_10_code
def yX8_times : MethodName := ⟨RX8, "times", "(III)I"⟩
abbrev cX8_inverse : ByteArray := prog_1_method_11_code
def yX8_inverse : MethodName := ⟨RX8, "inverse", "(II)I"⟩
abbrev cX8_orderOf : ByteArray := prog_1_method_12_code
def yX8_orderOf : MethodName := ⟨RX8, "orderOf", "(II)I"⟩
abbrev cX8_centre : ByteArray := prog_1_method_13_code
def yX8_centre : MethodName := ⟨RX8, "centre", "(I)I"⟩
abbrev cX8_generated : ByteArray := prog_1_method_15_code
def yX8_generated : MethodName := ⟨RX8, "generated", "(II)I"⟩
abbrev cX8_groupOf : ByteArray := prog_1_method_17_code
def yX8_groupOf : MethodName := ⟨RX8, "groupOf", "(IZ)I"⟩
abbrev cX8_boundary : ByteArray := prog_1_method_18_code
def yX8_boundary : MethodName := ⟨RX8, "boundary", "(II)I"⟩
abbrev cX8_act : ByteArray := prog_1_method_19_code
def yX8_act : MethodName := ⟨RX8, "act", "(III)I"⟩
abbrev cX8_why : ByteArray := prog_1_method_20_code
def yX8_why : MethodName := ⟨RX8, "why", "(I)I"⟩
abbrev cX8_lawful : ByteArray := prog_1_method_21_code
def yX8_lawful : MethodName := ⟨RX8, "lawful", "()I"⟩
abbrev cX8_kernel : ByteArray := prog_1_method_22_code
def yX8_kernel : MethodName := ⟨RX8, "kernel", "(I)I"⟩
abbrev cX8_image : ByteArray := prog_1_method_23_code
def yX8_image : MethodName := ⟨RX8, "image", "(I)I"⟩
abbrev cX8_isCentral : ByteArray := prog_1_method_24_code
def yX8_isCentral : MethodName := ⟨RX8, "isCentral", "(I)Z"⟩
abbrev cX8_fixed : ByteArray := prog_1_method_25_code
def yX8_fixed : MethodName := ⟨RX8, "fixed", "(II)I"⟩
abbrev cX8_orbit : ByteArray := prog_1_method_26_code
def yX8_orbit : MethodName := ⟨RX8, "orbit", "(II)I"⟩
abbrev cX8_classes : ByteArray := prog_1_method_27_code
def yX8_classes : MethodName := ⟨RX8, "classes", "(I)I"⟩
abbrev cX8_classOf : ByteArray := prog_1_method_28_code
def yX8_classOf : MethodName := ⟨RX8, "classOf", "(II)I"⟩
abbrev cX8_classTimes : ByteArray := prog_1_method_29_code
def yX8_classTimes : MethodName := ⟨RX8, "classTimes", "(III)I"⟩
abbrev cX8_classAct : ByteArray := prog_1_method_30_code
def yX8_classAct : MethodName := ⟨RX8, "classAct", "(III)I"⟩
abbrev cX8_profile : ByteArray := prog_1_method_31_code
def yX8_profile : MethodName := ⟨RX8, "profile", "(IZI)I"⟩
abbrev cX8_areAlike : ByteArray := prog_1_method_32_code
def yX8_areAlike : MethodName := ⟨RX8, "areAlike", "(II)Z"⟩
abbrev cX8_kinds : ByteArray := prog_1_method_33_code
def yX8_kinds : MethodName := ⟨RX8, "kinds", "()I"⟩
abbrev cX8_firstAlike : ByteArray := prog_1_method_34_code
def yX8_firstAlike : MethodName := ⟨RX8, "firstAlike", "(I)I"⟩
abbrev cX8_largeTimes : ByteArray := prog_1_method_35_code
def yX8_largeTimes : MethodName := ⟨RX8, "largeTimes", "(III)I"⟩
abbrev cX8_target : ByteArray := prog_1_method_36_code
def yX8_target : MethodName := ⟨RX8, "target", "(II)I"⟩
abbrev cX8_largeOrder : ByteArray := prog_1_method_37_code
def yX8_largeOrder : MethodName := ⟨RX8, "largeOrder", "(II)I"⟩
abbrev cX8_between : ByteArray := prog_1_method_38_code
def yX8_between : MethodName := ⟨RX8, "between", "(III)I"⟩
abbrev cX8_top : ByteArray := prog_1_method_40_code
def yX8_top : MethodName := ⟨RX8, "top", "(II)I"⟩
abbrev cX8_bottom : ByteArray := prog_1_method_41_code
def yX8_bottom : MethodName := ⟨RX8, "bottom", "(II)I"⟩
abbrev cX8_arrowWhy : ByteArray := prog_1_method_42_code
def yX8_arrowWhy : MethodName := ⟨RX8, "arrowWhy", "(I)I"⟩
abbrev cX8_ladder : ByteArray := prog_1_method_45_code
def yX8_ladder : MethodName := ⟨RX8, "ladder", "(II)I"⟩
abbrev cX8_through : ByteArray := prog_1_method_47_code
def yX8_through : MethodName := ⟨RX8, "through", "(III)I"⟩
abbrev cX8_account : ByteArray := prog_1_method_48_code
def yX8_account : MethodName := ⟨RX8, "account", "(I)I"⟩
abbrev cX8_writeModule : ByteArray := prog_1_method_49_code
def yX8_writeModule : MethodName := ⟨RX8, "writeModule", "(I)I"⟩
abbrev cX8_writeTable : ByteArray := prog_1_method_50_code
def yX8_writeTable : MethodName := ⟨RX8, "writeTable", "(I)I"⟩
abbrev cX8_textByte : ByteArray := prog_1_method_51_code
def yX8_textByte : MethodName := ⟨RX8, "textByte", "(I)I"⟩
abbrev cX8_setBoundary : ByteArray := prog_1_method_52_code
def yX8_setBoundary : MethodName := ⟨RX8, "setBoundary", "(III)I"⟩
abbrev cX8_setAct : ByteArray := prog_1_method_53_code
def yX8_setAct : MethodName := ⟨RX8, "setAct", "(IIII)I"⟩
abbrev cX8_rest : ByteArray := prog_1_method_54_code
def yX8_rest : MethodName := ⟨RX8, "rest", "(I)I"⟩
abbrev cX8_conjugate : ByteArray := prog_1_method_55_code
def yX8_conjugate : MethodName := ⟨RX8, "conjugate", "(I)I"⟩
abbrev cX8_setTop : ByteArray := prog_1_method_56_code
def yX8_setTop : MethodName := ⟨RX8, "setTop", "(III)I"⟩
abbrev cX8_setBottom : ByteArray := prog_1_method_57_code
def yX8_setBottom : MethodName := ⟨RX8, "setBottom", "(III)I"⟩
abbrev cX8_undo : ByteArray := prog_1_method_58_code
def yX8_undo : MethodName := ⟨RX8, "undo", "()I"⟩
abbrev cX8_undoable : ByteArray := prog_1_method_59_code
def yX8_undoable : MethodName := ⟨RX8, "undoable", "()I"⟩
abbrev cX8_save : ByteArray := prog_1_method_60_code
def yX8_save : MethodName := ⟨RX8, "save", "(I)I"⟩
abbrev cX8_restore : ByteArray := prog_1_method_61_code
def yX8_restore : MethodName := ⟨RX8, "restore", "(I)I"⟩
abbrev cX8_demandText : ByteArray := prog_1_method_62_code
def yX8_demandText : MethodName := ⟨RX8, "demandText", "()V"⟩
abbrev cX8_demandThere : ByteArray := prog_1_method_63_code
def yX8_demandThere : MethodName := ⟨RX8, "demandThere", "(Z)V"⟩
abbrev cX8_demandFit : ByteArray := prog_1_method_64_code
def yX8_demandFit : MethodName := ⟨RX8, "demandFit", "(Z)V"⟩
abbrev cX8_groupAt : ByteArray := prog_1_method_65_code
def yX8_groupAt : MethodName := ⟨RX8, "groupAt", "(I)LCrossedModules$Group;"⟩
abbrev cX8_moduleAt : ByteArray := prog_1_method_66_code
def yX8_moduleAt : MethodName := ⟨RX8, "moduleAt", "(I)LCrossedModules$Crossed;"⟩
abbrev cX8_lawfulModuleAt : ByteArray := prog_1_method_67_code
def yX8_lawfulModuleAt : MethodName := ⟨RX8, "lawfulModuleAt", "(I)LCrossedModules$Crossed;"⟩
abbrev cX8_arrowAt : ByteArray := prog_1_method_68_code
def yX8_arrowAt : MethodName := ⟨RX8, "arrowAt", "(I)LCrossedModules$Arrow;"⟩
abbrev cX8_appendWord : ByteArray := prog_1_method_69_code
def yX8_appendWord : MethodName := ⟨RX8, "appendWord", "(I)V"⟩
abbrev cX8_write : ByteArray := prog_1_method_70_code
def yX8_write : MethodName := ⟨RX8, "write", "(I)V"⟩
abbrev cX8_beginChange : ByteArray := prog_1_method_71_code
def yX8_beginChange : MethodName := ⟨RX8, "beginChange", "()V"⟩
abbrev cX8_undoPlace : ByteArray := prog_1_method_72_code
def yX8_undoPlace : MethodName := ⟨RX8, "undoPlace", "(I)I"⟩
abbrev cX8_forgetChanges : ByteArray := prog_1_method_73_code
def yX8_forgetChanges : MethodName := ⟨RX8, "forgetChanges", "()V"⟩
abbrev cX8_at : ByteArray := prog_1_method_74_code
def yX8_at : MethodName := ⟨RX8, "at", "([II)I"⟩
abbrev cX8_put : ByteArray := prog_1_method_75_code
def yX8_put : MethodName := ⟨RX8, "put", "([III)V"⟩
abbrev cX8_isIn : ByteArray := prog_1_method_76_code
def yX8_isIn : MethodName := ⟨RX8, "isIn", "(II)Z"⟩
abbrev cX8_isBetween : ByteArray := prog_1_method_77_code
def yX8_isBetween : MethodName := ⟨RX8, "isBetween", "(III)Z"⟩
def RX9 : String := "CrossedModulesLaw$Arrow"
def TX9 : u_T := fun k => match k with
  | 0 => ("CrossedModulesLaw$Arrow", "from", "I", true)
  | 1 => ("CrossedModulesLaw$Arrow", "to", "I", true)
  | 2 => ("CrossedModulesLaw$Arrow", "top", "[I", true)
  | _ => ("CrossedModulesLaw$Arrow", "bottom", "[I", true)
def tyX9 : Nat → FieldType := fun k => match k with
  | 0 => .int
  | 1 => .int
  | 2 => .array .int
  | _ => .array .int
abbrev wsX90 : List Cond := u_ws RX9 TX9 4
theorem nmX9 : ∀ a, a < 4 → ∀ b, b < 4 → a ≠ b → (TX9 a).2.1 ≠ (TX9 b).2.1 := by decide +kernel
theorem tyX9_ok : ∀ k, k < 4 → parseFieldDescriptor (TX9 k).2.2.1 = some (tyX9 k) := by decide +kernel
abbrev cX9_init : ByteArray := prog_11_method_1_code
def yX9_init : MethodName := ⟨RX9, "<init>", "(IIII)V"⟩
def RX10 : String := "CrossedModulesLaw$Draws"
def TX10 : u_T := fun k => match k with
  | 0 => ("CrossedModulesLaw$Draws", "cells", "[I", true)
  | _ => ("CrossedModulesLaw$Draws", "at", "I", false)
def tyX10 : Nat → FieldType := fun k => match k with
  | 0 => .array .int
  | _ => .int
abbrev wsX100 : List Cond := u_ws RX10 TX10 2
theorem nmX10 : ∀ a, a < 2 → ∀ b, b < 2 → a ≠ b → (TX10 a).2.1 ≠ (TX10 b).2.1 := by decide +kernel
theorem tyX10_ok : ∀ k, k < 2 → parseFieldDescriptor (TX10 k).2.2.1 = some (tyX10 k) := by decide +kernel
abbrev cX10_init : ByteArray := prog_12_method_1_code
def yX10_init : MethodName := ⟨RX10, "<init>", "([I)V"⟩
abbrev cX10_next : ByteArray := prog_12_method_2_code
def yX10_next : MethodName := ⟨RX10, "next", "(II)I"⟩
def RX11 : String := "CrossedModulesLaw$Module"
def TX11 : u_T := fun k => match k with
  | 0 => ("CrossedModulesLaw$Module", "high", "I", true)
  | 1 => ("CrossedModulesLaw$Module", "low", "I", true)
  | 2 => ("CrossedModulesLaw$Module", "up", "[[I", true)
  | 3 => ("CrossedModulesLaw$Module", "down", "[[I", true)
  | 4 => ("CrossedModulesLaw$Module", "on", "[[I", true)
  | _ => ("CrossedModulesLaw$Module", "boundary", "[I", true)
def tyX11 : Nat → FieldType := fun k => match k with
  | 0 => .int
  | 1 => .int
  | 2 => .array (.array .int)
  | 3 => .array (.array .int)
  | 4 => .array (.array .int)
  | _ => .array .int
abbrev wsX110 : List Cond := u_ws RX11 TX11 6
theorem nmX11 : ∀ a, a < 6 → ∀ b, b < 6 → a ≠ b → (TX11 a).2.1 ≠ (TX11 b).2.1 := by decide +kernel
theorem tyX11_ok : ∀ k, k < 6 → parseFieldDescriptor (TX11 k).2.2.1 = some (tyX11 k) := by decide +kernel
abbrev cX11_init : ByteArray := prog_13_method_1_code
def yX11_init : MethodName := ⟨RX11, "<init>", "(II[[I[[I)V"⟩
abbrev cX11_conjugate : ByteArray := prog_13_method_2_code
def yX11_conjugate : MethodName := ⟨RX11, "conjugate", "(II)I"⟩
abbrev cX11_why : ByteArray := prog_13_method_3_code
def yX11_why : MethodName := ⟨RX11, "why", "()I"⟩
abbrev cX11_kernel : ByteArray := prog_13_method_4_code
def yX11_kernel : MethodName := ⟨RX11, "kernel", "()I"⟩
abbrev cX11_image : ByteArray := prog_13_method_5_code
def yX11_image : MethodName := ⟨RX11, "image", "()I"⟩
abbrev cX11_classes : ByteArray := prog_13_method_6_code
def yX11_classes : MethodName := ⟨RX11, "classes", "()[I"⟩
abbrev cX11_leastOf : ByteArray := prog_13_method_7_code
def yX11_leastOf : MethodName := ⟨RX11, "leastOf", "(I)I"⟩
abbrev cX11_many : ByteArray := prog_13_method_8_code
def yX11_many : MethodName := ⟨RX11, "many", "()I"⟩
abbrev cX11_pair : ByteArray := prog_13_method_9_code
def yX11_pair : MethodName := ⟨RX11, "pair", "()[I"⟩
def RX12 : String := "CrossedModulesLaw$World"
def TX12 : u_T := fun k => match k with
  | 0 => ("CrossedModulesLaw$World", "text", "Ljava/lang/StringBuilder;", true)
  | 1 => ("CrossedModulesLaw$World", "groups", "[[[I", true)
  | 2 => ("CrossedModulesLaw$World", "modules", "[LCrossedModulesLaw$Module;", true)
  | 3 => ("CrossedModulesLaw$World", "arrows", "[LCrossedModulesLaw$Arrow;", true)
  | 4 => ("CrossedModulesLaw$World", "accounts", "[I", true)
  | 5 => ("CrossedModulesLaw$World", "many", "I", false)
  | 6 => ("CrossedModulesLaw$World", "wide", "I", false)
  | _ => ("CrossedModulesLaw$World", "far", "I", false)
def tyX12 : Nat → FieldType := fun k => match k with
  | 0 => .object "java/lang/StringBuilder"
  | 1 => .array (.array (.array .int))
  | 2 => .array (.object "CrossedModulesLaw$Module")
  | 3 => .array (.object "CrossedModulesLaw$Arrow")
  | 4 => .array .int
  | 5 => .int
  | 6 => .int
  | _ => .int
abbrev wsX120 : List Cond := u_ws RX12 TX12 8
theorem nmX12 : ∀ a, a < 8 → ∀ b, b < 8 → a ≠ b → (TX12 a).2.1 ≠ (TX12 b).2.1 := by decide +kernel
theorem tyX12_ok : ∀ k, k < 8 → parseFieldDescriptor (TX12 k).2.2.1 = some (tyX12 k) := by decide +kernel
abbrev cX12_init : ByteArray := prog_14_method_1_code
def yX12_init : MethodName := ⟨RX12, "<init>", "(LCrossedModulesLaw$Draws;)V"⟩
abbrev cX12_group : ByteArray := prog_14_method_2_code
def yX12_group : MethodName := ⟨RX12, "group", "(LCrossedModulesLaw$Draws;)V"⟩
abbrev cX12_module : ByteArray := prog_14_method_3_code
def yX12_module : MethodName := ⟨RX12, "module", "(LCrossedModulesLaw$Draws;)V"⟩
abbrev cX12_arrow : ByteArray := prog_14_method_4_code
def yX12_arrow : MethodName := ⟨RX12, "arrow", "(LCrossedModulesLaw$Draws;)V"⟩
abbrev cX12_lawful : ByteArray := prog_14_method_5_code
def yX12_lawful : MethodName := ⟨RX12, "lawful", "()I"⟩
def RX13 : String := "CrossedModulesModel"
def TX13 : u_T := fun k => match k with
  | _ => ("", "", "", false)
def tyX13 : Nat → FieldType := fun k => match k with
  | _ => .int
abbrev wsX130 : List Cond := u_ws RX13 TX13 0
theorem nmX13 : ∀ a, a < 0 → ∀ b, b < 0 → a ≠ b → (TX13 a).2.1 ≠ (TX13 b).2.1 := by decide +kernel
theorem tyX13_ok : ∀ k, k < 0 → parseFieldDescriptor (TX13 k).2.2.1 = some (tyX13 k) := by decide +kernel
def RJx145de : String := "java/io/Serializable"
def TJx145de : u_T := fun k => match k with
  | _ => ("", "", "", false)
def tyJx145de : Nat → FieldType := fun k => match k with
  | _ => .int
abbrev wsJx145de0 : List Cond := u_ws RJx145de TJx145de 0
theorem nmJx145de : ∀ a, a < 0 → ∀ b, b < 0 → a ≠ b → (TJx145de a).2.1 ≠ (TJx145de b).2.1 := by decide +kernel
theorem tyJx145de_ok : ∀ k, k < 0 → parseFieldDescriptor (TJx145de k).2.2.1 = some (tyJx145de k) := by decide +kernel
def RJ5 : String := "java/lang/AbstractStringBuilder"
def TJ5 : u_T := fun k => match k with
  | _ => ("", "", "", false)
def tyJ5 : Nat → FieldType := fun k => match k with
  | _ => .int
abbrev wsJ50 : List Cond := u_ws RJ5 TJ5 0
theorem nmJ5 : ∀ a, a < 0 → ∀ b, b < 0 → a ≠ b → (TJ5 a).2.1 ≠ (TJ5 b).2.1 := by decide +kernel
theorem tyJ5_ok : ∀ k, k < 0 → parseFieldDescriptor (TJ5 k).2.2.1 = some (tyJ5 k) := by decide +kernel
abbrev cJ5_init_d00df : ByteArray := prog_16_method_2_code
def yJ5_init_d00df : MethodName := ⟨RJ5, "<init>", "(I)V"⟩
abbrev cJ5_init_a7421 : ByteArray := prog_16_method_3_code
def yJ5_init_a7421 : MethodName := ⟨RJ5, "<init>", "(Ljava/lang/String;)V"⟩
abbrev cJ5_length_8abf5 : ByteArray := prog_16_method_6_code
def yJ5_length_8abf5 : MethodName := ⟨RJ5, "length", "()I"⟩
abbrev cJ5_ensureCapacityInternal_d00df : ByteArray := prog_16_method_9_code
def yJ5_ensureCapacityInternal_d00df : MethodName := ⟨RJ5, "ensureCapacityInternal", "(I)V"⟩
abbrev cJ5_newCapacity_0f7a4 : ByteArray := prog_16_method_10_code
def yJ5_newCapacity_0f7a4 : MethodName := ⟨RJ5, "newCapacity", "(I)I"⟩
abbrev cJ5_inflate_da8c8 : ByteArray := prog_16_method_11_code
def yJ5_inflate_da8c8 : MethodName := ⟨RJ5, "inflate", "()V"⟩
abbrev cJ5_charAt_5068e : ByteArray := prog_16_method_14_code
def yJ5_charAt_5068e : MethodName := ⟨RJ5, "charAt", "(I)C"⟩
abbrev cJ5_append_cf1ce : ByteArray := prog_16_method_22_code
def yJ5_append_cf1ce : MethodName := ⟨RJ5, "append", "(Ljava/lang/String;)Ljava/lang/AbstractStringBuilder;"⟩
abbrev cJ5_appendNull_278bc : ByteArray := prog_16_method_26_code
def yJ5_appendNull_278bc : MethodName := ⟨RJ5, "appendNull", "()Ljava/lang/AbstractStringBuilder;"⟩
abbrev cJ5_append_3fe6f : ByteArray := prog_16_method_31_code
def yJ5_append_3fe6f : MethodName := ⟨RJ5, "append", "(C)Ljava/lang/AbstractStringBuilder;"⟩
abbrev cJ5_append_c97b9 : ByteArray := prog_16_method_32_code
def yJ5_append_c97b9 : MethodName := ⟨RJ5, "append", "(I)Ljava/lang/AbstractStringBuilder;"⟩
abbrev cJ5_getValue_6d5f1 : ByteArray := prog_16_method_64_code
def yJ5_getValue_6d5f1 : MethodName := ⟨RJ5, "getValue", "()[B"⟩
abbrev cJ5_isLatin1_aae02 : ByteArray := prog_16_method_68_code
def yJ5_isLatin1_aae02 : MethodName := ⟨RJ5, "isLatin1", "()Z"⟩
abbrev cJ5_inflateIfNeededFor_a7421 : ByteArray := prog_16_method_71_code
def yJ5_inflateIfNeededFor_a7421 : MethodName := ⟨RJ5, "inflateIfNeededFor", "(Ljava/lang/String;)V"⟩
abbrev cJ5_putStringAt_47b60 : ByteArray := prog_16_method_73_code
def yJ5_putStringAt_47b60 : MethodName := ⟨RJ5, "putStringAt", "(ILjava/lang/String;)V"⟩
def RJx2cfe8 : String := "java/lang/Appendable"
def TJx2cfe8 : u_T := fun k => match k with
  | _ => ("", "", "", false)
def tyJx2cfe8 : Nat → FieldType := fun k => match k with
  | _ => .int
abbrev wsJx2cfe80 : List Cond := u_ws RJx2cfe8 TJx2cfe8 0
theorem nmJx2cfe8 : ∀ a, a < 0 → ∀ b, b < 0 → a ≠ b → (TJx2cfe8 a).2.1 ≠ (TJx2cfe8 b).2.1 := by decide +kernel
theorem tyJx2cfe8_ok : ∀ k, k < 0 → parseFieldDescriptor (TJx2cfe8 k).2.2.1 = some (tyJx2cfe8 k) := by decide +kernel
def RJx9f9b0 : String := "java/lang/CharSequence"
def TJx9f9b0 : u_T := fun k => match k with
  | _ => ("", "", "", false)
def tyJx9f9b0 : Nat → FieldType := fun k => match k with
  | _ => .int
abbrev wsJx9f9b00 : List Cond := u_ws RJx9f9b0 TJx9f9b0 0
theorem nmJx9f9b0 : ∀ a, a < 0 → ∀ b, b < 0 → a ≠ b → (TJx9f9b0 a).2.1 ≠ (TJx9f9b0 b).2.1 := by decide +kernel
theorem tyJx9f9b0_ok : ∀ k, k < 0 → parseFieldDescriptor (TJx9f9b0 k).2.2.1 = some (tyJx9f9b0 k) := by decide +kernel
def RJx8e188 : String := "java/lang/Cloneable"
def TJx8e188 : u_T := fun k => match k with
  | _ => ("", "", "", false)
def tyJx8e188 : Nat → FieldType := fun k => match k with
  | _ => .int
abbrev wsJx8e1880 : List Cond := u_ws RJx8e188 TJx8e188 0
theorem nmJx8e188 : ∀ a, a < 0 → ∀ b, b < 0 → a ≠ b → (TJx8e188 a).2.1 ≠ (TJx8e188 b).2.1 := by decide +kernel
theorem tyJx8e188_ok : ∀ k, k < 0 → parseFieldDescriptor (TJx8e188 k).2.2.1 = some (tyJx8e188 k) := by decide +kernel
def RJxb160c : String := "java/lang/Comparable"
def TJxb160c : u_T := fun k => match k with
  | _ => ("", "", "", false)
def tyJxb160c : Nat → FieldType := fun k => match k with
  | _ => .int
abbrev wsJxb160c0 : List Cond := u_ws RJxb160c TJxb160c 0
theorem nmJxb160c : ∀ a, a < 0 → ∀ b, b < 0 → a ≠ b → (TJxb160c a).2.1 ≠ (TJxb160c b).2.1 := by decide +kernel
theorem tyJxb160c_ok : ∀ k, k < 0 → parseFieldDescriptor (TJxb160c k).2.2.1 = some (tyJxb160c k) := by decide +kernel
def RJ6 : String := "java/lang/Integer"
def TJ6 : u_T := fun k => match k with
  | _ => ("", "", "", false)
def tyJ6 : Nat → FieldType := fun k => match k with
  | _ => .int
abbrev wsJ60 : List Cond := u_ws RJ6 TJ6 0
theorem nmJ6 : ∀ a, a < 0 → ∀ b, b < 0 → a ≠ b → (TJ6 a).2.1 ≠ (TJ6 b).2.1 := by decide +kernel
theorem tyJ6_ok : ∀ k, k < 0 → parseFieldDescriptor (TJ6 k).2.2.1 = some (tyJ6 k) := by decide +kernel
abbrev cJ6_getChars_ba4f3 : ByteArray := prog_22_method_12_code
def yJ6_getChars_ba4f3 : MethodName := ⟨RJ6, "getChars", "(II[B)I"⟩
abbrev cJ6_stringSize_0f7a4 : ByteArray := prog_22_method_13_code
def yJ6_stringSize_0f7a4 : MethodName := ⟨RJ6, "stringSize", "(I)I"⟩
abbrev cJ6_bitCount_0f7a4 : ByteArray := prog_22_method_49_code
def yJ6_bitCount_0f7a4 : MethodName := ⟨RJ6, "bitCount", "(I)I"⟩
def RJ9 : String := "java/lang/Math"
def TJ9 : u_T := fun k => match k with
  | _ => ("", "", "", false)
def tyJ9 : Nat → FieldType := fun k => match k with
  | _ => .int
abbrev wsJ90 : List Cond := u_ws RJ9 TJ9 0
theorem nmJ9 : ∀ a, a < 0 → ∀ b, b < 0 → a ≠ b → (TJ9 a).2.1 ≠ (TJ9 b).2.1 := by decide +kernel
theorem tyJ9_ok : ∀ k, k < 0 → parseFieldDescriptor (TJ9 k).2.2.1 = some (tyJ9 k) := by decide +kernel
abbrev cJ9_floorDiv_7cf53 : ByteArray := prog_23_method_47_code
def yJ9_floorDiv_7cf53 : MethodName := ⟨RJ9, "floorDiv", "(II)I"⟩
abbrev cJ9_floorMod_7cf53 : ByteArray := prog_23_method_50_code
def yJ9_floorMod_7cf53 : MethodName := ⟨RJ9, "floorMod", "(II)I"⟩
abbrev cJ9_max_7cf53 : ByteArray := prog_23_method_65_code
def yJ9_max_7cf53 : MethodName := ⟨RJ9, "max", "(II)I"⟩
abbrev cJ9_min_7cf53 : ByteArray := prog_23_method_69_code
def yJ9_min_7cf53 : MethodName := ⟨RJ9, "min", "(II)I"⟩
def RJxd2413 : String := "java/lang/Number"
def TJxd2413 : u_T := fun k => match k with
  | _ => ("", "", "", false)
def tyJxd2413 : Nat → FieldType := fun k => match k with
  | _ => .int
abbrev wsJxd24130 : List Cond := u_ws RJxd2413 TJxd2413 0
theorem nmJxd2413 : ∀ a, a < 0 → ∀ b, b < 0 → a ≠ b → (TJxd2413 a).2.1 ≠ (TJxd2413 b).2.1 := by decide +kernel
theorem tyJxd2413_ok : ∀ k, k < 0 → parseFieldDescriptor (TJxd2413 k).2.2.1 = some (tyJxd2413 k) := by decide +kernel
def RJ0 : String := "java/lang/String"
def TJ0 : u_T := fun k => match k with
  | 0 => ("java/lang/String", "value", "[B", true)
  | 1 => ("java/lang/String", "coder", "B", true)
  | 2 => ("java/lang/String", "hash", "I", false)
  | _ => ("java/lang/String", "hashIsZero", "Z", false)
def tyJ0 : Nat → FieldType := fun k => match k with
  | 0 => .array .byte
  | 1 => .byte
  | 2 => .int
  | _ => .boolean
abbrev wsJ00 : List Cond := u_ws RJ0 TJ0 4
theorem nmJ0 : ∀ a, a < 4 → ∀ b, b < 4 → a ≠ b → (TJ0 a).2.1 ≠ (TJ0 b).2.1 := by decide +kernel
theorem tyJ0_ok : ∀ k, k < 4 → parseFieldDescriptor (TJ0 k).2.2.1 = some (tyJ0 k) := by decide +kernel
abbrev cJ0_init_81219 : ByteArray := prog_26_method_53_code
def yJ0_init_81219 : MethodName := ⟨RJ0, "<init>", "(Ljava/lang/StringBuilder;)V"⟩
abbrev cJ0_length_8abf5 : ByteArray := prog_26_method_54_code
def yJ0_length_8abf5 : MethodName := ⟨RJ0, "length", "()I"⟩
abbrev cJ0_charAt_5068e : ByteArray := prog_26_method_56_code
def yJ0_charAt_5068e : MethodName := ⟨RJ0, "charAt", "(I)C"⟩
abbrev cJ0_getBytes_840e7 : ByteArray := prog_26_method_147_code
def yJ0_getBytes_840e7 : MethodName := ⟨RJ0, "getBytes", "([BIB)V"⟩
abbrev cJ0_init_db425 : ByteArray := prog_26_method_150_code
def yJ0_init_db425 : MethodName := ⟨RJ0, "<init>", "(Ljava/lang/AbstractStringBuilder;Ljava/lang/Void;)V"⟩
abbrev cJ0_coder_7d493 : ByteArray := prog_26_method_152_code
def yJ0_coder_7d493 : MethodName := ⟨RJ0, "coder", "()B"⟩
abbrev cJ0_isLatin1_aae02 : ByteArray := prog_26_method_154_code
def yJ0_isLatin1_aae02 : MethodName := ⟨RJ0, "isLatin1", "()Z"⟩
abbrev cJ0_checkIndex_df160 : ByteArray := prog_26_method_155_code
def yJ0_checkIndex_df160 : MethodName := ⟨RJ0, "checkIndex", "(II)V"⟩
abbrev cJ0_checkBoundsOffCount_cabcc : ByteArray := prog_26_method_157_code
def yJ0_checkBoundsOffCount_cabcc : MethodName := ⟨RJ0, "checkBoundsOffCount", "(III)I"⟩
abbrev cJ0_checkBoundsBeginEnd_23922 : ByteArray := prog_26_method_158_code
def yJ0_checkBoundsBeginEnd_23922 : MethodName := ⟨RJ0, "checkBoundsBeginEnd", "(III)V"⟩
def RJ4 : String := "java/lang/StringBuilder"
def TJ4 : u_T := fun k => match k with
  | 0 => ("java/lang/AbstractStringBuilder", "value", "[B", false)
  | 1 => ("java/lang/AbstractStringBuilder", "coder", "B", false)
  | 2 => ("java/lang/AbstractStringBuilder", "maybeLatin1", "Z", false)
  | _ => ("java/lang/AbstractStringBuilder", "count", "I", false)
def tyJ4 : Nat → FieldType := fun k => match k with
  | 0 => .array .byte
  | 1 => .byte
  | 2 => .boolean
  | _ => .int
abbrev wsJ40 : List Cond := u_ws RJ4 TJ4 4
theorem nmJ4 : ∀ a, a < 4 → ∀ b, b < 4 → a ≠ b → (TJ4 a).2.1 ≠ (TJ4 b).2.1 := by decide +kernel
theorem tyJ4_ok : ∀ k, k < 4 → parseFieldDescriptor (TJ4 k).2.2.1 = some (tyJ4 k) := by decide +kernel
abbrev cJ4_init_da8c8 : ByteArray := prog_27_method_1_code
def yJ4_init_da8c8 : MethodName := ⟨RJ4, "<init>", "()V"⟩
abbrev cJ4_init_a7421 : ByteArray := prog_27_method_3_code
def yJ4_init_a7421 : MethodName := ⟨RJ4, "<init>", "(Ljava/lang/String;)V"⟩
abbrev cJ4_append_15ec4 : ByteArray := prog_27_method_7_code
def yJ4_append_15ec4 : MethodName := ⟨RJ4, "append", "(Ljava/lang/String;)Ljava/lang/StringBuilder;"⟩
abbrev cJ4_append_cf468 : ByteArray := prog_27_method_14_code
def yJ4_append_cf468 : MethodName := ⟨RJ4, "append", "(C)Ljava/lang/StringBuilder;"⟩
abbrev cJ4_append_bf812 : ByteArray := prog_27_method_15_code
def yJ4_append_bf812 : MethodName := ⟨RJ4, "append", "(I)Ljava/lang/StringBuilder;"⟩
abbrev cJ4_toString_0e30d : ByteArray := prog_27_method_42_code
def yJ4_toString_0e30d : MethodName := ⟨RJ4, "toString", "()Ljava/lang/String;"⟩
abbrev cJ4_append_cf1ce : ByteArray := prog_27_method_80_code
def yJ4_append_cf1ce : MethodName := ⟨RJ4, "append", "(Ljava/lang/String;)Ljava/lang/AbstractStringBuilder;"⟩
abbrev cJ4_charAt_5068e : ByteArray := prog_27_method_88_code
def yJ4_charAt_5068e : MethodName := ⟨RJ4, "charAt", "(I)C"⟩
abbrev cJ4_length_8abf5 : ByteArray := prog_27_method_93_code
def yJ4_length_8abf5 : MethodName := ⟨RJ4, "length", "()I"⟩
def RJ1 : String := "java/lang/StringLatin1"
def TJ1 : u_T := fun k => match k with
  | _ => ("", "", "", false)
def tyJ1 : Nat → FieldType := fun k => match k with
  | _ => .int
abbrev wsJ10 : List Cond := u_ws RJ1 TJ1 0
theorem nmJ1 : ∀ a, a < 0 → ∀ b, b < 0 → a ≠ b → (TJ1 a).2.1 ≠ (TJ1 b).2.1 := by decide +kernel
theorem tyJ1_ok : ∀ k, k < 0 → parseFieldDescriptor (TJ1 k).2.2.1 = some (tyJ1 k) := by decide +kernel
abbrev cJ1_charAt_3b067 : ByteArray := prog_28_method_2_code
def yJ1_charAt_3b067 : MethodName := ⟨RJ1, "charAt", "([BI)C"⟩
abbrev cJ1_canEncode_fc78d : ByteArray := prog_28_method_3_code
def yJ1_canEncode_fc78d : MethodName := ⟨RJ1, "canEncode", "(C)Z"⟩
abbrev cJ1_inflate_0e8fd : ByteArray := prog_28_method_50_code
def yJ1_inflate_0e8fd : MethodName := ⟨RJ1, "inflate", "([BI[BII)V"⟩
def RJ2 : String := "java/lang/StringUTF16"
def TJ2 : u_T := fun k => match k with
  | _ => ("", "", "", false)
def tyJ2 : Nat → FieldType := fun k => match k with
  | _ => .int
abbrev wsJ20 : List Cond := u_ws RJ2 TJ2 0
theorem nmJ2 : ∀ a, a < 0 → ∀ b, b < 0 → a ≠ b → (TJ2 a).2.1 ≠ (TJ2 b).2.1 := by decide +kernel
theorem tyJ2_ok : ∀ k, k < 0 → parseFieldDescriptor (TJ2 k).2.2.1 = some (tyJ2 k) := by decide +kernel
abbrev cJ2_newBytesFor_77867 : ByteArray := prog_29_method_2_code
def yJ2_newBytesFor_77867 : MethodName := ⟨RJ2, "newBytesFor", "(I)[B"⟩
abbrev cJ2_newBytesLength_0f7a4 : ByteArray := prog_29_method_3_code
def yJ2_newBytesLength_0f7a4 : MethodName := ⟨RJ2, "newBytesLength", "(I)I"⟩
abbrev cJ2_putChar_b72d1 : ByteArray := prog_29_method_4_code
def yJ2_putChar_b72d1 : MethodName := ⟨RJ2, "putChar", "([BII)V"⟩
abbrev cJ2_getChar_3b067 : ByteArray := prog_29_method_5_code
def yJ2_getChar_3b067 : MethodName := ⟨RJ2, "getChar", "([BI)C"⟩
abbrev cJ2_length_9d52b : ByteArray := prog_29_method_6_code
def yJ2_length_9d52b : MethodName := ⟨RJ2, "length", "([B)I"⟩
abbrev cJ2_coderFromArrayLen_85cad : ByteArray := prog_29_method_15_code
def yJ2_coderFromArrayLen_85cad : MethodName := ⟨RJ2, "coderFromArrayLen", "([BI)B"⟩
abbrev cJ2_compress_39247 : ByteArray := prog_29_method_17_code
def yJ2_compress_39247 : MethodName := ⟨RJ2, "compress", "([BII)[B"⟩
abbrev cJ2_compress_5af95 : ByteArray := prog_29_method_22_code
def yJ2_compress_5af95 : MethodName := ⟨RJ2, "compress", "([BI[BII)I"⟩
abbrev cJ2_putCharSB_b72d1 : ByteArray := prog_29_method_71_code
def yJ2_putCharSB_b72d1 : MethodName := ⟨RJ2, "putCharSB", "([BII)V"⟩
abbrev cJ2_getChars_46870 : ByteArray := prog_29_method_77_code
def yJ2_getChars_46870 : MethodName := ⟨RJ2, "getChars", "(III[B)I"⟩
abbrev cJ2_putCharsAt_cd4e5 : ByteArray := prog_29_method_81_code
def yJ2_putCharsAt_cd4e5 : MethodName := ⟨RJ2, "putCharsAt", "([BICCCC)I"⟩
abbrev cJ2_charAt_3b067 : ByteArray := prog_29_method_83_code
def yJ2_charAt_3b067 : MethodName := ⟨RJ2, "charAt", "([BI)C"⟩
abbrev cJ2_inflate_0e8fd : ByteArray := prog_29_method_86_code
def yJ2_inflate_0e8fd : MethodName := ⟨RJ2, "inflate", "([BI[BII)V"⟩
abbrev cJ2_getChars_ba4f3 : ByteArray := prog_29_method_89_code
def yJ2_getChars_ba4f3 : MethodName := ⟨RJ2, "getChars", "(II[B)I"⟩
abbrev cJ2_checkIndex_2214a : ByteArray := prog_29_method_91_code
def yJ2_checkIndex_2214a : MethodName := ⟨RJ2, "checkIndex", "(I[B)V"⟩
abbrev cJ2_checkBoundsBeginEnd_d044e : ByteArray := prog_29_method_93_code
def yJ2_checkBoundsBeginEnd_d044e : MethodName := ⟨RJ2, "checkBoundsBeginEnd", "(II[B)V"⟩
abbrev cJ2_checkBoundsOffCount_d044e : ByteArray := prog_29_method_94_code
def yJ2_checkBoundsOffCount_d044e : MethodName := ⟨RJ2, "checkBoundsOffCount", "(II[B)V"⟩
def RJ10 : String := "java/lang/System"
def TJ10 : u_T := fun k => match k with
  | _ => ("", "", "", false)
def tyJ10 : Nat → FieldType := fun k => match k with
  | _ => .int
abbrev wsJ100 : List Cond := u_ws RJ10 TJ10 0
theorem nmJ10 : ∀ a, a < 0 → ∀ b, b < 0 → a ≠ b → (TJ10 a).2.1 ≠ (TJ10 b).2.1 := by decide +kernel
theorem tyJ10_ok : ∀ k, k < 0 → parseFieldDescriptor (TJ10 k).2.2.1 = some (tyJ10 k) := by decide +kernel
def RJxfd54e : String := "java/lang/constant/Constable"
def TJxfd54e : u_T := fun k => match k with
  | _ => ("", "", "", false)
def tyJxfd54e : Nat → FieldType := fun k => match k with
  | _ => .int
abbrev wsJxfd54e0 : List Cond := u_ws RJxfd54e TJxfd54e 0
theorem nmJxfd54e : ∀ a, a < 0 → ∀ b, b < 0 → a ≠ b → (TJxfd54e a).2.1 ≠ (TJxfd54e b).2.1 := by decide +kernel
theorem tyJxfd54e_ok : ∀ k, k < 0 → parseFieldDescriptor (TJxfd54e k).2.2.1 = some (tyJxfd54e k) := by decide +kernel
def RJx3cf43 : String := "java/lang/constant/ConstantDesc"
def TJx3cf43 : u_T := fun k => match k with
  | _ => ("", "", "", false)
def tyJx3cf43 : Nat → FieldType := fun k => match k with
  | _ => .int
abbrev wsJx3cf430 : List Cond := u_ws RJx3cf43 TJx3cf43 0
theorem nmJx3cf43 : ∀ a, a < 0 → ∀ b, b < 0 → a ≠ b → (TJx3cf43 a).2.1 ≠ (TJx3cf43 b).2.1 := by decide +kernel
theorem tyJx3cf43_ok : ∀ k, k < 0 → parseFieldDescriptor (TJx3cf43 k).2.2.1 = some (tyJx3cf43 k) := by decide +kernel
def RJ7 : String := "java/util/Arrays"
def TJ7 : u_T := fun k => match k with
  | _ => ("", "", "", false)
def tyJ7 : Nat → FieldType := fun k => match k with
  | _ => .int
abbrev wsJ70 : List Cond := u_ws RJ7 TJ7 0
theorem nmJ7 : ∀ a, a < 0 → ∀ b, b < 0 → a ≠ b → (TJ7 a).2.1 ≠ (TJ7 b).2.1 := by decide +kernel
theorem tyJ7_ok : ∀ k, k < 0 → parseFieldDescriptor (TJ7 k).2.2.1 = some (tyJ7 k) := by decide +kernel
abbrev cJ7_fill_53178 : ByteArray := prog_32_method_103_code
def yJ7_fill_53178 : MethodName := ⟨RJ7, "fill", "([II)V"⟩
abbrev cJ7_copyOf_9075b : ByteArray := prog_32_method_121_code
def yJ7_copyOf_9075b : MethodName := ⟨RJ7, "copyOf", "([BI)[B"⟩
abbrev cJ7_checkLength_df160 : ByteArray := prog_32_method_131_code
def yJ7_checkLength_df160 : MethodName := ⟨RJ7, "checkLength", "(II)V"⟩
abbrev cJ7_copyOfRange_39247 : ByteArray := prog_32_method_132_code
def yJ7_copyOfRange_39247 : MethodName := ⟨RJ7, "copyOfRange", "([BII)[B"⟩
abbrev cJ7_copyOfRangeByte_39247 : ByteArray := prog_32_method_133_code
def yJ7_copyOfRangeByte_39247 : MethodName := ⟨RJ7, "copyOfRangeByte", "([BII)[B"⟩
def RJ8 : String := "jdk/internal/util/ArraysSupport"
def TJ8 : u_T := fun k => match k with
  | _ => ("", "", "", false)
def tyJ8 : Nat → FieldType := fun k => match k with
  | _ => .int
abbrev wsJ80 : List Cond := u_ws RJ8 TJ8 0
theorem nmJ8 : ∀ a, a < 0 → ∀ b, b < 0 → a ≠ b → (TJ8 a).2.1 ≠ (TJ8 b).2.1 := by decide +kernel
theorem tyJ8_ok : ∀ k, k < 0 → parseFieldDescriptor (TJ8 k).2.2.1 = some (tyJ8 k) := by decide +kernel
abbrev cJ8_newLength_cabcc : ByteArray := prog_33_method_27_code
def yJ8_newLength_cabcc : MethodName := ⟨RJ8, "newLength", "(III)I"⟩
abbrev cJ8_hugeLength_7cf53 : ByteArray := prog_33_method_28_code
def yJ8_hugeLength_7cf53 : MethodName := ⟨RJ8, "hugeLength", "(II)I"⟩
def RJ3 : String := "jdk/internal/util/Preconditions"
def TJ3 : u_T := fun k => match k with
  | _ => ("", "", "", false)
def tyJ3 : Nat → FieldType := fun k => match k with
  | _ => .int
abbrev wsJ30 : List Cond := u_ws RJ3 TJ3 0
theorem nmJ3 : ∀ a, a < 0 → ∀ b, b < 0 → a ≠ b → (TJ3 a).2.1 ≠ (TJ3 b).2.1 := by decide +kernel
theorem tyJ3_ok : ∀ k, k < 0 → parseFieldDescriptor (TJ3 k).2.2.1 = some (tyJ3 k) := by decide +kernel
abbrev cJ3_checkIndex_8e157 : ByteArray := prog_34_method_11_code
def yJ3_checkIndex_8e157 : MethodName := ⟨RJ3, "checkIndex", "(IILjava/util/function/BiFunction;)I"⟩
abbrev cJ3_checkFromToIndex_8c36e : ByteArray := prog_34_method_12_code
def yJ3_checkFromToIndex_8c36e : MethodName := ⟨RJ3, "checkFromToIndex", "(IIILjava/util/function/BiFunction;)I"⟩
abbrev cJ3_checkFromIndexSize_8c36e : ByteArray := prog_34_method_13_code
def yJ3_checkFromIndexSize_8c36e : MethodName := ⟨RJ3, "checkFromIndexSize", "(IIILjava/util/function/BiFunction;)I"⟩
def RL : String := "CrossedModulesLaw"
abbrev cL_feeds : ByteArray := method_2_code
def yL_feeds : MethodName := ⟨RL, "feeds", "(LCrossedModules;Ljava/lang/String;)Z"⟩
abbrev cL_tell : ByteArray := method_3_code
def yL_tell : MethodName := ⟨RL, "tell", "(LCrossedModules;Ljava/lang/String;)I"⟩
abbrev cL_calls : ByteArray := method_4_code
def yL_calls : MethodName := ⟨RL, "calls", "(LCrossedModules;IIIII)J"⟩
abbrev cL_thrown : ByteArray := method_5_code
def yL_thrown : MethodName := ⟨RL, "thrown", "(LCrossedModules;IIIII)I"⟩
abbrev cL_cyclic : ByteArray := method_6_code
def yL_cyclic : MethodName := ⟨RL, "cyclic", "(I)[[I"⟩
abbrev cL_dihedral : ByteArray := method_7_code
def yL_dihedral : MethodName := ⟨RL, "dihedral", "(I)[[I"⟩
abbrev cL_quaternion : ByteArray := method_8_code
def yL_quaternion : MethodName := ⟨RL, "quaternion", "()[[I"⟩
abbrev cL_product : ByteArray := method_9_code
def yL_product : MethodName := ⟨RL, "product", "([[I[[I)[[I"⟩
abbrev cL_inverse : ByteArray := method_10_code
def yL_inverse : MethodName := ⟨RL, "inverse", "([[II)I"⟩
abbrev cL_isAbelian : ByteArray := method_11_code
def yL_isAbelian : MethodName := ⟨RL, "isAbelian", "([[I)Z"⟩
abbrev cL_order : ByteArray := method_12_code
def yL_order : MethodName := ⟨RL, "order", "([[II)I"⟩
abbrev cL_isLike : ByteArray := method_13_code
def yL_isLike : MethodName := ⟨RL, "isLike", "(LCrossedModules;LCrossedModulesLaw$World;)Z"⟩
abbrev cL_act : ByteArray := method_14_code
def yL_act : MethodName := ⟨RL, "act", "(LCrossedModules;LCrossedModulesLaw$World;LCrossedModulesLaw$Draws;)Z"⟩
abbrev cL_moves : ByteArray := method_15_code
def yL_moves : MethodName := ⟨RL, "moves", "(LCrossedModules;LCrossedModulesLaw$Module;IILCrossedModulesLaw$Draws;)Z"⟩
abbrev cL_turns : ByteArray := method_16_code
def yL_turns : MethodName := ⟨RL, "turns", "(LCrossedModules;LCrossedModulesLaw$World;LCrossedModulesLaw$Draws;)Z"⟩
abbrev cL_isText : ByteArray := method_17_code
def yL_isText : MethodName := ⟨RL, "isText", "(LCrossedModules;Ljava/lang/StringBuilder;)Z"⟩
abbrev cL_groups : ByteArray := method_18_code
def yL_groups : MethodName := ⟨RL, "groups", "(LCrossedModules;LCrossedModulesLaw$World;)Z"⟩
abbrev cL_modules : ByteArray := method_19_code
def yL_modules : MethodName := ⟨RL, "modules", "(LCrossedModules;LCrossedModulesLaw$World;)Z"⟩
abbrev cL_areLike : ByteArray := method_20_code
def yL_areLike : MethodName := ⟨RL, "areLike", "(LCrossedModulesLaw$Module;LCrossedModulesLaw$Module;)Z"⟩
abbrev cL_like : ByteArray := method_21_code
def yL_like : MethodName := ⟨RL, "like", "(LCrossedModulesLaw$World;I)I"⟩
abbrev cL_pairs : ByteArray := method_22_code
def yL_pairs : MethodName := ⟨RL, "pairs", "(LCrossedModules;LCrossedModulesLaw$World;I)Z"⟩
abbrev cL_law : ByteArray := code
def yL_law : MethodName := ⟨RL, "law", "([I)Z"⟩
abbrev vwCl : List vw_C := [(RX0, TX0, 4), (RX1, TX1, 8), (RX2, TX2, 4), (RX3, TX3, 3), (RX4, TX4, 5), (RX5, TX5, 4), (RX6, TX6, 7), (RX7, TX7, 7), (RX8, TX8, 14), (RX9, TX9, 4), (RX0, TX0, 4), (RX0, TX0, 4), (RX0, TX0, 4), (RX0, TX0, 4), (RX0, TX0, 4), (RX0, TX0, 4), (RX0, TX0, 4), (RX0, TX0, 4), (RX0, TX0, 4), (RX0, TX0, 4), (RX10, TX10, 2), (RX11, TX11, 6), (RX12, TX12, 8), (RJ4, TJ4, 4), (RJ0, TJ0, 4)]
