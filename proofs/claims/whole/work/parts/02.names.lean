/-! names, decode rows, words: by a program of ours out of the listing and the Statement -/
def RP : String := "SpongeDesk$Permutation"
def RR : String := "SpongeDesk$Row"
def RS : String := "SpongeDesk$Sponge"
def RK : String := "SpongeDesk"
def RM : String := "SpongeDeskModel"
def RL : String := "SpongeDeskLaw"
def RJ : String := "java/util/Arrays"
def TR : u_T := fun k => match k with
  | 0 => ("SpongeDesk$Row", "bytes", "[B", true)
  | _ => ("SpongeDesk$Row", "length", "I", false)
def tyR : Nat → FieldType := fun k => match k with
  | 0 => .array .byte
  | _ => .int
theorem nmR : ∀ a, a < 2 → ∀ b, b < 2 → a ≠ b → (TR a).2.1 ≠ (TR b).2.1 := by decide +kernel
theorem tyR_ok : ∀ k, k < 2 → parseFieldDescriptor (TR k).2.2.1 = some (tyR k) := by decide +kernel
def TS : u_T := fun k => match k with
  | 0 => ("SpongeDesk$Sponge", "lanes", "[J", true)
  | 1 => ("SpongeDesk$Sponge", "kind", "I", false)
  | 2 => ("SpongeDesk$Sponge", "width", "I", false)
  | 3 => ("SpongeDesk$Sponge", "place", "I", false)
  | 4 => ("SpongeDesk$Sponge", "ending", "I", false)
  | 5 => ("SpongeDesk$Sponge", "taken", "I", false)
  | 6 => ("SpongeDesk$Sponge", "ended", "Z", false)
  | _ => ("SpongeDesk$Sponge", "remaining", "I", false)
def tyS : Nat → FieldType := fun k => match k with
  | 0 => .array .long
  | 1 => .int
  | 2 => .int
  | 3 => .int
  | 4 => .int
  | 5 => .int
  | 6 => .boolean
  | _ => .int
theorem nmS : ∀ a, a < 8 → ∀ b, b < 8 → a ≠ b → (TS a).2.1 ≠ (TS b).2.1 := by decide +kernel
theorem tyS_ok : ∀ k, k < 8 → parseFieldDescriptor (TS k).2.2.1 = some (tyS k) := by decide +kernel
def TK : u_T := fun k => match k with
  | 0 => ("SpongeDesk", "tape", "LSpongeDesk$Row;", true)
  | 1 => ("SpongeDesk", "name", "LSpongeDesk$Row;", true)
  | 2 => ("SpongeDesk", "custom", "LSpongeDesk$Row;", true)
  | 3 => ("SpongeDesk", "key", "LSpongeDesk$Row;", true)
  | 4 => ("SpongeDesk", "sponges", "[LSpongeDesk$Sponge;", true)
  | 5 => ("SpongeDesk", "ahead", "LSpongeDesk$Sponge;", true)
  | _ => ("SpongeDesk", "otherAhead", "LSpongeDesk$Sponge;", true)
def tyK : Nat → FieldType := fun k => match k with
  | 0 => .object "SpongeDesk$Row"
  | 1 => .object "SpongeDesk$Row"
  | 2 => .object "SpongeDesk$Row"
  | 3 => .object "SpongeDesk$Row"
  | 4 => .array (.object "SpongeDesk$Sponge")
  | 5 => .object "SpongeDesk$Sponge"
  | _ => .object "SpongeDesk$Sponge"
theorem nmK : ∀ a, a < 7 → ∀ b, b < 7 → a ≠ b → (TK a).2.1 ≠ (TK b).2.1 := by decide +kernel
theorem tyK_ok : ∀ k, k < 7 → parseFieldDescriptor (TK k).2.2.1 = some (tyK k) := by decide +kernel
def TM : u_T := fun k => match k with
  | 0 => ("SpongeDeskModel", "thrown", "I", false)
  | 1 => ("SpongeDeskModel", "tapeSize", "I", false)
  | 2 => ("SpongeDeskModel", "tape", "[I", true)
  | 3 => ("SpongeDeskModel", "rowSize", "[I", true)
  | 4 => ("SpongeDeskModel", "rows", "[I", true)
  | 5 => ("SpongeDeskModel", "bits", "[Z", true)
  | 6 => ("SpongeDeskModel", "kinds", "[I", true)
  | 7 => ("SpongeDeskModel", "place", "[I", true)
  | 8 => ("SpongeDeskModel", "endByte", "[I", true)
  | 9 => ("SpongeDeskModel", "ended", "[Z", true)
  | 10 => ("SpongeDeskModel", "counts", "[I", true)
  | 11 => ("SpongeDeskModel", "lefts", "[I", true)
  | 12 => ("SpongeDeskModel", "now", "[Z", true)
  | _ => ("SpongeDeskModel", "next", "[Z", true)
def tyM : Nat → FieldType := fun k => match k with
  | 0 => .int
  | 1 => .int
  | 2 => .array .int
  | 3 => .array .int
  | 4 => .array .int
  | 5 => .array .boolean
  | 6 => .array .int
  | 7 => .array .int
  | 8 => .array .int
  | 9 => .array .boolean
  | 10 => .array .int
  | 11 => .array .int
  | 12 => .array .boolean
  | _ => .array .boolean
theorem nmM : ∀ a, a < 14 → ∀ b, b < 14 → a ≠ b → (TM a).2.1 ≠ (TM b).2.1 := by decide +kernel
theorem tyM_ok : ∀ k, k < 14 → parseFieldDescriptor (TM k).2.2.1 = some (tyM k) := by decide +kernel
abbrev vwCl : List vw_C := [(RR, TR, 2), (RS, TS, 8), (RK, TK, 7), (RM, TM, 14)]
def lw_good : List Cond := lw_tbl.filter goodWord
theorem gd_all : ∀ w ∈ lw_good, goodWord w = true := fun _ h => (List.mem_filter.mp h).2
theorem gd_in : ∀ w ∈ lw_good, w ∈ lw_tbl := fun _ h => (List.mem_filter.mp h).1
abbrev cK_init : ByteArray := prog_1_method_1_code
def yK_init : MethodName := ⟨RK, "<init>", "()V"⟩
abbrev cK_feed : ByteArray := prog_1_method_2_code
def yK_feed : MethodName := ⟨RK, "feed", "(IJ)I"⟩
abbrev cK_wipe : ByteArray := prog_1_method_3_code
def yK_wipe : MethodName := ⟨RK, "wipe", "()I"⟩
abbrev cK_let : ByteArray := prog_1_method_4_code
def yK_let : MethodName := ⟨RK, "let", "(I)I"⟩
abbrev cK_begin : ByteArray := prog_1_method_5_code
def yK_begin : MethodName := ⟨RK, "begin", "(II)V"⟩
abbrev cK_absorb : ByteArray := prog_1_method_6_code
def yK_absorb : MethodName := ⟨RK, "absorb", "(I)I"⟩
abbrev cK_bytes : ByteArray := prog_1_method_7_code
def yK_bytes : MethodName := ⟨RK, "bytes", "(IIJ)I"⟩
abbrev cK_end : ByteArray := prog_1_method_8_code
def yK_end : MethodName := ⟨RK, "end", "(II)V"⟩
abbrev cK_squeeze : ByteArray := prog_1_method_9_code
def yK_squeeze : MethodName := ⟨RK, "squeeze", "(II)J"⟩
abbrev cK_left : ByteArray := prog_1_method_10_code
def yK_left : MethodName := ⟨RK, "left", "(I)I"⟩
abbrev cK_copy : ByteArray := prog_1_method_11_code
def yK_copy : MethodName := ⟨RK, "copy", "(II)V"⟩
abbrev cK_kind : ByteArray := prog_1_method_12_code
def yK_kind : MethodName := ⟨RK, "kind", "(I)I"⟩
abbrev cK_same : ByteArray := prog_1_method_13_code
def yK_same : MethodName := ⟨RK, "same", "(III)Z"⟩
abbrev cK_givesSame : ByteArray := prog_1_method_14_code
def yK_givesSame : MethodName := ⟨RK, "givesSame", "(I)Z"⟩
abbrev cK_spongeAt : ByteArray := prog_1_method_15_code
def yK_spongeAt : MethodName := ⟨RK, "spongeAt", "(I)LSpongeDesk$Sponge;"⟩
abbrev cK_refuseUnless : ByteArray := prog_1_method_16_code
def yK_refuseUnless : MethodName := ⟨RK, "refuseUnless", "(Z)V"⟩
abbrev cK_refuseStateUnless : ByteArray := prog_1_method_17_code
def yK_refuseStateUnless : MethodName := ⟨RK, "refuseStateUnless", "(Z)V"⟩
abbrev cK_isByteCount : ByteArray := prog_1_method_18_code
def yK_isByteCount : MethodName := ⟨RK, "isByteCount", "(I)Z"⟩
abbrev cK_isLengthOf : ByteArray := prog_1_method_19_code
def yK_isLengthOf : MethodName := ⟨RK, "isLengthOf", "(II)Z"⟩
abbrev cM_init : ByteArray := prog_6_method_1_code
def yM_init : MethodName := ⟨RM, "<init>", "()V"⟩
abbrev cM_thrown : ByteArray := prog_6_method_2_code
def yM_thrown : MethodName := ⟨RM, "thrown", "()I"⟩
abbrev cM_at : ByteArray := prog_6_method_3_code
def yM_at : MethodName := ⟨RM, "at", "(III)I"⟩
abbrev cM_isOdd : ByteArray := prog_6_method_4_code
def yM_isOdd : MethodName := ⟨RM, "isOdd", "(II)Z"⟩
abbrev cM_take : ByteArray := prog_6_method_5_code
def yM_take : MethodName := ⟨RM, "take", "()V"⟩
abbrev cM_columns : ByteArray := prog_6_method_6_code
def yM_columns : MethodName := ⟨RM, "columns", "()V"⟩
abbrev cM_turns : ByteArray := prog_6_method_7_code
def yM_turns : MethodName := ⟨RM, "turns", "()V"⟩
abbrev cM_places : ByteArray := prog_6_method_8_code
def yM_places : MethodName := ⟨RM, "places", "()V"⟩
abbrev cM_rowsOf : ByteArray := prog_6_method_9_code
def yM_rowsOf : MethodName := ⟨RM, "rowsOf", "()V"⟩
abbrev cM_constant : ByteArray := prog_6_method_10_code
def yM_constant : MethodName := ⟨RM, "constant", "(I)Z"⟩
abbrev cM_permute : ByteArray := prog_6_method_11_code
def yM_permute : MethodName := ⟨RM, "permute", "(I)V"⟩
abbrev cM_widthOf : ByteArray := prog_6_method_12_code
def yM_widthOf : MethodName := ⟨RM, "widthOf", "(I)I"⟩
abbrev cM_lengthOf : ByteArray := prog_6_method_13_code
def yM_lengthOf : MethodName := ⟨RM, "lengthOf", "(I)I"⟩
abbrev cM_hasLength : ByteArray := prog_6_method_14_code
def yM_hasLength : MethodName := ⟨RM, "hasLength", "(I)Z"⟩
abbrev cM_meet : ByteArray := prog_6_method_15_code
def yM_meet : MethodName := ⟨RM, "meet", "(III)V"⟩
abbrev cM_comeIn : ByteArray := prog_6_method_16_code
def yM_comeIn : MethodName := ⟨RM, "comeIn", "(II)V"⟩
abbrev cM_bytesOf : ByteArray := prog_6_method_17_code
def yM_bytesOf : MethodName := ⟨RM, "bytesOf", "(I)I"⟩
abbrev cM_number : ByteArray := prog_6_method_18_code
def yM_number : MethodName := ⟨RM, "number", "(II)V"⟩
abbrev cM_leftOf : ByteArray := prog_6_method_19_code
def yM_leftOf : MethodName := ⟨RM, "leftOf", "(II)V"⟩
abbrev cM_string : ByteArray := prog_6_method_20_code
def yM_string : MethodName := ⟨RM, "string", "(I[III)V"⟩
abbrev cM_fill : ByteArray := prog_6_method_21_code
def yM_fill : MethodName := ⟨RM, "fill", "(I)V"⟩
abbrev cM_ownName : ByteArray := prog_6_method_22_code
def yM_ownName : MethodName := ⟨RM, "ownName", "(IZ)V"⟩
abbrev cM_start : ByteArray := prog_6_method_23_code
def yM_start : MethodName := ⟨RM, "start", "(II)V"⟩
abbrev cM_isSponge : ByteArray := prog_6_method_24_code
def yM_isSponge : MethodName := ⟨RM, "isSponge", "(I)Z"⟩
abbrev cM_feed : ByteArray := prog_6_method_25_code
def yM_feed : MethodName := ⟨RM, "feed", "(IJ)I"⟩
abbrev cM_wipe : ByteArray := prog_6_method_26_code
def yM_wipe : MethodName := ⟨RM, "wipe", "()I"⟩
abbrev cM_let : ByteArray := prog_6_method_27_code
def yM_let : MethodName := ⟨RM, "let", "(I)I"⟩
abbrev cM_begin : ByteArray := prog_6_method_28_code
def yM_begin : MethodName := ⟨RM, "begin", "(II)V"⟩
abbrev cM_absorb : ByteArray := prog_6_method_29_code
def yM_absorb : MethodName := ⟨RM, "absorb", "(I)I"⟩
abbrev cM_bytes : ByteArray := prog_6_method_30_code
def yM_bytes : MethodName := ⟨RM, "bytes", "(IIJ)I"⟩
abbrev cM_end : ByteArray := prog_6_method_31_code
def yM_end : MethodName := ⟨RM, "end", "(II)V"⟩
abbrev cM_has : ByteArray := prog_6_method_32_code
def yM_has : MethodName := ⟨RM, "has", "(II)Z"⟩
abbrev cM_comeOut : ByteArray := prog_6_method_33_code
def yM_comeOut : MethodName := ⟨RM, "comeOut", "(I)I"⟩
abbrev cM_squeeze : ByteArray := prog_6_method_34_code
def yM_squeeze : MethodName := ⟨RM, "squeeze", "(II)J"⟩
abbrev cM_left : ByteArray := prog_6_method_35_code
def yM_left : MethodName := ⟨RM, "left", "(I)I"⟩
abbrev cM_copyAll : ByteArray := prog_6_method_36_code
def yM_copyAll : MethodName := ⟨RM, "copyAll", "(II)V"⟩
abbrev cM_copy : ByteArray := prog_6_method_37_code
def yM_copy : MethodName := ⟨RM, "copy", "(II)V"⟩
abbrev cM_kind : ByteArray := prog_6_method_38_code
def yM_kind : MethodName := ⟨RM, "kind", "(I)I"⟩
abbrev cM_same : ByteArray := prog_6_method_39_code
def yM_same : MethodName := ⟨RM, "same", "(III)Z"⟩
abbrev cP_mixColumns : ByteArray := prog_2_method_2_code
def yP_mixColumns : MethodName := ⟨RP, "mixColumns", "([J)V"⟩
abbrev cP_moveLanes : ByteArray := prog_2_method_3_code
def yP_moveLanes : MethodName := ⟨RP, "moveLanes", "([J)V"⟩
abbrev cP_mixRows : ByteArray := prog_2_method_4_code
def yP_mixRows : MethodName := ⟨RP, "mixRows", "([J)V"⟩
abbrev cR_init : ByteArray := prog_3_method_1_code
def yR_init : MethodName := ⟨RR, "<init>", "()V"⟩
abbrev cR_hasRoomFor : ByteArray := prog_3_method_2_code
def yR_hasRoomFor : MethodName := ⟨RR, "hasRoomFor", "(I)Z"⟩
abbrev cR_append : ByteArray := prog_3_method_3_code
def yR_append : MethodName := ⟨RR, "append", "(IJ)I"⟩
abbrev cR_becomeLike : ByteArray := prog_3_method_4_code
def yR_becomeLike : MethodName := ⟨RR, "becomeLike", "(LSpongeDesk$Row;)V"⟩
abbrev cS_init : ByteArray := prog_4_method_1_code
def yS_init : MethodName := ⟨RS, "<init>", "()V"⟩
abbrev cS_restart : ByteArray := prog_4_method_2_code
def yS_restart : MethodName := ⟨RS, "restart", "(I)V"⟩
abbrev cS_becomeLike : ByteArray := prog_4_method_3_code
def yS_becomeLike : MethodName := ⟨RS, "becomeLike", "(LSpongeDesk$Sponge;)V"⟩
abbrev cS_takePrefix : ByteArray := prog_4_method_4_code
def yS_takePrefix : MethodName := ⟨RS, "takePrefix", "([BILSpongeDesk$Row;)V"⟩
abbrev cS_takeKey : ByteArray := prog_4_method_5_code
def yS_takeKey : MethodName := ⟨RS, "takeKey", "(LSpongeDesk$Row;)V"⟩
abbrev cS_takeTape : ByteArray := prog_4_method_6_code
def yS_takeTape : MethodName := ⟨RS, "takeTape", "(LSpongeDesk$Row;)I"⟩
abbrev cS_takeLong : ByteArray := prog_4_method_7_code
def yS_takeLong : MethodName := ⟨RS, "takeLong", "(IJ)I"⟩
abbrev cS_finish : ByteArray := prog_4_method_8_code
def yS_finish : MethodName := ⟨RS, "finish", "(I)V"⟩
abbrev cS_canGive : ByteArray := prog_4_method_9_code
def yS_canGive : MethodName := ⟨RS, "canGive", "(I)Z"⟩
abbrev cS_giveLong : ByteArray := prog_4_method_10_code
def yS_giveLong : MethodName := ⟨RS, "giveLong", "(I)J"⟩
abbrev cS_giveByte : ByteArray := prog_4_method_11_code
def yS_giveByte : MethodName := ⟨RS, "giveByte", "()J"⟩
abbrev cS_takeString : ByteArray := prog_4_method_12_code
def yS_takeString : MethodName := ⟨RS, "takeString", "([BI)V"⟩
abbrev cS_takeRow : ByteArray := prog_4_method_13_code
def yS_takeRow : MethodName := ⟨RS, "takeRow", "([BI)V"⟩
abbrev cS_takeLeft : ByteArray := prog_4_method_14_code
def yS_takeLeft : MethodName := ⟨RS, "takeLeft", "(I)V"⟩
abbrev cS_takeRight : ByteArray := prog_4_method_15_code
def yS_takeRight : MethodName := ⟨RS, "takeRight", "(I)V"⟩
abbrev cS_sizeOf : ByteArray := prog_4_method_16_code
def yS_sizeOf : MethodName := ⟨RS, "sizeOf", "(I)I"⟩
abbrev cS_takeByte : ByteArray := prog_4_method_17_code
def yS_takeByte : MethodName := ⟨RS, "takeByte", "(I)V"⟩
abbrev cS_fillUp : ByteArray := prog_4_method_18_code
def yS_fillUp : MethodName := ⟨RS, "fillUp", "()V"⟩
abbrev cS_mix : ByteArray := prog_4_method_19_code
def yS_mix : MethodName := ⟨RS, "mix", "(II)V"⟩
abbrev cS_permute : ByteArray := prog_4_method_20_code
def yS_permute : MethodName := ⟨RS, "permute", "()V"⟩
abbrev cL_feed : ByteArray := method_3_code
def yL_feed : MethodName := ⟨RL, "feed", "(LSpongeDesk;IJ[J)I"⟩
abbrev cL_let : ByteArray := method_4_code
def yL_let : MethodName := ⟨RL, "let", "(LSpongeDesk;I[J)I"⟩
abbrev cL_begin : ByteArray := method_5_code
def yL_begin : MethodName := ⟨RL, "begin", "(LSpongeDesk;II)I"⟩
abbrev cL_absorb : ByteArray := method_6_code
def yL_absorb : MethodName := ⟨RL, "absorb", "(LSpongeDesk;I[J)I"⟩
abbrev cL_bytes : ByteArray := method_7_code
def yL_bytes : MethodName := ⟨RL, "bytes", "(LSpongeDesk;IIJ[J)I"⟩
abbrev cL_end : ByteArray := method_8_code
def yL_end : MethodName := ⟨RL, "end", "(LSpongeDesk;II)I"⟩
abbrev cL_squeeze : ByteArray := method_9_code
def yL_squeeze : MethodName := ⟨RL, "squeeze", "(LSpongeDesk;II[J)I"⟩
abbrev cL_left : ByteArray := method_10_code
def yL_left : MethodName := ⟨RL, "left", "(LSpongeDesk;I[J)I"⟩
abbrev cL_copy : ByteArray := method_11_code
def yL_copy : MethodName := ⟨RL, "copy", "(LSpongeDesk;II)I"⟩
abbrev cL_kind : ByteArray := method_12_code
def yL_kind : MethodName := ⟨RL, "kind", "(LSpongeDesk;I[J)I"⟩
abbrev cL_same : ByteArray := method_13_code
def yL_same : MethodName := ⟨RL, "same", "(LSpongeDesk;III[J)I"⟩
abbrev cL_law : ByteArray := code
def yL_law : MethodName := ⟨RL, "law", "([I)Z"⟩
abbrev cJ_fill : ByteArray := prog_15_method_101_code
def yJ_fill : MethodName := ⟨RJ, "fill", "([JJ)V"⟩
theorem g_0 : Cond.selects "java/lang/Throwable" ⟨"java/lang/Throwable", "fillInStackTrace", "(I)Ljava/lang/Throwable;"⟩ ⟨"java/lang/Throwable", "fillInStackTrace", "(I)Ljava/lang/Throwable;"⟩ ∈ lw_good := List.mem_filter.mpr ⟨List.mem_of_getElem? (i := 0) (by decide +kernel), by decide +kernel⟩
theorem g_1 : Cond.selects RK yK_spongeAt yK_spongeAt ∈ lw_good := List.mem_filter.mpr ⟨List.mem_of_getElem? (i := 1) (by decide +kernel), by decide +kernel⟩
theorem g_2 : Cond.selects RS yS_takeLeft yS_takeLeft ∈ lw_good := List.mem_filter.mpr ⟨List.mem_of_getElem? (i := 2) (by decide +kernel), by decide +kernel⟩
theorem g_3 : Cond.selects RS yS_takeByte yS_takeByte ∈ lw_good := List.mem_filter.mpr ⟨List.mem_of_getElem? (i := 3) (by decide +kernel), by decide +kernel⟩
theorem g_4 : Cond.selects RS yS_mix yS_mix ∈ lw_good := List.mem_filter.mpr ⟨List.mem_of_getElem? (i := 4) (by decide +kernel), by decide +kernel⟩
theorem g_5 : Cond.selects RS yS_permute yS_permute ∈ lw_good := List.mem_filter.mpr ⟨List.mem_of_getElem? (i := 5) (by decide +kernel), by decide +kernel⟩
theorem g_6 : Cond.selects RS yS_takeString yS_takeString ∈ lw_good := List.mem_filter.mpr ⟨List.mem_of_getElem? (i := 6) (by decide +kernel), by decide +kernel⟩
theorem g_7 : Cond.selects RS yS_takeRow yS_takeRow ∈ lw_good := List.mem_filter.mpr ⟨List.mem_of_getElem? (i := 7) (by decide +kernel), by decide +kernel⟩
theorem g_8 : Cond.selects RS yS_fillUp yS_fillUp ∈ lw_good := List.mem_filter.mpr ⟨List.mem_of_getElem? (i := 8) (by decide +kernel), by decide +kernel⟩
theorem g_9 : Cond.selects RS yS_takeRight yS_takeRight ∈ lw_good := List.mem_filter.mpr ⟨List.mem_of_getElem? (i := 9) (by decide +kernel), by decide +kernel⟩
theorem g_10 : Cond.selects RK yK_givesSame yK_givesSame ∈ lw_good := List.mem_filter.mpr ⟨List.mem_of_getElem? (i := 10) (by decide +kernel), by decide +kernel⟩
theorem g_11 : Cond.selects RM yM_start yM_start ∈ lw_good := List.mem_filter.mpr ⟨List.mem_of_getElem? (i := 11) (by decide +kernel), by decide +kernel⟩
theorem g_12 : Cond.selects RM yM_leftOf yM_leftOf ∈ lw_good := List.mem_filter.mpr ⟨List.mem_of_getElem? (i := 12) (by decide +kernel), by decide +kernel⟩
theorem g_13 : Cond.selects RM yM_comeIn yM_comeIn ∈ lw_good := List.mem_filter.mpr ⟨List.mem_of_getElem? (i := 13) (by decide +kernel), by decide +kernel⟩
theorem g_14 : Cond.selects RM yM_meet yM_meet ∈ lw_good := List.mem_filter.mpr ⟨List.mem_of_getElem? (i := 14) (by decide +kernel), by decide +kernel⟩
theorem g_15 : Cond.selects RM yM_permute yM_permute ∈ lw_good := List.mem_filter.mpr ⟨List.mem_of_getElem? (i := 15) (by decide +kernel), by decide +kernel⟩
theorem g_16 : Cond.selects RM yM_columns yM_columns ∈ lw_good := List.mem_filter.mpr ⟨List.mem_of_getElem? (i := 16) (by decide +kernel), by decide +kernel⟩
theorem g_17 : Cond.selects RM yM_isOdd yM_isOdd ∈ lw_good := List.mem_filter.mpr ⟨List.mem_of_getElem? (i := 17) (by decide +kernel), by decide +kernel⟩
theorem g_18 : Cond.selects RM yM_take yM_take ∈ lw_good := List.mem_filter.mpr ⟨List.mem_of_getElem? (i := 18) (by decide +kernel), by decide +kernel⟩
theorem g_19 : Cond.selects RM yM_turns yM_turns ∈ lw_good := List.mem_filter.mpr ⟨List.mem_of_getElem? (i := 19) (by decide +kernel), by decide +kernel⟩
theorem g_20 : Cond.selects RM yM_places yM_places ∈ lw_good := List.mem_filter.mpr ⟨List.mem_of_getElem? (i := 20) (by decide +kernel), by decide +kernel⟩
theorem g_21 : Cond.selects RM yM_rowsOf yM_rowsOf ∈ lw_good := List.mem_filter.mpr ⟨List.mem_of_getElem? (i := 21) (by decide +kernel), by decide +kernel⟩
theorem g_22 : Cond.selects RM yM_number yM_number ∈ lw_good := List.mem_filter.mpr ⟨List.mem_of_getElem? (i := 22) (by decide +kernel), by decide +kernel⟩
theorem g_23 : Cond.selects RM yM_string yM_string ∈ lw_good := List.mem_filter.mpr ⟨List.mem_of_getElem? (i := 23) (by decide +kernel), by decide +kernel⟩
theorem g_24 : Cond.selects RM yM_ownName yM_ownName ∈ lw_good := List.mem_filter.mpr ⟨List.mem_of_getElem? (i := 24) (by decide +kernel), by decide +kernel⟩
theorem g_25 : Cond.selects RM yM_fill yM_fill ∈ lw_good := List.mem_filter.mpr ⟨List.mem_of_getElem? (i := 25) (by decide +kernel), by decide +kernel⟩
theorem g_26 : Cond.selects RM yM_has yM_has ∈ lw_good := List.mem_filter.mpr ⟨List.mem_of_getElem? (i := 26) (by decide +kernel), by decide +kernel⟩
theorem g_27 : Cond.selects RM yM_comeOut yM_comeOut ∈ lw_good := List.mem_filter.mpr ⟨List.mem_of_getElem? (i := 27) (by decide +kernel), by decide +kernel⟩
theorem g_28 : Cond.selects RM yM_copyAll yM_copyAll ∈ lw_good := List.mem_filter.mpr ⟨List.mem_of_getElem? (i := 28) (by decide +kernel), by decide +kernel⟩
theorem g_29 : Cond.initialized RL ∈ lw_good := List.mem_filter.mpr ⟨List.mem_of_getElem? (i := 29) (by decide +kernel), by decide +kernel⟩
theorem g_30 : Cond.initialized RK ∈ lw_good := List.mem_filter.mpr ⟨List.mem_of_getElem? (i := 30) (by decide +kernel), by decide +kernel⟩
theorem g_31 : Cond.initialized RR ∈ lw_good := List.mem_filter.mpr ⟨List.mem_of_getElem? (i := 31) (by decide +kernel), by decide +kernel⟩
theorem g_32 : Cond.initialized RS ∈ lw_good := List.mem_filter.mpr ⟨List.mem_of_getElem? (i := 32) (by decide +kernel), by decide +kernel⟩
theorem g_33 : Cond.initialized RJ ∈ lw_good := List.mem_filter.mpr ⟨List.mem_of_getElem? (i := 33) (by decide +kernel), by decide +kernel⟩
theorem g_34 : Cond.initialized RM ∈ lw_good := List.mem_filter.mpr ⟨List.mem_of_getElem? (i := 34) (by decide +kernel), by decide +kernel⟩
theorem g_35 : Cond.initialized "java/lang/Throwable" ∈ lw_good := List.mem_filter.mpr ⟨List.mem_of_getElem? (i := 35) (by decide +kernel), by decide +kernel⟩
theorem g_36 : Cond.initialized "java/lang/Exception" ∈ lw_good := List.mem_filter.mpr ⟨List.mem_of_getElem? (i := 36) (by decide +kernel), by decide +kernel⟩
theorem g_37 : Cond.initialized "java/lang/RuntimeException" ∈ lw_good := List.mem_filter.mpr ⟨List.mem_of_getElem? (i := 37) (by decide +kernel), by decide +kernel⟩
theorem g_38 : Cond.initialized "java/lang/IllegalArgumentException" ∈ lw_good := List.mem_filter.mpr ⟨List.mem_of_getElem? (i := 38) (by decide +kernel), by decide +kernel⟩
theorem g_39 : Cond.initialized "java/lang/System" ∈ lw_good := List.mem_filter.mpr ⟨List.mem_of_getElem? (i := 39) (by decide +kernel), by decide +kernel⟩
theorem g_40 : Cond.initialized "java/lang/IndexOutOfBoundsException" ∈ lw_good := List.mem_filter.mpr ⟨List.mem_of_getElem? (i := 40) (by decide +kernel), by decide +kernel⟩
theorem g_41 : Cond.initialized RP ∈ lw_good := List.mem_filter.mpr ⟨List.mem_of_getElem? (i := 41) (by decide +kernel), by decide +kernel⟩
theorem g_42 : Cond.initialized "java/lang/IllegalStateException" ∈ lw_good := List.mem_filter.mpr ⟨List.mem_of_getElem? (i := 42) (by decide +kernel), by decide +kernel⟩
theorem g_43 : Cond.classLink RL 8 RK ∈ lw_good := List.mem_filter.mpr ⟨List.mem_of_getElem? (i := 43) (by decide +kernel), by decide +kernel⟩
theorem g_44 : Cond.instantiable RK 7 ∈ lw_good := List.mem_filter.mpr ⟨List.mem_of_getElem? (i := 44) (by decide +kernel), by decide +kernel⟩
theorem g_45 : Cond.methodLink RL 54 yK_init ∈ lw_good := List.mem_filter.mpr ⟨List.mem_of_getElem? (i := 45) (by decide +kernel), by decide +kernel⟩
theorem g_46 : Cond.instanceMethod yK_init ∈ lw_good := List.mem_filter.mpr ⟨List.mem_of_getElem? (i := 46) (by decide +kernel), by decide +kernel⟩
theorem g_47 : Cond.code yK_init cK_init 2 none ∈ lw_good := List.mem_filter.mpr ⟨List.mem_of_getElem? (i := 47) (by decide +kernel), by decide +kernel⟩
theorem g_48 : Cond.methodLink RK 1 objectInit ∈ lw_good := List.mem_filter.mpr ⟨List.mem_of_getElem? (i := 48) (by decide +kernel), by decide +kernel⟩
theorem g_49 : Cond.instanceMethod objectInit ∈ lw_good := List.mem_filter.mpr ⟨List.mem_of_getElem? (i := 49) (by decide +kernel), by decide +kernel⟩
theorem g_50 : Cond.code objectInit object_method_1_code 1 none ∈ lw_good := List.mem_filter.mpr ⟨List.mem_of_getElem? (i := 50) (by decide +kernel), by decide +kernel⟩
theorem g_51 : Cond.classLink RK 7 RR ∈ lw_good := List.mem_filter.mpr ⟨List.mem_of_getElem? (i := 51) (by decide +kernel), by decide +kernel⟩
theorem g_52 : Cond.instantiable RR 2 ∈ lw_good := List.mem_filter.mpr ⟨List.mem_of_getElem? (i := 52) (by decide +kernel), by decide +kernel⟩
theorem g_53 : Cond.methodLink RK 9 yR_init ∈ lw_good := List.mem_filter.mpr ⟨List.mem_of_getElem? (i := 53) (by decide +kernel), by decide +kernel⟩
theorem g_54 : Cond.instanceMethod yR_init ∈ lw_good := List.mem_filter.mpr ⟨List.mem_of_getElem? (i := 54) (by decide +kernel), by decide +kernel⟩
theorem g_55 : Cond.code yR_init cR_init 1 none ∈ lw_good := List.mem_filter.mpr ⟨List.mem_of_getElem? (i := 55) (by decide +kernel), by decide +kernel⟩
theorem g_56 : Cond.methodLink RR 1 objectInit ∈ lw_good := List.mem_filter.mpr ⟨List.mem_of_getElem? (i := 56) (by decide +kernel), by decide +kernel⟩
theorem g_57 : Cond.fieldLink RR 9 "SpongeDesk$Row" "bytes" "[B" ∈ lw_good := List.mem_filter.mpr ⟨List.mem_of_getElem? (i := 57) (by decide +kernel), by decide +kernel⟩
theorem g_58 : Cond.fieldLink RR 13 "SpongeDesk$Row" "length" "I" ∈ lw_good := List.mem_filter.mpr ⟨List.mem_of_getElem? (i := 60) (by decide +kernel), by decide +kernel⟩
theorem g_59 : Cond.arrayClass .byte ∈ lw_good := List.mem_filter.mpr ⟨List.mem_of_getElem? (i := 68) (by decide +kernel), by decide +kernel⟩
theorem g_60 : Cond.classLink RK 25 RS ∈ lw_good := List.mem_filter.mpr ⟨List.mem_of_getElem? (i := 69) (by decide +kernel), by decide +kernel⟩
theorem g_61 : Cond.instantiable RS 8 ∈ lw_good := List.mem_filter.mpr ⟨List.mem_of_getElem? (i := 71) (by decide +kernel), by decide +kernel⟩
theorem g_62 : Cond.methodLink RK 31 yS_init ∈ lw_good := List.mem_filter.mpr ⟨List.mem_of_getElem? (i := 72) (by decide +kernel), by decide +kernel⟩
theorem g_63 : Cond.instanceMethod yS_init ∈ lw_good := List.mem_filter.mpr ⟨List.mem_of_getElem? (i := 73) (by decide +kernel), by decide +kernel⟩
theorem g_64 : Cond.code yS_init cS_init 1 none ∈ lw_good := List.mem_filter.mpr ⟨List.mem_of_getElem? (i := 74) (by decide +kernel), by decide +kernel⟩
theorem g_65 : Cond.methodLink RS 3 objectInit ∈ lw_good := List.mem_filter.mpr ⟨List.mem_of_getElem? (i := 75) (by decide +kernel), by decide +kernel⟩
theorem g_66 : Cond.methodLink RS 17 yS_restart ∈ lw_good := List.mem_filter.mpr ⟨List.mem_of_getElem? (i := 76) (by decide +kernel), by decide +kernel⟩
theorem g_67 : Cond.instanceMethod yS_restart ∈ lw_good := List.mem_filter.mpr ⟨List.mem_of_getElem? (i := 77) (by decide +kernel), by decide +kernel⟩
theorem g_68 : Cond.selects RS yS_restart yS_restart ∈ lw_good := List.mem_filter.mpr ⟨List.mem_of_getElem? (i := 78) (by decide +kernel), by decide +kernel⟩
theorem g_69 : Cond.code yS_restart cS_restart 2 none ∈ lw_good := List.mem_filter.mpr ⟨List.mem_of_getElem? (i := 79) (by decide +kernel), by decide +kernel⟩
theorem g_70 : Cond.methodLink RS 21 yJ_fill ∈ lw_good := List.mem_filter.mpr ⟨List.mem_of_getElem? (i := 80) (by decide +kernel), by decide +kernel⟩
theorem g_71 : Cond.static yJ_fill ∈ lw_good := List.mem_filter.mpr ⟨List.mem_of_getElem? (i := 81) (by decide +kernel), by decide +kernel⟩
theorem g_72 : Cond.code yJ_fill cJ_fill 5 none ∈ lw_good := List.mem_filter.mpr ⟨List.mem_of_getElem? (i := 82) (by decide +kernel), by decide +kernel⟩
theorem g_73 : Cond.fieldLink RS 11 "SpongeDesk$Sponge" "lanes" "[J" ∈ lw_good := List.mem_filter.mpr ⟨List.mem_of_getElem? (i := 85) (by decide +kernel), by decide +kernel⟩
theorem g_74 : Cond.fieldLink RS 27 "SpongeDesk$Sponge" "kind" "I" ∈ lw_good := List.mem_filter.mpr ⟨List.mem_of_getElem? (i := 86) (by decide +kernel), by decide +kernel⟩
theorem g_75 : Cond.fieldLink RS 35 "SpongeDesk$Sponge" "width" "I" ∈ lw_good := List.mem_filter.mpr ⟨List.mem_of_getElem? (i := 88) (by decide +kernel), by decide +kernel⟩
theorem g_76 : Cond.fieldLink RS 38 "SpongeDesk$Sponge" "place" "I" ∈ lw_good := List.mem_filter.mpr ⟨List.mem_of_getElem? (i := 89) (by decide +kernel), by decide +kernel⟩
theorem g_77 : Cond.fieldLink RS 41 "SpongeDesk$Sponge" "ending" "I" ∈ lw_good := List.mem_filter.mpr ⟨List.mem_of_getElem? (i := 90) (by decide +kernel), by decide +kernel⟩
theorem g_78 : Cond.fieldLink RS 44 "SpongeDesk$Sponge" "taken" "I" ∈ lw_good := List.mem_filter.mpr ⟨List.mem_of_getElem? (i := 91) (by decide +kernel), by decide +kernel⟩
theorem g_79 : Cond.fieldLink RS 47 "SpongeDesk$Sponge" "ended" "Z" ∈ lw_good := List.mem_filter.mpr ⟨List.mem_of_getElem? (i := 92) (by decide +kernel), by decide +kernel⟩
theorem g_80 : Cond.fieldLink RS 51 "SpongeDesk$Sponge" "remaining" "I" ∈ lw_good := List.mem_filter.mpr ⟨List.mem_of_getElem? (i := 94) (by decide +kernel), by decide +kernel⟩
theorem g_81 : Cond.arrayClass .long ∈ lw_good := List.mem_filter.mpr ⟨List.mem_of_getElem? (i := 113) (by decide +kernel), by decide +kernel⟩
theorem g_82 : Cond.fieldLink RK 10 "SpongeDesk" "tape" "LSpongeDesk$Row;" ∈ lw_good := List.mem_filter.mpr ⟨List.mem_of_getElem? (i := 114) (by decide +kernel), by decide +kernel⟩
theorem g_83 : Cond.fieldLink RK 16 "SpongeDesk" "name" "LSpongeDesk$Row;" ∈ lw_good := List.mem_filter.mpr ⟨List.mem_of_getElem? (i := 115) (by decide +kernel), by decide +kernel⟩
theorem g_84 : Cond.fieldLink RK 19 "SpongeDesk" "custom" "LSpongeDesk$Row;" ∈ lw_good := List.mem_filter.mpr ⟨List.mem_of_getElem? (i := 116) (by decide +kernel), by decide +kernel⟩
theorem g_85 : Cond.fieldLink RK 22 "SpongeDesk" "key" "LSpongeDesk$Row;" ∈ lw_good := List.mem_filter.mpr ⟨List.mem_of_getElem? (i := 117) (by decide +kernel), by decide +kernel⟩
theorem g_86 : Cond.fieldLink RK 27 "SpongeDesk" "sponges" "[LSpongeDesk$Sponge;" ∈ lw_good := List.mem_filter.mpr ⟨List.mem_of_getElem? (i := 118) (by decide +kernel), by decide +kernel⟩
theorem g_87 : Cond.fieldLink RK 32 "SpongeDesk" "ahead" "LSpongeDesk$Sponge;" ∈ lw_good := List.mem_filter.mpr ⟨List.mem_of_getElem? (i := 119) (by decide +kernel), by decide +kernel⟩
theorem g_88 : Cond.fieldLink RK 36 "SpongeDesk" "otherAhead" "LSpongeDesk$Sponge;" ∈ lw_good := List.mem_filter.mpr ⟨List.mem_of_getElem? (i := 120) (by decide +kernel), by decide +kernel⟩
theorem g_89 : Cond.methodLink RL 70 yK_wipe ∈ lw_good := List.mem_filter.mpr ⟨List.mem_of_getElem? (i := 136) (by decide +kernel), by decide +kernel⟩
theorem g_90 : Cond.instanceMethod yK_wipe ∈ lw_good := List.mem_filter.mpr ⟨List.mem_of_getElem? (i := 137) (by decide +kernel), by decide +kernel⟩
theorem g_91 : Cond.selects RK yK_wipe yK_wipe ∈ lw_good := List.mem_filter.mpr ⟨List.mem_of_getElem? (i := 138) (by decide +kernel), by decide +kernel⟩
theorem g_92 : Cond.code yK_wipe cK_wipe 2 (some .int) ∈ lw_good := List.mem_filter.mpr ⟨List.mem_of_getElem? (i := 139) (by decide +kernel), by decide +kernel⟩
theorem g_93 : Cond.methodLink RL 60 yL_feed ∈ lw_good := List.mem_filter.mpr ⟨List.mem_of_getElem? (i := 140) (by decide +kernel), by decide +kernel⟩
theorem g_94 : Cond.static yL_feed ∈ lw_good := List.mem_filter.mpr ⟨List.mem_of_getElem? (i := 141) (by decide +kernel), by decide +kernel⟩
theorem g_95 : Cond.codeWith yL_feed cL_feed 6 (some .int) [((0 : Nat), (11 : Nat), (14 : Nat), (13 : Nat))] ∈ lw_good := List.mem_filter.mpr ⟨List.mem_of_getElem? (i := 142) (by decide +kernel), by decide +kernel⟩
theorem g_96 : Cond.classLink RL 13 "java/lang/IllegalArgumentException" ∈ lw_good := List.mem_filter.mpr ⟨List.mem_of_getElem? (i := 143) (by decide +kernel), by decide +kernel⟩
theorem g_97 : Cond.methodLink RL 7 yK_feed ∈ lw_good := List.mem_filter.mpr ⟨List.mem_of_getElem? (i := 144) (by decide +kernel), by decide +kernel⟩
theorem g_98 : Cond.instanceMethod yK_feed ∈ lw_good := List.mem_filter.mpr ⟨List.mem_of_getElem? (i := 145) (by decide +kernel), by decide +kernel⟩
theorem g_99 : Cond.selects RK yK_feed yK_feed ∈ lw_good := List.mem_filter.mpr ⟨List.mem_of_getElem? (i := 146) (by decide +kernel), by decide +kernel⟩
theorem g_100 : Cond.code yK_feed cK_feed 4 (some .int) ∈ lw_good := List.mem_filter.mpr ⟨List.mem_of_getElem? (i := 147) (by decide +kernel), by decide +kernel⟩
theorem g_101 : Cond.methodLink RK 39 yK_isByteCount ∈ lw_good := List.mem_filter.mpr ⟨List.mem_of_getElem? (i := 148) (by decide +kernel), by decide +kernel⟩
theorem g_102 : Cond.static yK_isByteCount ∈ lw_good := List.mem_filter.mpr ⟨List.mem_of_getElem? (i := 149) (by decide +kernel), by decide +kernel⟩
theorem g_103 : Cond.code yK_isByteCount cK_isByteCount 1 (some .boolean) ∈ lw_good := List.mem_filter.mpr ⟨List.mem_of_getElem? (i := 150) (by decide +kernel), by decide +kernel⟩
theorem g_104 : Cond.methodLink RK 43 yK_refuseUnless ∈ lw_good := List.mem_filter.mpr ⟨List.mem_of_getElem? (i := 151) (by decide +kernel), by decide +kernel⟩
theorem g_105 : Cond.static yK_refuseUnless ∈ lw_good := List.mem_filter.mpr ⟨List.mem_of_getElem? (i := 152) (by decide +kernel), by decide +kernel⟩
theorem g_106 : Cond.code yK_refuseUnless cK_refuseUnless 1 none ∈ lw_good := List.mem_filter.mpr ⟨List.mem_of_getElem? (i := 153) (by decide +kernel), by decide +kernel⟩
theorem g_107 : Cond.classLink RK 138 "java/lang/IllegalArgumentException" ∈ lw_good := List.mem_filter.mpr ⟨List.mem_of_getElem? (i := 154) (by decide +kernel), by decide +kernel⟩
theorem g_108 : Cond.instantiable "java/lang/IllegalArgumentException" 6 ∈ lw_good := List.mem_filter.mpr ⟨List.mem_of_getElem? (i := 155) (by decide +kernel), by decide +kernel⟩
theorem g_109 : Cond.selects "java/lang/IllegalArgumentException" ⟨"java/lang/Throwable", "fillInStackTrace", "(I)Ljava/lang/Throwable;"⟩ ⟨"java/lang/Throwable", "fillInStackTrace", "(I)Ljava/lang/Throwable;"⟩ ∈ lw_good := List.mem_filter.mpr ⟨List.mem_of_getElem? (i := 163) (by decide +kernel), by decide +kernel⟩
theorem g_110 : Cond.selects "java/lang/IllegalArgumentException" ⟨"java/lang/Throwable", "fillInStackTrace", "()Ljava/lang/Throwable;"⟩ ⟨"java/lang/Throwable", "fillInStackTrace", "()Ljava/lang/Throwable;"⟩ ∈ lw_good := List.mem_filter.mpr ⟨List.mem_of_getElem? (i := 164) (by decide +kernel), by decide +kernel⟩
theorem g_111 : Cond.fieldLink "java/lang/Throwable" 198 "java/lang/Throwable" "backtrace" "Ljava/lang/Object;" ∈ lw_good := List.mem_filter.mpr ⟨List.mem_of_getElem? (i := 175) (by decide +kernel), by decide +kernel⟩
theorem g_112 : Cond.instanceMethod ⟨"java/lang/Throwable", "<init>", "()V"⟩ ∈ lw_good := List.mem_filter.mpr ⟨List.mem_of_getElem? (i := 177) (by decide +kernel), by decide +kernel⟩
theorem g_113 : Cond.code ⟨"java/lang/Throwable", "<init>", "()V"⟩ prog_14_method_1_code 1 none ∈ lw_good := List.mem_filter.mpr ⟨List.mem_of_getElem? (i := 178) (by decide +kernel), by decide +kernel⟩
theorem g_114 : Cond.methodLink "java/lang/Throwable" 1 objectInit ∈ lw_good := List.mem_filter.mpr ⟨List.mem_of_getElem? (i := 179) (by decide +kernel), by decide +kernel⟩
theorem g_115 : Cond.fieldLink "java/lang/Throwable" 13 "java/lang/Throwable" "UNASSIGNED_STACK" "[Ljava/lang/StackTraceElement;" ∈ lw_good := List.mem_filter.mpr ⟨List.mem_of_getElem? (i := 180) (by decide +kernel), by decide +kernel⟩
theorem g_116 : Cond.fieldLink "java/lang/Throwable" 20 "java/lang/Throwable" "SUPPRESSED_SENTINEL" "Ljava/util/List;" ∈ lw_good := List.mem_filter.mpr ⟨List.mem_of_getElem? (i := 182) (by decide +kernel), by decide +kernel⟩
theorem g_117 : Cond.methodLink "java/lang/Throwable" 27 ⟨"java/lang/Throwable", "fillInStackTrace", "()Ljava/lang/Throwable;"⟩ ∈ lw_good := List.mem_filter.mpr ⟨List.mem_of_getElem? (i := 184) (by decide +kernel), by decide +kernel⟩
theorem g_118 : Cond.instanceMethod ⟨"java/lang/Throwable", "fillInStackTrace", "()Ljava/lang/Throwable;"⟩ ∈ lw_good := List.mem_filter.mpr ⟨List.mem_of_getElem? (i := 185) (by decide +kernel), by decide +kernel⟩
theorem g_119 : Cond.selects "java/lang/IllegalStateException" ⟨"java/lang/Throwable", "fillInStackTrace", "()Ljava/lang/Throwable;"⟩ ⟨"java/lang/Throwable", "fillInStackTrace", "()Ljava/lang/Throwable;"⟩ ∈ lw_good := List.mem_filter.mpr ⟨List.mem_of_getElem? (i := 187) (by decide +kernel), by decide +kernel⟩
theorem g_120 : Cond.selects "java/lang/IndexOutOfBoundsException" ⟨"java/lang/Throwable", "fillInStackTrace", "()Ljava/lang/Throwable;"⟩ ⟨"java/lang/Throwable", "fillInStackTrace", "()Ljava/lang/Throwable;"⟩ ∈ lw_good := List.mem_filter.mpr ⟨List.mem_of_getElem? (i := 188) (by decide +kernel), by decide +kernel⟩
theorem g_121 : Cond.methodLink "java/lang/Throwable" 202 ⟨"java/lang/Throwable", "fillInStackTrace", "(I)Ljava/lang/Throwable;"⟩ ∈ lw_good := List.mem_filter.mpr ⟨List.mem_of_getElem? (i := 190) (by decide +kernel), by decide +kernel⟩
theorem g_122 : Cond.instanceMethod ⟨"java/lang/Throwable", "fillInStackTrace", "(I)Ljava/lang/Throwable;"⟩ ∈ lw_good := List.mem_filter.mpr ⟨List.mem_of_getElem? (i := 192) (by decide +kernel), by decide +kernel⟩
theorem g_123 : Cond.instantiable "java/lang/Throwable" 6 ∈ lw_good := List.mem_filter.mpr ⟨List.mem_of_getElem? (i := 193) (by decide +kernel), by decide +kernel⟩
theorem g_124 : Cond.native ⟨"java/lang/Throwable", "fillInStackTrace", "(I)Ljava/lang/Throwable;"⟩ ∈ lw_good := List.mem_filter.mpr ⟨List.mem_of_getElem? (i := 194) (by decide +kernel), by decide +kernel⟩
theorem g_125 : Cond.methodLink RK 142 ⟨"java/lang/IllegalArgumentException", "<init>", "(Ljava/lang/String;)V"⟩ ∈ lw_good := List.mem_filter.mpr ⟨List.mem_of_getElem? (i := 196) (by decide +kernel), by decide +kernel⟩
theorem g_126 : Cond.instanceMethod ⟨"java/lang/IllegalArgumentException", "<init>", "(Ljava/lang/String;)V"⟩ ∈ lw_good := List.mem_filter.mpr ⟨List.mem_of_getElem? (i := 197) (by decide +kernel), by decide +kernel⟩
theorem g_127 : Cond.code ⟨"java/lang/IllegalArgumentException", "<init>", "(Ljava/lang/String;)V"⟩ prog_8_method_2_code 2 none ∈ lw_good := List.mem_filter.mpr ⟨List.mem_of_getElem? (i := 198) (by decide +kernel), by decide +kernel⟩
theorem g_128 : Cond.methodLink "java/lang/IllegalArgumentException" 7 ⟨"java/lang/RuntimeException", "<init>", "(Ljava/lang/String;)V"⟩ ∈ lw_good := List.mem_filter.mpr ⟨List.mem_of_getElem? (i := 199) (by decide +kernel), by decide +kernel⟩
theorem g_129 : Cond.instanceMethod ⟨"java/lang/RuntimeException", "<init>", "(Ljava/lang/String;)V"⟩ ∈ lw_good := List.mem_filter.mpr ⟨List.mem_of_getElem? (i := 200) (by decide +kernel), by decide +kernel⟩
theorem g_130 : Cond.code ⟨"java/lang/RuntimeException", "<init>", "(Ljava/lang/String;)V"⟩ prog_11_method_2_code 2 none ∈ lw_good := List.mem_filter.mpr ⟨List.mem_of_getElem? (i := 201) (by decide +kernel), by decide +kernel⟩
theorem g_131 : Cond.methodLink "java/lang/RuntimeException" 7 ⟨"java/lang/Exception", "<init>", "(Ljava/lang/String;)V"⟩ ∈ lw_good := List.mem_filter.mpr ⟨List.mem_of_getElem? (i := 202) (by decide +kernel), by decide +kernel⟩
theorem g_132 : Cond.instanceMethod ⟨"java/lang/Exception", "<init>", "(Ljava/lang/String;)V"⟩ ∈ lw_good := List.mem_filter.mpr ⟨List.mem_of_getElem? (i := 203) (by decide +kernel), by decide +kernel⟩
theorem g_133 : Cond.code ⟨"java/lang/Exception", "<init>", "(Ljava/lang/String;)V"⟩ prog_7_method_2_code 2 none ∈ lw_good := List.mem_filter.mpr ⟨List.mem_of_getElem? (i := 204) (by decide +kernel), by decide +kernel⟩
theorem g_134 : Cond.methodLink "java/lang/Exception" 7 ⟨"java/lang/Throwable", "<init>", "(Ljava/lang/String;)V"⟩ ∈ lw_good := List.mem_filter.mpr ⟨List.mem_of_getElem? (i := 205) (by decide +kernel), by decide +kernel⟩
theorem g_135 : Cond.instanceMethod ⟨"java/lang/Throwable", "<init>", "(Ljava/lang/String;)V"⟩ ∈ lw_good := List.mem_filter.mpr ⟨List.mem_of_getElem? (i := 206) (by decide +kernel), by decide +kernel⟩
theorem g_136 : Cond.code ⟨"java/lang/Throwable", "<init>", "(Ljava/lang/String;)V"⟩ prog_14_method_2_code 2 none ∈ lw_good := List.mem_filter.mpr ⟨List.mem_of_getElem? (i := 207) (by decide +kernel), by decide +kernel⟩
theorem g_137 : Cond.fieldLink "java/lang/Throwable" 31 "java/lang/Throwable" "detailMessage" "Ljava/lang/String;" ∈ lw_good := List.mem_filter.mpr ⟨List.mem_of_getElem? (i := 209) (by decide +kernel), by decide +kernel⟩
theorem g_138 : Cond.fieldLink "java/lang/Throwable" 7 "java/lang/Throwable" "cause" "Ljava/lang/Throwable;" ∈ lw_good := List.mem_filter.mpr ⟨List.mem_of_getElem? (i := 210) (by decide +kernel), by decide +kernel⟩
theorem g_139 : Cond.fieldLink "java/lang/Throwable" 17 "java/lang/Throwable" "stackTrace" "[Ljava/lang/StackTraceElement;" ∈ lw_good := List.mem_filter.mpr ⟨List.mem_of_getElem? (i := 211) (by decide +kernel), by decide +kernel⟩
theorem g_140 : Cond.fieldLink "java/lang/Throwable" 24 "java/lang/Throwable" "suppressedExceptions" "Ljava/util/List;" ∈ lw_good := List.mem_filter.mpr ⟨List.mem_of_getElem? (i := 212) (by decide +kernel), by decide +kernel⟩
theorem g_141 : Cond.methodLink RK 47 yR_hasRoomFor ∈ lw_good := List.mem_filter.mpr ⟨List.mem_of_getElem? (i := 221) (by decide +kernel), by decide +kernel⟩
theorem g_142 : Cond.instanceMethod yR_hasRoomFor ∈ lw_good := List.mem_filter.mpr ⟨List.mem_of_getElem? (i := 222) (by decide +kernel), by decide +kernel⟩
theorem g_143 : Cond.selects RR yR_hasRoomFor yR_hasRoomFor ∈ lw_good := List.mem_filter.mpr ⟨List.mem_of_getElem? (i := 223) (by decide +kernel), by decide +kernel⟩
theorem g_144 : Cond.code yR_hasRoomFor cR_hasRoomFor 2 (some .boolean) ∈ lw_good := List.mem_filter.mpr ⟨List.mem_of_getElem? (i := 224) (by decide +kernel), by decide +kernel⟩
theorem g_145 : Cond.methodLink RK 50 yR_append ∈ lw_good := List.mem_filter.mpr ⟨List.mem_of_getElem? (i := 225) (by decide +kernel), by decide +kernel⟩
theorem g_146 : Cond.instanceMethod yR_append ∈ lw_good := List.mem_filter.mpr ⟨List.mem_of_getElem? (i := 226) (by decide +kernel), by decide +kernel⟩
theorem g_147 : Cond.selects RR yR_append yR_append ∈ lw_good := List.mem_filter.mpr ⟨List.mem_of_getElem? (i := 227) (by decide +kernel), by decide +kernel⟩
theorem g_148 : Cond.code yR_append cR_append 5 (some .int) ∈ lw_good := List.mem_filter.mpr ⟨List.mem_of_getElem? (i := 228) (by decide +kernel), by decide +kernel⟩
theorem g_149 : Cond.methodLink RL 74 yL_let ∈ lw_good := List.mem_filter.mpr ⟨List.mem_of_getElem? (i := 229) (by decide +kernel), by decide +kernel⟩
theorem g_150 : Cond.static yL_let ∈ lw_good := List.mem_filter.mpr ⟨List.mem_of_getElem? (i := 230) (by decide +kernel), by decide +kernel⟩
theorem g_151 : Cond.codeWith yL_let cL_let 4 (some .int) [((0 : Nat), (9 : Nat), (12 : Nat), (13 : Nat))] ∈ lw_good := List.mem_filter.mpr ⟨List.mem_of_getElem? (i := 231) (by decide +kernel), by decide +kernel⟩
theorem g_152 : Cond.methodLink RL 15 yK_let ∈ lw_good := List.mem_filter.mpr ⟨List.mem_of_getElem? (i := 232) (by decide +kernel), by decide +kernel⟩
theorem g_153 : Cond.instanceMethod yK_let ∈ lw_good := List.mem_filter.mpr ⟨List.mem_of_getElem? (i := 233) (by decide +kernel), by decide +kernel⟩
theorem g_154 : Cond.selects RK yK_let yK_let ∈ lw_good := List.mem_filter.mpr ⟨List.mem_of_getElem? (i := 234) (by decide +kernel), by decide +kernel⟩
theorem g_155 : Cond.code yK_let cK_let 3 (some .int) ∈ lw_good := List.mem_filter.mpr ⟨List.mem_of_getElem? (i := 235) (by decide +kernel), by decide +kernel⟩
theorem g_156 : Cond.methodLink RK 58 yR_becomeLike ∈ lw_good := List.mem_filter.mpr ⟨List.mem_of_getElem? (i := 236) (by decide +kernel), by decide +kernel⟩
theorem g_157 : Cond.instanceMethod yR_becomeLike ∈ lw_good := List.mem_filter.mpr ⟨List.mem_of_getElem? (i := 237) (by decide +kernel), by decide +kernel⟩
theorem g_158 : Cond.selects RR yR_becomeLike yR_becomeLike ∈ lw_good := List.mem_filter.mpr ⟨List.mem_of_getElem? (i := 238) (by decide +kernel), by decide +kernel⟩
theorem g_159 : Cond.code yR_becomeLike cR_becomeLike 2 none ∈ lw_good := List.mem_filter.mpr ⟨List.mem_of_getElem? (i := 239) (by decide +kernel), by decide +kernel⟩
theorem g_160 : Cond.methodLink RR 17 arraycopyName ∈ lw_good := List.mem_filter.mpr ⟨List.mem_of_getElem? (i := 240) (by decide +kernel), by decide +kernel⟩
theorem g_161 : Cond.static arraycopyName ∈ lw_good := List.mem_filter.mpr ⟨List.mem_of_getElem? (i := 241) (by decide +kernel), by decide +kernel⟩
theorem g_162 : Cond.native arraycopyName ∈ lw_good := List.mem_filter.mpr ⟨List.mem_of_getElem? (i := 242) (by decide +kernel), by decide +kernel⟩
theorem g_163 : Cond.methodLink RL 78 yL_begin ∈ lw_good := List.mem_filter.mpr ⟨List.mem_of_getElem? (i := 243) (by decide +kernel), by decide +kernel⟩
theorem g_164 : Cond.static yL_begin ∈ lw_good := List.mem_filter.mpr ⟨List.mem_of_getElem? (i := 244) (by decide +kernel), by decide +kernel⟩
theorem g_165 : Cond.codeWith yL_begin cL_begin 4 (some .int) [((0 : Nat), (6 : Nat), (9 : Nat), (23 : Nat)), ((0 : Nat), (6 : Nat), (12 : Nat), (13 : Nat))] ∈ lw_good := List.mem_filter.mpr ⟨List.mem_of_getElem? (i := 245) (by decide +kernel), by decide +kernel⟩
theorem g_166 : Cond.classLink RL 23 "java/lang/IndexOutOfBoundsException" ∈ lw_good := List.mem_filter.mpr ⟨List.mem_of_getElem? (i := 246) (by decide +kernel), by decide +kernel⟩
theorem g_167 : Cond.methodLink RL 19 yK_begin ∈ lw_good := List.mem_filter.mpr ⟨List.mem_of_getElem? (i := 247) (by decide +kernel), by decide +kernel⟩
theorem g_168 : Cond.instanceMethod yK_begin ∈ lw_good := List.mem_filter.mpr ⟨List.mem_of_getElem? (i := 248) (by decide +kernel), by decide +kernel⟩
theorem g_169 : Cond.selects RK yK_begin yK_begin ∈ lw_good := List.mem_filter.mpr ⟨List.mem_of_getElem? (i := 249) (by decide +kernel), by decide +kernel⟩
theorem g_170 : Cond.code yK_begin cK_begin 4 none ∈ lw_good := List.mem_filter.mpr ⟨List.mem_of_getElem? (i := 250) (by decide +kernel), by decide +kernel⟩
theorem g_171 : Cond.methodLink RK 62 yK_spongeAt ∈ lw_good := List.mem_filter.mpr ⟨List.mem_of_getElem? (i := 251) (by decide +kernel), by decide +kernel⟩
theorem g_172 : Cond.instanceMethod yK_spongeAt ∈ lw_good := List.mem_filter.mpr ⟨List.mem_of_getElem? (i := 253) (by decide +kernel), by decide +kernel⟩
theorem g_173 : Cond.code yK_spongeAt cK_spongeAt 2 (some (.object "SpongeDesk$Sponge")) ∈ lw_good := List.mem_filter.mpr ⟨List.mem_of_getElem? (i := 254) (by decide +kernel), by decide +kernel⟩
theorem g_174 : Cond.classLink RK 131 "java/lang/IndexOutOfBoundsException" ∈ lw_good := List.mem_filter.mpr ⟨List.mem_of_getElem? (i := 255) (by decide +kernel), by decide +kernel⟩
theorem g_175 : Cond.instantiable "java/lang/IndexOutOfBoundsException" 6 ∈ lw_good := List.mem_filter.mpr ⟨List.mem_of_getElem? (i := 256) (by decide +kernel), by decide +kernel⟩
theorem g_176 : Cond.selects "java/lang/IndexOutOfBoundsException" ⟨"java/lang/Throwable", "fillInStackTrace", "(I)Ljava/lang/Throwable;"⟩ ⟨"java/lang/Throwable", "fillInStackTrace", "(I)Ljava/lang/Throwable;"⟩ ∈ lw_good := List.mem_filter.mpr ⟨List.mem_of_getElem? (i := 258) (by decide +kernel), by decide +kernel⟩
theorem g_177 : Cond.methodLink RK 135 ⟨"java/lang/IndexOutOfBoundsException", "<init>", "(Ljava/lang/String;)V"⟩ ∈ lw_good := List.mem_filter.mpr ⟨List.mem_of_getElem? (i := 265) (by decide +kernel), by decide +kernel⟩
theorem g_178 : Cond.instanceMethod ⟨"java/lang/IndexOutOfBoundsException", "<init>", "(Ljava/lang/String;)V"⟩ ∈ lw_good := List.mem_filter.mpr ⟨List.mem_of_getElem? (i := 266) (by decide +kernel), by decide +kernel⟩
theorem g_179 : Cond.code ⟨"java/lang/IndexOutOfBoundsException", "<init>", "(Ljava/lang/String;)V"⟩ prog_10_method_2_code 2 none ∈ lw_good := List.mem_filter.mpr ⟨List.mem_of_getElem? (i := 267) (by decide +kernel), by decide +kernel⟩
theorem g_180 : Cond.methodLink "java/lang/IndexOutOfBoundsException" 7 ⟨"java/lang/RuntimeException", "<init>", "(Ljava/lang/String;)V"⟩ ∈ lw_good := List.mem_filter.mpr ⟨List.mem_of_getElem? (i := 268) (by decide +kernel), by decide +kernel⟩
theorem g_181 : Cond.methodLink RK 66 yS_restart ∈ lw_good := List.mem_filter.mpr ⟨List.mem_of_getElem? (i := 271) (by decide +kernel), by decide +kernel⟩
theorem g_182 : Cond.fieldLink RK 70 "SpongeDesk" "TUPLE_NAME" "[B" ∈ lw_good := List.mem_filter.mpr ⟨List.mem_of_getElem? (i := 272) (by decide +kernel), by decide +kernel⟩
theorem g_183 : Cond.methodLink RK 74 yS_takePrefix ∈ lw_good := List.mem_filter.mpr ⟨List.mem_of_getElem? (i := 274) (by decide +kernel), by decide +kernel⟩
theorem g_184 : Cond.instanceMethod yS_takePrefix ∈ lw_good := List.mem_filter.mpr ⟨List.mem_of_getElem? (i := 275) (by decide +kernel), by decide +kernel⟩
theorem g_185 : Cond.selects RS yS_takePrefix yS_takePrefix ∈ lw_good := List.mem_filter.mpr ⟨List.mem_of_getElem? (i := 276) (by decide +kernel), by decide +kernel⟩
theorem g_186 : Cond.code yS_takePrefix cS_takePrefix 4 none ∈ lw_good := List.mem_filter.mpr ⟨List.mem_of_getElem? (i := 277) (by decide +kernel), by decide +kernel⟩
theorem g_187 : Cond.methodLink RS 60 yS_takeLeft ∈ lw_good := List.mem_filter.mpr ⟨List.mem_of_getElem? (i := 278) (by decide +kernel), by decide +kernel⟩
theorem g_188 : Cond.instanceMethod yS_takeLeft ∈ lw_good := List.mem_filter.mpr ⟨List.mem_of_getElem? (i := 280) (by decide +kernel), by decide +kernel⟩
theorem g_189 : Cond.code yS_takeLeft cS_takeLeft 4 none ∈ lw_good := List.mem_filter.mpr ⟨List.mem_of_getElem? (i := 281) (by decide +kernel), by decide +kernel⟩
theorem g_190 : Cond.methodLink RS 101 yS_sizeOf ∈ lw_good := List.mem_filter.mpr ⟨List.mem_of_getElem? (i := 282) (by decide +kernel), by decide +kernel⟩
theorem g_191 : Cond.static yS_sizeOf ∈ lw_good := List.mem_filter.mpr ⟨List.mem_of_getElem? (i := 283) (by decide +kernel), by decide +kernel⟩
theorem g_192 : Cond.code yS_sizeOf cS_sizeOf 2 (some .int) ∈ lw_good := List.mem_filter.mpr ⟨List.mem_of_getElem? (i := 284) (by decide +kernel), by decide +kernel⟩
theorem g_193 : Cond.methodLink RS 82 yS_takeByte ∈ lw_good := List.mem_filter.mpr ⟨List.mem_of_getElem? (i := 285) (by decide +kernel), by decide +kernel⟩
theorem g_194 : Cond.instanceMethod yS_takeByte ∈ lw_good := List.mem_filter.mpr ⟨List.mem_of_getElem? (i := 287) (by decide +kernel), by decide +kernel⟩
theorem g_195 : Cond.code yS_takeByte cS_takeByte 2 none ∈ lw_good := List.mem_filter.mpr ⟨List.mem_of_getElem? (i := 288) (by decide +kernel), by decide +kernel⟩
theorem g_196 : Cond.methodLink RS 88 yS_mix ∈ lw_good := List.mem_filter.mpr ⟨List.mem_of_getElem? (i := 289) (by decide +kernel), by decide +kernel⟩
theorem g_197 : Cond.instanceMethod yS_mix ∈ lw_good := List.mem_filter.mpr ⟨List.mem_of_getElem? (i := 291) (by decide +kernel), by decide +kernel⟩
theorem g_198 : Cond.code yS_mix cS_mix 3 none ∈ lw_good := List.mem_filter.mpr ⟨List.mem_of_getElem? (i := 292) (by decide +kernel), by decide +kernel⟩
theorem g_199 : Cond.constantLong RS 99 (255) ∈ lw_good := List.mem_filter.mpr ⟨List.mem_of_getElem? (i := 293) (by decide +kernel), by decide +kernel⟩
theorem g_200 : Cond.methodLink RS 92 yS_permute ∈ lw_good := List.mem_filter.mpr ⟨List.mem_of_getElem? (i := 294) (by decide +kernel), by decide +kernel⟩
theorem g_201 : Cond.instanceMethod yS_permute ∈ lw_good := List.mem_filter.mpr ⟨List.mem_of_getElem? (i := 296) (by decide +kernel), by decide +kernel⟩
theorem g_202 : Cond.code yS_permute cS_permute 2 none ∈ lw_good := List.mem_filter.mpr ⟨List.mem_of_getElem? (i := 297) (by decide +kernel), by decide +kernel⟩
theorem g_203 : Cond.methodLink RS 105 yP_mixColumns ∈ lw_good := List.mem_filter.mpr ⟨List.mem_of_getElem? (i := 298) (by decide +kernel), by decide +kernel⟩
theorem g_204 : Cond.static yP_mixColumns ∈ lw_good := List.mem_filter.mpr ⟨List.mem_of_getElem? (i := 299) (by decide +kernel), by decide +kernel⟩
theorem g_205 : Cond.code yP_mixColumns cP_mixColumns 22 none ∈ lw_good := List.mem_filter.mpr ⟨List.mem_of_getElem? (i := 300) (by decide +kernel), by decide +kernel⟩
theorem g_206 : Cond.methodLink RS 109 yP_moveLanes ∈ lw_good := List.mem_filter.mpr ⟨List.mem_of_getElem? (i := 301) (by decide +kernel), by decide +kernel⟩
theorem g_207 : Cond.static yP_moveLanes ∈ lw_good := List.mem_filter.mpr ⟨List.mem_of_getElem? (i := 302) (by decide +kernel), by decide +kernel⟩
theorem g_208 : Cond.code yP_moveLanes cP_moveLanes 8 none ∈ lw_good := List.mem_filter.mpr ⟨List.mem_of_getElem? (i := 303) (by decide +kernel), by decide +kernel⟩
theorem g_209 : Cond.fieldLink RP 9 "SpongeDesk$Permutation" "PATH" "[I" ∈ lw_good := List.mem_filter.mpr ⟨List.mem_of_getElem? (i := 304) (by decide +kernel), by decide +kernel⟩
theorem g_210 : Cond.fieldLink RP 13 "SpongeDesk$Permutation" "TURNS" "[I" ∈ lw_good := List.mem_filter.mpr ⟨List.mem_of_getElem? (i := 306) (by decide +kernel), by decide +kernel⟩
theorem g_211 : Cond.methodLink RS 112 yP_mixRows ∈ lw_good := List.mem_filter.mpr ⟨List.mem_of_getElem? (i := 308) (by decide +kernel), by decide +kernel⟩
theorem g_212 : Cond.static yP_mixRows ∈ lw_good := List.mem_filter.mpr ⟨List.mem_of_getElem? (i := 309) (by decide +kernel), by decide +kernel⟩
theorem g_213 : Cond.code yP_mixRows cP_mixRows 12 none ∈ lw_good := List.mem_filter.mpr ⟨List.mem_of_getElem? (i := 310) (by decide +kernel), by decide +kernel⟩
theorem g_214 : Cond.constantLong RP 16 (-1) ∈ lw_good := List.mem_filter.mpr ⟨List.mem_of_getElem? (i := 311) (by decide +kernel), by decide +kernel⟩
theorem g_215 : Cond.methodLink RS 63 yS_takeString ∈ lw_good := List.mem_filter.mpr ⟨List.mem_of_getElem? (i := 314) (by decide +kernel), by decide +kernel⟩
theorem g_216 : Cond.instanceMethod yS_takeString ∈ lw_good := List.mem_filter.mpr ⟨List.mem_of_getElem? (i := 316) (by decide +kernel), by decide +kernel⟩
theorem g_217 : Cond.code yS_takeString cS_takeString 3 none ∈ lw_good := List.mem_filter.mpr ⟨List.mem_of_getElem? (i := 317) (by decide +kernel), by decide +kernel⟩
theorem g_218 : Cond.methodLink RS 79 yS_takeRow ∈ lw_good := List.mem_filter.mpr ⟨List.mem_of_getElem? (i := 318) (by decide +kernel), by decide +kernel⟩
theorem g_219 : Cond.instanceMethod yS_takeRow ∈ lw_good := List.mem_filter.mpr ⟨List.mem_of_getElem? (i := 320) (by decide +kernel), by decide +kernel⟩
theorem g_220 : Cond.code yS_takeRow cS_takeRow 4 none ∈ lw_good := List.mem_filter.mpr ⟨List.mem_of_getElem? (i := 321) (by decide +kernel), by decide +kernel⟩
theorem g_221 : Cond.methodLink RS 76 yS_fillUp ∈ lw_good := List.mem_filter.mpr ⟨List.mem_of_getElem? (i := 322) (by decide +kernel), by decide +kernel⟩
theorem g_222 : Cond.instanceMethod yS_fillUp ∈ lw_good := List.mem_filter.mpr ⟨List.mem_of_getElem? (i := 324) (by decide +kernel), by decide +kernel⟩
theorem g_223 : Cond.code yS_fillUp cS_fillUp 1 none ∈ lw_good := List.mem_filter.mpr ⟨List.mem_of_getElem? (i := 325) (by decide +kernel), by decide +kernel⟩
theorem g_224 : Cond.fieldLink RK 78 "SpongeDesk" "KEYED_NAME" "[B" ∈ lw_good := List.mem_filter.mpr ⟨List.mem_of_getElem? (i := 326) (by decide +kernel), by decide +kernel⟩
theorem g_225 : Cond.methodLink RK 81 yS_takeKey ∈ lw_good := List.mem_filter.mpr ⟨List.mem_of_getElem? (i := 328) (by decide +kernel), by decide +kernel⟩
theorem g_226 : Cond.instanceMethod yS_takeKey ∈ lw_good := List.mem_filter.mpr ⟨List.mem_of_getElem? (i := 329) (by decide +kernel), by decide +kernel⟩
theorem g_227 : Cond.selects RS yS_takeKey yS_takeKey ∈ lw_good := List.mem_filter.mpr ⟨List.mem_of_getElem? (i := 330) (by decide +kernel), by decide +kernel⟩
theorem g_228 : Cond.code yS_takeKey cS_takeKey 2 none ∈ lw_good := List.mem_filter.mpr ⟨List.mem_of_getElem? (i := 331) (by decide +kernel), by decide +kernel⟩
theorem g_229 : Cond.methodLink RL 82 yL_absorb ∈ lw_good := List.mem_filter.mpr ⟨List.mem_of_getElem? (i := 332) (by decide +kernel), by decide +kernel⟩
theorem g_230 : Cond.static yL_absorb ∈ lw_good := List.mem_filter.mpr ⟨List.mem_of_getElem? (i := 333) (by decide +kernel), by decide +kernel⟩
theorem g_231 : Cond.codeWith yL_absorb cL_absorb 4 (some .int) [((0 : Nat), (9 : Nat), (12 : Nat), (23 : Nat)), ((0 : Nat), (9 : Nat), (15 : Nat), (28 : Nat))] ∈ lw_good := List.mem_filter.mpr ⟨List.mem_of_getElem? (i := 334) (by decide +kernel), by decide +kernel⟩
theorem g_232 : Cond.classLink RL 28 "java/lang/IllegalStateException" ∈ lw_good := List.mem_filter.mpr ⟨List.mem_of_getElem? (i := 335) (by decide +kernel), by decide +kernel⟩
theorem g_233 : Cond.methodLink RL 25 yK_absorb ∈ lw_good := List.mem_filter.mpr ⟨List.mem_of_getElem? (i := 336) (by decide +kernel), by decide +kernel⟩
theorem g_234 : Cond.instanceMethod yK_absorb ∈ lw_good := List.mem_filter.mpr ⟨List.mem_of_getElem? (i := 337) (by decide +kernel), by decide +kernel⟩
theorem g_235 : Cond.selects RK yK_absorb yK_absorb ∈ lw_good := List.mem_filter.mpr ⟨List.mem_of_getElem? (i := 338) (by decide +kernel), by decide +kernel⟩
theorem g_236 : Cond.code yK_absorb cK_absorb 3 (some .int) ∈ lw_good := List.mem_filter.mpr ⟨List.mem_of_getElem? (i := 339) (by decide +kernel), by decide +kernel⟩
theorem g_237 : Cond.methodLink RK 91 yK_refuseStateUnless ∈ lw_good := List.mem_filter.mpr ⟨List.mem_of_getElem? (i := 340) (by decide +kernel), by decide +kernel⟩
theorem g_238 : Cond.static yK_refuseStateUnless ∈ lw_good := List.mem_filter.mpr ⟨List.mem_of_getElem? (i := 341) (by decide +kernel), by decide +kernel⟩
theorem g_239 : Cond.code yK_refuseStateUnless cK_refuseStateUnless 1 none ∈ lw_good := List.mem_filter.mpr ⟨List.mem_of_getElem? (i := 342) (by decide +kernel), by decide +kernel⟩
theorem g_240 : Cond.classLink RK 143 "java/lang/IllegalStateException" ∈ lw_good := List.mem_filter.mpr ⟨List.mem_of_getElem? (i := 343) (by decide +kernel), by decide +kernel⟩
theorem g_241 : Cond.instantiable "java/lang/IllegalStateException" 6 ∈ lw_good := List.mem_filter.mpr ⟨List.mem_of_getElem? (i := 344) (by decide +kernel), by decide +kernel⟩
theorem g_242 : Cond.selects "java/lang/IllegalStateException" ⟨"java/lang/Throwable", "fillInStackTrace", "(I)Ljava/lang/Throwable;"⟩ ⟨"java/lang/Throwable", "fillInStackTrace", "(I)Ljava/lang/Throwable;"⟩ ∈ lw_good := List.mem_filter.mpr ⟨List.mem_of_getElem? (i := 346) (by decide +kernel), by decide +kernel⟩
theorem g_243 : Cond.methodLink RK 147 ⟨"java/lang/IllegalStateException", "<init>", "(Ljava/lang/String;)V"⟩ ∈ lw_good := List.mem_filter.mpr ⟨List.mem_of_getElem? (i := 353) (by decide +kernel), by decide +kernel⟩
theorem g_244 : Cond.instanceMethod ⟨"java/lang/IllegalStateException", "<init>", "(Ljava/lang/String;)V"⟩ ∈ lw_good := List.mem_filter.mpr ⟨List.mem_of_getElem? (i := 354) (by decide +kernel), by decide +kernel⟩
theorem g_245 : Cond.code ⟨"java/lang/IllegalStateException", "<init>", "(Ljava/lang/String;)V"⟩ prog_9_method_2_code 2 none ∈ lw_good := List.mem_filter.mpr ⟨List.mem_of_getElem? (i := 355) (by decide +kernel), by decide +kernel⟩
theorem g_246 : Cond.methodLink "java/lang/IllegalStateException" 7 ⟨"java/lang/RuntimeException", "<init>", "(Ljava/lang/String;)V"⟩ ∈ lw_good := List.mem_filter.mpr ⟨List.mem_of_getElem? (i := 356) (by decide +kernel), by decide +kernel⟩
theorem g_247 : Cond.methodLink RK 94 yS_takeTape ∈ lw_good := List.mem_filter.mpr ⟨List.mem_of_getElem? (i := 359) (by decide +kernel), by decide +kernel⟩
theorem g_248 : Cond.instanceMethod yS_takeTape ∈ lw_good := List.mem_filter.mpr ⟨List.mem_of_getElem? (i := 360) (by decide +kernel), by decide +kernel⟩
theorem g_249 : Cond.selects RS yS_takeTape yS_takeTape ∈ lw_good := List.mem_filter.mpr ⟨List.mem_of_getElem? (i := 361) (by decide +kernel), by decide +kernel⟩
theorem g_250 : Cond.code yS_takeTape cS_takeTape 2 (some .int) ∈ lw_good := List.mem_filter.mpr ⟨List.mem_of_getElem? (i := 362) (by decide +kernel), by decide +kernel⟩
theorem g_251 : Cond.methodLink RL 85 yL_bytes ∈ lw_good := List.mem_filter.mpr ⟨List.mem_of_getElem? (i := 363) (by decide +kernel), by decide +kernel⟩
theorem g_252 : Cond.static yL_bytes ∈ lw_good := List.mem_filter.mpr ⟨List.mem_of_getElem? (i := 364) (by decide +kernel), by decide +kernel⟩
theorem g_253 : Cond.codeWith yL_bytes cL_bytes 7 (some .int) [((0 : Nat), (12 : Nat), (15 : Nat), (23 : Nat)), ((0 : Nat), (12 : Nat), (19 : Nat), (13 : Nat)), ((0 : Nat), (12 : Nat), (23 : Nat), (28 : Nat))] ∈ lw_good := List.mem_filter.mpr ⟨List.mem_of_getElem? (i := 365) (by decide +kernel), by decide +kernel⟩
theorem g_254 : Cond.methodLink RL 30 yK_bytes ∈ lw_good := List.mem_filter.mpr ⟨List.mem_of_getElem? (i := 366) (by decide +kernel), by decide +kernel⟩
theorem g_255 : Cond.instanceMethod yK_bytes ∈ lw_good := List.mem_filter.mpr ⟨List.mem_of_getElem? (i := 367) (by decide +kernel), by decide +kernel⟩
theorem g_256 : Cond.selects RK yK_bytes yK_bytes ∈ lw_good := List.mem_filter.mpr ⟨List.mem_of_getElem? (i := 368) (by decide +kernel), by decide +kernel⟩
theorem g_257 : Cond.code yK_bytes cK_bytes 6 (some .int) ∈ lw_good := List.mem_filter.mpr ⟨List.mem_of_getElem? (i := 369) (by decide +kernel), by decide +kernel⟩
theorem g_258 : Cond.methodLink RK 101 yS_takeLong ∈ lw_good := List.mem_filter.mpr ⟨List.mem_of_getElem? (i := 370) (by decide +kernel), by decide +kernel⟩
theorem g_259 : Cond.instanceMethod yS_takeLong ∈ lw_good := List.mem_filter.mpr ⟨List.mem_of_getElem? (i := 371) (by decide +kernel), by decide +kernel⟩
theorem g_260 : Cond.selects RS yS_takeLong yS_takeLong ∈ lw_good := List.mem_filter.mpr ⟨List.mem_of_getElem? (i := 372) (by decide +kernel), by decide +kernel⟩
theorem g_261 : Cond.code yS_takeLong cS_takeLong 5 (some .int) ∈ lw_good := List.mem_filter.mpr ⟨List.mem_of_getElem? (i := 373) (by decide +kernel), by decide +kernel⟩
theorem g_262 : Cond.methodLink RL 89 yL_end ∈ lw_good := List.mem_filter.mpr ⟨List.mem_of_getElem? (i := 374) (by decide +kernel), by decide +kernel⟩
theorem g_263 : Cond.static yL_end ∈ lw_good := List.mem_filter.mpr ⟨List.mem_of_getElem? (i := 375) (by decide +kernel), by decide +kernel⟩
theorem g_264 : Cond.codeWith yL_end cL_end 4 (some .int) [((0 : Nat), (6 : Nat), (9 : Nat), (23 : Nat)), ((0 : Nat), (6 : Nat), (12 : Nat), (13 : Nat)), ((0 : Nat), (6 : Nat), (15 : Nat), (28 : Nat))] ∈ lw_good := List.mem_filter.mpr ⟨List.mem_of_getElem? (i := 376) (by decide +kernel), by decide +kernel⟩
theorem g_265 : Cond.methodLink RL 34 yK_end ∈ lw_good := List.mem_filter.mpr ⟨List.mem_of_getElem? (i := 377) (by decide +kernel), by decide +kernel⟩
theorem g_266 : Cond.instanceMethod yK_end ∈ lw_good := List.mem_filter.mpr ⟨List.mem_of_getElem? (i := 378) (by decide +kernel), by decide +kernel⟩
theorem g_267 : Cond.selects RK yK_end yK_end ∈ lw_good := List.mem_filter.mpr ⟨List.mem_of_getElem? (i := 379) (by decide +kernel), by decide +kernel⟩
theorem g_268 : Cond.code yK_end cK_end 4 none ∈ lw_good := List.mem_filter.mpr ⟨List.mem_of_getElem? (i := 380) (by decide +kernel), by decide +kernel⟩
theorem g_269 : Cond.methodLink RK 104 yK_isLengthOf ∈ lw_good := List.mem_filter.mpr ⟨List.mem_of_getElem? (i := 381) (by decide +kernel), by decide +kernel⟩
theorem g_270 : Cond.static yK_isLengthOf ∈ lw_good := List.mem_filter.mpr ⟨List.mem_of_getElem? (i := 382) (by decide +kernel), by decide +kernel⟩
theorem g_271 : Cond.code yK_isLengthOf cK_isLengthOf 3 (some .boolean) ∈ lw_good := List.mem_filter.mpr ⟨List.mem_of_getElem? (i := 383) (by decide +kernel), by decide +kernel⟩
theorem g_272 : Cond.fieldLink RK 148 "SpongeDesk" "LENGTHS" "[I" ∈ lw_good := List.mem_filter.mpr ⟨List.mem_of_getElem? (i := 384) (by decide +kernel), by decide +kernel⟩
theorem g_273 : Cond.methodLink RK 108 yS_finish ∈ lw_good := List.mem_filter.mpr ⟨List.mem_of_getElem? (i := 386) (by decide +kernel), by decide +kernel⟩
theorem g_274 : Cond.instanceMethod yS_finish ∈ lw_good := List.mem_filter.mpr ⟨List.mem_of_getElem? (i := 387) (by decide +kernel), by decide +kernel⟩
theorem g_275 : Cond.selects RS yS_finish yS_finish ∈ lw_good := List.mem_filter.mpr ⟨List.mem_of_getElem? (i := 388) (by decide +kernel), by decide +kernel⟩
theorem g_276 : Cond.code yS_finish cS_finish 2 none ∈ lw_good := List.mem_filter.mpr ⟨List.mem_of_getElem? (i := 389) (by decide +kernel), by decide +kernel⟩
theorem g_277 : Cond.methodLink RS 85 yS_takeRight ∈ lw_good := List.mem_filter.mpr ⟨List.mem_of_getElem? (i := 390) (by decide +kernel), by decide +kernel⟩
theorem g_278 : Cond.instanceMethod yS_takeRight ∈ lw_good := List.mem_filter.mpr ⟨List.mem_of_getElem? (i := 392) (by decide +kernel), by decide +kernel⟩
theorem g_279 : Cond.code yS_takeRight cS_takeRight 4 none ∈ lw_good := List.mem_filter.mpr ⟨List.mem_of_getElem? (i := 393) (by decide +kernel), by decide +kernel⟩
theorem g_280 : Cond.methodLink RL 92 yL_squeeze ∈ lw_good := List.mem_filter.mpr ⟨List.mem_of_getElem? (i := 394) (by decide +kernel), by decide +kernel⟩
theorem g_281 : Cond.static yL_squeeze ∈ lw_good := List.mem_filter.mpr ⟨List.mem_of_getElem? (i := 395) (by decide +kernel), by decide +kernel⟩
theorem g_282 : Cond.codeWith yL_squeeze cL_squeeze 5 (some .int) [((0 : Nat), (9 : Nat), (12 : Nat), (23 : Nat)), ((0 : Nat), (9 : Nat), (16 : Nat), (13 : Nat)), ((0 : Nat), (9 : Nat), (20 : Nat), (28 : Nat))] ∈ lw_good := List.mem_filter.mpr ⟨List.mem_of_getElem? (i := 396) (by decide +kernel), by decide +kernel⟩
theorem g_283 : Cond.methodLink RL 37 yK_squeeze ∈ lw_good := List.mem_filter.mpr ⟨List.mem_of_getElem? (i := 397) (by decide +kernel), by decide +kernel⟩
theorem g_284 : Cond.instanceMethod yK_squeeze ∈ lw_good := List.mem_filter.mpr ⟨List.mem_of_getElem? (i := 398) (by decide +kernel), by decide +kernel⟩
theorem g_285 : Cond.selects RK yK_squeeze yK_squeeze ∈ lw_good := List.mem_filter.mpr ⟨List.mem_of_getElem? (i := 399) (by decide +kernel), by decide +kernel⟩
theorem g_286 : Cond.code yK_squeeze cK_squeeze 4 (some .long) ∈ lw_good := List.mem_filter.mpr ⟨List.mem_of_getElem? (i := 400) (by decide +kernel), by decide +kernel⟩
theorem g_287 : Cond.methodLink RK 111 yS_canGive ∈ lw_good := List.mem_filter.mpr ⟨List.mem_of_getElem? (i := 401) (by decide +kernel), by decide +kernel⟩
theorem g_288 : Cond.instanceMethod yS_canGive ∈ lw_good := List.mem_filter.mpr ⟨List.mem_of_getElem? (i := 402) (by decide +kernel), by decide +kernel⟩
theorem g_289 : Cond.selects RS yS_canGive yS_canGive ∈ lw_good := List.mem_filter.mpr ⟨List.mem_of_getElem? (i := 403) (by decide +kernel), by decide +kernel⟩
theorem g_290 : Cond.code yS_canGive cS_canGive 2 (some .boolean) ∈ lw_good := List.mem_filter.mpr ⟨List.mem_of_getElem? (i := 404) (by decide +kernel), by decide +kernel⟩
theorem g_291 : Cond.methodLink RK 114 yS_giveLong ∈ lw_good := List.mem_filter.mpr ⟨List.mem_of_getElem? (i := 405) (by decide +kernel), by decide +kernel⟩
theorem g_292 : Cond.instanceMethod yS_giveLong ∈ lw_good := List.mem_filter.mpr ⟨List.mem_of_getElem? (i := 406) (by decide +kernel), by decide +kernel⟩
theorem g_293 : Cond.selects RS yS_giveLong yS_giveLong ∈ lw_good := List.mem_filter.mpr ⟨List.mem_of_getElem? (i := 407) (by decide +kernel), by decide +kernel⟩
theorem g_294 : Cond.code yS_giveLong cS_giveLong 5 (some .long) ∈ lw_good := List.mem_filter.mpr ⟨List.mem_of_getElem? (i := 408) (by decide +kernel), by decide +kernel⟩
theorem g_295 : Cond.methodLink RS 95 yS_giveByte ∈ lw_good := List.mem_filter.mpr ⟨List.mem_of_getElem? (i := 409) (by decide +kernel), by decide +kernel⟩
theorem g_296 : Cond.instanceMethod yS_giveByte ∈ lw_good := List.mem_filter.mpr ⟨List.mem_of_getElem? (i := 410) (by decide +kernel), by decide +kernel⟩
theorem g_297 : Cond.selects RS yS_giveByte yS_giveByte ∈ lw_good := List.mem_filter.mpr ⟨List.mem_of_getElem? (i := 411) (by decide +kernel), by decide +kernel⟩
theorem g_298 : Cond.code yS_giveByte cS_giveByte 3 (some .long) ∈ lw_good := List.mem_filter.mpr ⟨List.mem_of_getElem? (i := 412) (by decide +kernel), by decide +kernel⟩
theorem g_299 : Cond.methodLink RL 96 yL_left ∈ lw_good := List.mem_filter.mpr ⟨List.mem_of_getElem? (i := 413) (by decide +kernel), by decide +kernel⟩
theorem g_300 : Cond.static yL_left ∈ lw_good := List.mem_filter.mpr ⟨List.mem_of_getElem? (i := 414) (by decide +kernel), by decide +kernel⟩
theorem g_301 : Cond.codeWith yL_left cL_left 4 (some .int) [((0 : Nat), (9 : Nat), (12 : Nat), (23 : Nat))] ∈ lw_good := List.mem_filter.mpr ⟨List.mem_of_getElem? (i := 415) (by decide +kernel), by decide +kernel⟩
theorem g_302 : Cond.methodLink RL 41 yK_left ∈ lw_good := List.mem_filter.mpr ⟨List.mem_of_getElem? (i := 416) (by decide +kernel), by decide +kernel⟩
theorem g_303 : Cond.instanceMethod yK_left ∈ lw_good := List.mem_filter.mpr ⟨List.mem_of_getElem? (i := 417) (by decide +kernel), by decide +kernel⟩
theorem g_304 : Cond.selects RK yK_left yK_left ∈ lw_good := List.mem_filter.mpr ⟨List.mem_of_getElem? (i := 418) (by decide +kernel), by decide +kernel⟩
theorem g_305 : Cond.code yK_left cK_left 2 (some .int) ∈ lw_good := List.mem_filter.mpr ⟨List.mem_of_getElem? (i := 419) (by decide +kernel), by decide +kernel⟩
theorem g_306 : Cond.methodLink RL 99 yL_copy ∈ lw_good := List.mem_filter.mpr ⟨List.mem_of_getElem? (i := 420) (by decide +kernel), by decide +kernel⟩
theorem g_307 : Cond.static yL_copy ∈ lw_good := List.mem_filter.mpr ⟨List.mem_of_getElem? (i := 421) (by decide +kernel), by decide +kernel⟩
theorem g_308 : Cond.codeWith yL_copy cL_copy 4 (some .int) [((0 : Nat), (6 : Nat), (9 : Nat), (23 : Nat))] ∈ lw_good := List.mem_filter.mpr ⟨List.mem_of_getElem? (i := 422) (by decide +kernel), by decide +kernel⟩
theorem g_309 : Cond.methodLink RL 44 yK_copy ∈ lw_good := List.mem_filter.mpr ⟨List.mem_of_getElem? (i := 423) (by decide +kernel), by decide +kernel⟩
theorem g_310 : Cond.instanceMethod yK_copy ∈ lw_good := List.mem_filter.mpr ⟨List.mem_of_getElem? (i := 424) (by decide +kernel), by decide +kernel⟩
theorem g_311 : Cond.selects RK yK_copy yK_copy ∈ lw_good := List.mem_filter.mpr ⟨List.mem_of_getElem? (i := 425) (by decide +kernel), by decide +kernel⟩
theorem g_312 : Cond.code yK_copy cK_copy 4 none ∈ lw_good := List.mem_filter.mpr ⟨List.mem_of_getElem? (i := 426) (by decide +kernel), by decide +kernel⟩
theorem g_313 : Cond.methodLink RK 121 yS_becomeLike ∈ lw_good := List.mem_filter.mpr ⟨List.mem_of_getElem? (i := 427) (by decide +kernel), by decide +kernel⟩
theorem g_314 : Cond.instanceMethod yS_becomeLike ∈ lw_good := List.mem_filter.mpr ⟨List.mem_of_getElem? (i := 428) (by decide +kernel), by decide +kernel⟩
theorem g_315 : Cond.selects RS yS_becomeLike yS_becomeLike ∈ lw_good := List.mem_filter.mpr ⟨List.mem_of_getElem? (i := 429) (by decide +kernel), by decide +kernel⟩
theorem g_316 : Cond.code yS_becomeLike cS_becomeLike 2 none ∈ lw_good := List.mem_filter.mpr ⟨List.mem_of_getElem? (i := 430) (by decide +kernel), by decide +kernel⟩
theorem g_317 : Cond.methodLink RS 54 arraycopyName ∈ lw_good := List.mem_filter.mpr ⟨List.mem_of_getElem? (i := 431) (by decide +kernel), by decide +kernel⟩
theorem g_318 : Cond.methodLink RL 102 yL_kind ∈ lw_good := List.mem_filter.mpr ⟨List.mem_of_getElem? (i := 432) (by decide +kernel), by decide +kernel⟩
theorem g_319 : Cond.static yL_kind ∈ lw_good := List.mem_filter.mpr ⟨List.mem_of_getElem? (i := 433) (by decide +kernel), by decide +kernel⟩
theorem g_320 : Cond.codeWith yL_kind cL_kind 4 (some .int) [((0 : Nat), (9 : Nat), (12 : Nat), (23 : Nat))] ∈ lw_good := List.mem_filter.mpr ⟨List.mem_of_getElem? (i := 434) (by decide +kernel), by decide +kernel⟩
theorem g_321 : Cond.methodLink RL 47 yK_kind ∈ lw_good := List.mem_filter.mpr ⟨List.mem_of_getElem? (i := 435) (by decide +kernel), by decide +kernel⟩
theorem g_322 : Cond.instanceMethod yK_kind ∈ lw_good := List.mem_filter.mpr ⟨List.mem_of_getElem? (i := 436) (by decide +kernel), by decide +kernel⟩
theorem g_323 : Cond.selects RK yK_kind yK_kind ∈ lw_good := List.mem_filter.mpr ⟨List.mem_of_getElem? (i := 437) (by decide +kernel), by decide +kernel⟩
theorem g_324 : Cond.code yK_kind cK_kind 3 (some .int) ∈ lw_good := List.mem_filter.mpr ⟨List.mem_of_getElem? (i := 438) (by decide +kernel), by decide +kernel⟩
theorem g_325 : Cond.methodLink RL 105 yL_same ∈ lw_good := List.mem_filter.mpr ⟨List.mem_of_getElem? (i := 439) (by decide +kernel), by decide +kernel⟩
theorem g_326 : Cond.static yL_same ∈ lw_good := List.mem_filter.mpr ⟨List.mem_of_getElem? (i := 440) (by decide +kernel), by decide +kernel⟩
theorem g_327 : Cond.codeWith yL_same cL_same 6 (some .int) [((0 : Nat), (19 : Nat), (22 : Nat), (23 : Nat)), ((0 : Nat), (19 : Nat), (26 : Nat), (13 : Nat)), ((0 : Nat), (19 : Nat), (30 : Nat), (28 : Nat))] ∈ lw_good := List.mem_filter.mpr ⟨List.mem_of_getElem? (i := 441) (by decide +kernel), by decide +kernel⟩
theorem g_328 : Cond.methodLink RL 50 yK_same ∈ lw_good := List.mem_filter.mpr ⟨List.mem_of_getElem? (i := 442) (by decide +kernel), by decide +kernel⟩
theorem g_329 : Cond.instanceMethod yK_same ∈ lw_good := List.mem_filter.mpr ⟨List.mem_of_getElem? (i := 443) (by decide +kernel), by decide +kernel⟩
theorem g_330 : Cond.selects RK yK_same yK_same ∈ lw_good := List.mem_filter.mpr ⟨List.mem_of_getElem? (i := 444) (by decide +kernel), by decide +kernel⟩
theorem g_331 : Cond.code yK_same cK_same 6 (some .boolean) ∈ lw_good := List.mem_filter.mpr ⟨List.mem_of_getElem? (i := 445) (by decide +kernel), by decide +kernel⟩
theorem g_332 : Cond.methodLink RK 124 yK_givesSame ∈ lw_good := List.mem_filter.mpr ⟨List.mem_of_getElem? (i := 446) (by decide +kernel), by decide +kernel⟩
theorem g_333 : Cond.instanceMethod yK_givesSame ∈ lw_good := List.mem_filter.mpr ⟨List.mem_of_getElem? (i := 448) (by decide +kernel), by decide +kernel⟩
theorem g_334 : Cond.code yK_givesSame cK_givesSame 3 (some .boolean) ∈ lw_good := List.mem_filter.mpr ⟨List.mem_of_getElem? (i := 449) (by decide +kernel), by decide +kernel⟩
theorem g_335 : Cond.methodLink RK 127 yS_giveByte ∈ lw_good := List.mem_filter.mpr ⟨List.mem_of_getElem? (i := 450) (by decide +kernel), by decide +kernel⟩
theorem g_336 : Cond.classLink RL 55 RM ∈ lw_good := List.mem_filter.mpr ⟨List.mem_of_getElem? (i := 451) (by decide +kernel), by decide +kernel⟩
theorem g_337 : Cond.instantiable RM 14 ∈ lw_good := List.mem_filter.mpr ⟨List.mem_of_getElem? (i := 452) (by decide +kernel), by decide +kernel⟩
theorem g_338 : Cond.methodLink RL 57 yM_init ∈ lw_good := List.mem_filter.mpr ⟨List.mem_of_getElem? (i := 453) (by decide +kernel), by decide +kernel⟩
theorem g_339 : Cond.instanceMethod yM_init ∈ lw_good := List.mem_filter.mpr ⟨List.mem_of_getElem? (i := 454) (by decide +kernel), by decide +kernel⟩
theorem g_340 : Cond.code yM_init cM_init 2 none ∈ lw_good := List.mem_filter.mpr ⟨List.mem_of_getElem? (i := 455) (by decide +kernel), by decide +kernel⟩
theorem g_341 : Cond.methodLink RM 1 objectInit ∈ lw_good := List.mem_filter.mpr ⟨List.mem_of_getElem? (i := 456) (by decide +kernel), by decide +kernel⟩
theorem g_342 : Cond.methodLink RM 47 yM_start ∈ lw_good := List.mem_filter.mpr ⟨List.mem_of_getElem? (i := 457) (by decide +kernel), by decide +kernel⟩
theorem g_343 : Cond.instanceMethod yM_start ∈ lw_good := List.mem_filter.mpr ⟨List.mem_of_getElem? (i := 459) (by decide +kernel), by decide +kernel⟩
theorem g_344 : Cond.code yM_start cM_start 4 none ∈ lw_good := List.mem_filter.mpr ⟨List.mem_of_getElem? (i := 460) (by decide +kernel), by decide +kernel⟩
theorem g_345 : Cond.methodLink RM 86 yM_widthOf ∈ lw_good := List.mem_filter.mpr ⟨List.mem_of_getElem? (i := 461) (by decide +kernel), by decide +kernel⟩
theorem g_346 : Cond.static yM_widthOf ∈ lw_good := List.mem_filter.mpr ⟨List.mem_of_getElem? (i := 462) (by decide +kernel), by decide +kernel⟩
theorem g_347 : Cond.code yM_widthOf cM_widthOf 1 (some .int) ∈ lw_good := List.mem_filter.mpr ⟨List.mem_of_getElem? (i := 463) (by decide +kernel), by decide +kernel⟩
theorem g_348 : Cond.methodLink RM 103 yM_leftOf ∈ lw_good := List.mem_filter.mpr ⟨List.mem_of_getElem? (i := 464) (by decide +kernel), by decide +kernel⟩
theorem g_349 : Cond.instanceMethod yM_leftOf ∈ lw_good := List.mem_filter.mpr ⟨List.mem_of_getElem? (i := 466) (by decide +kernel), by decide +kernel⟩
theorem g_350 : Cond.code yM_leftOf cM_leftOf 3 none ∈ lw_good := List.mem_filter.mpr ⟨List.mem_of_getElem? (i := 467) (by decide +kernel), by decide +kernel⟩
theorem g_351 : Cond.methodLink RM 94 yM_bytesOf ∈ lw_good := List.mem_filter.mpr ⟨List.mem_of_getElem? (i := 468) (by decide +kernel), by decide +kernel⟩
theorem g_352 : Cond.static yM_bytesOf ∈ lw_good := List.mem_filter.mpr ⟨List.mem_of_getElem? (i := 469) (by decide +kernel), by decide +kernel⟩
theorem g_353 : Cond.code yM_bytesOf cM_bytesOf 3 (some .int) ∈ lw_good := List.mem_filter.mpr ⟨List.mem_of_getElem? (i := 470) (by decide +kernel), by decide +kernel⟩
theorem g_354 : Cond.methodLink RM 97 yM_comeIn ∈ lw_good := List.mem_filter.mpr ⟨List.mem_of_getElem? (i := 471) (by decide +kernel), by decide +kernel⟩
theorem g_355 : Cond.instanceMethod yM_comeIn ∈ lw_good := List.mem_filter.mpr ⟨List.mem_of_getElem? (i := 473) (by decide +kernel), by decide +kernel⟩
theorem g_356 : Cond.code yM_comeIn cM_comeIn 3 none ∈ lw_good := List.mem_filter.mpr ⟨List.mem_of_getElem? (i := 474) (by decide +kernel), by decide +kernel⟩
theorem g_357 : Cond.methodLink RM 82 yM_meet ∈ lw_good := List.mem_filter.mpr ⟨List.mem_of_getElem? (i := 475) (by decide +kernel), by decide +kernel⟩
theorem g_358 : Cond.instanceMethod yM_meet ∈ lw_good := List.mem_filter.mpr ⟨List.mem_of_getElem? (i := 477) (by decide +kernel), by decide +kernel⟩
theorem g_359 : Cond.code yM_meet cM_meet 6 none ∈ lw_good := List.mem_filter.mpr ⟨List.mem_of_getElem? (i := 478) (by decide +kernel), by decide +kernel⟩
theorem g_360 : Cond.methodLink RM 90 yM_permute ∈ lw_good := List.mem_filter.mpr ⟨List.mem_of_getElem? (i := 479) (by decide +kernel), by decide +kernel⟩
theorem g_361 : Cond.instanceMethod yM_permute ∈ lw_good := List.mem_filter.mpr ⟨List.mem_of_getElem? (i := 481) (by decide +kernel), by decide +kernel⟩
theorem g_362 : Cond.code yM_permute cM_permute 5 none ∈ lw_good := List.mem_filter.mpr ⟨List.mem_of_getElem? (i := 482) (by decide +kernel), by decide +kernel⟩
theorem g_363 : Cond.methodLink RM 66 yM_columns ∈ lw_good := List.mem_filter.mpr ⟨List.mem_of_getElem? (i := 483) (by decide +kernel), by decide +kernel⟩
theorem g_364 : Cond.instanceMethod yM_columns ∈ lw_good := List.mem_filter.mpr ⟨List.mem_of_getElem? (i := 485) (by decide +kernel), by decide +kernel⟩
theorem g_365 : Cond.code yM_columns cM_columns 5 none ∈ lw_good := List.mem_filter.mpr ⟨List.mem_of_getElem? (i := 486) (by decide +kernel), by decide +kernel⟩
theorem g_366 : Cond.methodLink RM 59 yM_isOdd ∈ lw_good := List.mem_filter.mpr ⟨List.mem_of_getElem? (i := 487) (by decide +kernel), by decide +kernel⟩
theorem g_367 : Cond.instanceMethod yM_isOdd ∈ lw_good := List.mem_filter.mpr ⟨List.mem_of_getElem? (i := 489) (by decide +kernel), by decide +kernel⟩
theorem g_368 : Cond.code yM_isOdd cM_isOdd 5 (some .boolean) ∈ lw_good := List.mem_filter.mpr ⟨List.mem_of_getElem? (i := 490) (by decide +kernel), by decide +kernel⟩
theorem g_369 : Cond.methodLink RM 55 yM_at ∈ lw_good := List.mem_filter.mpr ⟨List.mem_of_getElem? (i := 491) (by decide +kernel), by decide +kernel⟩
theorem g_370 : Cond.static yM_at ∈ lw_good := List.mem_filter.mpr ⟨List.mem_of_getElem? (i := 492) (by decide +kernel), by decide +kernel⟩
theorem g_371 : Cond.code yM_at cM_at 3 (some .int) ∈ lw_good := List.mem_filter.mpr ⟨List.mem_of_getElem? (i := 493) (by decide +kernel), by decide +kernel⟩
theorem g_372 : Cond.methodLink RM 63 yM_take ∈ lw_good := List.mem_filter.mpr ⟨List.mem_of_getElem? (i := 494) (by decide +kernel), by decide +kernel⟩
theorem g_373 : Cond.instanceMethod yM_take ∈ lw_good := List.mem_filter.mpr ⟨List.mem_of_getElem? (i := 496) (by decide +kernel), by decide +kernel⟩
theorem g_374 : Cond.code yM_take cM_take 2 none ∈ lw_good := List.mem_filter.mpr ⟨List.mem_of_getElem? (i := 497) (by decide +kernel), by decide +kernel⟩
theorem g_375 : Cond.methodLink RM 69 yM_turns ∈ lw_good := List.mem_filter.mpr ⟨List.mem_of_getElem? (i := 498) (by decide +kernel), by decide +kernel⟩
theorem g_376 : Cond.instanceMethod yM_turns ∈ lw_good := List.mem_filter.mpr ⟨List.mem_of_getElem? (i := 500) (by decide +kernel), by decide +kernel⟩
theorem g_377 : Cond.code yM_turns cM_turns 6 none ∈ lw_good := List.mem_filter.mpr ⟨List.mem_of_getElem? (i := 501) (by decide +kernel), by decide +kernel⟩
theorem g_378 : Cond.methodLink RM 72 yM_places ∈ lw_good := List.mem_filter.mpr ⟨List.mem_of_getElem? (i := 502) (by decide +kernel), by decide +kernel⟩
theorem g_379 : Cond.instanceMethod yM_places ∈ lw_good := List.mem_filter.mpr ⟨List.mem_of_getElem? (i := 504) (by decide +kernel), by decide +kernel⟩
theorem g_380 : Cond.code yM_places cM_places 4 none ∈ lw_good := List.mem_filter.mpr ⟨List.mem_of_getElem? (i := 505) (by decide +kernel), by decide +kernel⟩
theorem g_381 : Cond.methodLink RM 75 yM_rowsOf ∈ lw_good := List.mem_filter.mpr ⟨List.mem_of_getElem? (i := 506) (by decide +kernel), by decide +kernel⟩
theorem g_382 : Cond.instanceMethod yM_rowsOf ∈ lw_good := List.mem_filter.mpr ⟨List.mem_of_getElem? (i := 508) (by decide +kernel), by decide +kernel⟩
theorem g_383 : Cond.code yM_rowsOf cM_rowsOf 5 none ∈ lw_good := List.mem_filter.mpr ⟨List.mem_of_getElem? (i := 509) (by decide +kernel), by decide +kernel⟩
theorem g_384 : Cond.methodLink RM 78 yM_constant ∈ lw_good := List.mem_filter.mpr ⟨List.mem_of_getElem? (i := 510) (by decide +kernel), by decide +kernel⟩
theorem g_385 : Cond.static yM_constant ∈ lw_good := List.mem_filter.mpr ⟨List.mem_of_getElem? (i := 511) (by decide +kernel), by decide +kernel⟩
theorem g_386 : Cond.code yM_constant cM_constant 3 (some .boolean) ∈ lw_good := List.mem_filter.mpr ⟨List.mem_of_getElem? (i := 512) (by decide +kernel), by decide +kernel⟩
theorem g_387 : Cond.methodLink RM 100 yM_number ∈ lw_good := List.mem_filter.mpr ⟨List.mem_of_getElem? (i := 513) (by decide +kernel), by decide +kernel⟩
theorem g_388 : Cond.instanceMethod yM_number ∈ lw_good := List.mem_filter.mpr ⟨List.mem_of_getElem? (i := 515) (by decide +kernel), by decide +kernel⟩
theorem g_389 : Cond.code yM_number cM_number 4 none ∈ lw_good := List.mem_filter.mpr ⟨List.mem_of_getElem? (i := 516) (by decide +kernel), by decide +kernel⟩
theorem g_390 : Cond.methodLink RM 112 yM_string ∈ lw_good := List.mem_filter.mpr ⟨List.mem_of_getElem? (i := 517) (by decide +kernel), by decide +kernel⟩
theorem g_391 : Cond.instanceMethod yM_string ∈ lw_good := List.mem_filter.mpr ⟨List.mem_of_getElem? (i := 519) (by decide +kernel), by decide +kernel⟩
theorem g_392 : Cond.code yM_string cM_string 6 none ∈ lw_good := List.mem_filter.mpr ⟨List.mem_of_getElem? (i := 520) (by decide +kernel), by decide +kernel⟩
theorem g_393 : Cond.methodLink RM 116 yM_ownName ∈ lw_good := List.mem_filter.mpr ⟨List.mem_of_getElem? (i := 521) (by decide +kernel), by decide +kernel⟩
theorem g_394 : Cond.instanceMethod yM_ownName ∈ lw_good := List.mem_filter.mpr ⟨List.mem_of_getElem? (i := 523) (by decide +kernel), by decide +kernel⟩
theorem g_395 : Cond.code yM_ownName cM_ownName 7 none ∈ lw_good := List.mem_filter.mpr ⟨List.mem_of_getElem? (i := 524) (by decide +kernel), by decide +kernel⟩
theorem g_396 : Cond.constantLong RM 106 (1128353099) ∈ lw_good := List.mem_filter.mpr ⟨List.mem_of_getElem? (i := 525) (by decide +kernel), by decide +kernel⟩
theorem g_397 : Cond.constantLong RM 108 (8314005987550852436) ∈ lw_good := List.mem_filter.mpr ⟨List.mem_of_getElem? (i := 526) (by decide +kernel), by decide +kernel⟩
theorem g_398 : Cond.constantLong RM 110 (255) ∈ lw_good := List.mem_filter.mpr ⟨List.mem_of_getElem? (i := 527) (by decide +kernel), by decide +kernel⟩
theorem g_399 : Cond.methodLink RM 120 yM_fill ∈ lw_good := List.mem_filter.mpr ⟨List.mem_of_getElem? (i := 528) (by decide +kernel), by decide +kernel⟩
theorem g_400 : Cond.instanceMethod yM_fill ∈ lw_good := List.mem_filter.mpr ⟨List.mem_of_getElem? (i := 530) (by decide +kernel), by decide +kernel⟩
theorem g_401 : Cond.code yM_fill cM_fill 2 none ∈ lw_good := List.mem_filter.mpr ⟨List.mem_of_getElem? (i := 531) (by decide +kernel), by decide +kernel⟩
theorem g_402 : Cond.fieldLink RM 51 "SpongeDeskModel" "thrown" "I" ∈ lw_good := List.mem_filter.mpr ⟨List.mem_of_getElem? (i := 532) (by decide +kernel), by decide +kernel⟩
theorem g_403 : Cond.fieldLink RM 123 "SpongeDeskModel" "tapeSize" "I" ∈ lw_good := List.mem_filter.mpr ⟨List.mem_of_getElem? (i := 533) (by decide +kernel), by decide +kernel⟩
theorem g_404 : Cond.fieldLink RM 7 "SpongeDeskModel" "tape" "[I" ∈ lw_good := List.mem_filter.mpr ⟨List.mem_of_getElem? (i := 534) (by decide +kernel), by decide +kernel⟩
theorem g_405 : Cond.fieldLink RM 13 "SpongeDeskModel" "rowSize" "[I" ∈ lw_good := List.mem_filter.mpr ⟨List.mem_of_getElem? (i := 535) (by decide +kernel), by decide +kernel⟩
theorem g_406 : Cond.fieldLink RM 16 "SpongeDeskModel" "rows" "[I" ∈ lw_good := List.mem_filter.mpr ⟨List.mem_of_getElem? (i := 536) (by decide +kernel), by decide +kernel⟩
theorem g_407 : Cond.fieldLink RM 19 "SpongeDeskModel" "bits" "[Z" ∈ lw_good := List.mem_filter.mpr ⟨List.mem_of_getElem? (i := 537) (by decide +kernel), by decide +kernel⟩
theorem g_408 : Cond.fieldLink RM 23 "SpongeDeskModel" "kinds" "[I" ∈ lw_good := List.mem_filter.mpr ⟨List.mem_of_getElem? (i := 538) (by decide +kernel), by decide +kernel⟩
theorem g_409 : Cond.fieldLink RM 26 "SpongeDeskModel" "place" "[I" ∈ lw_good := List.mem_filter.mpr ⟨List.mem_of_getElem? (i := 539) (by decide +kernel), by decide +kernel⟩
theorem g_410 : Cond.fieldLink RM 29 "SpongeDeskModel" "endByte" "[I" ∈ lw_good := List.mem_filter.mpr ⟨List.mem_of_getElem? (i := 540) (by decide +kernel), by decide +kernel⟩
theorem g_411 : Cond.fieldLink RM 32 "SpongeDeskModel" "ended" "[Z" ∈ lw_good := List.mem_filter.mpr ⟨List.mem_of_getElem? (i := 541) (by decide +kernel), by decide +kernel⟩
theorem g_412 : Cond.fieldLink RM 35 "SpongeDeskModel" "counts" "[I" ∈ lw_good := List.mem_filter.mpr ⟨List.mem_of_getElem? (i := 542) (by decide +kernel), by decide +kernel⟩
theorem g_413 : Cond.fieldLink RM 38 "SpongeDeskModel" "lefts" "[I" ∈ lw_good := List.mem_filter.mpr ⟨List.mem_of_getElem? (i := 543) (by decide +kernel), by decide +kernel⟩
theorem g_414 : Cond.fieldLink RM 41 "SpongeDeskModel" "now" "[Z" ∈ lw_good := List.mem_filter.mpr ⟨List.mem_of_getElem? (i := 544) (by decide +kernel), by decide +kernel⟩
theorem g_415 : Cond.fieldLink RM 44 "SpongeDeskModel" "next" "[Z" ∈ lw_good := List.mem_filter.mpr ⟨List.mem_of_getElem? (i := 545) (by decide +kernel), by decide +kernel⟩
theorem g_416 : Cond.arrayClass .int ∈ lw_good := List.mem_filter.mpr ⟨List.mem_of_getElem? (i := 575) (by decide +kernel), by decide +kernel⟩
theorem g_417 : Cond.arrayClass .boolean ∈ lw_good := List.mem_filter.mpr ⟨List.mem_of_getElem? (i := 576) (by decide +kernel), by decide +kernel⟩
theorem g_418 : Cond.methodLink RL 66 yM_thrown ∈ lw_good := List.mem_filter.mpr ⟨List.mem_of_getElem? (i := 577) (by decide +kernel), by decide +kernel⟩
theorem g_419 : Cond.instanceMethod yM_thrown ∈ lw_good := List.mem_filter.mpr ⟨List.mem_of_getElem? (i := 578) (by decide +kernel), by decide +kernel⟩
theorem g_420 : Cond.selects RM yM_thrown yM_thrown ∈ lw_good := List.mem_filter.mpr ⟨List.mem_of_getElem? (i := 579) (by decide +kernel), by decide +kernel⟩
theorem g_421 : Cond.code yM_thrown cM_thrown 1 (some .int) ∈ lw_good := List.mem_filter.mpr ⟨List.mem_of_getElem? (i := 580) (by decide +kernel), by decide +kernel⟩
theorem g_422 : Cond.methodLink RL 65 yM_feed ∈ lw_good := List.mem_filter.mpr ⟨List.mem_of_getElem? (i := 581) (by decide +kernel), by decide +kernel⟩
theorem g_423 : Cond.instanceMethod yM_feed ∈ lw_good := List.mem_filter.mpr ⟨List.mem_of_getElem? (i := 582) (by decide +kernel), by decide +kernel⟩
theorem g_424 : Cond.selects RM yM_feed yM_feed ∈ lw_good := List.mem_filter.mpr ⟨List.mem_of_getElem? (i := 583) (by decide +kernel), by decide +kernel⟩
theorem g_425 : Cond.code yM_feed cM_feed 5 (some .int) ∈ lw_good := List.mem_filter.mpr ⟨List.mem_of_getElem? (i := 584) (by decide +kernel), by decide +kernel⟩
theorem g_426 : Cond.methodLink RL 73 yM_wipe ∈ lw_good := List.mem_filter.mpr ⟨List.mem_of_getElem? (i := 585) (by decide +kernel), by decide +kernel⟩
theorem g_427 : Cond.instanceMethod yM_wipe ∈ lw_good := List.mem_filter.mpr ⟨List.mem_of_getElem? (i := 586) (by decide +kernel), by decide +kernel⟩
theorem g_428 : Cond.selects RM yM_wipe yM_wipe ∈ lw_good := List.mem_filter.mpr ⟨List.mem_of_getElem? (i := 587) (by decide +kernel), by decide +kernel⟩
theorem g_429 : Cond.code yM_wipe cM_wipe 2 (some .int) ∈ lw_good := List.mem_filter.mpr ⟨List.mem_of_getElem? (i := 588) (by decide +kernel), by decide +kernel⟩
theorem g_430 : Cond.methodLink RL 77 yM_let ∈ lw_good := List.mem_filter.mpr ⟨List.mem_of_getElem? (i := 589) (by decide +kernel), by decide +kernel⟩
theorem g_431 : Cond.instanceMethod yM_let ∈ lw_good := List.mem_filter.mpr ⟨List.mem_of_getElem? (i := 590) (by decide +kernel), by decide +kernel⟩
theorem g_432 : Cond.selects RM yM_let yM_let ∈ lw_good := List.mem_filter.mpr ⟨List.mem_of_getElem? (i := 591) (by decide +kernel), by decide +kernel⟩
theorem g_433 : Cond.code yM_let cM_let 3 (some .int) ∈ lw_good := List.mem_filter.mpr ⟨List.mem_of_getElem? (i := 592) (by decide +kernel), by decide +kernel⟩
theorem g_434 : Cond.methodLink RL 81 yM_begin ∈ lw_good := List.mem_filter.mpr ⟨List.mem_of_getElem? (i := 593) (by decide +kernel), by decide +kernel⟩
theorem g_435 : Cond.instanceMethod yM_begin ∈ lw_good := List.mem_filter.mpr ⟨List.mem_of_getElem? (i := 594) (by decide +kernel), by decide +kernel⟩
theorem g_436 : Cond.selects RM yM_begin yM_begin ∈ lw_good := List.mem_filter.mpr ⟨List.mem_of_getElem? (i := 595) (by decide +kernel), by decide +kernel⟩
theorem g_437 : Cond.code yM_begin cM_begin 3 none ∈ lw_good := List.mem_filter.mpr ⟨List.mem_of_getElem? (i := 596) (by decide +kernel), by decide +kernel⟩
theorem g_438 : Cond.methodLink RM 126 yM_isSponge ∈ lw_good := List.mem_filter.mpr ⟨List.mem_of_getElem? (i := 597) (by decide +kernel), by decide +kernel⟩
theorem g_439 : Cond.static yM_isSponge ∈ lw_good := List.mem_filter.mpr ⟨List.mem_of_getElem? (i := 598) (by decide +kernel), by decide +kernel⟩
theorem g_440 : Cond.code yM_isSponge cM_isSponge 1 (some .boolean) ∈ lw_good := List.mem_filter.mpr ⟨List.mem_of_getElem? (i := 599) (by decide +kernel), by decide +kernel⟩
theorem g_441 : Cond.methodLink RL 84 yM_absorb ∈ lw_good := List.mem_filter.mpr ⟨List.mem_of_getElem? (i := 600) (by decide +kernel), by decide +kernel⟩
theorem g_442 : Cond.instanceMethod yM_absorb ∈ lw_good := List.mem_filter.mpr ⟨List.mem_of_getElem? (i := 601) (by decide +kernel), by decide +kernel⟩
theorem g_443 : Cond.selects RM yM_absorb yM_absorb ∈ lw_good := List.mem_filter.mpr ⟨List.mem_of_getElem? (i := 602) (by decide +kernel), by decide +kernel⟩
theorem g_444 : Cond.code yM_absorb cM_absorb 3 (some .int) ∈ lw_good := List.mem_filter.mpr ⟨List.mem_of_getElem? (i := 603) (by decide +kernel), by decide +kernel⟩
theorem g_445 : Cond.methodLink RL 88 yM_bytes ∈ lw_good := List.mem_filter.mpr ⟨List.mem_of_getElem? (i := 604) (by decide +kernel), by decide +kernel⟩
theorem g_446 : Cond.instanceMethod yM_bytes ∈ lw_good := List.mem_filter.mpr ⟨List.mem_of_getElem? (i := 605) (by decide +kernel), by decide +kernel⟩
theorem g_447 : Cond.selects RM yM_bytes yM_bytes ∈ lw_good := List.mem_filter.mpr ⟨List.mem_of_getElem? (i := 606) (by decide +kernel), by decide +kernel⟩
theorem g_448 : Cond.code yM_bytes cM_bytes 6 (some .int) ∈ lw_good := List.mem_filter.mpr ⟨List.mem_of_getElem? (i := 607) (by decide +kernel), by decide +kernel⟩
theorem g_449 : Cond.methodLink RL 91 yM_end ∈ lw_good := List.mem_filter.mpr ⟨List.mem_of_getElem? (i := 608) (by decide +kernel), by decide +kernel⟩
theorem g_450 : Cond.instanceMethod yM_end ∈ lw_good := List.mem_filter.mpr ⟨List.mem_of_getElem? (i := 609) (by decide +kernel), by decide +kernel⟩
theorem g_451 : Cond.selects RM yM_end yM_end ∈ lw_good := List.mem_filter.mpr ⟨List.mem_of_getElem? (i := 610) (by decide +kernel), by decide +kernel⟩
theorem g_452 : Cond.code yM_end cM_end 4 none ∈ lw_good := List.mem_filter.mpr ⟨List.mem_of_getElem? (i := 611) (by decide +kernel), by decide +kernel⟩
theorem g_453 : Cond.methodLink RM 129 yM_hasLength ∈ lw_good := List.mem_filter.mpr ⟨List.mem_of_getElem? (i := 612) (by decide +kernel), by decide +kernel⟩
theorem g_454 : Cond.static yM_hasLength ∈ lw_good := List.mem_filter.mpr ⟨List.mem_of_getElem? (i := 613) (by decide +kernel), by decide +kernel⟩
theorem g_455 : Cond.code yM_hasLength cM_hasLength 1 (some .boolean) ∈ lw_good := List.mem_filter.mpr ⟨List.mem_of_getElem? (i := 614) (by decide +kernel), by decide +kernel⟩
theorem g_456 : Cond.methodLink RM 132 yM_lengthOf ∈ lw_good := List.mem_filter.mpr ⟨List.mem_of_getElem? (i := 615) (by decide +kernel), by decide +kernel⟩
theorem g_457 : Cond.static yM_lengthOf ∈ lw_good := List.mem_filter.mpr ⟨List.mem_of_getElem? (i := 616) (by decide +kernel), by decide +kernel⟩
theorem g_458 : Cond.code yM_lengthOf cM_lengthOf 1 (some .int) ∈ lw_good := List.mem_filter.mpr ⟨List.mem_of_getElem? (i := 617) (by decide +kernel), by decide +kernel⟩
theorem g_459 : Cond.methodLink RL 95 yM_squeeze ∈ lw_good := List.mem_filter.mpr ⟨List.mem_of_getElem? (i := 618) (by decide +kernel), by decide +kernel⟩
theorem g_460 : Cond.instanceMethod yM_squeeze ∈ lw_good := List.mem_filter.mpr ⟨List.mem_of_getElem? (i := 619) (by decide +kernel), by decide +kernel⟩
theorem g_461 : Cond.selects RM yM_squeeze yM_squeeze ∈ lw_good := List.mem_filter.mpr ⟨List.mem_of_getElem? (i := 620) (by decide +kernel), by decide +kernel⟩
theorem g_462 : Cond.code yM_squeeze cM_squeeze 6 (some .long) ∈ lw_good := List.mem_filter.mpr ⟨List.mem_of_getElem? (i := 621) (by decide +kernel), by decide +kernel⟩
theorem g_463 : Cond.methodLink RM 135 yM_has ∈ lw_good := List.mem_filter.mpr ⟨List.mem_of_getElem? (i := 622) (by decide +kernel), by decide +kernel⟩
theorem g_464 : Cond.instanceMethod yM_has ∈ lw_good := List.mem_filter.mpr ⟨List.mem_of_getElem? (i := 624) (by decide +kernel), by decide +kernel⟩
theorem g_465 : Cond.code yM_has cM_has 3 (some .boolean) ∈ lw_good := List.mem_filter.mpr ⟨List.mem_of_getElem? (i := 625) (by decide +kernel), by decide +kernel⟩
theorem g_466 : Cond.methodLink RM 138 yM_comeOut ∈ lw_good := List.mem_filter.mpr ⟨List.mem_of_getElem? (i := 626) (by decide +kernel), by decide +kernel⟩
theorem g_467 : Cond.instanceMethod yM_comeOut ∈ lw_good := List.mem_filter.mpr ⟨List.mem_of_getElem? (i := 628) (by decide +kernel), by decide +kernel⟩
theorem g_468 : Cond.code yM_comeOut cM_comeOut 4 (some .int) ∈ lw_good := List.mem_filter.mpr ⟨List.mem_of_getElem? (i := 629) (by decide +kernel), by decide +kernel⟩
theorem g_469 : Cond.methodLink RL 98 yM_left ∈ lw_good := List.mem_filter.mpr ⟨List.mem_of_getElem? (i := 630) (by decide +kernel), by decide +kernel⟩
theorem g_470 : Cond.instanceMethod yM_left ∈ lw_good := List.mem_filter.mpr ⟨List.mem_of_getElem? (i := 631) (by decide +kernel), by decide +kernel⟩
theorem g_471 : Cond.selects RM yM_left yM_left ∈ lw_good := List.mem_filter.mpr ⟨List.mem_of_getElem? (i := 632) (by decide +kernel), by decide +kernel⟩
theorem g_472 : Cond.code yM_left cM_left 2 (some .int) ∈ lw_good := List.mem_filter.mpr ⟨List.mem_of_getElem? (i := 633) (by decide +kernel), by decide +kernel⟩
theorem g_473 : Cond.methodLink RL 101 yM_copy ∈ lw_good := List.mem_filter.mpr ⟨List.mem_of_getElem? (i := 634) (by decide +kernel), by decide +kernel⟩
theorem g_474 : Cond.instanceMethod yM_copy ∈ lw_good := List.mem_filter.mpr ⟨List.mem_of_getElem? (i := 635) (by decide +kernel), by decide +kernel⟩
theorem g_475 : Cond.selects RM yM_copy yM_copy ∈ lw_good := List.mem_filter.mpr ⟨List.mem_of_getElem? (i := 636) (by decide +kernel), by decide +kernel⟩
theorem g_476 : Cond.code yM_copy cM_copy 3 none ∈ lw_good := List.mem_filter.mpr ⟨List.mem_of_getElem? (i := 637) (by decide +kernel), by decide +kernel⟩
theorem g_477 : Cond.methodLink RM 141 yM_copyAll ∈ lw_good := List.mem_filter.mpr ⟨List.mem_of_getElem? (i := 638) (by decide +kernel), by decide +kernel⟩
theorem g_478 : Cond.instanceMethod yM_copyAll ∈ lw_good := List.mem_filter.mpr ⟨List.mem_of_getElem? (i := 640) (by decide +kernel), by decide +kernel⟩
theorem g_479 : Cond.code yM_copyAll cM_copyAll 4 none ∈ lw_good := List.mem_filter.mpr ⟨List.mem_of_getElem? (i := 641) (by decide +kernel), by decide +kernel⟩
theorem g_480 : Cond.methodLink RL 104 yM_kind ∈ lw_good := List.mem_filter.mpr ⟨List.mem_of_getElem? (i := 642) (by decide +kernel), by decide +kernel⟩
theorem g_481 : Cond.instanceMethod yM_kind ∈ lw_good := List.mem_filter.mpr ⟨List.mem_of_getElem? (i := 643) (by decide +kernel), by decide +kernel⟩
theorem g_482 : Cond.selects RM yM_kind yM_kind ∈ lw_good := List.mem_filter.mpr ⟨List.mem_of_getElem? (i := 644) (by decide +kernel), by decide +kernel⟩
theorem g_483 : Cond.code yM_kind cM_kind 2 (some .int) ∈ lw_good := List.mem_filter.mpr ⟨List.mem_of_getElem? (i := 645) (by decide +kernel), by decide +kernel⟩
theorem g_484 : Cond.methodLink RL 108 yM_same ∈ lw_good := List.mem_filter.mpr ⟨List.mem_of_getElem? (i := 646) (by decide +kernel), by decide +kernel⟩
theorem g_485 : Cond.instanceMethod yM_same ∈ lw_good := List.mem_filter.mpr ⟨List.mem_of_getElem? (i := 647) (by decide +kernel), by decide +kernel⟩
theorem g_486 : Cond.selects RM yM_same yM_same ∈ lw_good := List.mem_filter.mpr ⟨List.mem_of_getElem? (i := 648) (by decide +kernel), by decide +kernel⟩
theorem g_487 : Cond.code yM_same cM_same 7 (some .boolean) ∈ lw_good := List.mem_filter.mpr ⟨List.mem_of_getElem? (i := 649) (by decide +kernel), by decide +kernel⟩
theorem g_488 : Cond.constantLong RL 58 (4294967295) ∈ lw_good := List.mem_filter.mpr ⟨List.mem_of_getElem? (i := 650) (by decide +kernel), by decide +kernel⟩
theorem t_0 : Cond.fieldLinkNest RS 67 "SpongeDesk$Row" "bytes" "[B" "SpongeDesk" ∈ lw_tbl := List.mem_of_getElem? (i := 58) (by decide +kernel)
theorem t_1 : Cond.fieldLinkNest RK 84 "SpongeDesk$Row" "bytes" "[B" "SpongeDesk" ∈ lw_tbl := List.mem_of_getElem? (i := 59) (by decide +kernel)
theorem t_2 : Cond.fieldLinkNest RK 54 "SpongeDesk$Row" "length" "I" "SpongeDesk" ∈ lw_tbl := List.mem_of_getElem? (i := 61) (by decide +kernel)
theorem t_3 : Cond.fieldLinkNest RS 73 "SpongeDesk$Row" "length" "I" "SpongeDesk" ∈ lw_tbl := List.mem_of_getElem? (i := 62) (by decide +kernel)
theorem t_4 : Cond.fieldLinkNest RS 31 "SpongeDesk" "WIDTHS" "[I" "SpongeDesk" ∈ lw_tbl := List.mem_of_getElem? (i := 83) (by decide +kernel)
theorem t_5 : Cond.fieldLinkNest RK 98 "SpongeDesk$Sponge" "kind" "I" "SpongeDesk" ∈ lw_tbl := List.mem_of_getElem? (i := 87) (by decide +kernel)
theorem t_6 : Cond.fieldLinkNest RK 87 "SpongeDesk$Sponge" "ended" "Z" "SpongeDesk" ∈ lw_tbl := List.mem_of_getElem? (i := 93) (by decide +kernel)
theorem t_7 : Cond.fieldLinkNest RK 118 "SpongeDesk$Sponge" "remaining" "I" "SpongeDesk" ∈ lw_tbl := List.mem_of_getElem? (i := 95) (by decide +kernel)
theorem t_8 : Cond.fieldLinkNest RS 115 "SpongeDesk$Permutation" "ROUND_BITS" "[J" "SpongeDesk" ∈ lw_tbl := List.mem_of_getElem? (i := 312) (by decide +kernel)
theorem hin_R : ∀ w ∈ u_ws RR TR 2, w ∈ lw_good := by decide +kernel
theorem hin_S : ∀ w ∈ u_ws RS TS 8, w ∈ lw_good := by decide +kernel
theorem hin_K : ∀ w ∈ u_ws RK TK 7, w ∈ lw_good := by decide +kernel
theorem hin_M : ∀ w ∈ u_ws RM TM 14, w ∈ lw_good := by decide +kernel
