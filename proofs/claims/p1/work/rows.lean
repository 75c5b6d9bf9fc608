section
-- ===== PART A: goes FIRST, ahead of the names: the tables' words, and 'selects' of the private methods out of them =====
/-- a private method of a class that the tables say can be made, by its rows of tables_1 -/
def lw_okq (q : MethodName × Nat) : Prop := (q.1.cls ≠ "java/lang/invoke/MethodHandle" ∧ q.1.cls ≠ "java/lang/invoke/VarHandle") ∧ Cond.instantiable q.1.cls q.2 ∈ tables_1 ∧ Cond.privateMethod q.1 ∈ tables_1 ∧ Cond.instanceMethod q.1 ∈ tables_1
theorem lw_p0 : lw_okq (⟨"BlockCode$Key", "makeWords", "()V"⟩, 6) := ⟨⟨by decide +kernel, by decide +kernel⟩, List.mem_of_getElem? (i := 16) (by decide +kernel), List.mem_of_getElem? (i := 133) (by decide +kernel), List.mem_of_getElem? (i := 134) (by decide +kernel)⟩
theorem lw_p1 : lw_okq (⟨"BlockCode$Key", "makeTurnedWord", "(II)V"⟩, 6) := ⟨⟨by decide +kernel, by decide +kernel⟩, List.mem_of_getElem? (i := 16) (by decide +kernel), List.mem_of_getElem? (i := 140) (by decide +kernel), List.mem_of_getElem? (i := 141) (by decide +kernel)⟩
theorem lw_p2 : lw_okq (⟨"BlockCode$Key", "makePlainWord", "(I)V"⟩, 6) := ⟨⟨by decide +kernel, by decide +kernel⟩, List.mem_of_getElem? (i := 16) (by decide +kernel), List.mem_of_getElem? (i := 149) (by decide +kernel), List.mem_of_getElem? (i := 150) (by decide +kernel)⟩
theorem lw_p3 : lw_okq (⟨"BlockCode$Key", "makeHalves", "()V"⟩, 6) := ⟨⟨by decide +kernel, by decide +kernel⟩, List.mem_of_getElem? (i := 16) (by decide +kernel), List.mem_of_getElem? (i := 153) (by decide +kernel), List.mem_of_getElem? (i := 154) (by decide +kernel)⟩
theorem lw_p4 : lw_okq (⟨"BlockCode$Key", "replaceAndMove", "([I)V"⟩, 6) := ⟨⟨by decide +kernel, by decide +kernel⟩, List.mem_of_getElem? (i := 16) (by decide +kernel), List.mem_of_getElem? (i := 164) (by decide +kernel), List.mem_of_getElem? (i := 165) (by decide +kernel)⟩
theorem lw_p5 : lw_okq (⟨"BlockCode$Key", "moveAndReplaceBack", "([I)V"⟩, 6) := ⟨⟨by decide +kernel, by decide +kernel⟩, List.mem_of_getElem? (i := 16) (by decide +kernel), List.mem_of_getElem? (i := 248) (by decide +kernel), List.mem_of_getElem? (i := 249) (by decide +kernel)⟩
theorem lw_p6 : lw_okq (⟨"BlockCode", "chainBack", "()V"⟩, 6) := ⟨⟨by decide +kernel, by decide +kernel⟩, List.mem_of_getElem? (i := 8) (by decide +kernel), List.mem_of_getElem? (i := 258) (by decide +kernel), List.mem_of_getElem? (i := 259) (by decide +kernel)⟩
theorem lw_p7 : lw_okq (⟨"BlockCode", "chainForth", "()V"⟩, 6) := ⟨⟨by decide +kernel, by decide +kernel⟩, List.mem_of_getElem? (i := 8) (by decide +kernel), List.mem_of_getElem? (i := 264) (by decide +kernel), List.mem_of_getElem? (i := 265) (by decide +kernel)⟩
theorem lw_p8 : lw_okq (⟨"BlockCodeModel", "makeWords", "()V"⟩, 18) := ⟨⟨by decide +kernel, by decide +kernel⟩, List.mem_of_getElem? (i := 281) (by decide +kernel), List.mem_of_getElem? (i := 361) (by decide +kernel), List.mem_of_getElem? (i := 362) (by decide +kernel)⟩
theorem lw_p9 : lw_okq (⟨"BlockCodeModel", "forth", "()V"⟩, 18) := ⟨⟨by decide +kernel, by decide +kernel⟩, List.mem_of_getElem? (i := 281) (by decide +kernel), List.mem_of_getElem? (i := 365) (by decide +kernel), List.mem_of_getElem? (i := 366) (by decide +kernel)⟩
theorem lw_p10 : lw_okq (⟨"BlockCodeModel", "add", "(I)V"⟩, 18) := ⟨⟨by decide +kernel, by decide +kernel⟩, List.mem_of_getElem? (i := 281) (by decide +kernel), List.mem_of_getElem? (i := 369) (by decide +kernel), List.mem_of_getElem? (i := 370) (by decide +kernel)⟩
theorem lw_p11 : lw_okq (⟨"BlockCodeModel", "columns", "(IIII)V"⟩, 18) := ⟨⟨by decide +kernel, by decide +kernel⟩, List.mem_of_getElem? (i := 281) (by decide +kernel), List.mem_of_getElem? (i := 373) (by decide +kernel), List.mem_of_getElem? (i := 374) (by decide +kernel)⟩
theorem lw_p12 : lw_okq (⟨"BlockCodeModel", "twice", "(I)V"⟩, 18) := ⟨⟨by decide +kernel, by decide +kernel⟩, List.mem_of_getElem? (i := 281) (by decide +kernel), List.mem_of_getElem? (i := 377) (by decide +kernel), List.mem_of_getElem? (i := 378) (by decide +kernel)⟩
theorem lw_p13 : lw_okq (⟨"BlockCodeModel", "feed", "(I)V"⟩, 18) := ⟨⟨by decide +kernel, by decide +kernel⟩, List.mem_of_getElem? (i := 281) (by decide +kernel), List.mem_of_getElem? (i := 389) (by decide +kernel), List.mem_of_getElem? (i := 390) (by decide +kernel)⟩
theorem lw_p14 : lw_okq (⟨"BlockCodeModel", "take", "()V"⟩, 18) := ⟨⟨by decide +kernel, by decide +kernel⟩, List.mem_of_getElem? (i := 281) (by decide +kernel), List.mem_of_getElem? (i := 393) (by decide +kernel), List.mem_of_getElem? (i := 394) (by decide +kernel)⟩
theorem lw_p15 : lw_okq (⟨"BlockCodeModel", "load", "(Z)V"⟩, 18) := ⟨⟨by decide +kernel, by decide +kernel⟩, List.mem_of_getElem? (i := 281) (by decide +kernel), List.mem_of_getElem? (i := 425) (by decide +kernel), List.mem_of_getElem? (i := 426) (by decide +kernel)⟩
def lw_privs_1 : List (MethodName × Nat) := [(⟨"BlockCode$Key", "makeWords", "()V"⟩, 6), (⟨"BlockCode$Key", "makeTurnedWord", "(II)V"⟩, 6), (⟨"BlockCode$Key", "makePlainWord", "(I)V"⟩, 6), (⟨"BlockCode$Key", "makeHalves", "()V"⟩, 6), (⟨"BlockCode$Key", "replaceAndMove", "([I)V"⟩, 6), (⟨"BlockCode$Key", "moveAndReplaceBack", "([I)V"⟩, 6), (⟨"BlockCode", "chainBack", "()V"⟩, 6), (⟨"BlockCode", "chainForth", "()V"⟩, 6), (⟨"BlockCodeModel", "makeWords", "()V"⟩, 18), (⟨"BlockCodeModel", "forth", "()V"⟩, 18), (⟨"BlockCodeModel", "add", "(I)V"⟩, 18), (⟨"BlockCodeModel", "columns", "(IIII)V"⟩, 18), (⟨"BlockCodeModel", "twice", "(I)V"⟩, 18), (⟨"BlockCodeModel", "feed", "(I)V"⟩, 18), (⟨"BlockCodeModel", "take", "()V"⟩, 18), (⟨"BlockCodeModel", "load", "(Z)V"⟩, 18)]
theorem lw_r1 : ∀ q ∈ lw_privs_1, lw_okq q := List.forall_mem_cons.mpr ⟨lw_p0, List.forall_mem_cons.mpr ⟨lw_p1, List.forall_mem_cons.mpr ⟨lw_p2, List.forall_mem_cons.mpr ⟨lw_p3, List.forall_mem_cons.mpr ⟨lw_p4, List.forall_mem_cons.mpr ⟨lw_p5, List.forall_mem_cons.mpr ⟨lw_p6, List.forall_mem_cons.mpr ⟨lw_p7, List.forall_mem_cons.mpr ⟨lw_p8, List.forall_mem_cons.mpr ⟨lw_p9, List.forall_mem_cons.mpr ⟨lw_p10, List.forall_mem_cons.mpr ⟨lw_p11, List.forall_mem_cons.mpr ⟨lw_p12, List.forall_mem_cons.mpr ⟨lw_p13, List.forall_mem_cons.mpr ⟨lw_p14, List.forall_mem_cons.mpr ⟨lw_p15, fun _ h => absurd h List.not_mem_nil⟩⟩⟩⟩⟩⟩⟩⟩⟩⟩⟩⟩⟩⟩⟩⟩
theorem lw_p16 : lw_okq (⟨"BlockCodeModel", "back", "()V"⟩, 18) := ⟨⟨by decide +kernel, by decide +kernel⟩, List.mem_of_getElem? (i := 281) (by decide +kernel), List.mem_of_getElem? (i := 433) (by decide +kernel), List.mem_of_getElem? (i := 434) (by decide +kernel)⟩
def lw_privs_2 : List (MethodName × Nat) := [(⟨"BlockCodeModel", "back", "()V"⟩, 18)]
theorem lw_r2 : ∀ q ∈ lw_privs_2, lw_okq q := List.forall_mem_cons.mpr ⟨lw_p16, fun _ h => absurd h List.not_mem_nil⟩
def lw_privs : List (MethodName × Nat) := lw_privs_1 ++ (lw_privs_2)
def lw_tbl : List Cond := k2_sels lw_privs ++ tables_1
theorem lw_privs_ok : ∀ q ∈ lw_privs, lw_okq q := by
  show ∀ q ∈ lw_privs_1 ++ (lw_privs_2), lw_okq q
  exact List.forall_mem_append.mpr ⟨lw_r1, lw_r2⟩
def RX0 : String := "BlockCode$Key"
def TX0 : u_T := fun k => match k with
  | 0 => ("BlockCode$Key", "bytes", "[I", true)
  | 1 => ("BlockCode$Key", "words", "[I", true)
  | 2 => ("BlockCode$Key", "firstHalf", "[I", true)
  | 3 => ("BlockCode$Key", "secondHalf", "[I", true)
  | 4 => ("BlockCode$Key", "moved", "[I", true)
  | _ => ("BlockCode$Key", "made", "Z", false)
def tyX0 : Nat → FieldType := fun k => match k with
  | 0 => .array .int
  | 1 => .array .int
  | 2 => .array .int
  | 3 => .array .int
  | 4 => .array .int
  | _ => .boolean
abbrev wsX00 : List Cond := u_ws RX0 TX0 6
theorem nmX0 : ∀ a, a < 6 → ∀ b, b < 6 → a ≠ b → (TX0 a).2.1 ≠ (TX0 b).2.1 := by decide +kernel
theorem tyX0_ok : ∀ k, k < 6 → parseFieldDescriptor (TX0 k).2.2.1 = some (tyX0 k) := by decide +kernel
abbrev cX0_init : ByteArray := prog_2_method_1_code
def yX0_init : MethodName := ⟨RX0, "<init>", "()V"⟩
abbrev cX0_clear : ByteArray := prog_2_method_2_code
def yX0_clear : MethodName := ⟨RX0, "clear", "()V"⟩
abbrev cX0_put : ByteArray := prog_2_method_3_code
def yX0_put : MethodName := ⟨RX0, "put", "(II)V"⟩
abbrev cX0_make : ByteArray := prog_2_method_4_code
def yX0_make : MethodName := ⟨RX0, "make", "()V"⟩
abbrev cX0_makeWords : ByteArray := prog_2_method_5_code
def yX0_makeWords : MethodName := ⟨RX0, "makeWords", "()V"⟩
abbrev cX0_makePlainWord : ByteArray := prog_2_method_6_code
def yX0_makePlainWord : MethodName := ⟨RX0, "makePlainWord", "(I)V"⟩
abbrev cX0_makeTurnedWord : ByteArray := prog_2_method_7_code
def yX0_makeTurnedWord : MethodName := ⟨RX0, "makeTurnedWord", "(II)V"⟩
abbrev cX0_makeHalves : ByteArray := prog_2_method_8_code
def yX0_makeHalves : MethodName := ⟨RX0, "makeHalves", "()V"⟩
abbrev cX0_putDoubled : ByteArray := prog_2_method_9_code
def yX0_putDoubled : MethodName := ⟨RX0, "putDoubled", "([I[I)V"⟩
abbrev cX0_goForth : ByteArray := prog_2_method_10_code
def yX0_goForth : MethodName := ⟨RX0, "goForth", "([I)V"⟩
abbrev cX0_goBack : ByteArray := prog_2_method_11_code
def yX0_goBack : MethodName := ⟨RX0, "goBack", "([I)V"⟩
abbrev cX0_replaceAndMove : ByteArray := prog_2_method_12_code
def yX0_replaceAndMove : MethodName := ⟨RX0, "replaceAndMove", "([I)V"⟩
abbrev cX0_moveAndReplaceBack : ByteArray := prog_2_method_13_code
def yX0_moveAndReplaceBack : MethodName := ⟨RX0, "moveAndReplaceBack", "([I)V"⟩
abbrev cX0_source : ByteArray := prog_2_method_14_code
def yX0_source : MethodName := ⟨RX0, "source", "(I)I"⟩
abbrev cX0_mix : ByteArray := prog_2_method_15_code
def yX0_mix : MethodName := ⟨RX0, "mix", "([I)V"⟩
abbrev cX0_unmix : ByteArray := prog_2_method_16_code
def yX0_unmix : MethodName := ⟨RX0, "unmix", "([I)V"⟩
abbrev cX0_mixed : ByteArray := prog_2_method_17_code
def yX0_mixed : MethodName := ⟨RX0, "mixed", "(IIII)I"⟩
abbrev cX0_twice : ByteArray := prog_2_method_18_code
def yX0_twice : MethodName := ⟨RX0, "twice", "(I)I"⟩
def RX1 : String := "BlockCode$Message"
def TX1 : u_T := fun k => match k with
  | 0 => ("BlockCode$Message", "sum", "[I", true)
  | 1 => ("BlockCode$Message", "filled", "I", false)
  | 2 => ("BlockCode$Message", "open", "Z", false)
  | 3 => ("BlockCode$Message", "ended", "Z", false)
  | 4 => ("BlockCode$Message", "compared", "I", false)
  | _ => ("BlockCode$Message", "differed", "Z", false)
def tyX1 : Nat → FieldType := fun k => match k with
  | 0 => .array .int
  | 1 => .int
  | 2 => .boolean
  | 3 => .boolean
  | 4 => .int
  | _ => .boolean
abbrev wsX10 : List Cond := u_ws RX1 TX1 6
theorem nmX1 : ∀ a, a < 6 → ∀ b, b < 6 → a ≠ b → (TX1 a).2.1 ≠ (TX1 b).2.1 := by decide +kernel
theorem tyX1_ok : ∀ k, k < 6 → parseFieldDescriptor (TX1 k).2.2.1 = some (tyX1 k) := by decide +kernel
abbrev cX1_init : ByteArray := prog_3_method_1_code
def yX1_init : MethodName := ⟨RX1, "<init>", "()V"⟩
abbrev cX1_drop : ByteArray := prog_3_method_2_code
def yX1_drop : MethodName := ⟨RX1, "drop", "()V"⟩
abbrev cX1_begin : ByteArray := prog_3_method_3_code
def yX1_begin : MethodName := ⟨RX1, "begin", "()V"⟩
abbrev cX1_take : ByteArray := prog_3_method_4_code
def yX1_take : MethodName := ⟨RX1, "take", "(ILBlockCode$Key;)V"⟩
abbrev cX1_end : ByteArray := prog_3_method_5_code
def yX1_end : MethodName := ⟨RX1, "end", "(LBlockCode$Key;)V"⟩
abbrev cX1_compare : ByteArray := prog_3_method_6_code
def yX1_compare : MethodName := ⟨RX1, "compare", "(II)V"⟩
def RX2 : String := "BlockCode"
def TX2 : u_T := fun k => match k with
  | 0 => ("BlockCode", "key", "LBlockCode$Key;", true)
  | 1 => ("BlockCode", "message", "LBlockCode$Message;", true)
  | 2 => ("BlockCode", "block", "[I", true)
  | 3 => ("BlockCode", "before", "[I", true)
  | 4 => ("BlockCode", "kept", "[I", true)
  | _ => ("BlockCode", "ready", "Z", false)
def tyX2 : Nat → FieldType := fun k => match k with
  | 0 => .object "BlockCode$Key"
  | 1 => .object "BlockCode$Message"
  | 2 => .array .int
  | 3 => .array .int
  | 4 => .array .int
  | _ => .boolean
abbrev wsX20 : List Cond := u_ws RX2 TX2 6
theorem nmX2 : ∀ a, a < 6 → ∀ b, b < 6 → a ≠ b → (TX2 a).2.1 ≠ (TX2 b).2.1 := by decide +kernel
theorem tyX2_ok : ∀ k, k < 6 → parseFieldDescriptor (TX2 k).2.2.1 = some (tyX2 k) := by decide +kernel
abbrev cX2_init : ByteArray := prog_1_method_1_code
def yX2_init : MethodName := ⟨RX2, "<init>", "()V"⟩
abbrev cX2_init_ : ByteArray := prog_1_method_2_code
def yX2_init_ : MethodName := ⟨RX2, "init", "()V"⟩
abbrev cX2_setKeyByte : ByteArray := prog_1_method_3_code
def yX2_setKeyByte : MethodName := ⟨RX2, "setKeyByte", "(II)Z"⟩
abbrev cX2_expand : ByteArray := prog_1_method_4_code
def yX2_expand : MethodName := ⟨RX2, "expand", "()Z"⟩
abbrev cX2_macStart : ByteArray := prog_1_method_5_code
def yX2_macStart : MethodName := ⟨RX2, "macStart", "()Z"⟩
abbrev cX2_macUpdate : ByteArray := prog_1_method_6_code
def yX2_macUpdate : MethodName := ⟨RX2, "macUpdate", "(I)Z"⟩
abbrev cX2_macFill : ByteArray := prog_1_method_7_code
def yX2_macFill : MethodName := ⟨RX2, "macFill", "(III)Z"⟩
abbrev cX2_macFinish : ByteArray := prog_1_method_8_code
def yX2_macFinish : MethodName := ⟨RX2, "macFinish", "()Z"⟩
abbrev cX2_tagByte : ByteArray := prog_1_method_9_code
def yX2_tagByte : MethodName := ⟨RX2, "tagByte", "(I)I"⟩
abbrev cX2_macCheck : ByteArray := prog_1_method_10_code
def yX2_macCheck : MethodName := ⟨RX2, "macCheck", "(II)Z"⟩
abbrev cX2_macVerdict : ByteArray := prog_1_method_11_code
def yX2_macVerdict : MethodName := ⟨RX2, "macVerdict", "()Z"⟩
abbrev cX2_setBlockByte : ByteArray := prog_1_method_12_code
def yX2_setBlockByte : MethodName := ⟨RX2, "setBlockByte", "(II)Z"⟩
abbrev cX2_encryptBlock : ByteArray := prog_1_method_13_code
def yX2_encryptBlock : MethodName := ⟨RX2, "encryptBlock", "()Z"⟩
abbrev cX2_decryptBlock : ByteArray := prog_1_method_14_code
def yX2_decryptBlock : MethodName := ⟨RX2, "decryptBlock", "()Z"⟩
abbrev cX2_chain : ByteArray := prog_1_method_15_code
def yX2_chain : MethodName := ⟨RX2, "chain", "(Z)Z"⟩
abbrev cX2_unchain : ByteArray := prog_1_method_16_code
def yX2_unchain : MethodName := ⟨RX2, "unchain", "()Z"⟩
abbrev cX2_blockByte : ByteArray := prog_1_method_17_code
def yX2_blockByte : MethodName := ⟨RX2, "blockByte", "(I)I"⟩
abbrev cX2_half : ByteArray := prog_1_method_18_code
def yX2_half : MethodName := ⟨RX2, "half", "(II)I"⟩
abbrev cX2_chainForth : ByteArray := prog_1_method_19_code
def yX2_chainForth : MethodName := ⟨RX2, "chainForth", "()V"⟩
abbrev cX2_chainBack : ByteArray := prog_1_method_20_code
def yX2_chainBack : MethodName := ⟨RX2, "chainBack", "()V"⟩
abbrev cX2_isPlace : ByteArray := prog_1_method_21_code
def yX2_isPlace : MethodName := ⟨RX2, "isPlace", "(I)Z"⟩
abbrev cX2_isByte : ByteArray := prog_1_method_22_code
def yX2_isByte : MethodName := ⟨RX2, "isByte", "(I)Z"⟩
abbrev cX2_xor : ByteArray := prog_1_method_23_code
def yX2_xor : MethodName := ⟨RX2, "xor", "([I[II)V"⟩
def RX3 : String := "BlockCodeModel"
def TX3 : u_T := fun k => match k with
  | 0 => ("BlockCodeModel", "thrown", "I", false)
  | 1 => ("BlockCodeModel", "ready", "Z", false)
  | 2 => ("BlockCodeModel", "made", "Z", false)
  | 3 => ("BlockCodeModel", "message", "I", false)
  | 4 => ("BlockCodeModel", "key", "[I", true)
  | 5 => ("BlockCodeModel", "block", "[I", true)
  | 6 => ("BlockCodeModel", "before", "[I", true)
  | 7 => ("BlockCodeModel", "s", "[I", true)
  | 8 => ("BlockCodeModel", "unS", "[I", true)
  | 9 => ("BlockCodeModel", "words", "[I", true)
  | 10 => ("BlockCodeModel", "halves", "[I", true)
  | 11 => ("BlockCodeModel", "state", "[I", true)
  | 12 => ("BlockCodeModel", "moved", "[I", true)
  | 13 => ("BlockCodeModel", "code", "[I", true)
  | 14 => ("BlockCodeModel", "last", "[I", true)
  | 15 => ("BlockCodeModel", "lastCount", "I", false)
  | 16 => ("BlockCodeModel", "compared", "[Z", true)
  | _ => ("BlockCodeModel", "wrong", "Z", false)
def tyX3 : Nat → FieldType := fun k => match k with
  | 0 => .int
  | 1 => .boolean
  | 2 => .boolean
  | 3 => .int
  | 4 => .array .int
  | 5 => .array .int
  | 6 => .array .int
  | 7 => .array .int
  | 8 => .array .int
  | 9 => .array .int
  | 10 => .array .int
  | 11 => .array .int
  | 12 => .array .int
  | 13 => .array .int
  | 14 => .array .int
  | 15 => .int
  | 16 => .array .boolean
  | _ => .boolean
abbrev wsX30 : List Cond := u_ws RX3 TX3 18
theorem nmX3 : ∀ a, a < 18 → ∀ b, b < 18 → a ≠ b → (TX3 a).2.1 ≠ (TX3 b).2.1 := by decide +kernel
theorem tyX3_ok : ∀ k, k < 18 → parseFieldDescriptor (TX3 k).2.2.1 = some (tyX3 k) := by decide +kernel
abbrev cX3_init : ByteArray := prog_5_method_1_code
def yX3_init : MethodName := ⟨RX3, "<init>", "()V"⟩
abbrev cX3_times : ByteArray := prog_5_method_2_code
def yX3_times : MethodName := ⟨RX3, "times", "(II)I"⟩
abbrev cX3_isIn : ByteArray := prog_5_method_4_code
def yX3_isIn : MethodName := ⟨RX3, "isIn", "(II)Z"⟩
abbrev cX3_init_ : ByteArray := prog_5_method_5_code
def yX3_init_ : MethodName := ⟨RX3, "init", "()V"⟩
abbrev cX3_setKeyByte : ByteArray := prog_5_method_6_code
def yX3_setKeyByte : MethodName := ⟨RX3, "setKeyByte", "(II)Z"⟩
abbrev cX3_makeWords : ByteArray := prog_5_method_7_code
def yX3_makeWords : MethodName := ⟨RX3, "makeWords", "()V"⟩
abbrev cX3_add : ByteArray := prog_5_method_8_code
def yX3_add : MethodName := ⟨RX3, "add", "(I)V"⟩
abbrev cX3_columns : ByteArray := prog_5_method_9_code
def yX3_columns : MethodName := ⟨RX3, "columns", "(IIII)V"⟩
abbrev cX3_forth : ByteArray := prog_5_method_10_code
def yX3_forth : MethodName := ⟨RX3, "forth", "()V"⟩
abbrev cX3_back : ByteArray := prog_5_method_11_code
def yX3_back : MethodName := ⟨RX3, "back", "()V"⟩
abbrev cX3_twice : ByteArray := prog_5_method_12_code
def yX3_twice : MethodName := ⟨RX3, "twice", "(I)V"⟩
abbrev cX3_expand : ByteArray := prog_5_method_13_code
def yX3_expand : MethodName := ⟨RX3, "expand", "()Z"⟩
abbrev cX3_macStart : ByteArray := prog_5_method_14_code
def yX3_macStart : MethodName := ⟨RX3, "macStart", "()Z"⟩
abbrev cX3_take : ByteArray := prog_5_method_15_code
def yX3_take : MethodName := ⟨RX3, "take", "()V"⟩
abbrev cX3_feed : ByteArray := prog_5_method_16_code
def yX3_feed : MethodName := ⟨RX3, "feed", "(I)V"⟩
abbrev cX3_macUpdate : ByteArray := prog_5_method_17_code
def yX3_macUpdate : MethodName := ⟨RX3, "macUpdate", "(I)Z"⟩
abbrev cX3_macFill : ByteArray := prog_5_method_18_code
def yX3_macFill : MethodName := ⟨RX3, "macFill", "(III)Z"⟩
abbrev cX3_macFinish : ByteArray := prog_5_method_19_code
def yX3_macFinish : MethodName := ⟨RX3, "macFinish", "()Z"⟩
abbrev cX3_tagByte : ByteArray := prog_5_method_20_code
def yX3_tagByte : MethodName := ⟨RX3, "tagByte", "(I)I"⟩
abbrev cX3_macCheck : ByteArray := prog_5_method_21_code
def yX3_macCheck : MethodName := ⟨RX3, "macCheck", "(II)Z"⟩
abbrev cX3_macVerdict : ByteArray := prog_5_method_22_code
def yX3_macVerdict : MethodName := ⟨RX3, "macVerdict", "()Z"⟩
abbrev cX3_setBlockByte : ByteArray := prog_5_method_23_code
def yX3_setBlockByte : MethodName := ⟨RX3, "setBlockByte", "(II)Z"⟩
abbrev cX3_load : ByteArray := prog_5_method_24_code
def yX3_load : MethodName := ⟨RX3, "load", "(Z)V"⟩
abbrev cX3_encryptBlock : ByteArray := prog_5_method_25_code
def yX3_encryptBlock : MethodName := ⟨RX3, "encryptBlock", "()Z"⟩
abbrev cX3_decryptBlock : ByteArray := prog_5_method_26_code
def yX3_decryptBlock : MethodName := ⟨RX3, "decryptBlock", "()Z"⟩
abbrev cX3_chain : ByteArray := prog_5_method_27_code
def yX3_chain : MethodName := ⟨RX3, "chain", "(Z)Z"⟩
abbrev cX3_unchain : ByteArray := prog_5_method_28_code
def yX3_unchain : MethodName := ⟨RX3, "unchain", "()Z"⟩
abbrev cX3_blockByte : ByteArray := prog_5_method_29_code
def yX3_blockByte : MethodName := ⟨RX3, "blockByte", "(I)I"⟩
abbrev cX3_half : ByteArray := prog_5_method_30_code
def yX3_half : MethodName := ⟨RX3, "half", "(II)I"⟩
def RJ10 : String := "java/lang/System"
def TJ10 : u_T := fun k => match k with
  | _ => ("", "", "", false)
def tyJ10 : Nat → FieldType := fun k => match k with
  | _ => .int
abbrev wsJ100 : List Cond := u_ws RJ10 TJ10 0
theorem nmJ10 : ∀ a, a < 0 → ∀ b, b < 0 → a ≠ b → (TJ10 a).2.1 ≠ (TJ10 b).2.1 := by decide +kernel
theorem tyJ10_ok : ∀ k, k < 0 → parseFieldDescriptor (TJ10 k).2.2.1 = some (tyJ10 k) := by decide +kernel
def RJ7 : String := "java/util/Arrays"
def TJ7 : u_T := fun k => match k with
  | _ => ("", "", "", false)
def tyJ7 : Nat → FieldType := fun k => match k with
  | _ => .int
abbrev wsJ70 : List Cond := u_ws RJ7 TJ7 0
theorem nmJ7 : ∀ a, a < 0 → ∀ b, b < 0 → a ≠ b → (TJ7 a).2.1 ≠ (TJ7 b).2.1 := by decide +kernel
theorem tyJ7_ok : ∀ k, k < 0 → parseFieldDescriptor (TJ7 k).2.2.1 = some (tyJ7 k) := by decide +kernel
abbrev cJ7_fill_53178 : ByteArray := prog_7_method_103_code
def yJ7_fill_53178 : MethodName := ⟨RJ7, "fill", "([II)V"⟩
def RL : String := "BlockCodeLaw"
abbrev cL_law : ByteArray := code
def yL_law : MethodName := ⟨RL, "law", "([I)Z"⟩
end
section
theorem dX0_init_0 : decode cX0_init 0 = .ok (.aload_n 0, 1) := by decide +kernel
theorem dX0_init_1 : decode cX0_init 1 = .ok (.invokespecial 3, 3) := by decide +kernel
theorem dX0_init_4 : decode cX0_init 4 = .ok (.aload_n 0, 1) := by decide +kernel
theorem dX0_init_5 : decode cX0_init 5 = .ok (.bipush 16, 2) := by decide +kernel
theorem dX0_init_7 : decode cX0_init 7 = .ok (.newarray .int, 2) := by decide +kernel
theorem dX0_init_9 : decode cX0_init 9 = .ok (.putfield 9, 3) := by decide +kernel
theorem dX0_init_12 : decode cX0_init 12 = .ok (.aload_n 0, 1) := by decide +kernel
theorem dX0_init_13 : decode cX0_init 13 = .ok (.sipush 176, 3) := by decide +kernel
theorem dX0_init_16 : decode cX0_init 16 = .ok (.newarray .int, 2) := by decide +kernel
theorem dX0_init_18 : decode cX0_init 18 = .ok (.putfield 15, 3) := by decide +kernel
theorem dX0_init_21 : decode cX0_init 21 = .ok (.aload_n 0, 1) := by decide +kernel
theorem dX0_init_22 : decode cX0_init 22 = .ok (.bipush 16, 2) := by decide +kernel
theorem dX0_init_24 : decode cX0_init 24 = .ok (.newarray .int, 2) := by decide +kernel
theorem dX0_init_26 : decode cX0_init 26 = .ok (.putfield 18, 3) := by decide +kernel
theorem dX0_init_29 : decode cX0_init 29 = .ok (.aload_n 0, 1) := by decide +kernel
theorem dX0_init_30 : decode cX0_init 30 = .ok (.bipush 16, 2) := by decide +kernel
theorem dX0_init_32 : decode cX0_init 32 = .ok (.newarray .int, 2) := by decide +kernel
theorem dX0_init_34 : decode cX0_init 34 = .ok (.putfield 21, 3) := by decide +kernel
theorem dX0_init_37 : decode cX0_init 37 = .ok (.aload_n 0, 1) := by decide +kernel
theorem dX0_init_38 : decode cX0_init 38 = .ok (.bipush 16, 2) := by decide +kernel
theorem dX0_init_40 : decode cX0_init 40 = .ok (.newarray .int, 2) := by decide +kernel
theorem dX0_init_42 : decode cX0_init 42 = .ok (.putfield 24, 3) := by decide +kernel
theorem dX0_init_45 : decode cX0_init 45 = .ok (.aload_n 0, 1) := by decide +kernel
theorem dX0_init_46 : decode cX0_init 46 = .ok (.iconst 0, 1) := by decide +kernel
theorem dX0_init_47 : decode cX0_init 47 = .ok (.putfield 27, 3) := by decide +kernel
theorem dX0_init_50 : decode cX0_init 50 = .ok (.return_, 1) := by decide +kernel
theorem dX0_clear_0 : decode cX0_clear 0 = .ok (.aload_n 0, 1) := by decide +kernel
theorem dX0_clear_1 : decode cX0_clear 1 = .ok (.getfield 9, 3) := by decide +kernel
theorem dX0_clear_4 : decode cX0_clear 4 = .ok (.iconst 0, 1) := by decide +kernel
theorem dX0_clear_5 : decode cX0_clear 5 = .ok (.invokestatic 31, 3) := by decide +kernel
theorem dX0_clear_8 : decode cX0_clear 8 = .ok (.aload_n 0, 1) := by decide +kernel
theorem dX0_clear_9 : decode cX0_clear 9 = .ok (.iconst 0, 1) := by decide +kernel
theorem dX0_clear_10 : decode cX0_clear 10 = .ok (.putfield 27, 3) := by decide +kernel
theorem dX0_clear_13 : decode cX0_clear 13 = .ok (.return_, 1) := by decide +kernel
theorem dX0_put_0 : decode cX0_put 0 = .ok (.aload_n 0, 1) := by decide +kernel
theorem dX0_put_1 : decode cX0_put 1 = .ok (.getfield 9, 3) := by decide +kernel
theorem dX0_put_4 : decode cX0_put 4 = .ok (.iload_n 1, 1) := by decide +kernel
theorem dX0_put_5 : decode cX0_put 5 = .ok (.iload_n 2, 1) := by decide +kernel
theorem dX0_put_6 : decode cX0_put 6 = .ok (.iastore, 1) := by decide +kernel
theorem dX0_put_7 : decode cX0_put 7 = .ok (.aload_n 0, 1) := by decide +kernel
theorem dX0_put_8 : decode cX0_put 8 = .ok (.iconst 0, 1) := by decide +kernel
theorem dX0_put_9 : decode cX0_put 9 = .ok (.putfield 27, 3) := by decide +kernel
theorem dX0_put_12 : decode cX0_put 12 = .ok (.return_, 1) := by decide +kernel
theorem dX0_make_0 : decode cX0_make 0 = .ok (.aload_n 0, 1) := by decide +kernel
theorem dX0_make_1 : decode cX0_make 1 = .ok (.invokevirtual 37, 3) := by decide +kernel
theorem dX0_make_4 : decode cX0_make 4 = .ok (.aload_n 0, 1) := by decide +kernel
theorem dX0_make_5 : decode cX0_make 5 = .ok (.invokevirtual 40, 3) := by decide +kernel
theorem dX0_make_8 : decode cX0_make 8 = .ok (.aload_n 0, 1) := by decide +kernel
theorem dX0_make_9 : decode cX0_make 9 = .ok (.iconst 1, 1) := by decide +kernel
theorem dX0_make_10 : decode cX0_make 10 = .ok (.putfield 27, 3) := by decide +kernel
theorem dX0_make_13 : decode cX0_make 13 = .ok (.return_, 1) := by decide +kernel
theorem dX0_makeWords_0 : decode cX0_makeWords 0 = .ok (.aload_n 0, 1) := by decide +kernel
theorem dX0_makeWords_1 : decode cX0_makeWords 1 = .ok (.getfield 9, 3) := by decide +kernel
theorem dX0_makeWords_4 : decode cX0_makeWords 4 = .ok (.iconst 0, 1) := by decide +kernel
theorem dX0_makeWords_5 : decode cX0_makeWords 5 = .ok (.aload_n 0, 1) := by decide +kernel
theorem dX0_makeWords_6 : decode cX0_makeWords 6 = .ok (.getfield 15, 3) := by decide +kernel
theorem dX0_makeWords_9 : decode cX0_makeWords 9 = .ok (.iconst 0, 1) := by decide +kernel
theorem dX0_makeWords_10 : decode cX0_makeWords 10 = .ok (.bipush 16, 2) := by decide +kernel
theorem dX0_makeWords_12 : decode cX0_makeWords 12 = .ok (.invokestatic 43, 3) := by decide +kernel
theorem dX0_makeWords_15 : decode cX0_makeWords 15 = .ok (.iconst 1, 1) := by decide +kernel
theorem dX0_makeWords_16 : decode cX0_makeWords 16 = .ok (.istore_n 1, 1) := by decide +kernel
theorem dX0_makeWords_17 : decode cX0_makeWords 17 = .ok (.bipush 16, 2) := by decide +kernel
theorem dX0_makeWords_19 : decode cX0_makeWords 19 = .ok (.istore_n 2, 1) := by decide +kernel
theorem dX0_makeWords_20 : decode cX0_makeWords 20 = .ok (.iload_n 2, 1) := by decide +kernel
theorem dX0_makeWords_21 : decode cX0_makeWords 21 = .ok (.sipush 176, 3) := by decide +kernel
theorem dX0_makeWords_24 : decode cX0_makeWords 24 = .ok (.if_icmp .ge 35, 3) := by decide +kernel
theorem dX0_makeWords_27 : decode cX0_makeWords 27 = .ok (.iload_n 2, 1) := by decide +kernel
theorem dX0_makeWords_28 : decode cX0_makeWords 28 = .ok (.bipush 16, 2) := by decide +kernel
theorem dX0_makeWords_30 : decode cX0_makeWords 30 = .ok (.irem, 1) := by decide +kernel
theorem dX0_makeWords_31 : decode cX0_makeWords 31 = .ok (.ifCond .ne 17, 3) := by decide +kernel
theorem dX0_makeWords_34 : decode cX0_makeWords 34 = .ok (.aload_n 0, 1) := by decide +kernel
theorem dX0_makeWords_35 : decode cX0_makeWords 35 = .ok (.iload_n 2, 1) := by decide +kernel
theorem dX0_makeWords_36 : decode cX0_makeWords 36 = .ok (.iload_n 1, 1) := by decide +kernel
theorem dX0_makeWords_37 : decode cX0_makeWords 37 = .ok (.invokevirtual 49, 3) := by decide +kernel
theorem dX0_makeWords_40 : decode cX0_makeWords 40 = .ok (.iload_n 1, 1) := by decide +kernel
theorem dX0_makeWords_41 : decode cX0_makeWords 41 = .ok (.invokestatic 53, 3) := by decide +kernel
theorem dX0_makeWords_44 : decode cX0_makeWords 44 = .ok (.istore_n 1, 1) := by decide +kernel
theorem dX0_makeWords_45 : decode cX0_makeWords 45 = .ok (.goto 8, 3) := by decide +kernel
theorem dX0_makeWords_48 : decode cX0_makeWords 48 = .ok (.aload_n 0, 1) := by decide +kernel
theorem dX0_makeWords_49 : decode cX0_makeWords 49 = .ok (.iload_n 2, 1) := by decide +kernel
theorem dX0_makeWords_50 : decode cX0_makeWords 50 = .ok (.invokevirtual 57, 3) := by decide +kernel
theorem dX0_makeWords_53 : decode cX0_makeWords 53 = .ok (.iinc 2 4, 3) := by decide +kernel
theorem dX0_makeWords_56 : decode cX0_makeWords 56 = .ok (.goto (-36), 3) := by decide +kernel
theorem dX0_makeWords_59 : decode cX0_makeWords 59 = .ok (.return_, 1) := by decide +kernel
theorem dX0_makePlainWord_0 : decode cX0_makePlainWord 0 = .ok (.iconst 0, 1) := by decide +kernel
theorem dX0_makePlainWord_1 : decode cX0_makePlainWord 1 = .ok (.istore_n 2, 1) := by decide +kernel
theorem dX0_makePlainWord_2 : decode cX0_makePlainWord 2 = .ok (.iload_n 2, 1) := by decide +kernel
theorem dX0_makePlainWord_3 : decode cX0_makePlainWord 3 = .ok (.iconst 4, 1) := by decide +kernel
theorem dX0_makePlainWord_4 : decode cX0_makePlainWord 4 = .ok (.if_icmp .ge 39, 3) := by decide +kernel
theorem dX0_makePlainWord_7 : decode cX0_makePlainWord 7 = .ok (.aload_n 0, 1) := by decide +kernel
theorem dX0_makePlainWord_8 : decode cX0_makePlainWord 8 = .ok (.getfield 15, 3) := by decide +kernel
theorem dX0_makePlainWord_11 : decode cX0_makePlainWord 11 = .ok (.iload_n 1, 1) := by decide +kernel
theorem dX0_makePlainWord_12 : decode cX0_makePlainWord 12 = .ok (.iload_n 2, 1) := by decide +kernel
theorem dX0_makePlainWord_13 : decode cX0_makePlainWord 13 = .ok (.iadd, 1) := by decide +kernel
theorem dX0_makePlainWord_14 : decode cX0_makePlainWord 14 = .ok (.aload_n 0, 1) := by decide +kernel
theorem dX0_makePlainWord_15 : decode cX0_makePlainWord 15 = .ok (.getfield 15, 3) := by decide +kernel
theorem dX0_makePlainWord_18 : decode cX0_makePlainWord 18 = .ok (.iload_n 1, 1) := by decide +kernel
theorem dX0_makePlainWord_19 : decode cX0_makePlainWord 19 = .ok (.bipush 16, 2) := by decide +kernel
theorem dX0_makePlainWord_21 : decode cX0_makePlainWord 21 = .ok (.isub, 1) := by decide +kernel
theorem dX0_makePlainWord_22 : decode cX0_makePlainWord 22 = .ok (.iload_n 2, 1) := by decide +kernel
theorem dX0_makePlainWord_23 : decode cX0_makePlainWord 23 = .ok (.iadd, 1) := by decide +kernel
theorem dX0_makePlainWord_24 : decode cX0_makePlainWord 24 = .ok (.iaload, 1) := by decide +kernel
theorem dX0_makePlainWord_25 : decode cX0_makePlainWord 25 = .ok (.aload_n 0, 1) := by decide +kernel
theorem dX0_makePlainWord_26 : decode cX0_makePlainWord 26 = .ok (.getfield 15, 3) := by decide +kernel
theorem dX0_makePlainWord_29 : decode cX0_makePlainWord 29 = .ok (.iload_n 1, 1) := by decide +kernel
theorem dX0_makePlainWord_30 : decode cX0_makePlainWord 30 = .ok (.iconst 4, 1) := by decide +kernel
theorem dX0_makePlainWord_31 : decode cX0_makePlainWord 31 = .ok (.isub, 1) := by decide +kernel
theorem dX0_makePlainWord_32 : decode cX0_makePlainWord 32 = .ok (.iload_n 2, 1) := by decide +kernel
theorem dX0_makePlainWord_33 : decode cX0_makePlainWord 33 = .ok (.iadd, 1) := by decide +kernel
theorem dX0_makePlainWord_34 : decode cX0_makePlainWord 34 = .ok (.iaload, 1) := by decide +kernel
theorem dX0_makePlainWord_35 : decode cX0_makePlainWord 35 = .ok (.ixor, 1) := by decide +kernel
theorem dX0_makePlainWord_36 : decode cX0_makePlainWord 36 = .ok (.iastore, 1) := by decide +kernel
theorem dX0_makePlainWord_37 : decode cX0_makePlainWord 37 = .ok (.iinc 2 1, 3) := by decide +kernel
theorem dX0_makePlainWord_40 : decode cX0_makePlainWord 40 = .ok (.goto (-38), 3) := by decide +kernel
theorem dX0_makePlainWord_43 : decode cX0_makePlainWord 43 = .ok (.return_, 1) := by decide +kernel
theorem dX0_makeTurnedWord_0 : decode cX0_makeTurnedWord 0 = .ok (.iconst 0, 1) := by decide +kernel
theorem dX0_makeTurnedWord_1 : decode cX0_makeTurnedWord 1 = .ok (.istore_n 3, 1) := by decide +kernel
theorem dX0_makeTurnedWord_2 : decode cX0_makeTurnedWord 2 = .ok (.iload_n 3, 1) := by decide +kernel
theorem dX0_makeTurnedWord_3 : decode cX0_makeTurnedWord 3 = .ok (.iconst 4, 1) := by decide +kernel
theorem dX0_makeTurnedWord_4 : decode cX0_makeTurnedWord 4 = .ok (.if_icmp .ge 47, 3) := by decide +kernel
theorem dX0_makeTurnedWord_7 : decode cX0_makeTurnedWord 7 = .ok (.aload_n 0, 1) := by decide +kernel
theorem dX0_makeTurnedWord_8 : decode cX0_makeTurnedWord 8 = .ok (.getfield 15, 3) := by decide +kernel
theorem dX0_makeTurnedWord_11 : decode cX0_makeTurnedWord 11 = .ok (.iload_n 1, 1) := by decide +kernel
theorem dX0_makeTurnedWord_12 : decode cX0_makeTurnedWord 12 = .ok (.iload_n 3, 1) := by decide +kernel
theorem dX0_makeTurnedWord_13 : decode cX0_makeTurnedWord 13 = .ok (.iadd, 1) := by decide +kernel
theorem dX0_makeTurnedWord_14 : decode cX0_makeTurnedWord 14 = .ok (.aload_n 0, 1) := by decide +kernel
theorem dX0_makeTurnedWord_15 : decode cX0_makeTurnedWord 15 = .ok (.getfield 15, 3) := by decide +kernel
theorem dX0_makeTurnedWord_18 : decode cX0_makeTurnedWord 18 = .ok (.iload_n 1, 1) := by decide +kernel
theorem dX0_makeTurnedWord_19 : decode cX0_makeTurnedWord 19 = .ok (.bipush 16, 2) := by decide +kernel
theorem dX0_makeTurnedWord_21 : decode cX0_makeTurnedWord 21 = .ok (.isub, 1) := by decide +kernel
theorem dX0_makeTurnedWord_22 : decode cX0_makeTurnedWord 22 = .ok (.iload_n 3, 1) := by decide +kernel
theorem dX0_makeTurnedWord_23 : decode cX0_makeTurnedWord 23 = .ok (.iadd, 1) := by decide +kernel
theorem dX0_makeTurnedWord_24 : decode cX0_makeTurnedWord 24 = .ok (.iaload, 1) := by decide +kernel
theorem dX0_makeTurnedWord_25 : decode cX0_makeTurnedWord 25 = .ok (.getstatic 61, 3) := by decide +kernel
theorem dX0_makeTurnedWord_28 : decode cX0_makeTurnedWord 28 = .ok (.aload_n 0, 1) := by decide +kernel
theorem dX0_makeTurnedWord_29 : decode cX0_makeTurnedWord 29 = .ok (.getfield 15, 3) := by decide +kernel
theorem dX0_makeTurnedWord_32 : decode cX0_makeTurnedWord 32 = .ok (.iload_n 1, 1) := by decide +kernel
theorem dX0_makeTurnedWord_33 : decode cX0_makeTurnedWord 33 = .ok (.iconst 4, 1) := by decide +kernel
theorem dX0_makeTurnedWord_34 : decode cX0_makeTurnedWord 34 = .ok (.isub, 1) := by decide +kernel
theorem dX0_makeTurnedWord_35 : decode cX0_makeTurnedWord 35 = .ok (.iload_n 3, 1) := by decide +kernel
theorem dX0_makeTurnedWord_36 : decode cX0_makeTurnedWord 36 = .ok (.iconst 1, 1) := by decide +kernel
theorem dX0_makeTurnedWord_37 : decode cX0_makeTurnedWord 37 = .ok (.iadd, 1) := by decide +kernel
theorem dX0_makeTurnedWord_38 : decode cX0_makeTurnedWord 38 = .ok (.iconst 4, 1) := by decide +kernel
theorem dX0_makeTurnedWord_39 : decode cX0_makeTurnedWord 39 = .ok (.irem, 1) := by decide +kernel
theorem dX0_makeTurnedWord_40 : decode cX0_makeTurnedWord 40 = .ok (.iadd, 1) := by decide +kernel
theorem dX0_makeTurnedWord_41 : decode cX0_makeTurnedWord 41 = .ok (.iaload, 1) := by decide +kernel
theorem dX0_makeTurnedWord_42 : decode cX0_makeTurnedWord 42 = .ok (.iaload, 1) := by decide +kernel
theorem dX0_makeTurnedWord_43 : decode cX0_makeTurnedWord 43 = .ok (.ixor, 1) := by decide +kernel
theorem dX0_makeTurnedWord_44 : decode cX0_makeTurnedWord 44 = .ok (.iastore, 1) := by decide +kernel
theorem dX0_makeTurnedWord_45 : decode cX0_makeTurnedWord 45 = .ok (.iinc 3 1, 3) := by decide +kernel
theorem dX0_makeTurnedWord_48 : decode cX0_makeTurnedWord 48 = .ok (.goto (-46), 3) := by decide +kernel
theorem dX0_makeTurnedWord_51 : decode cX0_makeTurnedWord 51 = .ok (.aload_n 0, 1) := by decide +kernel
theorem dX0_makeTurnedWord_52 : decode cX0_makeTurnedWord 52 = .ok (.getfield 15, 3) := by decide +kernel
theorem dX0_makeTurnedWord_55 : decode cX0_makeTurnedWord 55 = .ok (.iload_n 1, 1) := by decide +kernel
theorem dX0_makeTurnedWord_56 : decode cX0_makeTurnedWord 56 = .ok (.dup2, 1) := by decide +kernel
theorem dX0_makeTurnedWord_57 : decode cX0_makeTurnedWord 57 = .ok (.iaload, 1) := by decide +kernel
theorem dX0_makeTurnedWord_58 : decode cX0_makeTurnedWord 58 = .ok (.iload_n 2, 1) := by decide +kernel
theorem dX0_makeTurnedWord_59 : decode cX0_makeTurnedWord 59 = .ok (.ixor, 1) := by decide +kernel
theorem dX0_makeTurnedWord_60 : decode cX0_makeTurnedWord 60 = .ok (.iastore, 1) := by decide +kernel
theorem dX0_makeTurnedWord_61 : decode cX0_makeTurnedWord 61 = .ok (.return_, 1) := by decide +kernel
theorem dX0_makeHalves_0 : decode cX0_makeHalves 0 = .ok (.aload_n 0, 1) := by decide +kernel
theorem dX0_makeHalves_1 : decode cX0_makeHalves 1 = .ok (.getfield 18, 3) := by decide +kernel
theorem dX0_makeHalves_4 : decode cX0_makeHalves 4 = .ok (.iconst 0, 1) := by decide +kernel
theorem dX0_makeHalves_5 : decode cX0_makeHalves 5 = .ok (.invokestatic 31, 3) := by decide +kernel
theorem dX0_makeHalves_8 : decode cX0_makeHalves 8 = .ok (.aload_n 0, 1) := by decide +kernel
theorem dX0_makeHalves_9 : decode cX0_makeHalves 9 = .ok (.aload_n 0, 1) := by decide +kernel
theorem dX0_makeHalves_10 : decode cX0_makeHalves 10 = .ok (.getfield 18, 3) := by decide +kernel
theorem dX0_makeHalves_13 : decode cX0_makeHalves 13 = .ok (.invokevirtual 64, 3) := by decide +kernel
theorem dX0_makeHalves_16 : decode cX0_makeHalves 16 = .ok (.aload_n 0, 1) := by decide +kernel
theorem dX0_makeHalves_17 : decode cX0_makeHalves 17 = .ok (.getfield 18, 3) := by decide +kernel
theorem dX0_makeHalves_20 : decode cX0_makeHalves 20 = .ok (.aload_n 0, 1) := by decide +kernel
theorem dX0_makeHalves_21 : decode cX0_makeHalves 21 = .ok (.getfield 18, 3) := by decide +kernel
theorem dX0_makeHalves_24 : decode cX0_makeHalves 24 = .ok (.invokestatic 68, 3) := by decide +kernel
theorem dX0_makeHalves_27 : decode cX0_makeHalves 27 = .ok (.aload_n 0, 1) := by decide +kernel
theorem dX0_makeHalves_28 : decode cX0_makeHalves 28 = .ok (.getfield 18, 3) := by decide +kernel
theorem dX0_makeHalves_31 : decode cX0_makeHalves 31 = .ok (.aload_n 0, 1) := by decide +kernel
theorem dX0_makeHalves_32 : decode cX0_makeHalves 32 = .ok (.getfield 21, 3) := by decide +kernel
theorem dX0_makeHalves_35 : decode cX0_makeHalves 35 = .ok (.invokestatic 68, 3) := by decide +kernel
theorem dX0_makeHalves_38 : decode cX0_makeHalves 38 = .ok (.return_, 1) := by decide +kernel
theorem dX0_putDoubled_0 : decode cX0_putDoubled 0 = .ok (.aload_n 0, 1) := by decide +kernel
theorem dX0_putDoubled_1 : decode cX0_putDoubled 1 = .ok (.iconst 0, 1) := by decide +kernel
theorem dX0_putDoubled_2 : decode cX0_putDoubled 2 = .ok (.iaload, 1) := by decide +kernel
theorem dX0_putDoubled_3 : decode cX0_putDoubled 3 = .ok (.sipush 128, 3) := by decide +kernel
theorem dX0_putDoubled_6 : decode cX0_putDoubled 6 = .ok (.if_icmp .lt 9, 3) := by decide +kernel
theorem dX0_putDoubled_9 : decode cX0_putDoubled 9 = .ok (.sipush 135, 3) := by decide +kernel
theorem dX0_putDoubled_12 : decode cX0_putDoubled 12 = .ok (.goto 4, 3) := by decide +kernel
theorem dX0_putDoubled_15 : decode cX0_putDoubled 15 = .ok (.iconst 0, 1) := by decide +kernel
theorem dX0_putDoubled_16 : decode cX0_putDoubled 16 = .ok (.istore_n 2, 1) := by decide +kernel
theorem dX0_putDoubled_17 : decode cX0_putDoubled 17 = .ok (.iconst 0, 1) := by decide +kernel
theorem dX0_putDoubled_18 : decode cX0_putDoubled 18 = .ok (.istore_n 3, 1) := by decide +kernel
theorem dX0_putDoubled_19 : decode cX0_putDoubled 19 = .ok (.iload_n 3, 1) := by decide +kernel
theorem dX0_putDoubled_20 : decode cX0_putDoubled 20 = .ok (.bipush 15, 2) := by decide +kernel
theorem dX0_putDoubled_22 : decode cX0_putDoubled 22 = .ok (.if_icmp .ge 30, 3) := by decide +kernel
theorem dX0_putDoubled_25 : decode cX0_putDoubled 25 = .ok (.aload_n 1, 1) := by decide +kernel
theorem dX0_putDoubled_26 : decode cX0_putDoubled 26 = .ok (.iload_n 3, 1) := by decide +kernel
theorem dX0_putDoubled_27 : decode cX0_putDoubled 27 = .ok (.aload_n 0, 1) := by decide +kernel
theorem dX0_putDoubled_28 : decode cX0_putDoubled 28 = .ok (.iload_n 3, 1) := by decide +kernel
theorem dX0_putDoubled_29 : decode cX0_putDoubled 29 = .ok (.iaload, 1) := by decide +kernel
theorem dX0_putDoubled_30 : decode cX0_putDoubled 30 = .ok (.iconst 1, 1) := by decide +kernel
theorem dX0_putDoubled_31 : decode cX0_putDoubled 31 = .ok (.ishl, 1) := by decide +kernel
theorem dX0_putDoubled_32 : decode cX0_putDoubled 32 = .ok (.sipush 255, 3) := by decide +kernel
theorem dX0_putDoubled_35 : decode cX0_putDoubled 35 = .ok (.iand, 1) := by decide +kernel
theorem dX0_putDoubled_36 : decode cX0_putDoubled 36 = .ok (.aload_n 0, 1) := by decide +kernel
theorem dX0_putDoubled_37 : decode cX0_putDoubled 37 = .ok (.iload_n 3, 1) := by decide +kernel
theorem dX0_putDoubled_38 : decode cX0_putDoubled 38 = .ok (.iconst 1, 1) := by decide +kernel
theorem dX0_putDoubled_39 : decode cX0_putDoubled 39 = .ok (.iadd, 1) := by decide +kernel
theorem dX0_putDoubled_40 : decode cX0_putDoubled 40 = .ok (.iaload, 1) := by decide +kernel
theorem dX0_putDoubled_41 : decode cX0_putDoubled 41 = .ok (.bipush 7, 2) := by decide +kernel
theorem dX0_putDoubled_43 : decode cX0_putDoubled 43 = .ok (.ishr, 1) := by decide +kernel
theorem dX0_putDoubled_44 : decode cX0_putDoubled 44 = .ok (.ior, 1) := by decide +kernel
theorem dX0_putDoubled_45 : decode cX0_putDoubled 45 = .ok (.iastore, 1) := by decide +kernel
theorem dX0_putDoubled_46 : decode cX0_putDoubled 46 = .ok (.iinc 3 1, 3) := by decide +kernel
theorem dX0_putDoubled_49 : decode cX0_putDoubled 49 = .ok (.goto (-30), 3) := by decide +kernel
theorem dX0_putDoubled_52 : decode cX0_putDoubled 52 = .ok (.aload_n 1, 1) := by decide +kernel
theorem dX0_putDoubled_53 : decode cX0_putDoubled 53 = .ok (.bipush 15, 2) := by decide +kernel
theorem dX0_putDoubled_55 : decode cX0_putDoubled 55 = .ok (.aload_n 0, 1) := by decide +kernel
theorem dX0_putDoubled_56 : decode cX0_putDoubled 56 = .ok (.bipush 15, 2) := by decide +kernel
theorem dX0_putDoubled_58 : decode cX0_putDoubled 58 = .ok (.iaload, 1) := by decide +kernel
theorem dX0_putDoubled_59 : decode cX0_putDoubled 59 = .ok (.iconst 1, 1) := by decide +kernel
theorem dX0_putDoubled_60 : decode cX0_putDoubled 60 = .ok (.ishl, 1) := by decide +kernel
theorem dX0_putDoubled_61 : decode cX0_putDoubled 61 = .ok (.sipush 255, 3) := by decide +kernel
theorem dX0_putDoubled_64 : decode cX0_putDoubled 64 = .ok (.iand, 1) := by decide +kernel
theorem dX0_putDoubled_65 : decode cX0_putDoubled 65 = .ok (.iload_n 2, 1) := by decide +kernel
theorem dX0_putDoubled_66 : decode cX0_putDoubled 66 = .ok (.ixor, 1) := by decide +kernel
theorem dX0_putDoubled_67 : decode cX0_putDoubled 67 = .ok (.iastore, 1) := by decide +kernel
theorem dX0_putDoubled_68 : decode cX0_putDoubled 68 = .ok (.return_, 1) := by decide +kernel
theorem dX0_goForth_0 : decode cX0_goForth 0 = .ok (.aload_n 1, 1) := by decide +kernel
theorem dX0_goForth_1 : decode cX0_goForth 1 = .ok (.aload_n 0, 1) := by decide +kernel
theorem dX0_goForth_2 : decode cX0_goForth 2 = .ok (.getfield 15, 3) := by decide +kernel
theorem dX0_goForth_5 : decode cX0_goForth 5 = .ok (.iconst 0, 1) := by decide +kernel
theorem dX0_goForth_6 : decode cX0_goForth 6 = .ok (.invokestatic 72, 3) := by decide +kernel
theorem dX0_goForth_9 : decode cX0_goForth 9 = .ok (.iconst 1, 1) := by decide +kernel
theorem dX0_goForth_10 : decode cX0_goForth 10 = .ok (.istore_n 2, 1) := by decide +kernel
theorem dX0_goForth_11 : decode cX0_goForth 11 = .ok (.iload_n 2, 1) := by decide +kernel
theorem dX0_goForth_12 : decode cX0_goForth 12 = .ok (.bipush 10, 2) := by decide +kernel
theorem dX0_goForth_14 : decode cX0_goForth 14 = .ok (.if_icmp .gt 36, 3) := by decide +kernel
theorem dX0_goForth_17 : decode cX0_goForth 17 = .ok (.aload_n 0, 1) := by decide +kernel
theorem dX0_goForth_18 : decode cX0_goForth 18 = .ok (.aload_n 1, 1) := by decide +kernel
theorem dX0_goForth_19 : decode cX0_goForth 19 = .ok (.invokevirtual 76, 3) := by decide +kernel
theorem dX0_goForth_22 : decode cX0_goForth 22 = .ok (.iload_n 2, 1) := by decide +kernel
theorem dX0_goForth_23 : decode cX0_goForth 23 = .ok (.bipush 10, 2) := by decide +kernel
theorem dX0_goForth_25 : decode cX0_goForth 25 = .ok (.if_icmp .ge 7, 3) := by decide +kernel
theorem dX0_goForth_28 : decode cX0_goForth 28 = .ok (.aload_n 1, 1) := by decide +kernel
theorem dX0_goForth_29 : decode cX0_goForth 29 = .ok (.invokestatic 79, 3) := by decide +kernel
theorem dX0_goForth_32 : decode cX0_goForth 32 = .ok (.aload_n 1, 1) := by decide +kernel
theorem dX0_goForth_33 : decode cX0_goForth 33 = .ok (.aload_n 0, 1) := by decide +kernel
theorem dX0_goForth_34 : decode cX0_goForth 34 = .ok (.getfield 15, 3) := by decide +kernel
theorem dX0_goForth_37 : decode cX0_goForth 37 = .ok (.bipush 16, 2) := by decide +kernel
theorem dX0_goForth_39 : decode cX0_goForth 39 = .ok (.iload_n 2, 1) := by decide +kernel
theorem dX0_goForth_40 : decode cX0_goForth 40 = .ok (.imul, 1) := by decide +kernel
theorem dX0_goForth_41 : decode cX0_goForth 41 = .ok (.invokestatic 72, 3) := by decide +kernel
theorem dX0_goForth_44 : decode cX0_goForth 44 = .ok (.iinc 2 1, 3) := by decide +kernel
theorem dX0_goForth_47 : decode cX0_goForth 47 = .ok (.goto (-36), 3) := by decide +kernel
theorem dX0_goForth_50 : decode cX0_goForth 50 = .ok (.return_, 1) := by decide +kernel
theorem dX0_goBack_0 : decode cX0_goBack 0 = .ok (.bipush 10, 2) := by decide +kernel
theorem dX0_goBack_2 : decode cX0_goBack 2 = .ok (.istore_n 2, 1) := by decide +kernel
theorem dX0_goBack_3 : decode cX0_goBack 3 = .ok (.iload_n 2, 1) := by decide +kernel
theorem dX0_goBack_4 : decode cX0_goBack 4 = .ok (.iconst 1, 1) := by decide +kernel
theorem dX0_goBack_5 : decode cX0_goBack 5 = .ok (.if_icmp .lt 36, 3) := by decide +kernel
theorem dX0_goBack_8 : decode cX0_goBack 8 = .ok (.aload_n 1, 1) := by decide +kernel
theorem dX0_goBack_9 : decode cX0_goBack 9 = .ok (.aload_n 0, 1) := by decide +kernel
theorem dX0_goBack_10 : decode cX0_goBack 10 = .ok (.getfield 15, 3) := by decide +kernel
theorem dX0_goBack_13 : decode cX0_goBack 13 = .ok (.bipush 16, 2) := by decide +kernel
theorem dX0_goBack_15 : decode cX0_goBack 15 = .ok (.iload_n 2, 1) := by decide +kernel
theorem dX0_goBack_16 : decode cX0_goBack 16 = .ok (.imul, 1) := by decide +kernel
theorem dX0_goBack_17 : decode cX0_goBack 17 = .ok (.invokestatic 72, 3) := by decide +kernel
theorem dX0_goBack_20 : decode cX0_goBack 20 = .ok (.iload_n 2, 1) := by decide +kernel
theorem dX0_goBack_21 : decode cX0_goBack 21 = .ok (.bipush 10, 2) := by decide +kernel
theorem dX0_goBack_23 : decode cX0_goBack 23 = .ok (.if_icmp .ge 7, 3) := by decide +kernel
theorem dX0_goBack_26 : decode cX0_goBack 26 = .ok (.aload_n 1, 1) := by decide +kernel
theorem dX0_goBack_27 : decode cX0_goBack 27 = .ok (.invokestatic 82, 3) := by decide +kernel
theorem dX0_goBack_30 : decode cX0_goBack 30 = .ok (.aload_n 0, 1) := by decide +kernel
theorem dX0_goBack_31 : decode cX0_goBack 31 = .ok (.aload_n 1, 1) := by decide +kernel
theorem dX0_goBack_32 : decode cX0_goBack 32 = .ok (.invokevirtual 85, 3) := by decide +kernel
theorem dX0_goBack_35 : decode cX0_goBack 35 = .ok (.iinc 2 (-1), 3) := by decide +kernel
theorem dX0_goBack_38 : decode cX0_goBack 38 = .ok (.goto (-35), 3) := by decide +kernel
theorem dX0_goBack_41 : decode cX0_goBack 41 = .ok (.aload_n 1, 1) := by decide +kernel
theorem dX0_goBack_42 : decode cX0_goBack 42 = .ok (.aload_n 0, 1) := by decide +kernel
theorem dX0_goBack_43 : decode cX0_goBack 43 = .ok (.getfield 15, 3) := by decide +kernel
theorem dX0_goBack_46 : decode cX0_goBack 46 = .ok (.iconst 0, 1) := by decide +kernel
theorem dX0_goBack_47 : decode cX0_goBack 47 = .ok (.invokestatic 72, 3) := by decide +kernel
theorem dX0_goBack_50 : decode cX0_goBack 50 = .ok (.return_, 1) := by decide +kernel
theorem dX0_replaceAndMove_0 : decode cX0_replaceAndMove 0 = .ok (.iconst 0, 1) := by decide +kernel
theorem dX0_replaceAndMove_1 : decode cX0_replaceAndMove 1 = .ok (.istore_n 2, 1) := by decide +kernel
theorem dX0_replaceAndMove_2 : decode cX0_replaceAndMove 2 = .ok (.iload_n 2, 1) := by decide +kernel
theorem dX0_replaceAndMove_3 : decode cX0_replaceAndMove 3 = .ok (.bipush 16, 2) := by decide +kernel
theorem dX0_replaceAndMove_5 : decode cX0_replaceAndMove 5 = .ok (.if_icmp .ge 25, 3) := by decide +kernel
theorem dX0_replaceAndMove_8 : decode cX0_replaceAndMove 8 = .ok (.aload_n 0, 1) := by decide +kernel
theorem dX0_replaceAndMove_9 : decode cX0_replaceAndMove 9 = .ok (.getfield 24, 3) := by decide +kernel
theorem dX0_replaceAndMove_12 : decode cX0_replaceAndMove 12 = .ok (.iload_n 2, 1) := by decide +kernel
theorem dX0_replaceAndMove_13 : decode cX0_replaceAndMove 13 = .ok (.getstatic 61, 3) := by decide +kernel
theorem dX0_replaceAndMove_16 : decode cX0_replaceAndMove 16 = .ok (.aload_n 1, 1) := by decide +kernel
theorem dX0_replaceAndMove_17 : decode cX0_replaceAndMove 17 = .ok (.iload_n 2, 1) := by decide +kernel
theorem dX0_replaceAndMove_18 : decode cX0_replaceAndMove 18 = .ok (.invokestatic 88, 3) := by decide +kernel
theorem dX0_replaceAndMove_21 : decode cX0_replaceAndMove 21 = .ok (.iaload, 1) := by decide +kernel
theorem dX0_replaceAndMove_22 : decode cX0_replaceAndMove 22 = .ok (.iaload, 1) := by decide +kernel
theorem dX0_replaceAndMove_23 : decode cX0_replaceAndMove 23 = .ok (.iastore, 1) := by decide +kernel
theorem dX0_replaceAndMove_24 : decode cX0_replaceAndMove 24 = .ok (.iinc 2 1, 3) := by decide +kernel
theorem dX0_replaceAndMove_27 : decode cX0_replaceAndMove 27 = .ok (.goto (-25), 3) := by decide +kernel
theorem dX0_replaceAndMove_30 : decode cX0_replaceAndMove 30 = .ok (.aload_n 0, 1) := by decide +kernel
theorem dX0_replaceAndMove_31 : decode cX0_replaceAndMove 31 = .ok (.getfield 24, 3) := by decide +kernel
theorem dX0_replaceAndMove_34 : decode cX0_replaceAndMove 34 = .ok (.iconst 0, 1) := by decide +kernel
theorem dX0_replaceAndMove_35 : decode cX0_replaceAndMove 35 = .ok (.aload_n 1, 1) := by decide +kernel
theorem dX0_replaceAndMove_36 : decode cX0_replaceAndMove 36 = .ok (.iconst 0, 1) := by decide +kernel
theorem dX0_replaceAndMove_37 : decode cX0_replaceAndMove 37 = .ok (.bipush 16, 2) := by decide +kernel
theorem dX0_replaceAndMove_39 : decode cX0_replaceAndMove 39 = .ok (.invokestatic 43, 3) := by decide +kernel
theorem dX0_replaceAndMove_42 : decode cX0_replaceAndMove 42 = .ok (.return_, 1) := by decide +kernel
theorem dX0_moveAndReplaceBack_0 : decode cX0_moveAndReplaceBack 0 = .ok (.iconst 0, 1) := by decide +kernel
theorem dX0_moveAndReplaceBack_1 : decode cX0_moveAndReplaceBack 1 = .ok (.istore_n 2, 1) := by decide +kernel
theorem dX0_moveAndReplaceBack_2 : decode cX0_moveAndReplaceBack 2 = .ok (.iload_n 2, 1) := by decide +kernel
theorem dX0_moveAndReplaceBack_3 : decode cX0_moveAndReplaceBack 3 = .ok (.bipush 16, 2) := by decide +kernel
theorem dX0_moveAndReplaceBack_5 : decode cX0_moveAndReplaceBack 5 = .ok (.if_icmp .ge 25, 3) := by decide +kernel
theorem dX0_moveAndReplaceBack_8 : decode cX0_moveAndReplaceBack 8 = .ok (.aload_n 0, 1) := by decide +kernel
theorem dX0_moveAndReplaceBack_9 : decode cX0_moveAndReplaceBack 9 = .ok (.getfield 24, 3) := by decide +kernel
theorem dX0_moveAndReplaceBack_12 : decode cX0_moveAndReplaceBack 12 = .ok (.iload_n 2, 1) := by decide +kernel
theorem dX0_moveAndReplaceBack_13 : decode cX0_moveAndReplaceBack 13 = .ok (.invokestatic 88, 3) := by decide +kernel
theorem dX0_moveAndReplaceBack_16 : decode cX0_moveAndReplaceBack 16 = .ok (.getstatic 91, 3) := by decide +kernel
theorem dX0_moveAndReplaceBack_19 : decode cX0_moveAndReplaceBack 19 = .ok (.aload_n 1, 1) := by decide +kernel
theorem dX0_moveAndReplaceBack_20 : decode cX0_moveAndReplaceBack 20 = .ok (.iload_n 2, 1) := by decide +kernel
theorem dX0_moveAndReplaceBack_21 : decode cX0_moveAndReplaceBack 21 = .ok (.iaload, 1) := by decide +kernel
theorem dX0_moveAndReplaceBack_22 : decode cX0_moveAndReplaceBack 22 = .ok (.iaload, 1) := by decide +kernel
theorem dX0_moveAndReplaceBack_23 : decode cX0_moveAndReplaceBack 23 = .ok (.iastore, 1) := by decide +kernel
theorem dX0_moveAndReplaceBack_24 : decode cX0_moveAndReplaceBack 24 = .ok (.iinc 2 1, 3) := by decide +kernel
theorem dX0_moveAndReplaceBack_27 : decode cX0_moveAndReplaceBack 27 = .ok (.goto (-25), 3) := by decide +kernel
theorem dX0_moveAndReplaceBack_30 : decode cX0_moveAndReplaceBack 30 = .ok (.aload_n 0, 1) := by decide +kernel
theorem dX0_moveAndReplaceBack_31 : decode cX0_moveAndReplaceBack 31 = .ok (.getfield 24, 3) := by decide +kernel
theorem dX0_moveAndReplaceBack_34 : decode cX0_moveAndReplaceBack 34 = .ok (.iconst 0, 1) := by decide +kernel
theorem dX0_moveAndReplaceBack_35 : decode cX0_moveAndReplaceBack 35 = .ok (.aload_n 1, 1) := by decide +kernel
theorem dX0_moveAndReplaceBack_36 : decode cX0_moveAndReplaceBack 36 = .ok (.iconst 0, 1) := by decide +kernel
theorem dX0_moveAndReplaceBack_37 : decode cX0_moveAndReplaceBack 37 = .ok (.bipush 16, 2) := by decide +kernel
theorem dX0_moveAndReplaceBack_39 : decode cX0_moveAndReplaceBack 39 = .ok (.invokestatic 43, 3) := by decide +kernel
theorem dX0_moveAndReplaceBack_42 : decode cX0_moveAndReplaceBack 42 = .ok (.return_, 1) := by decide +kernel
theorem dX0_source_0 : decode cX0_source 0 = .ok (.iload_n 0, 1) := by decide +kernel
theorem dX0_source_1 : decode cX0_source 1 = .ok (.iconst 4, 1) := by decide +kernel
theorem dX0_source_2 : decode cX0_source 2 = .ok (.iload_n 0, 1) := by decide +kernel
theorem dX0_source_3 : decode cX0_source 3 = .ok (.iconst 4, 1) := by decide +kernel
theorem dX0_source_4 : decode cX0_source 4 = .ok (.irem, 1) := by decide +kernel
theorem dX0_source_5 : decode cX0_source 5 = .ok (.imul, 1) := by decide +kernel
theorem dX0_source_6 : decode cX0_source 6 = .ok (.iadd, 1) := by decide +kernel
theorem dX0_source_7 : decode cX0_source 7 = .ok (.bipush 16, 2) := by decide +kernel
theorem dX0_source_9 : decode cX0_source 9 = .ok (.irem, 1) := by decide +kernel
theorem dX0_source_10 : decode cX0_source 10 = .ok (.ireturn, 1) := by decide +kernel
theorem dX0_mix_0 : decode cX0_mix 0 = .ok (.iconst 0, 1) := by decide +kernel
theorem dX0_mix_1 : decode cX0_mix 1 = .ok (.istore_n 1, 1) := by decide +kernel
theorem dX0_mix_2 : decode cX0_mix 2 = .ok (.iload_n 1, 1) := by decide +kernel
theorem dX0_mix_3 : decode cX0_mix 3 = .ok (.bipush 16, 2) := by decide +kernel
theorem dX0_mix_5 : decode cX0_mix 5 = .ok (.if_icmp .ge 87, 3) := by decide +kernel
theorem dX0_mix_8 : decode cX0_mix 8 = .ok (.aload_n 0, 1) := by decide +kernel
theorem dX0_mix_9 : decode cX0_mix 9 = .ok (.iload_n 1, 1) := by decide +kernel
theorem dX0_mix_10 : decode cX0_mix 10 = .ok (.iaload, 1) := by decide +kernel
theorem dX0_mix_11 : decode cX0_mix 11 = .ok (.istore_n 2, 1) := by decide +kernel
theorem dX0_mix_12 : decode cX0_mix 12 = .ok (.aload_n 0, 1) := by decide +kernel
theorem dX0_mix_13 : decode cX0_mix 13 = .ok (.iload_n 1, 1) := by decide +kernel
theorem dX0_mix_14 : decode cX0_mix 14 = .ok (.iconst 1, 1) := by decide +kernel
theorem dX0_mix_15 : decode cX0_mix 15 = .ok (.iadd, 1) := by decide +kernel
theorem dX0_mix_16 : decode cX0_mix 16 = .ok (.iaload, 1) := by decide +kernel
theorem dX0_mix_17 : decode cX0_mix 17 = .ok (.istore_n 3, 1) := by decide +kernel
theorem dX0_mix_18 : decode cX0_mix 18 = .ok (.aload_n 0, 1) := by decide +kernel
theorem dX0_mix_19 : decode cX0_mix 19 = .ok (.iload_n 1, 1) := by decide +kernel
theorem dX0_mix_20 : decode cX0_mix 20 = .ok (.iconst 2, 1) := by decide +kernel
theorem dX0_mix_21 : decode cX0_mix 21 = .ok (.iadd, 1) := by decide +kernel
theorem dX0_mix_22 : decode cX0_mix 22 = .ok (.iaload, 1) := by decide +kernel
theorem dX0_mix_23 : decode cX0_mix 23 = .ok (.istore 4, 2) := by decide +kernel
theorem dX0_mix_25 : decode cX0_mix 25 = .ok (.aload_n 0, 1) := by decide +kernel
theorem dX0_mix_26 : decode cX0_mix 26 = .ok (.iload_n 1, 1) := by decide +kernel
theorem dX0_mix_27 : decode cX0_mix 27 = .ok (.iconst 3, 1) := by decide +kernel
theorem dX0_mix_28 : decode cX0_mix 28 = .ok (.iadd, 1) := by decide +kernel
theorem dX0_mix_29 : decode cX0_mix 29 = .ok (.iaload, 1) := by decide +kernel
theorem dX0_mix_30 : decode cX0_mix 30 = .ok (.istore 5, 2) := by decide +kernel
theorem dX0_mix_32 : decode cX0_mix 32 = .ok (.aload_n 0, 1) := by decide +kernel
theorem dX0_mix_33 : decode cX0_mix 33 = .ok (.iload_n 1, 1) := by decide +kernel
theorem dX0_mix_34 : decode cX0_mix 34 = .ok (.iload_n 2, 1) := by decide +kernel
theorem dX0_mix_35 : decode cX0_mix 35 = .ok (.iload_n 3, 1) := by decide +kernel
theorem dX0_mix_36 : decode cX0_mix 36 = .ok (.iload 4, 2) := by decide +kernel
theorem dX0_mix_38 : decode cX0_mix 38 = .ok (.iload 5, 2) := by decide +kernel
theorem dX0_mix_40 : decode cX0_mix 40 = .ok (.invokestatic 94, 3) := by decide +kernel
theorem dX0_mix_43 : decode cX0_mix 43 = .ok (.iastore, 1) := by decide +kernel
theorem dX0_mix_44 : decode cX0_mix 44 = .ok (.aload_n 0, 1) := by decide +kernel
theorem dX0_mix_45 : decode cX0_mix 45 = .ok (.iload_n 1, 1) := by decide +kernel
theorem dX0_mix_46 : decode cX0_mix 46 = .ok (.iconst 1, 1) := by decide +kernel
theorem dX0_mix_47 : decode cX0_mix 47 = .ok (.iadd, 1) := by decide +kernel
theorem dX0_mix_48 : decode cX0_mix 48 = .ok (.iload_n 3, 1) := by decide +kernel
theorem dX0_mix_49 : decode cX0_mix 49 = .ok (.iload 4, 2) := by decide +kernel
theorem dX0_mix_51 : decode cX0_mix 51 = .ok (.iload 5, 2) := by decide +kernel
theorem dX0_mix_53 : decode cX0_mix 53 = .ok (.iload_n 2, 1) := by decide +kernel
theorem dX0_mix_54 : decode cX0_mix 54 = .ok (.invokestatic 94, 3) := by decide +kernel
theorem dX0_mix_57 : decode cX0_mix 57 = .ok (.iastore, 1) := by decide +kernel
theorem dX0_mix_58 : decode cX0_mix 58 = .ok (.aload_n 0, 1) := by decide +kernel
theorem dX0_mix_59 : decode cX0_mix 59 = .ok (.iload_n 1, 1) := by decide +kernel
theorem dX0_mix_60 : decode cX0_mix 60 = .ok (.iconst 2, 1) := by decide +kernel
theorem dX0_mix_61 : decode cX0_mix 61 = .ok (.iadd, 1) := by decide +kernel
theorem dX0_mix_62 : decode cX0_mix 62 = .ok (.iload 4, 2) := by decide +kernel
theorem dX0_mix_64 : decode cX0_mix 64 = .ok (.iload 5, 2) := by decide +kernel
theorem dX0_mix_66 : decode cX0_mix 66 = .ok (.iload_n 2, 1) := by decide +kernel
theorem dX0_mix_67 : decode cX0_mix 67 = .ok (.iload_n 3, 1) := by decide +kernel
theorem dX0_mix_68 : decode cX0_mix 68 = .ok (.invokestatic 94, 3) := by decide +kernel
theorem dX0_mix_71 : decode cX0_mix 71 = .ok (.iastore, 1) := by decide +kernel
theorem dX0_mix_72 : decode cX0_mix 72 = .ok (.aload_n 0, 1) := by decide +kernel
theorem dX0_mix_73 : decode cX0_mix 73 = .ok (.iload_n 1, 1) := by decide +kernel
theorem dX0_mix_74 : decode cX0_mix 74 = .ok (.iconst 3, 1) := by decide +kernel
theorem dX0_mix_75 : decode cX0_mix 75 = .ok (.iadd, 1) := by decide +kernel
theorem dX0_mix_76 : decode cX0_mix 76 = .ok (.iload 5, 2) := by decide +kernel
theorem dX0_mix_78 : decode cX0_mix 78 = .ok (.iload_n 2, 1) := by decide +kernel
theorem dX0_mix_79 : decode cX0_mix 79 = .ok (.iload_n 3, 1) := by decide +kernel
theorem dX0_mix_80 : decode cX0_mix 80 = .ok (.iload 4, 2) := by decide +kernel
theorem dX0_mix_82 : decode cX0_mix 82 = .ok (.invokestatic 94, 3) := by decide +kernel
theorem dX0_mix_85 : decode cX0_mix 85 = .ok (.iastore, 1) := by decide +kernel
theorem dX0_mix_86 : decode cX0_mix 86 = .ok (.iinc 1 4, 3) := by decide +kernel
theorem dX0_mix_89 : decode cX0_mix 89 = .ok (.goto (-87), 3) := by decide +kernel
theorem dX0_mix_92 : decode cX0_mix 92 = .ok (.return_, 1) := by decide +kernel
theorem dX0_unmix_0 : decode cX0_unmix 0 = .ok (.aload_n 0, 1) := by decide +kernel
theorem dX0_unmix_1 : decode cX0_unmix 1 = .ok (.invokestatic 79, 3) := by decide +kernel
theorem dX0_unmix_4 : decode cX0_unmix 4 = .ok (.aload_n 0, 1) := by decide +kernel
theorem dX0_unmix_5 : decode cX0_unmix 5 = .ok (.invokestatic 79, 3) := by decide +kernel
theorem dX0_unmix_8 : decode cX0_unmix 8 = .ok (.aload_n 0, 1) := by decide +kernel
theorem dX0_unmix_9 : decode cX0_unmix 9 = .ok (.invokestatic 79, 3) := by decide +kernel
theorem dX0_unmix_12 : decode cX0_unmix 12 = .ok (.return_, 1) := by decide +kernel
theorem dX0_mixed_0 : decode cX0_mixed 0 = .ok (.iload_n 0, 1) := by decide +kernel
theorem dX0_mixed_1 : decode cX0_mixed 1 = .ok (.iload_n 1, 1) := by decide +kernel
theorem dX0_mixed_2 : decode cX0_mixed 2 = .ok (.ixor, 1) := by decide +kernel
theorem dX0_mixed_3 : decode cX0_mixed 3 = .ok (.invokestatic 53, 3) := by decide +kernel
theorem dX0_mixed_6 : decode cX0_mixed 6 = .ok (.iload_n 1, 1) := by decide +kernel
theorem dX0_mixed_7 : decode cX0_mixed 7 = .ok (.ixor, 1) := by decide +kernel
theorem dX0_mixed_8 : decode cX0_mixed 8 = .ok (.iload_n 2, 1) := by decide +kernel
theorem dX0_mixed_9 : decode cX0_mixed 9 = .ok (.ixor, 1) := by decide +kernel
theorem dX0_mixed_10 : decode cX0_mixed 10 = .ok (.iload_n 3, 1) := by decide +kernel
theorem dX0_mixed_11 : decode cX0_mixed 11 = .ok (.ixor, 1) := by decide +kernel
theorem dX0_mixed_12 : decode cX0_mixed 12 = .ok (.ireturn, 1) := by decide +kernel
theorem dX0_twice_0 : decode cX0_twice 0 = .ok (.iload_n 0, 1) := by decide +kernel
theorem dX0_twice_1 : decode cX0_twice 1 = .ok (.sipush 128, 3) := by decide +kernel
theorem dX0_twice_4 : decode cX0_twice 4 = .ok (.if_icmp .ge 9, 3) := by decide +kernel
theorem dX0_twice_7 : decode cX0_twice 7 = .ok (.iload_n 0, 1) := by decide +kernel
theorem dX0_twice_8 : decode cX0_twice 8 = .ok (.iconst 1, 1) := by decide +kernel
theorem dX0_twice_9 : decode cX0_twice 9 = .ok (.ishl, 1) := by decide +kernel
theorem dX0_twice_10 : decode cX0_twice 10 = .ok (.goto 10, 3) := by decide +kernel
theorem dX0_twice_13 : decode cX0_twice 13 = .ok (.iload_n 0, 1) := by decide +kernel
theorem dX0_twice_14 : decode cX0_twice 14 = .ok (.iconst 1, 1) := by decide +kernel
theorem dX0_twice_15 : decode cX0_twice 15 = .ok (.ishl, 1) := by decide +kernel
theorem dX0_twice_16 : decode cX0_twice 16 = .ok (.sipush 283, 3) := by decide +kernel
theorem dX0_twice_19 : decode cX0_twice 19 = .ok (.ixor, 1) := by decide +kernel
theorem dX0_twice_20 : decode cX0_twice 20 = .ok (.ireturn, 1) := by decide +kernel
theorem dX1_init_0 : decode cX1_init 0 = .ok (.aload_n 0, 1) := by decide +kernel
theorem dX1_init_1 : decode cX1_init 1 = .ok (.invokespecial 3, 3) := by decide +kernel
theorem dX1_init_4 : decode cX1_init 4 = .ok (.aload_n 0, 1) := by decide +kernel
theorem dX1_init_5 : decode cX1_init 5 = .ok (.bipush 16, 2) := by decide +kernel
theorem dX1_init_7 : decode cX1_init 7 = .ok (.newarray .int, 2) := by decide +kernel
theorem dX1_init_9 : decode cX1_init 9 = .ok (.putfield 9, 3) := by decide +kernel
theorem dX1_init_12 : decode cX1_init 12 = .ok (.aload_n 0, 1) := by decide +kernel
theorem dX1_init_13 : decode cX1_init 13 = .ok (.iconst 0, 1) := by decide +kernel
theorem dX1_init_14 : decode cX1_init 14 = .ok (.putfield 15, 3) := by decide +kernel
theorem dX1_init_17 : decode cX1_init 17 = .ok (.aload_n 0, 1) := by decide +kernel
theorem dX1_init_18 : decode cX1_init 18 = .ok (.iconst 0, 1) := by decide +kernel
theorem dX1_init_19 : decode cX1_init 19 = .ok (.putfield 19, 3) := by decide +kernel
theorem dX1_init_22 : decode cX1_init 22 = .ok (.aload_n 0, 1) := by decide +kernel
theorem dX1_init_23 : decode cX1_init 23 = .ok (.iconst 0, 1) := by decide +kernel
theorem dX1_init_24 : decode cX1_init 24 = .ok (.putfield 23, 3) := by decide +kernel
theorem dX1_init_27 : decode cX1_init 27 = .ok (.aload_n 0, 1) := by decide +kernel
theorem dX1_init_28 : decode cX1_init 28 = .ok (.iconst 0, 1) := by decide +kernel
theorem dX1_init_29 : decode cX1_init 29 = .ok (.putfield 26, 3) := by decide +kernel
theorem dX1_init_32 : decode cX1_init 32 = .ok (.aload_n 0, 1) := by decide +kernel
theorem dX1_init_33 : decode cX1_init 33 = .ok (.iconst 0, 1) := by decide +kernel
theorem dX1_init_34 : decode cX1_init 34 = .ok (.putfield 29, 3) := by decide +kernel
theorem dX1_init_37 : decode cX1_init 37 = .ok (.return_, 1) := by decide +kernel
theorem dX1_drop_0 : decode cX1_drop 0 = .ok (.aload_n 0, 1) := by decide +kernel
theorem dX1_drop_1 : decode cX1_drop 1 = .ok (.iconst 0, 1) := by decide +kernel
theorem dX1_drop_2 : decode cX1_drop 2 = .ok (.putfield 19, 3) := by decide +kernel
theorem dX1_drop_5 : decode cX1_drop 5 = .ok (.aload_n 0, 1) := by decide +kernel
theorem dX1_drop_6 : decode cX1_drop 6 = .ok (.iconst 0, 1) := by decide +kernel
theorem dX1_drop_7 : decode cX1_drop 7 = .ok (.putfield 23, 3) := by decide +kernel
theorem dX1_drop_10 : decode cX1_drop 10 = .ok (.return_, 1) := by decide +kernel
theorem dX1_begin_0 : decode cX1_begin 0 = .ok (.aload_n 0, 1) := by decide +kernel
theorem dX1_begin_1 : decode cX1_begin 1 = .ok (.getfield 9, 3) := by decide +kernel
theorem dX1_begin_4 : decode cX1_begin 4 = .ok (.iconst 0, 1) := by decide +kernel
theorem dX1_begin_5 : decode cX1_begin 5 = .ok (.invokestatic 32, 3) := by decide +kernel
theorem dX1_begin_8 : decode cX1_begin 8 = .ok (.aload_n 0, 1) := by decide +kernel
theorem dX1_begin_9 : decode cX1_begin 9 = .ok (.iconst 0, 1) := by decide +kernel
theorem dX1_begin_10 : decode cX1_begin 10 = .ok (.putfield 15, 3) := by decide +kernel
theorem dX1_begin_13 : decode cX1_begin 13 = .ok (.aload_n 0, 1) := by decide +kernel
theorem dX1_begin_14 : decode cX1_begin 14 = .ok (.iconst 1, 1) := by decide +kernel
theorem dX1_begin_15 : decode cX1_begin 15 = .ok (.putfield 19, 3) := by decide +kernel
theorem dX1_begin_18 : decode cX1_begin 18 = .ok (.aload_n 0, 1) := by decide +kernel
theorem dX1_begin_19 : decode cX1_begin 19 = .ok (.iconst 0, 1) := by decide +kernel
theorem dX1_begin_20 : decode cX1_begin 20 = .ok (.putfield 23, 3) := by decide +kernel
theorem dX1_begin_23 : decode cX1_begin 23 = .ok (.return_, 1) := by decide +kernel
theorem dX1_take_0 : decode cX1_take 0 = .ok (.aload_n 0, 1) := by decide +kernel
theorem dX1_take_1 : decode cX1_take 1 = .ok (.getfield 15, 3) := by decide +kernel
theorem dX1_take_4 : decode cX1_take 4 = .ok (.bipush 16, 2) := by decide +kernel
theorem dX1_take_6 : decode cX1_take 6 = .ok (.if_icmp .ne 16, 3) := by decide +kernel
theorem dX1_take_9 : decode cX1_take 9 = .ok (.aload_n 2, 1) := by decide +kernel
theorem dX1_take_10 : decode cX1_take 10 = .ok (.aload_n 0, 1) := by decide +kernel
theorem dX1_take_11 : decode cX1_take 11 = .ok (.getfield 9, 3) := by decide +kernel
theorem dX1_take_14 : decode cX1_take 14 = .ok (.invokevirtual 38, 3) := by decide +kernel
theorem dX1_take_17 : decode cX1_take 17 = .ok (.aload_n 0, 1) := by decide +kernel
theorem dX1_take_18 : decode cX1_take 18 = .ok (.iconst 0, 1) := by decide +kernel
theorem dX1_take_19 : decode cX1_take 19 = .ok (.putfield 15, 3) := by decide +kernel
theorem dX1_take_22 : decode cX1_take 22 = .ok (.aload_n 0, 1) := by decide +kernel
theorem dX1_take_23 : decode cX1_take 23 = .ok (.getfield 9, 3) := by decide +kernel
theorem dX1_take_26 : decode cX1_take 26 = .ok (.aload_n 0, 1) := by decide +kernel
theorem dX1_take_27 : decode cX1_take 27 = .ok (.getfield 15, 3) := by decide +kernel
theorem dX1_take_30 : decode cX1_take 30 = .ok (.dup2, 1) := by decide +kernel
theorem dX1_take_31 : decode cX1_take 31 = .ok (.iaload, 1) := by decide +kernel
theorem dX1_take_32 : decode cX1_take 32 = .ok (.iload_n 1, 1) := by decide +kernel
theorem dX1_take_33 : decode cX1_take 33 = .ok (.ixor, 1) := by decide +kernel
theorem dX1_take_34 : decode cX1_take 34 = .ok (.iastore, 1) := by decide +kernel
theorem dX1_take_35 : decode cX1_take 35 = .ok (.aload_n 0, 1) := by decide +kernel
theorem dX1_take_36 : decode cX1_take 36 = .ok (.dup, 1) := by decide +kernel
theorem dX1_take_37 : decode cX1_take 37 = .ok (.getfield 15, 3) := by decide +kernel
theorem dX1_take_40 : decode cX1_take 40 = .ok (.iconst 1, 1) := by decide +kernel
theorem dX1_take_41 : decode cX1_take 41 = .ok (.iadd, 1) := by decide +kernel
theorem dX1_take_42 : decode cX1_take 42 = .ok (.putfield 15, 3) := by decide +kernel
theorem dX1_take_45 : decode cX1_take 45 = .ok (.return_, 1) := by decide +kernel
theorem dX1_end_0 : decode cX1_end 0 = .ok (.aload_n 0, 1) := by decide +kernel
theorem dX1_end_1 : decode cX1_end 1 = .ok (.getfield 15, 3) := by decide +kernel
theorem dX1_end_4 : decode cX1_end 4 = .ok (.bipush 16, 2) := by decide +kernel
theorem dX1_end_6 : decode cX1_end 6 = .ok (.if_icmp .ne 18, 3) := by decide +kernel
theorem dX1_end_9 : decode cX1_end 9 = .ok (.aload_n 0, 1) := by decide +kernel
theorem dX1_end_10 : decode cX1_end 10 = .ok (.getfield 9, 3) := by decide +kernel
theorem dX1_end_13 : decode cX1_end 13 = .ok (.aload_n 1, 1) := by decide +kernel
theorem dX1_end_14 : decode cX1_end 14 = .ok (.getfield 44, 3) := by decide +kernel
theorem dX1_end_17 : decode cX1_end 17 = .ok (.iconst 0, 1) := by decide +kernel
theorem dX1_end_18 : decode cX1_end 18 = .ok (.invokestatic 47, 3) := by decide +kernel
theorem dX1_end_21 : decode cX1_end 21 = .ok (.goto 30, 3) := by decide +kernel
theorem dX1_end_24 : decode cX1_end 24 = .ok (.aload_n 0, 1) := by decide +kernel
theorem dX1_end_25 : decode cX1_end 25 = .ok (.getfield 9, 3) := by decide +kernel
theorem dX1_end_28 : decode cX1_end 28 = .ok (.aload_n 0, 1) := by decide +kernel
theorem dX1_end_29 : decode cX1_end 29 = .ok (.getfield 15, 3) := by decide +kernel
theorem dX1_end_32 : decode cX1_end 32 = .ok (.dup2, 1) := by decide +kernel
theorem dX1_end_33 : decode cX1_end 33 = .ok (.iaload, 1) := by decide +kernel
theorem dX1_end_34 : decode cX1_end 34 = .ok (.sipush 128, 3) := by decide +kernel
theorem dX1_end_37 : decode cX1_end 37 = .ok (.ixor, 1) := by decide +kernel
theorem dX1_end_38 : decode cX1_end 38 = .ok (.iastore, 1) := by decide +kernel
theorem dX1_end_39 : decode cX1_end 39 = .ok (.aload_n 0, 1) := by decide +kernel
theorem dX1_end_40 : decode cX1_end 40 = .ok (.getfield 9, 3) := by decide +kernel
theorem dX1_end_43 : decode cX1_end 43 = .ok (.aload_n 1, 1) := by decide +kernel
theorem dX1_end_44 : decode cX1_end 44 = .ok (.getfield 51, 3) := by decide +kernel
theorem dX1_end_47 : decode cX1_end 47 = .ok (.iconst 0, 1) := by decide +kernel
theorem dX1_end_48 : decode cX1_end 48 = .ok (.invokestatic 47, 3) := by decide +kernel
theorem dX1_end_51 : decode cX1_end 51 = .ok (.aload_n 1, 1) := by decide +kernel
theorem dX1_end_52 : decode cX1_end 52 = .ok (.aload_n 0, 1) := by decide +kernel
theorem dX1_end_53 : decode cX1_end 53 = .ok (.getfield 9, 3) := by decide +kernel
theorem dX1_end_56 : decode cX1_end 56 = .ok (.invokevirtual 38, 3) := by decide +kernel
theorem dX1_end_59 : decode cX1_end 59 = .ok (.aload_n 0, 1) := by decide +kernel
theorem dX1_end_60 : decode cX1_end 60 = .ok (.iconst 0, 1) := by decide +kernel
theorem dX1_end_61 : decode cX1_end 61 = .ok (.putfield 19, 3) := by decide +kernel
theorem dX1_end_64 : decode cX1_end 64 = .ok (.aload_n 0, 1) := by decide +kernel
theorem dX1_end_65 : decode cX1_end 65 = .ok (.iconst 1, 1) := by decide +kernel
theorem dX1_end_66 : decode cX1_end 66 = .ok (.putfield 23, 3) := by decide +kernel
theorem dX1_end_69 : decode cX1_end 69 = .ok (.aload_n 0, 1) := by decide +kernel
theorem dX1_end_70 : decode cX1_end 70 = .ok (.iconst 0, 1) := by decide +kernel
theorem dX1_end_71 : decode cX1_end 71 = .ok (.putfield 26, 3) := by decide +kernel
theorem dX1_end_74 : decode cX1_end 74 = .ok (.aload_n 0, 1) := by decide +kernel
theorem dX1_end_75 : decode cX1_end 75 = .ok (.iconst 0, 1) := by decide +kernel
theorem dX1_end_76 : decode cX1_end 76 = .ok (.putfield 29, 3) := by decide +kernel
theorem dX1_end_79 : decode cX1_end 79 = .ok (.return_, 1) := by decide +kernel
theorem dX1_compare_0 : decode cX1_compare 0 = .ok (.aload_n 0, 1) := by decide +kernel
theorem dX1_compare_1 : decode cX1_compare 1 = .ok (.dup, 1) := by decide +kernel
theorem dX1_compare_2 : decode cX1_compare 2 = .ok (.getfield 26, 3) := by decide +kernel
theorem dX1_compare_5 : decode cX1_compare 5 = .ok (.iconst 1, 1) := by decide +kernel
theorem dX1_compare_6 : decode cX1_compare 6 = .ok (.iload_n 1, 1) := by decide +kernel
theorem dX1_compare_7 : decode cX1_compare 7 = .ok (.ishl, 1) := by decide +kernel
theorem dX1_compare_8 : decode cX1_compare 8 = .ok (.ior, 1) := by decide +kernel
theorem dX1_compare_9 : decode cX1_compare 9 = .ok (.putfield 26, 3) := by decide +kernel
theorem dX1_compare_12 : decode cX1_compare 12 = .ok (.aload_n 0, 1) := by decide +kernel
theorem dX1_compare_13 : decode cX1_compare 13 = .ok (.getfield 9, 3) := by decide +kernel
theorem dX1_compare_16 : decode cX1_compare 16 = .ok (.iload_n 1, 1) := by decide +kernel
theorem dX1_compare_17 : decode cX1_compare 17 = .ok (.iaload, 1) := by decide +kernel
theorem dX1_compare_18 : decode cX1_compare 18 = .ok (.iload_n 2, 1) := by decide +kernel
theorem dX1_compare_19 : decode cX1_compare 19 = .ok (.if_icmp .eq 8, 3) := by decide +kernel
theorem dX1_compare_22 : decode cX1_compare 22 = .ok (.aload_n 0, 1) := by decide +kernel
theorem dX1_compare_23 : decode cX1_compare 23 = .ok (.iconst 1, 1) := by decide +kernel
theorem dX1_compare_24 : decode cX1_compare 24 = .ok (.putfield 29, 3) := by decide +kernel
theorem dX1_compare_27 : decode cX1_compare 27 = .ok (.return_, 1) := by decide +kernel
theorem dX2_init_0 : decode cX2_init 0 = .ok (.aload_n 0, 1) := by decide +kernel
theorem dX2_init_1 : decode cX2_init 1 = .ok (.invokespecial 3, 3) := by decide +kernel
theorem dX2_init_4 : decode cX2_init 4 = .ok (.aload_n 0, 1) := by decide +kernel
theorem dX2_init_5 : decode cX2_init 5 = .ok (.new 9, 3) := by decide +kernel
theorem dX2_init_8 : decode cX2_init 8 = .ok (.dup, 1) := by decide +kernel
theorem dX2_init_9 : decode cX2_init 9 = .ok (.invokespecial 11, 3) := by decide +kernel
theorem dX2_init_12 : decode cX2_init 12 = .ok (.putfield 12, 3) := by decide +kernel
theorem dX2_init_15 : decode cX2_init 15 = .ok (.aload_n 0, 1) := by decide +kernel
theorem dX2_init_16 : decode cX2_init 16 = .ok (.new 16, 3) := by decide +kernel
theorem dX2_init_19 : decode cX2_init 19 = .ok (.dup, 1) := by decide +kernel
theorem dX2_init_20 : decode cX2_init 20 = .ok (.invokespecial 18, 3) := by decide +kernel
theorem dX2_init_23 : decode cX2_init 23 = .ok (.putfield 19, 3) := by decide +kernel
theorem dX2_init_26 : decode cX2_init 26 = .ok (.aload_n 0, 1) := by decide +kernel
theorem dX2_init_27 : decode cX2_init 27 = .ok (.bipush 16, 2) := by decide +kernel
theorem dX2_init_29 : decode cX2_init 29 = .ok (.newarray .int, 2) := by decide +kernel
theorem dX2_init_31 : decode cX2_init 31 = .ok (.putfield 23, 3) := by decide +kernel
theorem dX2_init_34 : decode cX2_init 34 = .ok (.aload_n 0, 1) := by decide +kernel
theorem dX2_init_35 : decode cX2_init 35 = .ok (.bipush 16, 2) := by decide +kernel
theorem dX2_init_37 : decode cX2_init 37 = .ok (.newarray .int, 2) := by decide +kernel
theorem dX2_init_39 : decode cX2_init 39 = .ok (.putfield 27, 3) := by decide +kernel
theorem dX2_init_42 : decode cX2_init 42 = .ok (.aload_n 0, 1) := by decide +kernel
theorem dX2_init_43 : decode cX2_init 43 = .ok (.bipush 16, 2) := by decide +kernel
theorem dX2_init_45 : decode cX2_init 45 = .ok (.newarray .int, 2) := by decide +kernel
theorem dX2_init_47 : decode cX2_init 47 = .ok (.putfield 30, 3) := by decide +kernel
theorem dX2_init_50 : decode cX2_init 50 = .ok (.aload_n 0, 1) := by decide +kernel
theorem dX2_init_51 : decode cX2_init 51 = .ok (.iconst 0, 1) := by decide +kernel
theorem dX2_init_52 : decode cX2_init 52 = .ok (.putfield 33, 3) := by decide +kernel
theorem dX2_init_55 : decode cX2_init 55 = .ok (.return_, 1) := by decide +kernel
theorem dX2_init__0 : decode cX2_init_ 0 = .ok (.aload_n 0, 1) := by decide +kernel
theorem dX2_init__1 : decode cX2_init_ 1 = .ok (.iconst 1, 1) := by decide +kernel
theorem dX2_init__2 : decode cX2_init_ 2 = .ok (.putfield 33, 3) := by decide +kernel
theorem dX2_init__5 : decode cX2_init_ 5 = .ok (.aload_n 0, 1) := by decide +kernel
theorem dX2_init__6 : decode cX2_init_ 6 = .ok (.getfield 12, 3) := by decide +kernel
theorem dX2_init__9 : decode cX2_init_ 9 = .ok (.invokevirtual 37, 3) := by decide +kernel
theorem dX2_init__12 : decode cX2_init_ 12 = .ok (.aload_n 0, 1) := by decide +kernel
theorem dX2_init__13 : decode cX2_init_ 13 = .ok (.getfield 19, 3) := by decide +kernel
theorem dX2_init__16 : decode cX2_init_ 16 = .ok (.invokevirtual 40, 3) := by decide +kernel
theorem dX2_init__19 : decode cX2_init_ 19 = .ok (.return_, 1) := by decide +kernel
theorem dX2_setKeyByte_0 : decode cX2_setKeyByte 0 = .ok (.aload_n 0, 1) := by decide +kernel
theorem dX2_setKeyByte_1 : decode cX2_setKeyByte 1 = .ok (.getfield 33, 3) := by decide +kernel
theorem dX2_setKeyByte_4 : decode cX2_setKeyByte 4 = .ok (.ifCond .eq 17, 3) := by decide +kernel
theorem dX2_setKeyByte_7 : decode cX2_setKeyByte 7 = .ok (.iload_n 1, 1) := by decide +kernel
theorem dX2_setKeyByte_8 : decode cX2_setKeyByte 8 = .ok (.invokestatic 43, 3) := by decide +kernel
theorem dX2_setKeyByte_11 : decode cX2_setKeyByte 11 = .ok (.ifCond .eq 10, 3) := by decide +kernel
theorem dX2_setKeyByte_14 : decode cX2_setKeyByte 14 = .ok (.iload_n 2, 1) := by decide +kernel
theorem dX2_setKeyByte_15 : decode cX2_setKeyByte 15 = .ok (.invokestatic 47, 3) := by decide +kernel
theorem dX2_setKeyByte_18 : decode cX2_setKeyByte 18 = .ok (.ifCond .ne 5, 3) := by decide +kernel
theorem dX2_setKeyByte_21 : decode cX2_setKeyByte 21 = .ok (.iconst 0, 1) := by decide +kernel
theorem dX2_setKeyByte_22 : decode cX2_setKeyByte 22 = .ok (.ireturn, 1) := by decide +kernel
theorem dX2_setKeyByte_23 : decode cX2_setKeyByte 23 = .ok (.aload_n 0, 1) := by decide +kernel
theorem dX2_setKeyByte_24 : decode cX2_setKeyByte 24 = .ok (.getfield 12, 3) := by decide +kernel
theorem dX2_setKeyByte_27 : decode cX2_setKeyByte 27 = .ok (.iload_n 1, 1) := by decide +kernel
theorem dX2_setKeyByte_28 : decode cX2_setKeyByte 28 = .ok (.iload_n 2, 1) := by decide +kernel
theorem dX2_setKeyByte_29 : decode cX2_setKeyByte 29 = .ok (.invokevirtual 50, 3) := by decide +kernel
theorem dX2_setKeyByte_32 : decode cX2_setKeyByte 32 = .ok (.aload_n 0, 1) := by decide +kernel
theorem dX2_setKeyByte_33 : decode cX2_setKeyByte 33 = .ok (.getfield 19, 3) := by decide +kernel
theorem dX2_setKeyByte_36 : decode cX2_setKeyByte 36 = .ok (.invokevirtual 40, 3) := by decide +kernel
theorem dX2_setKeyByte_39 : decode cX2_setKeyByte 39 = .ok (.iconst 1, 1) := by decide +kernel
theorem dX2_setKeyByte_40 : decode cX2_setKeyByte 40 = .ok (.ireturn, 1) := by decide +kernel
theorem dX2_expand_0 : decode cX2_expand 0 = .ok (.aload_n 0, 1) := by decide +kernel
theorem dX2_expand_1 : decode cX2_expand 1 = .ok (.getfield 33, 3) := by decide +kernel
theorem dX2_expand_4 : decode cX2_expand 4 = .ok (.ifCond .ne 5, 3) := by decide +kernel
theorem dX2_expand_7 : decode cX2_expand 7 = .ok (.iconst 0, 1) := by decide +kernel
theorem dX2_expand_8 : decode cX2_expand 8 = .ok (.ireturn, 1) := by decide +kernel
theorem dX2_expand_9 : decode cX2_expand 9 = .ok (.aload_n 0, 1) := by decide +kernel
theorem dX2_expand_10 : decode cX2_expand 10 = .ok (.getfield 12, 3) := by decide +kernel
theorem dX2_expand_13 : decode cX2_expand 13 = .ok (.invokevirtual 54, 3) := by decide +kernel
theorem dX2_expand_16 : decode cX2_expand 16 = .ok (.iconst 1, 1) := by decide +kernel
theorem dX2_expand_17 : decode cX2_expand 17 = .ok (.ireturn, 1) := by decide +kernel
theorem dX2_macStart_0 : decode cX2_macStart 0 = .ok (.aload_n 0, 1) := by decide +kernel
theorem dX2_macStart_1 : decode cX2_macStart 1 = .ok (.getfield 12, 3) := by decide +kernel
theorem dX2_macStart_4 : decode cX2_macStart 4 = .ok (.getfield 57, 3) := by decide +kernel
theorem dX2_macStart_7 : decode cX2_macStart 7 = .ok (.ifCond .ne 5, 3) := by decide +kernel
theorem dX2_macStart_10 : decode cX2_macStart 10 = .ok (.iconst 0, 1) := by decide +kernel
theorem dX2_macStart_11 : decode cX2_macStart 11 = .ok (.ireturn, 1) := by decide +kernel
theorem dX2_macStart_12 : decode cX2_macStart 12 = .ok (.aload_n 0, 1) := by decide +kernel
theorem dX2_macStart_13 : decode cX2_macStart 13 = .ok (.getfield 19, 3) := by decide +kernel
theorem dX2_macStart_16 : decode cX2_macStart 16 = .ok (.invokevirtual 60, 3) := by decide +kernel
theorem dX2_macStart_19 : decode cX2_macStart 19 = .ok (.iconst 1, 1) := by decide +kernel
theorem dX2_macStart_20 : decode cX2_macStart 20 = .ok (.ireturn, 1) := by decide +kernel
theorem dX2_macUpdate_0 : decode cX2_macUpdate 0 = .ok (.aload_n 0, 1) := by decide +kernel
theorem dX2_macUpdate_1 : decode cX2_macUpdate 1 = .ok (.getfield 19, 3) := by decide +kernel
theorem dX2_macUpdate_4 : decode cX2_macUpdate 4 = .ok (.getfield 63, 3) := by decide +kernel
theorem dX2_macUpdate_7 : decode cX2_macUpdate 7 = .ok (.ifCond .eq 10, 3) := by decide +kernel
theorem dX2_macUpdate_10 : decode cX2_macUpdate 10 = .ok (.iload_n 1, 1) := by decide +kernel
theorem dX2_macUpdate_11 : decode cX2_macUpdate 11 = .ok (.invokestatic 47, 3) := by decide +kernel
theorem dX2_macUpdate_14 : decode cX2_macUpdate 14 = .ok (.ifCond .ne 5, 3) := by decide +kernel
theorem dX2_macUpdate_17 : decode cX2_macUpdate 17 = .ok (.iconst 0, 1) := by decide +kernel
theorem dX2_macUpdate_18 : decode cX2_macUpdate 18 = .ok (.ireturn, 1) := by decide +kernel
theorem dX2_macUpdate_19 : decode cX2_macUpdate 19 = .ok (.aload_n 0, 1) := by decide +kernel
theorem dX2_macUpdate_20 : decode cX2_macUpdate 20 = .ok (.getfield 19, 3) := by decide +kernel
theorem dX2_macUpdate_23 : decode cX2_macUpdate 23 = .ok (.iload_n 1, 1) := by decide +kernel
theorem dX2_macUpdate_24 : decode cX2_macUpdate 24 = .ok (.aload_n 0, 1) := by decide +kernel
theorem dX2_macUpdate_25 : decode cX2_macUpdate 25 = .ok (.getfield 12, 3) := by decide +kernel
theorem dX2_macUpdate_28 : decode cX2_macUpdate 28 = .ok (.invokevirtual 66, 3) := by decide +kernel
theorem dX2_macUpdate_31 : decode cX2_macUpdate 31 = .ok (.iconst 1, 1) := by decide +kernel
theorem dX2_macUpdate_32 : decode cX2_macUpdate 32 = .ok (.ireturn, 1) := by decide +kernel
theorem dX2_macFill_0 : decode cX2_macFill 0 = .ok (.aload_n 0, 1) := by decide +kernel
theorem dX2_macFill_1 : decode cX2_macFill 1 = .ok (.getfield 19, 3) := by decide +kernel
theorem dX2_macFill_4 : decode cX2_macFill 4 = .ok (.getfield 63, 3) := by decide +kernel
theorem dX2_macFill_7 : decode cX2_macFill 7 = .ok (.ifCond .eq 14, 3) := by decide +kernel
theorem dX2_macFill_10 : decode cX2_macFill 10 = .ok (.iload_n 1, 1) := by decide +kernel
theorem dX2_macFill_11 : decode cX2_macFill 11 = .ok (.ifCond .lt 10, 3) := by decide +kernel
theorem dX2_macFill_14 : decode cX2_macFill 14 = .ok (.iload_n 1, 1) := by decide +kernel
theorem dX2_macFill_15 : decode cX2_macFill 15 = .ok (.sipush 10000, 3) := by decide +kernel
theorem dX2_macFill_18 : decode cX2_macFill 18 = .ok (.if_icmp .le 5, 3) := by decide +kernel
theorem dX2_macFill_21 : decode cX2_macFill 21 = .ok (.iconst 0, 1) := by decide +kernel
theorem dX2_macFill_22 : decode cX2_macFill 22 = .ok (.ireturn, 1) := by decide +kernel
theorem dX2_macFill_23 : decode cX2_macFill 23 = .ok (.iload_n 2, 1) := by decide +kernel
theorem dX2_macFill_24 : decode cX2_macFill 24 = .ok (.istore 4, 2) := by decide +kernel
theorem dX2_macFill_26 : decode cX2_macFill 26 = .ok (.iconst 0, 1) := by decide +kernel
theorem dX2_macFill_27 : decode cX2_macFill 27 = .ok (.istore 5, 2) := by decide +kernel
theorem dX2_macFill_29 : decode cX2_macFill 29 = .ok (.iload 5, 2) := by decide +kernel
theorem dX2_macFill_31 : decode cX2_macFill 31 = .ok (.iload_n 1, 1) := by decide +kernel
theorem dX2_macFill_32 : decode cX2_macFill 32 = .ok (.if_icmp .ge 32, 3) := by decide +kernel
theorem dX2_macFill_35 : decode cX2_macFill 35 = .ok (.aload_n 0, 1) := by decide +kernel
theorem dX2_macFill_36 : decode cX2_macFill 36 = .ok (.getfield 19, 3) := by decide +kernel
theorem dX2_macFill_39 : decode cX2_macFill 39 = .ok (.iload 4, 2) := by decide +kernel
theorem dX2_macFill_41 : decode cX2_macFill 41 = .ok (.sipush 255, 3) := by decide +kernel
theorem dX2_macFill_44 : decode cX2_macFill 44 = .ok (.iand, 1) := by decide +kernel
theorem dX2_macFill_45 : decode cX2_macFill 45 = .ok (.aload_n 0, 1) := by decide +kernel
theorem dX2_macFill_46 : decode cX2_macFill 46 = .ok (.getfield 12, 3) := by decide +kernel
theorem dX2_macFill_49 : decode cX2_macFill 49 = .ok (.invokevirtual 66, 3) := by decide +kernel
theorem dX2_macFill_52 : decode cX2_macFill 52 = .ok (.iload 4, 2) := by decide +kernel
theorem dX2_macFill_54 : decode cX2_macFill 54 = .ok (.iload_n 3, 1) := by decide +kernel
theorem dX2_macFill_55 : decode cX2_macFill 55 = .ok (.iadd, 1) := by decide +kernel
theorem dX2_macFill_56 : decode cX2_macFill 56 = .ok (.istore 4, 2) := by decide +kernel
theorem dX2_macFill_58 : decode cX2_macFill 58 = .ok (.iinc 5 1, 3) := by decide +kernel
theorem dX2_macFill_61 : decode cX2_macFill 61 = .ok (.goto (-32), 3) := by decide +kernel
theorem dX2_macFill_64 : decode cX2_macFill 64 = .ok (.iconst 1, 1) := by decide +kernel
theorem dX2_macFill_65 : decode cX2_macFill 65 = .ok (.ireturn, 1) := by decide +kernel
theorem dX2_macFinish_0 : decode cX2_macFinish 0 = .ok (.aload_n 0, 1) := by decide +kernel
theorem dX2_macFinish_1 : decode cX2_macFinish 1 = .ok (.getfield 19, 3) := by decide +kernel
theorem dX2_macFinish_4 : decode cX2_macFinish 4 = .ok (.getfield 63, 3) := by decide +kernel
theorem dX2_macFinish_7 : decode cX2_macFinish 7 = .ok (.ifCond .ne 5, 3) := by decide +kernel
theorem dX2_macFinish_10 : decode cX2_macFinish 10 = .ok (.iconst 0, 1) := by decide +kernel
theorem dX2_macFinish_11 : decode cX2_macFinish 11 = .ok (.ireturn, 1) := by decide +kernel
theorem dX2_macFinish_12 : decode cX2_macFinish 12 = .ok (.aload_n 0, 1) := by decide +kernel
theorem dX2_macFinish_13 : decode cX2_macFinish 13 = .ok (.getfield 19, 3) := by decide +kernel
theorem dX2_macFinish_16 : decode cX2_macFinish 16 = .ok (.aload_n 0, 1) := by decide +kernel
theorem dX2_macFinish_17 : decode cX2_macFinish 17 = .ok (.getfield 12, 3) := by decide +kernel
theorem dX2_macFinish_20 : decode cX2_macFinish 20 = .ok (.invokevirtual 70, 3) := by decide +kernel
theorem dX2_macFinish_23 : decode cX2_macFinish 23 = .ok (.iconst 1, 1) := by decide +kernel
theorem dX2_macFinish_24 : decode cX2_macFinish 24 = .ok (.ireturn, 1) := by decide +kernel
theorem dX2_tagByte_0 : decode cX2_tagByte 0 = .ok (.aload_n 0, 1) := by decide +kernel
theorem dX2_tagByte_1 : decode cX2_tagByte 1 = .ok (.getfield 19, 3) := by decide +kernel
theorem dX2_tagByte_4 : decode cX2_tagByte 4 = .ok (.getfield 74, 3) := by decide +kernel
theorem dX2_tagByte_7 : decode cX2_tagByte 7 = .ok (.ifCond .eq 22, 3) := by decide +kernel
theorem dX2_tagByte_10 : decode cX2_tagByte 10 = .ok (.iload_n 1, 1) := by decide +kernel
theorem dX2_tagByte_11 : decode cX2_tagByte 11 = .ok (.invokestatic 43, 3) := by decide +kernel
theorem dX2_tagByte_14 : decode cX2_tagByte 14 = .ok (.ifCond .eq 15, 3) := by decide +kernel
theorem dX2_tagByte_17 : decode cX2_tagByte 17 = .ok (.aload_n 0, 1) := by decide +kernel
theorem dX2_tagByte_18 : decode cX2_tagByte 18 = .ok (.getfield 19, 3) := by decide +kernel
theorem dX2_tagByte_21 : decode cX2_tagByte 21 = .ok (.getfield 77, 3) := by decide +kernel
theorem dX2_tagByte_24 : decode cX2_tagByte 24 = .ok (.iload_n 1, 1) := by decide +kernel
theorem dX2_tagByte_25 : decode cX2_tagByte 25 = .ok (.iaload, 1) := by decide +kernel
theorem dX2_tagByte_26 : decode cX2_tagByte 26 = .ok (.goto 4, 3) := by decide +kernel
theorem dX2_tagByte_29 : decode cX2_tagByte 29 = .ok (.iconst (-1), 1) := by decide +kernel
theorem dX2_tagByte_30 : decode cX2_tagByte 30 = .ok (.ireturn, 1) := by decide +kernel
theorem dX2_macCheck_0 : decode cX2_macCheck 0 = .ok (.aload_n 0, 1) := by decide +kernel
theorem dX2_macCheck_1 : decode cX2_macCheck 1 = .ok (.getfield 19, 3) := by decide +kernel
theorem dX2_macCheck_4 : decode cX2_macCheck 4 = .ok (.getfield 74, 3) := by decide +kernel
theorem dX2_macCheck_7 : decode cX2_macCheck 7 = .ok (.ifCond .eq 10, 3) := by decide +kernel
theorem dX2_macCheck_10 : decode cX2_macCheck 10 = .ok (.iload_n 1, 1) := by decide +kernel
theorem dX2_macCheck_11 : decode cX2_macCheck 11 = .ok (.invokestatic 43, 3) := by decide +kernel
theorem dX2_macCheck_14 : decode cX2_macCheck 14 = .ok (.ifCond .ne 5, 3) := by decide +kernel
theorem dX2_macCheck_17 : decode cX2_macCheck 17 = .ok (.iconst 0, 1) := by decide +kernel
theorem dX2_macCheck_18 : decode cX2_macCheck 18 = .ok (.ireturn, 1) := by decide +kernel
theorem dX2_macCheck_19 : decode cX2_macCheck 19 = .ok (.aload_n 0, 1) := by decide +kernel
theorem dX2_macCheck_20 : decode cX2_macCheck 20 = .ok (.getfield 19, 3) := by decide +kernel
theorem dX2_macCheck_23 : decode cX2_macCheck 23 = .ok (.iload_n 1, 1) := by decide +kernel
theorem dX2_macCheck_24 : decode cX2_macCheck 24 = .ok (.iload_n 2, 1) := by decide +kernel
theorem dX2_macCheck_25 : decode cX2_macCheck 25 = .ok (.invokevirtual 80, 3) := by decide +kernel
theorem dX2_macCheck_28 : decode cX2_macCheck 28 = .ok (.iconst 1, 1) := by decide +kernel
theorem dX2_macCheck_29 : decode cX2_macCheck 29 = .ok (.ireturn, 1) := by decide +kernel
theorem dX2_macVerdict_0 : decode cX2_macVerdict 0 = .ok (.aload_n 0, 1) := by decide +kernel
theorem dX2_macVerdict_1 : decode cX2_macVerdict 1 = .ok (.getfield 19, 3) := by decide +kernel
theorem dX2_macVerdict_4 : decode cX2_macVerdict 4 = .ok (.getfield 74, 3) := by decide +kernel
theorem dX2_macVerdict_7 : decode cX2_macVerdict 7 = .ok (.ifCond .eq 29, 3) := by decide +kernel
theorem dX2_macVerdict_10 : decode cX2_macVerdict 10 = .ok (.aload_n 0, 1) := by decide +kernel
theorem dX2_macVerdict_11 : decode cX2_macVerdict 11 = .ok (.getfield 19, 3) := by decide +kernel
theorem dX2_macVerdict_14 : decode cX2_macVerdict 14 = .ok (.getfield 83, 3) := by decide +kernel
theorem dX2_macVerdict_17 : decode cX2_macVerdict 17 = .ok (.ldc 87, 2) := by decide +kernel
theorem dX2_macVerdict_19 : decode cX2_macVerdict 19 = .ok (.if_icmp .ne 17, 3) := by decide +kernel
theorem dX2_macVerdict_22 : decode cX2_macVerdict 22 = .ok (.aload_n 0, 1) := by decide +kernel
theorem dX2_macVerdict_23 : decode cX2_macVerdict 23 = .ok (.getfield 19, 3) := by decide +kernel
theorem dX2_macVerdict_26 : decode cX2_macVerdict 26 = .ok (.getfield 88, 3) := by decide +kernel
theorem dX2_macVerdict_29 : decode cX2_macVerdict 29 = .ok (.ifCond .ne 7, 3) := by decide +kernel
theorem dX2_macVerdict_32 : decode cX2_macVerdict 32 = .ok (.iconst 1, 1) := by decide +kernel
theorem dX2_macVerdict_33 : decode cX2_macVerdict 33 = .ok (.goto 4, 3) := by decide +kernel
theorem dX2_macVerdict_36 : decode cX2_macVerdict 36 = .ok (.iconst 0, 1) := by decide +kernel
theorem dX2_macVerdict_37 : decode cX2_macVerdict 37 = .ok (.ireturn, 1) := by decide +kernel
theorem dX2_setBlockByte_0 : decode cX2_setBlockByte 0 = .ok (.aload_n 0, 1) := by decide +kernel
theorem dX2_setBlockByte_1 : decode cX2_setBlockByte 1 = .ok (.getfield 33, 3) := by decide +kernel
theorem dX2_setBlockByte_4 : decode cX2_setBlockByte 4 = .ok (.ifCond .eq 17, 3) := by decide +kernel
theorem dX2_setBlockByte_7 : decode cX2_setBlockByte 7 = .ok (.iload_n 1, 1) := by decide +kernel
theorem dX2_setBlockByte_8 : decode cX2_setBlockByte 8 = .ok (.invokestatic 43, 3) := by decide +kernel
theorem dX2_setBlockByte_11 : decode cX2_setBlockByte 11 = .ok (.ifCond .eq 10, 3) := by decide +kernel
theorem dX2_setBlockByte_14 : decode cX2_setBlockByte 14 = .ok (.iload_n 2, 1) := by decide +kernel
theorem dX2_setBlockByte_15 : decode cX2_setBlockByte 15 = .ok (.invokestatic 47, 3) := by decide +kernel
theorem dX2_setBlockByte_18 : decode cX2_setBlockByte 18 = .ok (.ifCond .ne 5, 3) := by decide +kernel
theorem dX2_setBlockByte_21 : decode cX2_setBlockByte 21 = .ok (.iconst 0, 1) := by decide +kernel
theorem dX2_setBlockByte_22 : decode cX2_setBlockByte 22 = .ok (.ireturn, 1) := by decide +kernel
theorem dX2_setBlockByte_23 : decode cX2_setBlockByte 23 = .ok (.aload_n 0, 1) := by decide +kernel
theorem dX2_setBlockByte_24 : decode cX2_setBlockByte 24 = .ok (.getfield 23, 3) := by decide +kernel
theorem dX2_setBlockByte_27 : decode cX2_setBlockByte 27 = .ok (.iload_n 1, 1) := by decide +kernel
theorem dX2_setBlockByte_28 : decode cX2_setBlockByte 28 = .ok (.iload_n 2, 1) := by decide +kernel
theorem dX2_setBlockByte_29 : decode cX2_setBlockByte 29 = .ok (.iastore, 1) := by decide +kernel
theorem dX2_setBlockByte_30 : decode cX2_setBlockByte 30 = .ok (.iconst 1, 1) := by decide +kernel
theorem dX2_setBlockByte_31 : decode cX2_setBlockByte 31 = .ok (.ireturn, 1) := by decide +kernel
theorem dX2_encryptBlock_0 : decode cX2_encryptBlock 0 = .ok (.aload_n 0, 1) := by decide +kernel
theorem dX2_encryptBlock_1 : decode cX2_encryptBlock 1 = .ok (.getfield 12, 3) := by decide +kernel
theorem dX2_encryptBlock_4 : decode cX2_encryptBlock 4 = .ok (.getfield 57, 3) := by decide +kernel
theorem dX2_encryptBlock_7 : decode cX2_encryptBlock 7 = .ok (.ifCond .ne 5, 3) := by decide +kernel
theorem dX2_encryptBlock_10 : decode cX2_encryptBlock 10 = .ok (.iconst 0, 1) := by decide +kernel
theorem dX2_encryptBlock_11 : decode cX2_encryptBlock 11 = .ok (.ireturn, 1) := by decide +kernel
theorem dX2_encryptBlock_12 : decode cX2_encryptBlock 12 = .ok (.aload_n 0, 1) := by decide +kernel
theorem dX2_encryptBlock_13 : decode cX2_encryptBlock 13 = .ok (.getfield 12, 3) := by decide +kernel
theorem dX2_encryptBlock_16 : decode cX2_encryptBlock 16 = .ok (.aload_n 0, 1) := by decide +kernel
theorem dX2_encryptBlock_17 : decode cX2_encryptBlock 17 = .ok (.getfield 23, 3) := by decide +kernel
theorem dX2_encryptBlock_20 : decode cX2_encryptBlock 20 = .ok (.invokevirtual 91, 3) := by decide +kernel
theorem dX2_encryptBlock_23 : decode cX2_encryptBlock 23 = .ok (.iconst 1, 1) := by decide +kernel
theorem dX2_encryptBlock_24 : decode cX2_encryptBlock 24 = .ok (.ireturn, 1) := by decide +kernel
theorem dX2_decryptBlock_0 : decode cX2_decryptBlock 0 = .ok (.aload_n 0, 1) := by decide +kernel
theorem dX2_decryptBlock_1 : decode cX2_decryptBlock 1 = .ok (.getfield 12, 3) := by decide +kernel
theorem dX2_decryptBlock_4 : decode cX2_decryptBlock 4 = .ok (.getfield 57, 3) := by decide +kernel
theorem dX2_decryptBlock_7 : decode cX2_decryptBlock 7 = .ok (.ifCond .ne 5, 3) := by decide +kernel
theorem dX2_decryptBlock_10 : decode cX2_decryptBlock 10 = .ok (.iconst 0, 1) := by decide +kernel
theorem dX2_decryptBlock_11 : decode cX2_decryptBlock 11 = .ok (.ireturn, 1) := by decide +kernel
theorem dX2_decryptBlock_12 : decode cX2_decryptBlock 12 = .ok (.aload_n 0, 1) := by decide +kernel
theorem dX2_decryptBlock_13 : decode cX2_decryptBlock 13 = .ok (.getfield 12, 3) := by decide +kernel
theorem dX2_decryptBlock_16 : decode cX2_decryptBlock 16 = .ok (.aload_n 0, 1) := by decide +kernel
theorem dX2_decryptBlock_17 : decode cX2_decryptBlock 17 = .ok (.getfield 23, 3) := by decide +kernel
theorem dX2_decryptBlock_20 : decode cX2_decryptBlock 20 = .ok (.invokevirtual 95, 3) := by decide +kernel
theorem dX2_decryptBlock_23 : decode cX2_decryptBlock 23 = .ok (.iconst 1, 1) := by decide +kernel
theorem dX2_decryptBlock_24 : decode cX2_decryptBlock 24 = .ok (.ireturn, 1) := by decide +kernel
theorem dX2_chain_0 : decode cX2_chain 0 = .ok (.aload_n 0, 1) := by decide +kernel
theorem dX2_chain_1 : decode cX2_chain 1 = .ok (.getfield 12, 3) := by decide +kernel
theorem dX2_chain_4 : decode cX2_chain 4 = .ok (.getfield 57, 3) := by decide +kernel
theorem dX2_chain_7 : decode cX2_chain 7 = .ok (.ifCond .ne 5, 3) := by decide +kernel
theorem dX2_chain_10 : decode cX2_chain 10 = .ok (.iconst 0, 1) := by decide +kernel
theorem dX2_chain_11 : decode cX2_chain 11 = .ok (.ireturn, 1) := by decide +kernel
theorem dX2_chain_12 : decode cX2_chain 12 = .ok (.iload_n 1, 1) := by decide +kernel
theorem dX2_chain_13 : decode cX2_chain 13 = .ok (.ifCond .eq 10, 3) := by decide +kernel
theorem dX2_chain_16 : decode cX2_chain 16 = .ok (.aload_n 0, 1) := by decide +kernel
theorem dX2_chain_17 : decode cX2_chain 17 = .ok (.invokevirtual 98, 3) := by decide +kernel
theorem dX2_chain_20 : decode cX2_chain 20 = .ok (.goto 7, 3) := by decide +kernel
theorem dX2_chain_23 : decode cX2_chain 23 = .ok (.aload_n 0, 1) := by decide +kernel
theorem dX2_chain_24 : decode cX2_chain 24 = .ok (.invokevirtual 101, 3) := by decide +kernel
theorem dX2_chain_27 : decode cX2_chain 27 = .ok (.iconst 1, 1) := by decide +kernel
theorem dX2_chain_28 : decode cX2_chain 28 = .ok (.ireturn, 1) := by decide +kernel
theorem dX2_unchain_0 : decode cX2_unchain 0 = .ok (.aload_n 0, 1) := by decide +kernel
theorem dX2_unchain_1 : decode cX2_unchain 1 = .ok (.getfield 33, 3) := by decide +kernel
theorem dX2_unchain_4 : decode cX2_unchain 4 = .ok (.ifCond .ne 5, 3) := by decide +kernel
theorem dX2_unchain_7 : decode cX2_unchain 7 = .ok (.iconst 0, 1) := by decide +kernel
theorem dX2_unchain_8 : decode cX2_unchain 8 = .ok (.ireturn, 1) := by decide +kernel
theorem dX2_unchain_9 : decode cX2_unchain 9 = .ok (.aload_n 0, 1) := by decide +kernel
theorem dX2_unchain_10 : decode cX2_unchain 10 = .ok (.getfield 27, 3) := by decide +kernel
theorem dX2_unchain_13 : decode cX2_unchain 13 = .ok (.iconst 0, 1) := by decide +kernel
theorem dX2_unchain_14 : decode cX2_unchain 14 = .ok (.invokestatic 104, 3) := by decide +kernel
theorem dX2_unchain_17 : decode cX2_unchain 17 = .ok (.iconst 1, 1) := by decide +kernel
theorem dX2_unchain_18 : decode cX2_unchain 18 = .ok (.ireturn, 1) := by decide +kernel
end
section
theorem dX2_blockByte_0 : decode cX2_blockByte 0 = .ok (.aload_n 0, 1) := by decide +kernel
theorem dX2_blockByte_1 : decode cX2_blockByte 1 = .ok (.getfield 33, 3) := by decide +kernel
theorem dX2_blockByte_4 : decode cX2_blockByte 4 = .ok (.ifCond .eq 19, 3) := by decide +kernel
theorem dX2_blockByte_7 : decode cX2_blockByte 7 = .ok (.iload_n 1, 1) := by decide +kernel
theorem dX2_blockByte_8 : decode cX2_blockByte 8 = .ok (.invokestatic 43, 3) := by decide +kernel
theorem dX2_blockByte_11 : decode cX2_blockByte 11 = .ok (.ifCond .eq 12, 3) := by decide +kernel
theorem dX2_blockByte_14 : decode cX2_blockByte 14 = .ok (.aload_n 0, 1) := by decide +kernel
theorem dX2_blockByte_15 : decode cX2_blockByte 15 = .ok (.getfield 23, 3) := by decide +kernel
theorem dX2_blockByte_18 : decode cX2_blockByte 18 = .ok (.iload_n 1, 1) := by decide +kernel
theorem dX2_blockByte_19 : decode cX2_blockByte 19 = .ok (.iaload, 1) := by decide +kernel
theorem dX2_blockByte_20 : decode cX2_blockByte 20 = .ok (.goto 4, 3) := by decide +kernel
theorem dX2_blockByte_23 : decode cX2_blockByte 23 = .ok (.iconst (-1), 1) := by decide +kernel
theorem dX2_blockByte_24 : decode cX2_blockByte 24 = .ok (.ireturn, 1) := by decide +kernel
theorem dX2_half_0 : decode cX2_half 0 = .ok (.aload_n 0, 1) := by decide +kernel
theorem dX2_half_1 : decode cX2_half 1 = .ok (.getfield 12, 3) := by decide +kernel
theorem dX2_half_4 : decode cX2_half 4 = .ok (.getfield 57, 3) := by decide +kernel
theorem dX2_half_7 : decode cX2_half 7 = .ok (.ifCond .eq 10, 3) := by decide +kernel
theorem dX2_half_10 : decode cX2_half 10 = .ok (.iload_n 2, 1) := by decide +kernel
theorem dX2_half_11 : decode cX2_half 11 = .ok (.invokestatic 43, 3) := by decide +kernel
theorem dX2_half_14 : decode cX2_half 14 = .ok (.ifCond .ne 5, 3) := by decide +kernel
theorem dX2_half_17 : decode cX2_half 17 = .ok (.iconst (-1), 1) := by decide +kernel
theorem dX2_half_18 : decode cX2_half 18 = .ok (.ireturn, 1) := by decide +kernel
theorem dX2_half_19 : decode cX2_half 19 = .ok (.iload_n 1, 1) := by decide +kernel
theorem dX2_half_20 : decode cX2_half 20 = .ok (.ifCond .ne 13, 3) := by decide +kernel
theorem dX2_half_23 : decode cX2_half 23 = .ok (.aload_n 0, 1) := by decide +kernel
theorem dX2_half_24 : decode cX2_half 24 = .ok (.getfield 12, 3) := by decide +kernel
theorem dX2_half_27 : decode cX2_half 27 = .ok (.getfield 110, 3) := by decide +kernel
theorem dX2_half_30 : decode cX2_half 30 = .ok (.iload_n 2, 1) := by decide +kernel
theorem dX2_half_31 : decode cX2_half 31 = .ok (.iaload, 1) := by decide +kernel
theorem dX2_half_32 : decode cX2_half 32 = .ok (.ireturn, 1) := by decide +kernel
theorem dX2_half_33 : decode cX2_half 33 = .ok (.iload_n 1, 1) := by decide +kernel
theorem dX2_half_34 : decode cX2_half 34 = .ok (.iconst 1, 1) := by decide +kernel
theorem dX2_half_35 : decode cX2_half 35 = .ok (.if_icmp .ne 15, 3) := by decide +kernel
theorem dX2_half_38 : decode cX2_half 38 = .ok (.aload_n 0, 1) := by decide +kernel
theorem dX2_half_39 : decode cX2_half 39 = .ok (.getfield 12, 3) := by decide +kernel
theorem dX2_half_42 : decode cX2_half 42 = .ok (.getfield 113, 3) := by decide +kernel
theorem dX2_half_45 : decode cX2_half 45 = .ok (.iload_n 2, 1) := by decide +kernel
theorem dX2_half_46 : decode cX2_half 46 = .ok (.iaload, 1) := by decide +kernel
theorem dX2_half_47 : decode cX2_half 47 = .ok (.goto 4, 3) := by decide +kernel
theorem dX2_half_50 : decode cX2_half 50 = .ok (.iconst (-1), 1) := by decide +kernel
theorem dX2_half_51 : decode cX2_half 51 = .ok (.ireturn, 1) := by decide +kernel
theorem dX2_chainForth_0 : decode cX2_chainForth 0 = .ok (.aload_n 0, 1) := by decide +kernel
theorem dX2_chainForth_1 : decode cX2_chainForth 1 = .ok (.getfield 23, 3) := by decide +kernel
theorem dX2_chainForth_4 : decode cX2_chainForth 4 = .ok (.aload_n 0, 1) := by decide +kernel
theorem dX2_chainForth_5 : decode cX2_chainForth 5 = .ok (.getfield 27, 3) := by decide +kernel
theorem dX2_chainForth_8 : decode cX2_chainForth 8 = .ok (.iconst 0, 1) := by decide +kernel
theorem dX2_chainForth_9 : decode cX2_chainForth 9 = .ok (.invokestatic 116, 3) := by decide +kernel
theorem dX2_chainForth_12 : decode cX2_chainForth 12 = .ok (.aload_n 0, 1) := by decide +kernel
theorem dX2_chainForth_13 : decode cX2_chainForth 13 = .ok (.getfield 12, 3) := by decide +kernel
theorem dX2_chainForth_16 : decode cX2_chainForth 16 = .ok (.aload_n 0, 1) := by decide +kernel
theorem dX2_chainForth_17 : decode cX2_chainForth 17 = .ok (.getfield 23, 3) := by decide +kernel
theorem dX2_chainForth_20 : decode cX2_chainForth 20 = .ok (.invokevirtual 91, 3) := by decide +kernel
theorem dX2_chainForth_23 : decode cX2_chainForth 23 = .ok (.aload_n 0, 1) := by decide +kernel
theorem dX2_chainForth_24 : decode cX2_chainForth 24 = .ok (.getfield 23, 3) := by decide +kernel
theorem dX2_chainForth_27 : decode cX2_chainForth 27 = .ok (.iconst 0, 1) := by decide +kernel
theorem dX2_chainForth_28 : decode cX2_chainForth 28 = .ok (.aload_n 0, 1) := by decide +kernel
theorem dX2_chainForth_29 : decode cX2_chainForth 29 = .ok (.getfield 27, 3) := by decide +kernel
theorem dX2_chainForth_32 : decode cX2_chainForth 32 = .ok (.iconst 0, 1) := by decide +kernel
theorem dX2_chainForth_33 : decode cX2_chainForth 33 = .ok (.bipush 16, 2) := by decide +kernel
theorem dX2_chainForth_35 : decode cX2_chainForth 35 = .ok (.invokestatic 120, 3) := by decide +kernel
theorem dX2_chainForth_38 : decode cX2_chainForth 38 = .ok (.return_, 1) := by decide +kernel
theorem dX2_chainBack_0 : decode cX2_chainBack 0 = .ok (.aload_n 0, 1) := by decide +kernel
theorem dX2_chainBack_1 : decode cX2_chainBack 1 = .ok (.getfield 23, 3) := by decide +kernel
theorem dX2_chainBack_4 : decode cX2_chainBack 4 = .ok (.iconst 0, 1) := by decide +kernel
theorem dX2_chainBack_5 : decode cX2_chainBack 5 = .ok (.aload_n 0, 1) := by decide +kernel
theorem dX2_chainBack_6 : decode cX2_chainBack 6 = .ok (.getfield 30, 3) := by decide +kernel
theorem dX2_chainBack_9 : decode cX2_chainBack 9 = .ok (.iconst 0, 1) := by decide +kernel
theorem dX2_chainBack_10 : decode cX2_chainBack 10 = .ok (.bipush 16, 2) := by decide +kernel
theorem dX2_chainBack_12 : decode cX2_chainBack 12 = .ok (.invokestatic 120, 3) := by decide +kernel
theorem dX2_chainBack_15 : decode cX2_chainBack 15 = .ok (.aload_n 0, 1) := by decide +kernel
theorem dX2_chainBack_16 : decode cX2_chainBack 16 = .ok (.getfield 12, 3) := by decide +kernel
theorem dX2_chainBack_19 : decode cX2_chainBack 19 = .ok (.aload_n 0, 1) := by decide +kernel
theorem dX2_chainBack_20 : decode cX2_chainBack 20 = .ok (.getfield 23, 3) := by decide +kernel
theorem dX2_chainBack_23 : decode cX2_chainBack 23 = .ok (.invokevirtual 95, 3) := by decide +kernel
theorem dX2_chainBack_26 : decode cX2_chainBack 26 = .ok (.aload_n 0, 1) := by decide +kernel
theorem dX2_chainBack_27 : decode cX2_chainBack 27 = .ok (.getfield 23, 3) := by decide +kernel
theorem dX2_chainBack_30 : decode cX2_chainBack 30 = .ok (.aload_n 0, 1) := by decide +kernel
theorem dX2_chainBack_31 : decode cX2_chainBack 31 = .ok (.getfield 27, 3) := by decide +kernel
theorem dX2_chainBack_34 : decode cX2_chainBack 34 = .ok (.iconst 0, 1) := by decide +kernel
theorem dX2_chainBack_35 : decode cX2_chainBack 35 = .ok (.invokestatic 116, 3) := by decide +kernel
theorem dX2_chainBack_38 : decode cX2_chainBack 38 = .ok (.aload_n 0, 1) := by decide +kernel
theorem dX2_chainBack_39 : decode cX2_chainBack 39 = .ok (.getfield 30, 3) := by decide +kernel
theorem dX2_chainBack_42 : decode cX2_chainBack 42 = .ok (.iconst 0, 1) := by decide +kernel
theorem dX2_chainBack_43 : decode cX2_chainBack 43 = .ok (.aload_n 0, 1) := by decide +kernel
theorem dX2_chainBack_44 : decode cX2_chainBack 44 = .ok (.getfield 27, 3) := by decide +kernel
theorem dX2_chainBack_47 : decode cX2_chainBack 47 = .ok (.iconst 0, 1) := by decide +kernel
theorem dX2_chainBack_48 : decode cX2_chainBack 48 = .ok (.bipush 16, 2) := by decide +kernel
theorem dX2_chainBack_50 : decode cX2_chainBack 50 = .ok (.invokestatic 120, 3) := by decide +kernel
theorem dX2_chainBack_53 : decode cX2_chainBack 53 = .ok (.return_, 1) := by decide +kernel
theorem dX2_isPlace_0 : decode cX2_isPlace 0 = .ok (.iload_n 0, 1) := by decide +kernel
theorem dX2_isPlace_1 : decode cX2_isPlace 1 = .ok (.ifCond .lt 13, 3) := by decide +kernel
theorem dX2_isPlace_4 : decode cX2_isPlace 4 = .ok (.iload_n 0, 1) := by decide +kernel
theorem dX2_isPlace_5 : decode cX2_isPlace 5 = .ok (.bipush 16, 2) := by decide +kernel
theorem dX2_isPlace_7 : decode cX2_isPlace 7 = .ok (.if_icmp .ge 7, 3) := by decide +kernel
theorem dX2_isPlace_10 : decode cX2_isPlace 10 = .ok (.iconst 1, 1) := by decide +kernel
theorem dX2_isPlace_11 : decode cX2_isPlace 11 = .ok (.goto 4, 3) := by decide +kernel
theorem dX2_isPlace_14 : decode cX2_isPlace 14 = .ok (.iconst 0, 1) := by decide +kernel
theorem dX2_isPlace_15 : decode cX2_isPlace 15 = .ok (.ireturn, 1) := by decide +kernel
theorem dX2_isByte_0 : decode cX2_isByte 0 = .ok (.iload_n 0, 1) := by decide +kernel
theorem dX2_isByte_1 : decode cX2_isByte 1 = .ok (.ifCond .lt 14, 3) := by decide +kernel
theorem dX2_isByte_4 : decode cX2_isByte 4 = .ok (.iload_n 0, 1) := by decide +kernel
theorem dX2_isByte_5 : decode cX2_isByte 5 = .ok (.sipush 255, 3) := by decide +kernel
theorem dX2_isByte_8 : decode cX2_isByte 8 = .ok (.if_icmp .gt 7, 3) := by decide +kernel
theorem dX2_isByte_11 : decode cX2_isByte 11 = .ok (.iconst 1, 1) := by decide +kernel
theorem dX2_isByte_12 : decode cX2_isByte 12 = .ok (.goto 4, 3) := by decide +kernel
theorem dX2_isByte_15 : decode cX2_isByte 15 = .ok (.iconst 0, 1) := by decide +kernel
theorem dX2_isByte_16 : decode cX2_isByte 16 = .ok (.ireturn, 1) := by decide +kernel
theorem dX2_xor_0 : decode cX2_xor 0 = .ok (.iconst 0, 1) := by decide +kernel
theorem dX2_xor_1 : decode cX2_xor 1 = .ok (.istore_n 3, 1) := by decide +kernel
theorem dX2_xor_2 : decode cX2_xor 2 = .ok (.iload_n 3, 1) := by decide +kernel
theorem dX2_xor_3 : decode cX2_xor 3 = .ok (.bipush 16, 2) := by decide +kernel
theorem dX2_xor_5 : decode cX2_xor 5 = .ok (.if_icmp .ge 20, 3) := by decide +kernel
theorem dX2_xor_8 : decode cX2_xor 8 = .ok (.aload_n 0, 1) := by decide +kernel
theorem dX2_xor_9 : decode cX2_xor 9 = .ok (.iload_n 3, 1) := by decide +kernel
theorem dX2_xor_10 : decode cX2_xor 10 = .ok (.dup2, 1) := by decide +kernel
theorem dX2_xor_11 : decode cX2_xor 11 = .ok (.iaload, 1) := by decide +kernel
theorem dX2_xor_12 : decode cX2_xor 12 = .ok (.aload_n 1, 1) := by decide +kernel
theorem dX2_xor_13 : decode cX2_xor 13 = .ok (.iload_n 2, 1) := by decide +kernel
theorem dX2_xor_14 : decode cX2_xor 14 = .ok (.iload_n 3, 1) := by decide +kernel
theorem dX2_xor_15 : decode cX2_xor 15 = .ok (.iadd, 1) := by decide +kernel
theorem dX2_xor_16 : decode cX2_xor 16 = .ok (.iaload, 1) := by decide +kernel
theorem dX2_xor_17 : decode cX2_xor 17 = .ok (.ixor, 1) := by decide +kernel
theorem dX2_xor_18 : decode cX2_xor 18 = .ok (.iastore, 1) := by decide +kernel
theorem dX2_xor_19 : decode cX2_xor 19 = .ok (.iinc 3 1, 3) := by decide +kernel
theorem dX2_xor_22 : decode cX2_xor 22 = .ok (.goto (-20), 3) := by decide +kernel
theorem dX2_xor_25 : decode cX2_xor 25 = .ok (.return_, 1) := by decide +kernel
theorem dX3_init_0 : decode cX3_init 0 = .ok (.aload_n 0, 1) := by decide +kernel
theorem dX3_init_1 : decode cX3_init 1 = .ok (.invokespecial 1, 3) := by decide +kernel
theorem dX3_init_4 : decode cX3_init 4 = .ok (.aload_n 0, 1) := by decide +kernel
theorem dX3_init_5 : decode cX3_init 5 = .ok (.bipush 16, 2) := by decide +kernel
theorem dX3_init_7 : decode cX3_init 7 = .ok (.newarray .int, 2) := by decide +kernel
theorem dX3_init_9 : decode cX3_init 9 = .ok (.putfield 7, 3) := by decide +kernel
theorem dX3_init_12 : decode cX3_init 12 = .ok (.aload_n 0, 1) := by decide +kernel
theorem dX3_init_13 : decode cX3_init 13 = .ok (.bipush 16, 2) := by decide +kernel
theorem dX3_init_15 : decode cX3_init 15 = .ok (.newarray .int, 2) := by decide +kernel
theorem dX3_init_17 : decode cX3_init 17 = .ok (.putfield 13, 3) := by decide +kernel
theorem dX3_init_20 : decode cX3_init 20 = .ok (.aload_n 0, 1) := by decide +kernel
theorem dX3_init_21 : decode cX3_init 21 = .ok (.bipush 16, 2) := by decide +kernel
theorem dX3_init_23 : decode cX3_init 23 = .ok (.newarray .int, 2) := by decide +kernel
theorem dX3_init_25 : decode cX3_init 25 = .ok (.putfield 16, 3) := by decide +kernel
theorem dX3_init_28 : decode cX3_init 28 = .ok (.aload_n 0, 1) := by decide +kernel
theorem dX3_init_29 : decode cX3_init 29 = .ok (.sipush 256, 3) := by decide +kernel
theorem dX3_init_32 : decode cX3_init 32 = .ok (.newarray .int, 2) := by decide +kernel
theorem dX3_init_34 : decode cX3_init 34 = .ok (.putfield 19, 3) := by decide +kernel
theorem dX3_init_37 : decode cX3_init 37 = .ok (.aload_n 0, 1) := by decide +kernel
theorem dX3_init_38 : decode cX3_init 38 = .ok (.sipush 256, 3) := by decide +kernel
theorem dX3_init_41 : decode cX3_init 41 = .ok (.newarray .int, 2) := by decide +kernel
theorem dX3_init_43 : decode cX3_init 43 = .ok (.putfield 22, 3) := by decide +kernel
theorem dX3_init_46 : decode cX3_init 46 = .ok (.aload_n 0, 1) := by decide +kernel
theorem dX3_init_47 : decode cX3_init 47 = .ok (.sipush 176, 3) := by decide +kernel
theorem dX3_init_50 : decode cX3_init 50 = .ok (.newarray .int, 2) := by decide +kernel
theorem dX3_init_52 : decode cX3_init 52 = .ok (.putfield 25, 3) := by decide +kernel
theorem dX3_init_55 : decode cX3_init 55 = .ok (.aload_n 0, 1) := by decide +kernel
theorem dX3_init_56 : decode cX3_init 56 = .ok (.bipush 32, 2) := by decide +kernel
theorem dX3_init_58 : decode cX3_init 58 = .ok (.newarray .int, 2) := by decide +kernel
theorem dX3_init_60 : decode cX3_init 60 = .ok (.putfield 28, 3) := by decide +kernel
theorem dX3_init_63 : decode cX3_init 63 = .ok (.aload_n 0, 1) := by decide +kernel
theorem dX3_init_64 : decode cX3_init 64 = .ok (.bipush 16, 2) := by decide +kernel
theorem dX3_init_66 : decode cX3_init 66 = .ok (.newarray .int, 2) := by decide +kernel
theorem dX3_init_68 : decode cX3_init 68 = .ok (.putfield 31, 3) := by decide +kernel
theorem dX3_init_71 : decode cX3_init 71 = .ok (.aload_n 0, 1) := by decide +kernel
theorem dX3_init_72 : decode cX3_init 72 = .ok (.bipush 16, 2) := by decide +kernel
theorem dX3_init_74 : decode cX3_init 74 = .ok (.newarray .int, 2) := by decide +kernel
theorem dX3_init_76 : decode cX3_init 76 = .ok (.putfield 34, 3) := by decide +kernel
theorem dX3_init_79 : decode cX3_init 79 = .ok (.aload_n 0, 1) := by decide +kernel
theorem dX3_init_80 : decode cX3_init 80 = .ok (.bipush 16, 2) := by decide +kernel
theorem dX3_init_82 : decode cX3_init 82 = .ok (.newarray .int, 2) := by decide +kernel
theorem dX3_init_84 : decode cX3_init 84 = .ok (.putfield 37, 3) := by decide +kernel
theorem dX3_init_87 : decode cX3_init 87 = .ok (.aload_n 0, 1) := by decide +kernel
theorem dX3_init_88 : decode cX3_init 88 = .ok (.bipush 16, 2) := by decide +kernel
theorem dX3_init_90 : decode cX3_init 90 = .ok (.newarray .int, 2) := by decide +kernel
theorem dX3_init_92 : decode cX3_init 92 = .ok (.putfield 40, 3) := by decide +kernel
theorem dX3_init_95 : decode cX3_init 95 = .ok (.aload_n 0, 1) := by decide +kernel
theorem dX3_init_96 : decode cX3_init 96 = .ok (.bipush 16, 2) := by decide +kernel
theorem dX3_init_98 : decode cX3_init 98 = .ok (.newarray .boolean, 2) := by decide +kernel
theorem dX3_init_100 : decode cX3_init 100 = .ok (.putfield 43, 3) := by decide +kernel
theorem dX3_init_103 : decode cX3_init 103 = .ok (.iconst 0, 1) := by decide +kernel
theorem dX3_init_104 : decode cX3_init 104 = .ok (.istore_n 1, 1) := by decide +kernel
theorem dX3_init_105 : decode cX3_init 105 = .ok (.iload_n 1, 1) := by decide +kernel
theorem dX3_init_106 : decode cX3_init 106 = .ok (.sipush 256, 3) := by decide +kernel
theorem dX3_init_109 : decode cX3_init 109 = .ok (.if_icmp .ge 145, 3) := by decide +kernel
theorem dX3_init_112 : decode cX3_init 112 = .ok (.iconst 0, 1) := by decide +kernel
theorem dX3_init_113 : decode cX3_init 113 = .ok (.istore_n 2, 1) := by decide +kernel
theorem dX3_init_114 : decode cX3_init 114 = .ok (.iconst 1, 1) := by decide +kernel
theorem dX3_init_115 : decode cX3_init 115 = .ok (.istore_n 3, 1) := by decide +kernel
theorem dX3_init_116 : decode cX3_init 116 = .ok (.iload_n 3, 1) := by decide +kernel
theorem dX3_init_117 : decode cX3_init 117 = .ok (.sipush 256, 3) := by decide +kernel
theorem dX3_init_120 : decode cX3_init 120 = .ok (.if_icmp .ge 32, 3) := by decide +kernel
theorem dX3_init_123 : decode cX3_init 123 = .ok (.iload_n 2, 1) := by decide +kernel
theorem dX3_init_124 : decode cX3_init 124 = .ok (.ifCond .ne 28, 3) := by decide +kernel
theorem dX3_init_127 : decode cX3_init 127 = .ok (.iload_n 1, 1) := by decide +kernel
theorem dX3_init_128 : decode cX3_init 128 = .ok (.ifCond .le 16, 3) := by decide +kernel
theorem dX3_init_131 : decode cX3_init 131 = .ok (.iload_n 1, 1) := by decide +kernel
theorem dX3_init_132 : decode cX3_init 132 = .ok (.iload_n 3, 1) := by decide +kernel
theorem dX3_init_133 : decode cX3_init 133 = .ok (.invokestatic 47, 3) := by decide +kernel
theorem dX3_init_136 : decode cX3_init 136 = .ok (.iconst 1, 1) := by decide +kernel
theorem dX3_init_137 : decode cX3_init 137 = .ok (.if_icmp .ne 7, 3) := by decide +kernel
theorem dX3_init_140 : decode cX3_init 140 = .ok (.iload_n 3, 1) := by decide +kernel
theorem dX3_init_141 : decode cX3_init 141 = .ok (.goto 4, 3) := by decide +kernel
theorem dX3_init_144 : decode cX3_init 144 = .ok (.iconst 0, 1) := by decide +kernel
theorem dX3_init_145 : decode cX3_init 145 = .ok (.istore_n 2, 1) := by decide +kernel
theorem dX3_init_146 : decode cX3_init 146 = .ok (.iinc 3 1, 3) := by decide +kernel
theorem dX3_init_149 : decode cX3_init 149 = .ok (.goto (-33), 3) := by decide +kernel
theorem dX3_init_152 : decode cX3_init 152 = .ok (.iconst 0, 1) := by decide +kernel
theorem dX3_init_153 : decode cX3_init 153 = .ok (.istore_n 3, 1) := by decide +kernel
theorem dX3_init_154 : decode cX3_init 154 = .ok (.iconst 0, 1) := by decide +kernel
theorem dX3_init_155 : decode cX3_init 155 = .ok (.istore 4, 2) := by decide +kernel
theorem dX3_init_157 : decode cX3_init 157 = .ok (.iload 4, 2) := by decide +kernel
theorem dX3_init_159 : decode cX3_init 159 = .ok (.bipush 8, 2) := by decide +kernel
theorem dX3_init_161 : decode cX3_init 161 = .ok (.if_icmp .ge 73, 3) := by decide +kernel
theorem dX3_init_164 : decode cX3_init 164 = .ok (.iload_n 2, 1) := by decide +kernel
theorem dX3_init_165 : decode cX3_init 165 = .ok (.iload 4, 2) := by decide +kernel
theorem dX3_init_167 : decode cX3_init 167 = .ok (.ishr, 1) := by decide +kernel
theorem dX3_init_168 : decode cX3_init 168 = .ok (.iload_n 2, 1) := by decide +kernel
theorem dX3_init_169 : decode cX3_init 169 = .ok (.iload 4, 2) := by decide +kernel
theorem dX3_init_171 : decode cX3_init 171 = .ok (.iconst 4, 1) := by decide +kernel
theorem dX3_init_172 : decode cX3_init 172 = .ok (.iadd, 1) := by decide +kernel
theorem dX3_init_173 : decode cX3_init 173 = .ok (.bipush 8, 2) := by decide +kernel
theorem dX3_init_175 : decode cX3_init 175 = .ok (.irem, 1) := by decide +kernel
theorem dX3_init_176 : decode cX3_init 176 = .ok (.ishr, 1) := by decide +kernel
theorem dX3_init_177 : decode cX3_init 177 = .ok (.iadd, 1) := by decide +kernel
theorem dX3_init_178 : decode cX3_init 178 = .ok (.iload_n 2, 1) := by decide +kernel
theorem dX3_init_179 : decode cX3_init 179 = .ok (.iload 4, 2) := by decide +kernel
theorem dX3_init_181 : decode cX3_init 181 = .ok (.iconst 5, 1) := by decide +kernel
theorem dX3_init_182 : decode cX3_init 182 = .ok (.iadd, 1) := by decide +kernel
theorem dX3_init_183 : decode cX3_init 183 = .ok (.bipush 8, 2) := by decide +kernel
theorem dX3_init_185 : decode cX3_init 185 = .ok (.irem, 1) := by decide +kernel
theorem dX3_init_186 : decode cX3_init 186 = .ok (.ishr, 1) := by decide +kernel
theorem dX3_init_187 : decode cX3_init 187 = .ok (.iadd, 1) := by decide +kernel
theorem dX3_init_188 : decode cX3_init 188 = .ok (.iload_n 2, 1) := by decide +kernel
theorem dX3_init_189 : decode cX3_init 189 = .ok (.iload 4, 2) := by decide +kernel
theorem dX3_init_191 : decode cX3_init 191 = .ok (.bipush 6, 2) := by decide +kernel
theorem dX3_init_193 : decode cX3_init 193 = .ok (.iadd, 1) := by decide +kernel
theorem dX3_init_194 : decode cX3_init 194 = .ok (.bipush 8, 2) := by decide +kernel
theorem dX3_init_196 : decode cX3_init 196 = .ok (.irem, 1) := by decide +kernel
theorem dX3_init_197 : decode cX3_init 197 = .ok (.ishr, 1) := by decide +kernel
theorem dX3_init_198 : decode cX3_init 198 = .ok (.iadd, 1) := by decide +kernel
theorem dX3_init_199 : decode cX3_init 199 = .ok (.iload_n 2, 1) := by decide +kernel
theorem dX3_init_200 : decode cX3_init 200 = .ok (.iload 4, 2) := by decide +kernel
theorem dX3_init_202 : decode cX3_init 202 = .ok (.bipush 7, 2) := by decide +kernel
theorem dX3_init_204 : decode cX3_init 204 = .ok (.iadd, 1) := by decide +kernel
theorem dX3_init_205 : decode cX3_init 205 = .ok (.bipush 8, 2) := by decide +kernel
theorem dX3_init_207 : decode cX3_init 207 = .ok (.irem, 1) := by decide +kernel
theorem dX3_init_208 : decode cX3_init 208 = .ok (.ishr, 1) := by decide +kernel
theorem dX3_init_209 : decode cX3_init 209 = .ok (.iadd, 1) := by decide +kernel
theorem dX3_init_210 : decode cX3_init 210 = .ok (.bipush 99, 2) := by decide +kernel
theorem dX3_init_212 : decode cX3_init 212 = .ok (.iload 4, 2) := by decide +kernel
theorem dX3_init_214 : decode cX3_init 214 = .ok (.ishr, 1) := by decide +kernel
theorem dX3_init_215 : decode cX3_init 215 = .ok (.iadd, 1) := by decide +kernel
theorem dX3_init_216 : decode cX3_init 216 = .ok (.istore 5, 2) := by decide +kernel
theorem dX3_init_218 : decode cX3_init 218 = .ok (.iload_n 3, 1) := by decide +kernel
theorem dX3_init_219 : decode cX3_init 219 = .ok (.iload 5, 2) := by decide +kernel
theorem dX3_init_221 : decode cX3_init 221 = .ok (.iconst 2, 1) := by decide +kernel
theorem dX3_init_222 : decode cX3_init 222 = .ok (.irem, 1) := by decide +kernel
theorem dX3_init_223 : decode cX3_init 223 = .ok (.iload 4, 2) := by decide +kernel
theorem dX3_init_225 : decode cX3_init 225 = .ok (.ishl, 1) := by decide +kernel
theorem dX3_init_226 : decode cX3_init 226 = .ok (.iadd, 1) := by decide +kernel
theorem dX3_init_227 : decode cX3_init 227 = .ok (.istore_n 3, 1) := by decide +kernel
theorem dX3_init_228 : decode cX3_init 228 = .ok (.iinc 4 1, 3) := by decide +kernel
theorem dX3_init_231 : decode cX3_init 231 = .ok (.goto (-74), 3) := by decide +kernel
theorem dX3_init_234 : decode cX3_init 234 = .ok (.aload_n 0, 1) := by decide +kernel
theorem dX3_init_235 : decode cX3_init 235 = .ok (.getfield 19, 3) := by decide +kernel
theorem dX3_init_238 : decode cX3_init 238 = .ok (.iload_n 1, 1) := by decide +kernel
theorem dX3_init_239 : decode cX3_init 239 = .ok (.iload_n 3, 1) := by decide +kernel
theorem dX3_init_240 : decode cX3_init 240 = .ok (.iastore, 1) := by decide +kernel
theorem dX3_init_241 : decode cX3_init 241 = .ok (.aload_n 0, 1) := by decide +kernel
theorem dX3_init_242 : decode cX3_init 242 = .ok (.getfield 22, 3) := by decide +kernel
theorem dX3_init_245 : decode cX3_init 245 = .ok (.iload_n 3, 1) := by decide +kernel
theorem dX3_init_246 : decode cX3_init 246 = .ok (.iload_n 1, 1) := by decide +kernel
theorem dX3_init_247 : decode cX3_init 247 = .ok (.iastore, 1) := by decide +kernel
theorem dX3_init_248 : decode cX3_init 248 = .ok (.iinc 1 1, 3) := by decide +kernel
theorem dX3_init_251 : decode cX3_init 251 = .ok (.goto (-146), 3) := by decide +kernel
theorem dX3_init_254 : decode cX3_init 254 = .ok (.return_, 1) := by decide +kernel
theorem dX3_times_0 : decode cX3_times 0 = .ok (.iconst 0, 1) := by decide +kernel
theorem dX3_times_1 : decode cX3_times 1 = .ok (.istore_n 2, 1) := by decide +kernel
theorem dX3_times_2 : decode cX3_times 2 = .ok (.iload_n 0, 1) := by decide +kernel
theorem dX3_times_3 : decode cX3_times 3 = .ok (.istore_n 3, 1) := by decide +kernel
theorem dX3_times_4 : decode cX3_times 4 = .ok (.iconst 0, 1) := by decide +kernel
theorem dX3_times_5 : decode cX3_times 5 = .ok (.istore 4, 2) := by decide +kernel
theorem dX3_times_7 : decode cX3_times 7 = .ok (.iload 4, 2) := by decide +kernel
theorem dX3_times_9 : decode cX3_times 9 = .ok (.bipush 8, 2) := by decide +kernel
theorem dX3_times_11 : decode cX3_times 11 = .ok (.if_icmp .ge 51, 3) := by decide +kernel
theorem dX3_times_14 : decode cX3_times 14 = .ok (.iload_n 1, 1) := by decide +kernel
theorem dX3_times_15 : decode cX3_times 15 = .ok (.iload 4, 2) := by decide +kernel
theorem dX3_times_17 : decode cX3_times 17 = .ok (.ishr, 1) := by decide +kernel
theorem dX3_times_18 : decode cX3_times 18 = .ok (.iconst 1, 1) := by decide +kernel
theorem dX3_times_19 : decode cX3_times 19 = .ok (.iand, 1) := by decide +kernel
theorem dX3_times_20 : decode cX3_times 20 = .ok (.iconst 1, 1) := by decide +kernel
theorem dX3_times_21 : decode cX3_times 21 = .ok (.if_icmp .ne 9, 3) := by decide +kernel
theorem dX3_times_24 : decode cX3_times 24 = .ok (.iload_n 2, 1) := by decide +kernel
theorem dX3_times_25 : decode cX3_times 25 = .ok (.iload_n 3, 1) := by decide +kernel
theorem dX3_times_26 : decode cX3_times 26 = .ok (.ixor, 1) := by decide +kernel
theorem dX3_times_27 : decode cX3_times 27 = .ok (.goto 4, 3) := by decide +kernel
theorem dX3_times_30 : decode cX3_times 30 = .ok (.iload_n 2, 1) := by decide +kernel
theorem dX3_times_31 : decode cX3_times 31 = .ok (.istore_n 2, 1) := by decide +kernel
theorem dX3_times_32 : decode cX3_times 32 = .ok (.iload_n 3, 1) := by decide +kernel
theorem dX3_times_33 : decode cX3_times 33 = .ok (.sipush 128, 3) := by decide +kernel
theorem dX3_times_36 : decode cX3_times 36 = .ok (.if_icmp .ge 9, 3) := by decide +kernel
theorem dX3_times_39 : decode cX3_times 39 = .ok (.iconst 2, 1) := by decide +kernel
theorem dX3_times_40 : decode cX3_times 40 = .ok (.iload_n 3, 1) := by decide +kernel
theorem dX3_times_41 : decode cX3_times 41 = .ok (.imul, 1) := by decide +kernel
theorem dX3_times_42 : decode cX3_times 42 = .ok (.goto 13, 3) := by decide +kernel
theorem dX3_times_45 : decode cX3_times 45 = .ok (.iconst 2, 1) := by decide +kernel
theorem dX3_times_46 : decode cX3_times 46 = .ok (.iload_n 3, 1) := by decide +kernel
theorem dX3_times_47 : decode cX3_times 47 = .ok (.imul, 1) := by decide +kernel
theorem dX3_times_48 : decode cX3_times 48 = .ok (.sipush 256, 3) := by decide +kernel
theorem dX3_times_51 : decode cX3_times 51 = .ok (.isub, 1) := by decide +kernel
theorem dX3_times_52 : decode cX3_times 52 = .ok (.bipush 27, 2) := by decide +kernel
theorem dX3_times_54 : decode cX3_times 54 = .ok (.ixor, 1) := by decide +kernel
theorem dX3_times_55 : decode cX3_times 55 = .ok (.istore_n 3, 1) := by decide +kernel
theorem dX3_times_56 : decode cX3_times 56 = .ok (.iinc 4 1, 3) := by decide +kernel
theorem dX3_times_59 : decode cX3_times 59 = .ok (.goto (-52), 3) := by decide +kernel
theorem dX3_times_62 : decode cX3_times 62 = .ok (.iload_n 2, 1) := by decide +kernel
theorem dX3_times_63 : decode cX3_times 63 = .ok (.ireturn, 1) := by decide +kernel
theorem dX3_isIn_0 : decode cX3_isIn 0 = .ok (.iload_n 0, 1) := by decide +kernel
theorem dX3_isIn_1 : decode cX3_isIn 1 = .ok (.ifCond .lt 12, 3) := by decide +kernel
theorem dX3_isIn_4 : decode cX3_isIn 4 = .ok (.iload_n 0, 1) := by decide +kernel
theorem dX3_isIn_5 : decode cX3_isIn 5 = .ok (.iload_n 1, 1) := by decide +kernel
theorem dX3_isIn_6 : decode cX3_isIn 6 = .ok (.if_icmp .gt 7, 3) := by decide +kernel
theorem dX3_isIn_9 : decode cX3_isIn 9 = .ok (.iconst 1, 1) := by decide +kernel
theorem dX3_isIn_10 : decode cX3_isIn 10 = .ok (.goto 4, 3) := by decide +kernel
theorem dX3_isIn_13 : decode cX3_isIn 13 = .ok (.iconst 0, 1) := by decide +kernel
theorem dX3_isIn_14 : decode cX3_isIn 14 = .ok (.ireturn, 1) := by decide +kernel
theorem dX3_init__0 : decode cX3_init_ 0 = .ok (.aload_n 0, 1) := by decide +kernel
theorem dX3_init__1 : decode cX3_init_ 1 = .ok (.iconst 0, 1) := by decide +kernel
theorem dX3_init__2 : decode cX3_init_ 2 = .ok (.putfield 51, 3) := by decide +kernel
theorem dX3_init__5 : decode cX3_init_ 5 = .ok (.iconst 0, 1) := by decide +kernel
theorem dX3_init__6 : decode cX3_init_ 6 = .ok (.istore_n 1, 1) := by decide +kernel
theorem dX3_init__7 : decode cX3_init_ 7 = .ok (.iload_n 1, 1) := by decide +kernel
theorem dX3_init__8 : decode cX3_init_ 8 = .ok (.bipush 16, 2) := by decide +kernel
theorem dX3_init__10 : decode cX3_init_ 10 = .ok (.if_icmp .ge 16, 3) := by decide +kernel
theorem dX3_init__13 : decode cX3_init_ 13 = .ok (.aload_n 0, 1) := by decide +kernel
theorem dX3_init__14 : decode cX3_init_ 14 = .ok (.getfield 7, 3) := by decide +kernel
theorem dX3_init__17 : decode cX3_init_ 17 = .ok (.iload_n 1, 1) := by decide +kernel
theorem dX3_init__18 : decode cX3_init_ 18 = .ok (.iconst 0, 1) := by decide +kernel
theorem dX3_init__19 : decode cX3_init_ 19 = .ok (.iastore, 1) := by decide +kernel
theorem dX3_init__20 : decode cX3_init_ 20 = .ok (.iinc 1 1, 3) := by decide +kernel
theorem dX3_init__23 : decode cX3_init_ 23 = .ok (.goto (-16), 3) := by decide +kernel
theorem dX3_init__26 : decode cX3_init_ 26 = .ok (.aload_n 0, 1) := by decide +kernel
theorem dX3_init__27 : decode cX3_init_ 27 = .ok (.iconst 1, 1) := by decide +kernel
theorem dX3_init__28 : decode cX3_init_ 28 = .ok (.putfield 55, 3) := by decide +kernel
theorem dX3_init__31 : decode cX3_init_ 31 = .ok (.aload_n 0, 1) := by decide +kernel
theorem dX3_init__32 : decode cX3_init_ 32 = .ok (.iconst 0, 1) := by decide +kernel
theorem dX3_init__33 : decode cX3_init_ 33 = .ok (.putfield 59, 3) := by decide +kernel
theorem dX3_init__36 : decode cX3_init_ 36 = .ok (.aload_n 0, 1) := by decide +kernel
theorem dX3_init__37 : decode cX3_init_ 37 = .ok (.iconst 0, 1) := by decide +kernel
theorem dX3_init__38 : decode cX3_init_ 38 = .ok (.putfield 62, 3) := by decide +kernel
theorem dX3_init__41 : decode cX3_init_ 41 = .ok (.return_, 1) := by decide +kernel
theorem dX3_setKeyByte_0 : decode cX3_setKeyByte 0 = .ok (.aload_n 0, 1) := by decide +kernel
theorem dX3_setKeyByte_1 : decode cX3_setKeyByte 1 = .ok (.iconst 0, 1) := by decide +kernel
theorem dX3_setKeyByte_2 : decode cX3_setKeyByte 2 = .ok (.putfield 51, 3) := by decide +kernel
theorem dX3_setKeyByte_5 : decode cX3_setKeyByte 5 = .ok (.aload_n 0, 1) := by decide +kernel
theorem dX3_setKeyByte_6 : decode cX3_setKeyByte 6 = .ok (.getfield 55, 3) := by decide +kernel
theorem dX3_setKeyByte_9 : decode cX3_setKeyByte 9 = .ok (.ifCond .eq 22, 3) := by decide +kernel
theorem dX3_setKeyByte_12 : decode cX3_setKeyByte 12 = .ok (.iload_n 1, 1) := by decide +kernel
theorem dX3_setKeyByte_13 : decode cX3_setKeyByte 13 = .ok (.bipush 15, 2) := by decide +kernel
theorem dX3_setKeyByte_15 : decode cX3_setKeyByte 15 = .ok (.invokestatic 65, 3) := by decide +kernel
theorem dX3_setKeyByte_18 : decode cX3_setKeyByte 18 = .ok (.ifCond .eq 13, 3) := by decide +kernel
theorem dX3_setKeyByte_21 : decode cX3_setKeyByte 21 = .ok (.iload_n 2, 1) := by decide +kernel
theorem dX3_setKeyByte_22 : decode cX3_setKeyByte 22 = .ok (.sipush 255, 3) := by decide +kernel
theorem dX3_setKeyByte_25 : decode cX3_setKeyByte 25 = .ok (.invokestatic 65, 3) := by decide +kernel
theorem dX3_setKeyByte_28 : decode cX3_setKeyByte 28 = .ok (.ifCond .ne 5, 3) := by decide +kernel
theorem dX3_setKeyByte_31 : decode cX3_setKeyByte 31 = .ok (.iconst 0, 1) := by decide +kernel
theorem dX3_setKeyByte_32 : decode cX3_setKeyByte 32 = .ok (.ireturn, 1) := by decide +kernel
theorem dX3_setKeyByte_33 : decode cX3_setKeyByte 33 = .ok (.aload_n 0, 1) := by decide +kernel
theorem dX3_setKeyByte_34 : decode cX3_setKeyByte 34 = .ok (.getfield 7, 3) := by decide +kernel
theorem dX3_setKeyByte_37 : decode cX3_setKeyByte 37 = .ok (.iload_n 1, 1) := by decide +kernel
theorem dX3_setKeyByte_38 : decode cX3_setKeyByte 38 = .ok (.iload_n 2, 1) := by decide +kernel
theorem dX3_setKeyByte_39 : decode cX3_setKeyByte 39 = .ok (.iastore, 1) := by decide +kernel
theorem dX3_setKeyByte_40 : decode cX3_setKeyByte 40 = .ok (.aload_n 0, 1) := by decide +kernel
theorem dX3_setKeyByte_41 : decode cX3_setKeyByte 41 = .ok (.iconst 0, 1) := by decide +kernel
theorem dX3_setKeyByte_42 : decode cX3_setKeyByte 42 = .ok (.putfield 59, 3) := by decide +kernel
theorem dX3_setKeyByte_45 : decode cX3_setKeyByte 45 = .ok (.aload_n 0, 1) := by decide +kernel
theorem dX3_setKeyByte_46 : decode cX3_setKeyByte 46 = .ok (.iconst 0, 1) := by decide +kernel
theorem dX3_setKeyByte_47 : decode cX3_setKeyByte 47 = .ok (.putfield 62, 3) := by decide +kernel
theorem dX3_setKeyByte_50 : decode cX3_setKeyByte 50 = .ok (.iconst 1, 1) := by decide +kernel
theorem dX3_setKeyByte_51 : decode cX3_setKeyByte 51 = .ok (.ireturn, 1) := by decide +kernel
theorem dX3_makeWords_0 : decode cX3_makeWords 0 = .ok (.iconst 1, 1) := by decide +kernel
theorem dX3_makeWords_1 : decode cX3_makeWords 1 = .ok (.istore_n 1, 1) := by decide +kernel
theorem dX3_makeWords_2 : decode cX3_makeWords 2 = .ok (.iconst 0, 1) := by decide +kernel
theorem dX3_makeWords_3 : decode cX3_makeWords 3 = .ok (.istore_n 2, 1) := by decide +kernel
theorem dX3_makeWords_4 : decode cX3_makeWords 4 = .ok (.iload_n 2, 1) := by decide +kernel
theorem dX3_makeWords_5 : decode cX3_makeWords 5 = .ok (.sipush 176, 3) := by decide +kernel
theorem dX3_makeWords_8 : decode cX3_makeWords 8 = .ok (.if_icmp .ge 141, 3) := by decide +kernel
theorem dX3_makeWords_11 : decode cX3_makeWords 11 = .ok (.iload_n 2, 1) := by decide +kernel
theorem dX3_makeWords_12 : decode cX3_makeWords 12 = .ok (.bipush 16, 2) := by decide +kernel
theorem dX3_makeWords_14 : decode cX3_makeWords 14 = .ok (.if_icmp .ge 18, 3) := by decide +kernel
theorem dX3_makeWords_17 : decode cX3_makeWords 17 = .ok (.aload_n 0, 1) := by decide +kernel
theorem dX3_makeWords_18 : decode cX3_makeWords 18 = .ok (.getfield 25, 3) := by decide +kernel
theorem dX3_makeWords_21 : decode cX3_makeWords 21 = .ok (.iload_n 2, 1) := by decide +kernel
theorem dX3_makeWords_22 : decode cX3_makeWords 22 = .ok (.aload_n 0, 1) := by decide +kernel
theorem dX3_makeWords_23 : decode cX3_makeWords 23 = .ok (.getfield 7, 3) := by decide +kernel
theorem dX3_makeWords_26 : decode cX3_makeWords 26 = .ok (.iload_n 2, 1) := by decide +kernel
theorem dX3_makeWords_27 : decode cX3_makeWords 27 = .ok (.iaload, 1) := by decide +kernel
theorem dX3_makeWords_28 : decode cX3_makeWords 28 = .ok (.iastore, 1) := by decide +kernel
theorem dX3_makeWords_29 : decode cX3_makeWords 29 = .ok (.goto 114, 3) := by decide +kernel
theorem dX3_makeWords_32 : decode cX3_makeWords 32 = .ok (.iload_n 2, 1) := by decide +kernel
theorem dX3_makeWords_33 : decode cX3_makeWords 33 = .ok (.bipush 16, 2) := by decide +kernel
theorem dX3_makeWords_35 : decode cX3_makeWords 35 = .ok (.irem, 1) := by decide +kernel
theorem dX3_makeWords_36 : decode cX3_makeWords 36 = .ok (.iconst 4, 1) := by decide +kernel
theorem dX3_makeWords_37 : decode cX3_makeWords 37 = .ok (.if_icmp .ge 82, 3) := by decide +kernel
theorem dX3_makeWords_40 : decode cX3_makeWords 40 = .ok (.iload_n 2, 1) := by decide +kernel
theorem dX3_makeWords_41 : decode cX3_makeWords 41 = .ok (.iconst 4, 1) := by decide +kernel
theorem dX3_makeWords_42 : decode cX3_makeWords 42 = .ok (.irem, 1) := by decide +kernel
theorem dX3_makeWords_43 : decode cX3_makeWords 43 = .ok (.iconst 3, 1) := by decide +kernel
theorem dX3_makeWords_44 : decode cX3_makeWords 44 = .ok (.if_icmp .ge 9, 3) := by decide +kernel
theorem dX3_makeWords_47 : decode cX3_makeWords 47 = .ok (.iload_n 2, 1) := by decide +kernel
theorem dX3_makeWords_48 : decode cX3_makeWords 48 = .ok (.iconst 3, 1) := by decide +kernel
theorem dX3_makeWords_49 : decode cX3_makeWords 49 = .ok (.isub, 1) := by decide +kernel
theorem dX3_makeWords_50 : decode cX3_makeWords 50 = .ok (.goto 7, 3) := by decide +kernel
theorem dX3_makeWords_53 : decode cX3_makeWords 53 = .ok (.iload_n 2, 1) := by decide +kernel
theorem dX3_makeWords_54 : decode cX3_makeWords 54 = .ok (.bipush 7, 2) := by decide +kernel
theorem dX3_makeWords_56 : decode cX3_makeWords 56 = .ok (.isub, 1) := by decide +kernel
theorem dX3_makeWords_57 : decode cX3_makeWords 57 = .ok (.istore_n 3, 1) := by decide +kernel
theorem dX3_makeWords_58 : decode cX3_makeWords 58 = .ok (.aload_n 0, 1) := by decide +kernel
theorem dX3_makeWords_59 : decode cX3_makeWords 59 = .ok (.getfield 25, 3) := by decide +kernel
theorem dX3_makeWords_62 : decode cX3_makeWords 62 = .ok (.iload_n 2, 1) := by decide +kernel
theorem dX3_makeWords_63 : decode cX3_makeWords 63 = .ok (.aload_n 0, 1) := by decide +kernel
theorem dX3_makeWords_64 : decode cX3_makeWords 64 = .ok (.getfield 25, 3) := by decide +kernel
theorem dX3_makeWords_67 : decode cX3_makeWords 67 = .ok (.iload_n 2, 1) := by decide +kernel
theorem dX3_makeWords_68 : decode cX3_makeWords 68 = .ok (.bipush 16, 2) := by decide +kernel
theorem dX3_makeWords_70 : decode cX3_makeWords 70 = .ok (.isub, 1) := by decide +kernel
theorem dX3_makeWords_71 : decode cX3_makeWords 71 = .ok (.iaload, 1) := by decide +kernel
theorem dX3_makeWords_72 : decode cX3_makeWords 72 = .ok (.aload_n 0, 1) := by decide +kernel
theorem dX3_makeWords_73 : decode cX3_makeWords 73 = .ok (.getfield 19, 3) := by decide +kernel
theorem dX3_makeWords_76 : decode cX3_makeWords 76 = .ok (.aload_n 0, 1) := by decide +kernel
theorem dX3_makeWords_77 : decode cX3_makeWords 77 = .ok (.getfield 25, 3) := by decide +kernel
theorem dX3_makeWords_80 : decode cX3_makeWords 80 = .ok (.iload_n 3, 1) := by decide +kernel
theorem dX3_makeWords_81 : decode cX3_makeWords 81 = .ok (.iaload, 1) := by decide +kernel
theorem dX3_makeWords_82 : decode cX3_makeWords 82 = .ok (.iaload, 1) := by decide +kernel
theorem dX3_makeWords_83 : decode cX3_makeWords 83 = .ok (.ixor, 1) := by decide +kernel
theorem dX3_makeWords_84 : decode cX3_makeWords 84 = .ok (.iload_n 2, 1) := by decide +kernel
theorem dX3_makeWords_85 : decode cX3_makeWords 85 = .ok (.bipush 16, 2) := by decide +kernel
theorem dX3_makeWords_87 : decode cX3_makeWords 87 = .ok (.irem, 1) := by decide +kernel
theorem dX3_makeWords_88 : decode cX3_makeWords 88 = .ok (.ifCond .ne 7, 3) := by decide +kernel
theorem dX3_makeWords_91 : decode cX3_makeWords 91 = .ok (.iload_n 1, 1) := by decide +kernel
theorem dX3_makeWords_92 : decode cX3_makeWords 92 = .ok (.goto 4, 3) := by decide +kernel
theorem dX3_makeWords_95 : decode cX3_makeWords 95 = .ok (.iconst 0, 1) := by decide +kernel
theorem dX3_makeWords_96 : decode cX3_makeWords 96 = .ok (.ixor, 1) := by decide +kernel
theorem dX3_makeWords_97 : decode cX3_makeWords 97 = .ok (.iastore, 1) := by decide +kernel
theorem dX3_makeWords_98 : decode cX3_makeWords 98 = .ok (.iload_n 2, 1) := by decide +kernel
theorem dX3_makeWords_99 : decode cX3_makeWords 99 = .ok (.bipush 16, 2) := by decide +kernel
theorem dX3_makeWords_101 : decode cX3_makeWords 101 = .ok (.irem, 1) := by decide +kernel
theorem dX3_makeWords_102 : decode cX3_makeWords 102 = .ok (.iconst 3, 1) := by decide +kernel
theorem dX3_makeWords_103 : decode cX3_makeWords 103 = .ok (.if_icmp .ne 11, 3) := by decide +kernel
theorem dX3_makeWords_106 : decode cX3_makeWords 106 = .ok (.iload_n 1, 1) := by decide +kernel
theorem dX3_makeWords_107 : decode cX3_makeWords 107 = .ok (.iconst 2, 1) := by decide +kernel
theorem dX3_makeWords_108 : decode cX3_makeWords 108 = .ok (.invokestatic 47, 3) := by decide +kernel
theorem dX3_makeWords_111 : decode cX3_makeWords 111 = .ok (.goto 4, 3) := by decide +kernel
theorem dX3_makeWords_114 : decode cX3_makeWords 114 = .ok (.iload_n 1, 1) := by decide +kernel
theorem dX3_makeWords_115 : decode cX3_makeWords 115 = .ok (.istore_n 1, 1) := by decide +kernel
theorem dX3_makeWords_116 : decode cX3_makeWords 116 = .ok (.goto 27, 3) := by decide +kernel
theorem dX3_makeWords_119 : decode cX3_makeWords 119 = .ok (.aload_n 0, 1) := by decide +kernel
theorem dX3_makeWords_120 : decode cX3_makeWords 120 = .ok (.getfield 25, 3) := by decide +kernel
theorem dX3_makeWords_123 : decode cX3_makeWords 123 = .ok (.iload_n 2, 1) := by decide +kernel
theorem dX3_makeWords_124 : decode cX3_makeWords 124 = .ok (.aload_n 0, 1) := by decide +kernel
theorem dX3_makeWords_125 : decode cX3_makeWords 125 = .ok (.getfield 25, 3) := by decide +kernel
theorem dX3_makeWords_128 : decode cX3_makeWords 128 = .ok (.iload_n 2, 1) := by decide +kernel
theorem dX3_makeWords_129 : decode cX3_makeWords 129 = .ok (.bipush 16, 2) := by decide +kernel
theorem dX3_makeWords_131 : decode cX3_makeWords 131 = .ok (.isub, 1) := by decide +kernel
theorem dX3_makeWords_132 : decode cX3_makeWords 132 = .ok (.iaload, 1) := by decide +kernel
theorem dX3_makeWords_133 : decode cX3_makeWords 133 = .ok (.aload_n 0, 1) := by decide +kernel
theorem dX3_makeWords_134 : decode cX3_makeWords 134 = .ok (.getfield 25, 3) := by decide +kernel
theorem dX3_makeWords_137 : decode cX3_makeWords 137 = .ok (.iload_n 2, 1) := by decide +kernel
theorem dX3_makeWords_138 : decode cX3_makeWords 138 = .ok (.iconst 4, 1) := by decide +kernel
theorem dX3_makeWords_139 : decode cX3_makeWords 139 = .ok (.isub, 1) := by decide +kernel
theorem dX3_makeWords_140 : decode cX3_makeWords 140 = .ok (.iaload, 1) := by decide +kernel
theorem dX3_makeWords_141 : decode cX3_makeWords 141 = .ok (.ixor, 1) := by decide +kernel
theorem dX3_makeWords_142 : decode cX3_makeWords 142 = .ok (.iastore, 1) := by decide +kernel
theorem dX3_makeWords_143 : decode cX3_makeWords 143 = .ok (.iinc 2 1, 3) := by decide +kernel
theorem dX3_makeWords_146 : decode cX3_makeWords 146 = .ok (.goto (-142), 3) := by decide +kernel
theorem dX3_makeWords_149 : decode cX3_makeWords 149 = .ok (.return_, 1) := by decide +kernel
theorem dX3_add_0 : decode cX3_add 0 = .ok (.iconst 0, 1) := by decide +kernel
theorem dX3_add_1 : decode cX3_add 1 = .ok (.istore_n 2, 1) := by decide +kernel
theorem dX3_add_2 : decode cX3_add 2 = .ok (.iload_n 2, 1) := by decide +kernel
theorem dX3_add_3 : decode cX3_add 3 = .ok (.bipush 16, 2) := by decide +kernel
theorem dX3_add_5 : decode cX3_add 5 = .ok (.if_icmp .ge 33, 3) := by decide +kernel
theorem dX3_add_8 : decode cX3_add 8 = .ok (.aload_n 0, 1) := by decide +kernel
theorem dX3_add_9 : decode cX3_add 9 = .ok (.getfield 31, 3) := by decide +kernel
theorem dX3_add_12 : decode cX3_add 12 = .ok (.iload_n 2, 1) := by decide +kernel
theorem dX3_add_13 : decode cX3_add 13 = .ok (.aload_n 0, 1) := by decide +kernel
theorem dX3_add_14 : decode cX3_add 14 = .ok (.getfield 31, 3) := by decide +kernel
theorem dX3_add_17 : decode cX3_add 17 = .ok (.iload_n 2, 1) := by decide +kernel
theorem dX3_add_18 : decode cX3_add 18 = .ok (.iaload, 1) := by decide +kernel
theorem dX3_add_19 : decode cX3_add 19 = .ok (.aload_n 0, 1) := by decide +kernel
theorem dX3_add_20 : decode cX3_add 20 = .ok (.getfield 25, 3) := by decide +kernel
theorem dX3_add_23 : decode cX3_add 23 = .ok (.bipush 16, 2) := by decide +kernel
theorem dX3_add_25 : decode cX3_add 25 = .ok (.iload_n 1, 1) := by decide +kernel
theorem dX3_add_26 : decode cX3_add 26 = .ok (.imul, 1) := by decide +kernel
theorem dX3_add_27 : decode cX3_add 27 = .ok (.iload_n 2, 1) := by decide +kernel
theorem dX3_add_28 : decode cX3_add 28 = .ok (.iadd, 1) := by decide +kernel
theorem dX3_add_29 : decode cX3_add 29 = .ok (.iaload, 1) := by decide +kernel
theorem dX3_add_30 : decode cX3_add 30 = .ok (.ixor, 1) := by decide +kernel
theorem dX3_add_31 : decode cX3_add 31 = .ok (.iastore, 1) := by decide +kernel
theorem dX3_add_32 : decode cX3_add 32 = .ok (.iinc 2 1, 3) := by decide +kernel
theorem dX3_add_35 : decode cX3_add 35 = .ok (.goto (-33), 3) := by decide +kernel
theorem dX3_add_38 : decode cX3_add 38 = .ok (.return_, 1) := by decide +kernel
theorem dX3_columns_0 : decode cX3_columns 0 = .ok (.iconst 0, 1) := by decide +kernel
theorem dX3_columns_1 : decode cX3_columns 1 = .ok (.istore 5, 2) := by decide +kernel
theorem dX3_columns_3 : decode cX3_columns 3 = .ok (.iload 5, 2) := by decide +kernel
theorem dX3_columns_5 : decode cX3_columns 5 = .ok (.bipush 16, 2) := by decide +kernel
theorem dX3_columns_7 : decode cX3_columns 7 = .ok (.if_icmp .ge 94, 3) := by decide +kernel
theorem dX3_columns_10 : decode cX3_columns 10 = .ok (.iload 5, 2) := by decide +kernel
theorem dX3_columns_12 : decode cX3_columns 12 = .ok (.iload 5, 2) := by decide +kernel
theorem dX3_columns_14 : decode cX3_columns 14 = .ok (.iconst 4, 1) := by decide +kernel
theorem dX3_columns_15 : decode cX3_columns 15 = .ok (.irem, 1) := by decide +kernel
theorem dX3_columns_16 : decode cX3_columns 16 = .ok (.isub, 1) := by decide +kernel
theorem dX3_columns_17 : decode cX3_columns 17 = .ok (.istore 6, 2) := by decide +kernel
theorem dX3_columns_19 : decode cX3_columns 19 = .ok (.aload_n 0, 1) := by decide +kernel
theorem dX3_columns_20 : decode cX3_columns 20 = .ok (.getfield 34, 3) := by decide +kernel
theorem dX3_columns_23 : decode cX3_columns 23 = .ok (.iload 5, 2) := by decide +kernel
theorem dX3_columns_25 : decode cX3_columns 25 = .ok (.aload_n 0, 1) := by decide +kernel
theorem dX3_columns_26 : decode cX3_columns 26 = .ok (.getfield 31, 3) := by decide +kernel
theorem dX3_columns_29 : decode cX3_columns 29 = .ok (.iload 5, 2) := by decide +kernel
theorem dX3_columns_31 : decode cX3_columns 31 = .ok (.iaload, 1) := by decide +kernel
theorem dX3_columns_32 : decode cX3_columns 32 = .ok (.iload_n 1, 1) := by decide +kernel
theorem dX3_columns_33 : decode cX3_columns 33 = .ok (.invokestatic 47, 3) := by decide +kernel
theorem dX3_columns_36 : decode cX3_columns 36 = .ok (.aload_n 0, 1) := by decide +kernel
theorem dX3_columns_37 : decode cX3_columns 37 = .ok (.getfield 31, 3) := by decide +kernel
theorem dX3_columns_40 : decode cX3_columns 40 = .ok (.iload 6, 2) := by decide +kernel
theorem dX3_columns_42 : decode cX3_columns 42 = .ok (.iload 5, 2) := by decide +kernel
theorem dX3_columns_44 : decode cX3_columns 44 = .ok (.iconst 1, 1) := by decide +kernel
theorem dX3_columns_45 : decode cX3_columns 45 = .ok (.iadd, 1) := by decide +kernel
theorem dX3_columns_46 : decode cX3_columns 46 = .ok (.iconst 4, 1) := by decide +kernel
theorem dX3_columns_47 : decode cX3_columns 47 = .ok (.irem, 1) := by decide +kernel
theorem dX3_columns_48 : decode cX3_columns 48 = .ok (.iadd, 1) := by decide +kernel
theorem dX3_columns_49 : decode cX3_columns 49 = .ok (.iaload, 1) := by decide +kernel
theorem dX3_columns_50 : decode cX3_columns 50 = .ok (.iload_n 2, 1) := by decide +kernel
theorem dX3_columns_51 : decode cX3_columns 51 = .ok (.invokestatic 47, 3) := by decide +kernel
theorem dX3_columns_54 : decode cX3_columns 54 = .ok (.ixor, 1) := by decide +kernel
theorem dX3_columns_55 : decode cX3_columns 55 = .ok (.aload_n 0, 1) := by decide +kernel
theorem dX3_columns_56 : decode cX3_columns 56 = .ok (.getfield 31, 3) := by decide +kernel
theorem dX3_columns_59 : decode cX3_columns 59 = .ok (.iload 6, 2) := by decide +kernel
theorem dX3_columns_61 : decode cX3_columns 61 = .ok (.iload 5, 2) := by decide +kernel
theorem dX3_columns_63 : decode cX3_columns 63 = .ok (.iconst 2, 1) := by decide +kernel
theorem dX3_columns_64 : decode cX3_columns 64 = .ok (.iadd, 1) := by decide +kernel
theorem dX3_columns_65 : decode cX3_columns 65 = .ok (.iconst 4, 1) := by decide +kernel
theorem dX3_columns_66 : decode cX3_columns 66 = .ok (.irem, 1) := by decide +kernel
theorem dX3_columns_67 : decode cX3_columns 67 = .ok (.iadd, 1) := by decide +kernel
theorem dX3_columns_68 : decode cX3_columns 68 = .ok (.iaload, 1) := by decide +kernel
theorem dX3_columns_69 : decode cX3_columns 69 = .ok (.iload_n 3, 1) := by decide +kernel
theorem dX3_columns_70 : decode cX3_columns 70 = .ok (.invokestatic 47, 3) := by decide +kernel
theorem dX3_columns_73 : decode cX3_columns 73 = .ok (.ixor, 1) := by decide +kernel
theorem dX3_columns_74 : decode cX3_columns 74 = .ok (.aload_n 0, 1) := by decide +kernel
theorem dX3_columns_75 : decode cX3_columns 75 = .ok (.getfield 31, 3) := by decide +kernel
theorem dX3_columns_78 : decode cX3_columns 78 = .ok (.iload 6, 2) := by decide +kernel
theorem dX3_columns_80 : decode cX3_columns 80 = .ok (.iload 5, 2) := by decide +kernel
theorem dX3_columns_82 : decode cX3_columns 82 = .ok (.iconst 3, 1) := by decide +kernel
theorem dX3_columns_83 : decode cX3_columns 83 = .ok (.iadd, 1) := by decide +kernel
theorem dX3_columns_84 : decode cX3_columns 84 = .ok (.iconst 4, 1) := by decide +kernel
theorem dX3_columns_85 : decode cX3_columns 85 = .ok (.irem, 1) := by decide +kernel
theorem dX3_columns_86 : decode cX3_columns 86 = .ok (.iadd, 1) := by decide +kernel
theorem dX3_columns_87 : decode cX3_columns 87 = .ok (.iaload, 1) := by decide +kernel
theorem dX3_columns_88 : decode cX3_columns 88 = .ok (.iload 4, 2) := by decide +kernel
theorem dX3_columns_90 : decode cX3_columns 90 = .ok (.invokestatic 47, 3) := by decide +kernel
theorem dX3_columns_93 : decode cX3_columns 93 = .ok (.ixor, 1) := by decide +kernel
theorem dX3_columns_94 : decode cX3_columns 94 = .ok (.iastore, 1) := by decide +kernel
theorem dX3_columns_95 : decode cX3_columns 95 = .ok (.iinc 5 1, 3) := by decide +kernel
theorem dX3_columns_98 : decode cX3_columns 98 = .ok (.goto (-95), 3) := by decide +kernel
theorem dX3_columns_101 : decode cX3_columns 101 = .ok (.iconst 0, 1) := by decide +kernel
theorem dX3_columns_102 : decode cX3_columns 102 = .ok (.istore 5, 2) := by decide +kernel
theorem dX3_columns_104 : decode cX3_columns 104 = .ok (.iload 5, 2) := by decide +kernel
theorem dX3_columns_106 : decode cX3_columns 106 = .ok (.bipush 16, 2) := by decide +kernel
theorem dX3_columns_108 : decode cX3_columns 108 = .ok (.if_icmp .ge 23, 3) := by decide +kernel
theorem dX3_columns_111 : decode cX3_columns 111 = .ok (.aload_n 0, 1) := by decide +kernel
theorem dX3_columns_112 : decode cX3_columns 112 = .ok (.getfield 31, 3) := by decide +kernel
theorem dX3_columns_115 : decode cX3_columns 115 = .ok (.iload 5, 2) := by decide +kernel
theorem dX3_columns_117 : decode cX3_columns 117 = .ok (.aload_n 0, 1) := by decide +kernel
theorem dX3_columns_118 : decode cX3_columns 118 = .ok (.getfield 34, 3) := by decide +kernel
theorem dX3_columns_121 : decode cX3_columns 121 = .ok (.iload 5, 2) := by decide +kernel
theorem dX3_columns_123 : decode cX3_columns 123 = .ok (.iaload, 1) := by decide +kernel
theorem dX3_columns_124 : decode cX3_columns 124 = .ok (.iastore, 1) := by decide +kernel
theorem dX3_columns_125 : decode cX3_columns 125 = .ok (.iinc 5 1, 3) := by decide +kernel
theorem dX3_columns_128 : decode cX3_columns 128 = .ok (.goto (-24), 3) := by decide +kernel
theorem dX3_columns_131 : decode cX3_columns 131 = .ok (.return_, 1) := by decide +kernel
theorem dX3_forth_0 : decode cX3_forth 0 = .ok (.aload_n 0, 1) := by decide +kernel
theorem dX3_forth_1 : decode cX3_forth 1 = .ok (.iconst 0, 1) := by decide +kernel
theorem dX3_forth_2 : decode cX3_forth 2 = .ok (.invokevirtual 69, 3) := by decide +kernel
theorem dX3_forth_5 : decode cX3_forth 5 = .ok (.iconst 1, 1) := by decide +kernel
theorem dX3_forth_6 : decode cX3_forth 6 = .ok (.istore_n 1, 1) := by decide +kernel
theorem dX3_forth_7 : decode cX3_forth 7 = .ok (.iload_n 1, 1) := by decide +kernel
theorem dX3_forth_8 : decode cX3_forth 8 = .ok (.bipush 10, 2) := by decide +kernel
theorem dX3_forth_10 : decode cX3_forth 10 = .ok (.if_icmp .gt 99, 3) := by decide +kernel
theorem dX3_forth_13 : decode cX3_forth 13 = .ok (.iconst 0, 1) := by decide +kernel
theorem dX3_forth_14 : decode cX3_forth 14 = .ok (.istore_n 2, 1) := by decide +kernel
theorem dX3_forth_15 : decode cX3_forth 15 = .ok (.iload_n 2, 1) := by decide +kernel
theorem dX3_forth_16 : decode cX3_forth 16 = .ok (.bipush 16, 2) := by decide +kernel
theorem dX3_forth_18 : decode cX3_forth 18 = .ok (.if_icmp .ge 40, 3) := by decide +kernel
theorem dX3_forth_21 : decode cX3_forth 21 = .ok (.aload_n 0, 1) := by decide +kernel
theorem dX3_forth_22 : decode cX3_forth 22 = .ok (.getfield 34, 3) := by decide +kernel
theorem dX3_forth_25 : decode cX3_forth 25 = .ok (.iload_n 2, 1) := by decide +kernel
theorem dX3_forth_26 : decode cX3_forth 26 = .ok (.aload_n 0, 1) := by decide +kernel
theorem dX3_forth_27 : decode cX3_forth 27 = .ok (.getfield 19, 3) := by decide +kernel
theorem dX3_forth_30 : decode cX3_forth 30 = .ok (.aload_n 0, 1) := by decide +kernel
theorem dX3_forth_31 : decode cX3_forth 31 = .ok (.getfield 31, 3) := by decide +kernel
theorem dX3_forth_34 : decode cX3_forth 34 = .ok (.iload_n 2, 1) := by decide +kernel
theorem dX3_forth_35 : decode cX3_forth 35 = .ok (.iconst 4, 1) := by decide +kernel
theorem dX3_forth_36 : decode cX3_forth 36 = .ok (.idiv, 1) := by decide +kernel
theorem dX3_forth_37 : decode cX3_forth 37 = .ok (.iload_n 2, 1) := by decide +kernel
theorem dX3_forth_38 : decode cX3_forth 38 = .ok (.iconst 4, 1) := by decide +kernel
theorem dX3_forth_39 : decode cX3_forth 39 = .ok (.irem, 1) := by decide +kernel
theorem dX3_forth_40 : decode cX3_forth 40 = .ok (.iadd, 1) := by decide +kernel
theorem dX3_forth_41 : decode cX3_forth 41 = .ok (.iconst 4, 1) := by decide +kernel
theorem dX3_forth_42 : decode cX3_forth 42 = .ok (.irem, 1) := by decide +kernel
theorem dX3_forth_43 : decode cX3_forth 43 = .ok (.iconst 4, 1) := by decide +kernel
theorem dX3_forth_44 : decode cX3_forth 44 = .ok (.imul, 1) := by decide +kernel
theorem dX3_forth_45 : decode cX3_forth 45 = .ok (.iload_n 2, 1) := by decide +kernel
theorem dX3_forth_46 : decode cX3_forth 46 = .ok (.iconst 4, 1) := by decide +kernel
theorem dX3_forth_47 : decode cX3_forth 47 = .ok (.irem, 1) := by decide +kernel
theorem dX3_forth_48 : decode cX3_forth 48 = .ok (.iadd, 1) := by decide +kernel
theorem dX3_forth_49 : decode cX3_forth 49 = .ok (.iaload, 1) := by decide +kernel
theorem dX3_forth_50 : decode cX3_forth 50 = .ok (.iaload, 1) := by decide +kernel
theorem dX3_forth_51 : decode cX3_forth 51 = .ok (.iastore, 1) := by decide +kernel
theorem dX3_forth_52 : decode cX3_forth 52 = .ok (.iinc 2 1, 3) := by decide +kernel
theorem dX3_forth_55 : decode cX3_forth 55 = .ok (.goto (-40), 3) := by decide +kernel
theorem dX3_forth_58 : decode cX3_forth 58 = .ok (.iconst 0, 1) := by decide +kernel
theorem dX3_forth_59 : decode cX3_forth 59 = .ok (.istore_n 2, 1) := by decide +kernel
theorem dX3_forth_60 : decode cX3_forth 60 = .ok (.iload_n 2, 1) := by decide +kernel
theorem dX3_forth_61 : decode cX3_forth 61 = .ok (.bipush 16, 2) := by decide +kernel
theorem dX3_forth_63 : decode cX3_forth 63 = .ok (.if_icmp .ge 21, 3) := by decide +kernel
theorem dX3_forth_66 : decode cX3_forth 66 = .ok (.aload_n 0, 1) := by decide +kernel
theorem dX3_forth_67 : decode cX3_forth 67 = .ok (.getfield 31, 3) := by decide +kernel
theorem dX3_forth_70 : decode cX3_forth 70 = .ok (.iload_n 2, 1) := by decide +kernel
theorem dX3_forth_71 : decode cX3_forth 71 = .ok (.aload_n 0, 1) := by decide +kernel
theorem dX3_forth_72 : decode cX3_forth 72 = .ok (.getfield 34, 3) := by decide +kernel
theorem dX3_forth_75 : decode cX3_forth 75 = .ok (.iload_n 2, 1) := by decide +kernel
theorem dX3_forth_76 : decode cX3_forth 76 = .ok (.iaload, 1) := by decide +kernel
theorem dX3_forth_77 : decode cX3_forth 77 = .ok (.iastore, 1) := by decide +kernel
theorem dX3_forth_78 : decode cX3_forth 78 = .ok (.iinc 2 1, 3) := by decide +kernel
theorem dX3_forth_81 : decode cX3_forth 81 = .ok (.goto (-21), 3) := by decide +kernel
theorem dX3_forth_84 : decode cX3_forth 84 = .ok (.iload_n 1, 1) := by decide +kernel
theorem dX3_forth_85 : decode cX3_forth 85 = .ok (.bipush 10, 2) := by decide +kernel
theorem dX3_forth_87 : decode cX3_forth 87 = .ok (.if_icmp .ge 11, 3) := by decide +kernel
theorem dX3_forth_90 : decode cX3_forth 90 = .ok (.aload_n 0, 1) := by decide +kernel
theorem dX3_forth_91 : decode cX3_forth 91 = .ok (.iconst 2, 1) := by decide +kernel
theorem dX3_forth_92 : decode cX3_forth 92 = .ok (.iconst 3, 1) := by decide +kernel
theorem dX3_forth_93 : decode cX3_forth 93 = .ok (.iconst 1, 1) := by decide +kernel
theorem dX3_forth_94 : decode cX3_forth 94 = .ok (.iconst 1, 1) := by decide +kernel
theorem dX3_forth_95 : decode cX3_forth 95 = .ok (.invokevirtual 73, 3) := by decide +kernel
theorem dX3_forth_98 : decode cX3_forth 98 = .ok (.aload_n 0, 1) := by decide +kernel
theorem dX3_forth_99 : decode cX3_forth 99 = .ok (.iload_n 1, 1) := by decide +kernel
theorem dX3_forth_100 : decode cX3_forth 100 = .ok (.invokevirtual 69, 3) := by decide +kernel
theorem dX3_forth_103 : decode cX3_forth 103 = .ok (.iinc 1 1, 3) := by decide +kernel
theorem dX3_forth_106 : decode cX3_forth 106 = .ok (.goto (-99), 3) := by decide +kernel
theorem dX3_forth_109 : decode cX3_forth 109 = .ok (.return_, 1) := by decide +kernel
theorem dX3_back_0 : decode cX3_back 0 = .ok (.bipush 10, 2) := by decide +kernel
theorem dX3_back_2 : decode cX3_back 2 = .ok (.istore_n 1, 1) := by decide +kernel
theorem dX3_back_3 : decode cX3_back 3 = .ok (.iload_n 1, 1) := by decide +kernel
theorem dX3_back_4 : decode cX3_back 4 = .ok (.ifCond .le 103, 3) := by decide +kernel
theorem dX3_back_7 : decode cX3_back 7 = .ok (.aload_n 0, 1) := by decide +kernel
theorem dX3_back_8 : decode cX3_back 8 = .ok (.iload_n 1, 1) := by decide +kernel
theorem dX3_back_9 : decode cX3_back 9 = .ok (.invokevirtual 69, 3) := by decide +kernel
theorem dX3_back_12 : decode cX3_back 12 = .ok (.iload_n 1, 1) := by decide +kernel
theorem dX3_back_13 : decode cX3_back 13 = .ok (.bipush 10, 2) := by decide +kernel
theorem dX3_back_15 : decode cX3_back 15 = .ok (.if_icmp .ge 15, 3) := by decide +kernel
theorem dX3_back_18 : decode cX3_back 18 = .ok (.aload_n 0, 1) := by decide +kernel
theorem dX3_back_19 : decode cX3_back 19 = .ok (.bipush 14, 2) := by decide +kernel
theorem dX3_back_21 : decode cX3_back 21 = .ok (.bipush 11, 2) := by decide +kernel
theorem dX3_back_23 : decode cX3_back 23 = .ok (.bipush 13, 2) := by decide +kernel
theorem dX3_back_25 : decode cX3_back 25 = .ok (.bipush 9, 2) := by decide +kernel
theorem dX3_back_27 : decode cX3_back 27 = .ok (.invokevirtual 73, 3) := by decide +kernel
theorem dX3_back_30 : decode cX3_back 30 = .ok (.iconst 0, 1) := by decide +kernel
theorem dX3_back_31 : decode cX3_back 31 = .ok (.istore_n 2, 1) := by decide +kernel
theorem dX3_back_32 : decode cX3_back 32 = .ok (.iload_n 2, 1) := by decide +kernel
theorem dX3_back_33 : decode cX3_back 33 = .ok (.bipush 16, 2) := by decide +kernel
theorem dX3_back_35 : decode cX3_back 35 = .ok (.if_icmp .ge 40, 3) := by decide +kernel
theorem dX3_back_38 : decode cX3_back 38 = .ok (.aload_n 0, 1) := by decide +kernel
theorem dX3_back_39 : decode cX3_back 39 = .ok (.getfield 34, 3) := by decide +kernel
theorem dX3_back_42 : decode cX3_back 42 = .ok (.iload_n 2, 1) := by decide +kernel
theorem dX3_back_43 : decode cX3_back 43 = .ok (.iconst 4, 1) := by decide +kernel
theorem dX3_back_44 : decode cX3_back 44 = .ok (.idiv, 1) := by decide +kernel
theorem dX3_back_45 : decode cX3_back 45 = .ok (.iload_n 2, 1) := by decide +kernel
theorem dX3_back_46 : decode cX3_back 46 = .ok (.iconst 4, 1) := by decide +kernel
theorem dX3_back_47 : decode cX3_back 47 = .ok (.irem, 1) := by decide +kernel
theorem dX3_back_48 : decode cX3_back 48 = .ok (.iadd, 1) := by decide +kernel
theorem dX3_back_49 : decode cX3_back 49 = .ok (.iconst 4, 1) := by decide +kernel
theorem dX3_back_50 : decode cX3_back 50 = .ok (.irem, 1) := by decide +kernel
theorem dX3_back_51 : decode cX3_back 51 = .ok (.iconst 4, 1) := by decide +kernel
theorem dX3_back_52 : decode cX3_back 52 = .ok (.imul, 1) := by decide +kernel
theorem dX3_back_53 : decode cX3_back 53 = .ok (.iload_n 2, 1) := by decide +kernel
theorem dX3_back_54 : decode cX3_back 54 = .ok (.iconst 4, 1) := by decide +kernel
theorem dX3_back_55 : decode cX3_back 55 = .ok (.irem, 1) := by decide +kernel
theorem dX3_back_56 : decode cX3_back 56 = .ok (.iadd, 1) := by decide +kernel
theorem dX3_back_57 : decode cX3_back 57 = .ok (.aload_n 0, 1) := by decide +kernel
theorem dX3_back_58 : decode cX3_back 58 = .ok (.getfield 22, 3) := by decide +kernel
theorem dX3_back_61 : decode cX3_back 61 = .ok (.aload_n 0, 1) := by decide +kernel
theorem dX3_back_62 : decode cX3_back 62 = .ok (.getfield 31, 3) := by decide +kernel
theorem dX3_back_65 : decode cX3_back 65 = .ok (.iload_n 2, 1) := by decide +kernel
theorem dX3_back_66 : decode cX3_back 66 = .ok (.iaload, 1) := by decide +kernel
theorem dX3_back_67 : decode cX3_back 67 = .ok (.iaload, 1) := by decide +kernel
theorem dX3_back_68 : decode cX3_back 68 = .ok (.iastore, 1) := by decide +kernel
theorem dX3_back_69 : decode cX3_back 69 = .ok (.iinc 2 1, 3) := by decide +kernel
theorem dX3_back_72 : decode cX3_back 72 = .ok (.goto (-40), 3) := by decide +kernel
theorem dX3_back_75 : decode cX3_back 75 = .ok (.iconst 0, 1) := by decide +kernel
theorem dX3_back_76 : decode cX3_back 76 = .ok (.istore_n 2, 1) := by decide +kernel
theorem dX3_back_77 : decode cX3_back 77 = .ok (.iload_n 2, 1) := by decide +kernel
theorem dX3_back_78 : decode cX3_back 78 = .ok (.bipush 16, 2) := by decide +kernel
theorem dX3_back_80 : decode cX3_back 80 = .ok (.if_icmp .ge 21, 3) := by decide +kernel
theorem dX3_back_83 : decode cX3_back 83 = .ok (.aload_n 0, 1) := by decide +kernel
theorem dX3_back_84 : decode cX3_back 84 = .ok (.getfield 31, 3) := by decide +kernel
theorem dX3_back_87 : decode cX3_back 87 = .ok (.iload_n 2, 1) := by decide +kernel
theorem dX3_back_88 : decode cX3_back 88 = .ok (.aload_n 0, 1) := by decide +kernel
theorem dX3_back_89 : decode cX3_back 89 = .ok (.getfield 34, 3) := by decide +kernel
theorem dX3_back_92 : decode cX3_back 92 = .ok (.iload_n 2, 1) := by decide +kernel
theorem dX3_back_93 : decode cX3_back 93 = .ok (.iaload, 1) := by decide +kernel
theorem dX3_back_94 : decode cX3_back 94 = .ok (.iastore, 1) := by decide +kernel
theorem dX3_back_95 : decode cX3_back 95 = .ok (.iinc 2 1, 3) := by decide +kernel
theorem dX3_back_98 : decode cX3_back 98 = .ok (.goto (-21), 3) := by decide +kernel
theorem dX3_back_101 : decode cX3_back 101 = .ok (.iinc 1 (-1), 3) := by decide +kernel
theorem dX3_back_104 : decode cX3_back 104 = .ok (.goto (-101), 3) := by decide +kernel
theorem dX3_back_107 : decode cX3_back 107 = .ok (.aload_n 0, 1) := by decide +kernel
theorem dX3_back_108 : decode cX3_back 108 = .ok (.iconst 0, 1) := by decide +kernel
theorem dX3_back_109 : decode cX3_back 109 = .ok (.invokevirtual 69, 3) := by decide +kernel
theorem dX3_back_112 : decode cX3_back 112 = .ok (.return_, 1) := by decide +kernel
theorem dX3_twice_0 : decode cX3_twice 0 = .ok (.iconst 0, 1) := by decide +kernel
theorem dX3_twice_1 : decode cX3_twice 1 = .ok (.istore_n 2, 1) := by decide +kernel
theorem dX3_twice_2 : decode cX3_twice 2 = .ok (.bipush 15, 2) := by decide +kernel
theorem dX3_twice_4 : decode cX3_twice 4 = .ok (.istore_n 3, 1) := by decide +kernel
theorem dX3_twice_5 : decode cX3_twice 5 = .ok (.iload_n 3, 1) := by decide +kernel
theorem dX3_twice_6 : decode cX3_twice 6 = .ok (.ifCond .lt 58, 3) := by decide +kernel
theorem dX3_twice_9 : decode cX3_twice 9 = .ok (.iconst 2, 1) := by decide +kernel
theorem dX3_twice_10 : decode cX3_twice 10 = .ok (.iload_n 1, 1) := by decide +kernel
theorem dX3_twice_11 : decode cX3_twice 11 = .ok (.ifCond .ne 12, 3) := by decide +kernel
theorem dX3_twice_14 : decode cX3_twice 14 = .ok (.aload_n 0, 1) := by decide +kernel
theorem dX3_twice_15 : decode cX3_twice 15 = .ok (.getfield 31, 3) := by decide +kernel
theorem dX3_twice_18 : decode cX3_twice 18 = .ok (.iload_n 3, 1) := by decide +kernel
theorem dX3_twice_19 : decode cX3_twice 19 = .ok (.iaload, 1) := by decide +kernel
theorem dX3_twice_20 : decode cX3_twice 20 = .ok (.goto 9, 3) := by decide +kernel
theorem dX3_twice_23 : decode cX3_twice 23 = .ok (.aload_n 0, 1) := by decide +kernel
theorem dX3_twice_24 : decode cX3_twice 24 = .ok (.getfield 28, 3) := by decide +kernel
theorem dX3_twice_27 : decode cX3_twice 27 = .ok (.iload_n 3, 1) := by decide +kernel
theorem dX3_twice_28 : decode cX3_twice 28 = .ok (.iaload, 1) := by decide +kernel
theorem dX3_twice_29 : decode cX3_twice 29 = .ok (.imul, 1) := by decide +kernel
theorem dX3_twice_30 : decode cX3_twice 30 = .ok (.iload_n 2, 1) := by decide +kernel
theorem dX3_twice_31 : decode cX3_twice 31 = .ok (.iadd, 1) := by decide +kernel
theorem dX3_twice_32 : decode cX3_twice 32 = .ok (.istore 4, 2) := by decide +kernel
theorem dX3_twice_34 : decode cX3_twice 34 = .ok (.aload_n 0, 1) := by decide +kernel
theorem dX3_twice_35 : decode cX3_twice 35 = .ok (.getfield 28, 3) := by decide +kernel
theorem dX3_twice_38 : decode cX3_twice 38 = .ok (.bipush 16, 2) := by decide +kernel
theorem dX3_twice_40 : decode cX3_twice 40 = .ok (.iload_n 1, 1) := by decide +kernel
theorem dX3_twice_41 : decode cX3_twice 41 = .ok (.imul, 1) := by decide +kernel
theorem dX3_twice_42 : decode cX3_twice 42 = .ok (.iload_n 3, 1) := by decide +kernel
theorem dX3_twice_43 : decode cX3_twice 43 = .ok (.iadd, 1) := by decide +kernel
theorem dX3_twice_44 : decode cX3_twice 44 = .ok (.iload 4, 2) := by decide +kernel
theorem dX3_twice_46 : decode cX3_twice 46 = .ok (.sipush 256, 3) := by decide +kernel
theorem dX3_twice_49 : decode cX3_twice 49 = .ok (.irem, 1) := by decide +kernel
theorem dX3_twice_50 : decode cX3_twice 50 = .ok (.iastore, 1) := by decide +kernel
theorem dX3_twice_51 : decode cX3_twice 51 = .ok (.iload 4, 2) := by decide +kernel
theorem dX3_twice_53 : decode cX3_twice 53 = .ok (.sipush 256, 3) := by decide +kernel
theorem dX3_twice_56 : decode cX3_twice 56 = .ok (.idiv, 1) := by decide +kernel
theorem dX3_twice_57 : decode cX3_twice 57 = .ok (.istore_n 2, 1) := by decide +kernel
theorem dX3_twice_58 : decode cX3_twice 58 = .ok (.iinc 3 (-1), 3) := by decide +kernel
theorem dX3_twice_61 : decode cX3_twice 61 = .ok (.goto (-56), 3) := by decide +kernel
theorem dX3_twice_64 : decode cX3_twice 64 = .ok (.aload_n 0, 1) := by decide +kernel
theorem dX3_twice_65 : decode cX3_twice 65 = .ok (.getfield 28, 3) := by decide +kernel
theorem dX3_twice_68 : decode cX3_twice 68 = .ok (.bipush 16, 2) := by decide +kernel
theorem dX3_twice_70 : decode cX3_twice 70 = .ok (.iload_n 1, 1) := by decide +kernel
theorem dX3_twice_71 : decode cX3_twice 71 = .ok (.imul, 1) := by decide +kernel
theorem dX3_twice_72 : decode cX3_twice 72 = .ok (.bipush 15, 2) := by decide +kernel
theorem dX3_twice_74 : decode cX3_twice 74 = .ok (.iadd, 1) := by decide +kernel
theorem dX3_twice_75 : decode cX3_twice 75 = .ok (.aload_n 0, 1) := by decide +kernel
theorem dX3_twice_76 : decode cX3_twice 76 = .ok (.getfield 28, 3) := by decide +kernel
theorem dX3_twice_79 : decode cX3_twice 79 = .ok (.bipush 16, 2) := by decide +kernel
theorem dX3_twice_81 : decode cX3_twice 81 = .ok (.iload_n 1, 1) := by decide +kernel
theorem dX3_twice_82 : decode cX3_twice 82 = .ok (.imul, 1) := by decide +kernel
theorem dX3_twice_83 : decode cX3_twice 83 = .ok (.bipush 15, 2) := by decide +kernel
theorem dX3_twice_85 : decode cX3_twice 85 = .ok (.iadd, 1) := by decide +kernel
theorem dX3_twice_86 : decode cX3_twice 86 = .ok (.iaload, 1) := by decide +kernel
theorem dX3_twice_87 : decode cX3_twice 87 = .ok (.sipush 135, 3) := by decide +kernel
theorem dX3_twice_90 : decode cX3_twice 90 = .ok (.iload_n 2, 1) := by decide +kernel
theorem dX3_twice_91 : decode cX3_twice 91 = .ok (.imul, 1) := by decide +kernel
theorem dX3_twice_92 : decode cX3_twice 92 = .ok (.ixor, 1) := by decide +kernel
theorem dX3_twice_93 : decode cX3_twice 93 = .ok (.iastore, 1) := by decide +kernel
theorem dX3_twice_94 : decode cX3_twice 94 = .ok (.return_, 1) := by decide +kernel
theorem dX3_expand_0 : decode cX3_expand 0 = .ok (.aload_n 0, 1) := by decide +kernel
theorem dX3_expand_1 : decode cX3_expand 1 = .ok (.iconst 0, 1) := by decide +kernel
theorem dX3_expand_2 : decode cX3_expand 2 = .ok (.putfield 51, 3) := by decide +kernel
theorem dX3_expand_5 : decode cX3_expand 5 = .ok (.aload_n 0, 1) := by decide +kernel
theorem dX3_expand_6 : decode cX3_expand 6 = .ok (.getfield 55, 3) := by decide +kernel
theorem dX3_expand_9 : decode cX3_expand 9 = .ok (.ifCond .ne 5, 3) := by decide +kernel
theorem dX3_expand_12 : decode cX3_expand 12 = .ok (.iconst 0, 1) := by decide +kernel
theorem dX3_expand_13 : decode cX3_expand 13 = .ok (.ireturn, 1) := by decide +kernel
theorem dX3_expand_14 : decode cX3_expand 14 = .ok (.aload_n 0, 1) := by decide +kernel
theorem dX3_expand_15 : decode cX3_expand 15 = .ok (.invokevirtual 77, 3) := by decide +kernel
theorem dX3_expand_18 : decode cX3_expand 18 = .ok (.iconst 0, 1) := by decide +kernel
theorem dX3_expand_19 : decode cX3_expand 19 = .ok (.istore_n 1, 1) := by decide +kernel
theorem dX3_expand_20 : decode cX3_expand 20 = .ok (.iload_n 1, 1) := by decide +kernel
theorem dX3_expand_21 : decode cX3_expand 21 = .ok (.bipush 16, 2) := by decide +kernel
theorem dX3_expand_23 : decode cX3_expand 23 = .ok (.if_icmp .ge 16, 3) := by decide +kernel
theorem dX3_expand_26 : decode cX3_expand 26 = .ok (.aload_n 0, 1) := by decide +kernel
theorem dX3_expand_27 : decode cX3_expand 27 = .ok (.getfield 31, 3) := by decide +kernel
theorem dX3_expand_30 : decode cX3_expand 30 = .ok (.iload_n 1, 1) := by decide +kernel
theorem dX3_expand_31 : decode cX3_expand 31 = .ok (.iconst 0, 1) := by decide +kernel
theorem dX3_expand_32 : decode cX3_expand 32 = .ok (.iastore, 1) := by decide +kernel
theorem dX3_expand_33 : decode cX3_expand 33 = .ok (.iinc 1 1, 3) := by decide +kernel
theorem dX3_expand_36 : decode cX3_expand 36 = .ok (.goto (-16), 3) := by decide +kernel
theorem dX3_expand_39 : decode cX3_expand 39 = .ok (.aload_n 0, 1) := by decide +kernel
theorem dX3_expand_40 : decode cX3_expand 40 = .ok (.invokevirtual 80, 3) := by decide +kernel
theorem dX3_expand_43 : decode cX3_expand 43 = .ok (.aload_n 0, 1) := by decide +kernel
theorem dX3_expand_44 : decode cX3_expand 44 = .ok (.iconst 0, 1) := by decide +kernel
theorem dX3_expand_45 : decode cX3_expand 45 = .ok (.invokevirtual 83, 3) := by decide +kernel
theorem dX3_expand_48 : decode cX3_expand 48 = .ok (.aload_n 0, 1) := by decide +kernel
theorem dX3_expand_49 : decode cX3_expand 49 = .ok (.iconst 1, 1) := by decide +kernel
theorem dX3_expand_50 : decode cX3_expand 50 = .ok (.invokevirtual 83, 3) := by decide +kernel
theorem dX3_expand_53 : decode cX3_expand 53 = .ok (.aload_n 0, 1) := by decide +kernel
theorem dX3_expand_54 : decode cX3_expand 54 = .ok (.iconst 1, 1) := by decide +kernel
theorem dX3_expand_55 : decode cX3_expand 55 = .ok (.putfield 59, 3) := by decide +kernel
theorem dX3_expand_58 : decode cX3_expand 58 = .ok (.aload_n 0, 1) := by decide +kernel
theorem dX3_expand_59 : decode cX3_expand 59 = .ok (.iconst 0, 1) := by decide +kernel
theorem dX3_expand_60 : decode cX3_expand 60 = .ok (.putfield 62, 3) := by decide +kernel
theorem dX3_expand_63 : decode cX3_expand 63 = .ok (.iconst 1, 1) := by decide +kernel
theorem dX3_expand_64 : decode cX3_expand 64 = .ok (.ireturn, 1) := by decide +kernel
theorem dX3_macStart_0 : decode cX3_macStart 0 = .ok (.aload_n 0, 1) := by decide +kernel
theorem dX3_macStart_1 : decode cX3_macStart 1 = .ok (.iconst 0, 1) := by decide +kernel
theorem dX3_macStart_2 : decode cX3_macStart 2 = .ok (.putfield 51, 3) := by decide +kernel
theorem dX3_macStart_5 : decode cX3_macStart 5 = .ok (.aload_n 0, 1) := by decide +kernel
theorem dX3_macStart_6 : decode cX3_macStart 6 = .ok (.getfield 59, 3) := by decide +kernel
theorem dX3_macStart_9 : decode cX3_macStart 9 = .ok (.ifCond .ne 5, 3) := by decide +kernel
theorem dX3_macStart_12 : decode cX3_macStart 12 = .ok (.iconst 0, 1) := by decide +kernel
theorem dX3_macStart_13 : decode cX3_macStart 13 = .ok (.ireturn, 1) := by decide +kernel
theorem dX3_macStart_14 : decode cX3_macStart 14 = .ok (.iconst 0, 1) := by decide +kernel
theorem dX3_macStart_15 : decode cX3_macStart 15 = .ok (.istore_n 1, 1) := by decide +kernel
theorem dX3_macStart_16 : decode cX3_macStart 16 = .ok (.iload_n 1, 1) := by decide +kernel
theorem dX3_macStart_17 : decode cX3_macStart 17 = .ok (.bipush 16, 2) := by decide +kernel
theorem dX3_macStart_19 : decode cX3_macStart 19 = .ok (.if_icmp .ge 16, 3) := by decide +kernel
theorem dX3_macStart_22 : decode cX3_macStart 22 = .ok (.aload_n 0, 1) := by decide +kernel
theorem dX3_macStart_23 : decode cX3_macStart 23 = .ok (.getfield 37, 3) := by decide +kernel
theorem dX3_macStart_26 : decode cX3_macStart 26 = .ok (.iload_n 1, 1) := by decide +kernel
theorem dX3_macStart_27 : decode cX3_macStart 27 = .ok (.iconst 0, 1) := by decide +kernel
theorem dX3_macStart_28 : decode cX3_macStart 28 = .ok (.iastore, 1) := by decide +kernel
theorem dX3_macStart_29 : decode cX3_macStart 29 = .ok (.iinc 1 1, 3) := by decide +kernel
theorem dX3_macStart_32 : decode cX3_macStart 32 = .ok (.goto (-16), 3) := by decide +kernel
theorem dX3_macStart_35 : decode cX3_macStart 35 = .ok (.aload_n 0, 1) := by decide +kernel
theorem dX3_macStart_36 : decode cX3_macStart 36 = .ok (.iconst 0, 1) := by decide +kernel
end
section
theorem dX3_macStart_37 : decode cX3_macStart 37 = .ok (.putfield 86, 3) := by decide +kernel
theorem dX3_macStart_40 : decode cX3_macStart 40 = .ok (.aload_n 0, 1) := by decide +kernel
theorem dX3_macStart_41 : decode cX3_macStart 41 = .ok (.iconst 1, 1) := by decide +kernel
theorem dX3_macStart_42 : decode cX3_macStart 42 = .ok (.putfield 62, 3) := by decide +kernel
theorem dX3_macStart_45 : decode cX3_macStart 45 = .ok (.iconst 1, 1) := by decide +kernel
theorem dX3_macStart_46 : decode cX3_macStart 46 = .ok (.ireturn, 1) := by decide +kernel
theorem dX3_take_0 : decode cX3_take 0 = .ok (.iconst 0, 1) := by decide +kernel
theorem dX3_take_1 : decode cX3_take 1 = .ok (.istore_n 1, 1) := by decide +kernel
theorem dX3_take_2 : decode cX3_take 2 = .ok (.iload_n 1, 1) := by decide +kernel
theorem dX3_take_3 : decode cX3_take 3 = .ok (.bipush 16, 2) := by decide +kernel
theorem dX3_take_5 : decode cX3_take 5 = .ok (.if_icmp .ge 28, 3) := by decide +kernel
theorem dX3_take_8 : decode cX3_take 8 = .ok (.aload_n 0, 1) := by decide +kernel
theorem dX3_take_9 : decode cX3_take 9 = .ok (.getfield 31, 3) := by decide +kernel
theorem dX3_take_12 : decode cX3_take 12 = .ok (.iload_n 1, 1) := by decide +kernel
theorem dX3_take_13 : decode cX3_take 13 = .ok (.aload_n 0, 1) := by decide +kernel
theorem dX3_take_14 : decode cX3_take 14 = .ok (.getfield 37, 3) := by decide +kernel
theorem dX3_take_17 : decode cX3_take 17 = .ok (.iload_n 1, 1) := by decide +kernel
theorem dX3_take_18 : decode cX3_take 18 = .ok (.iaload, 1) := by decide +kernel
theorem dX3_take_19 : decode cX3_take 19 = .ok (.aload_n 0, 1) := by decide +kernel
theorem dX3_take_20 : decode cX3_take 20 = .ok (.getfield 40, 3) := by decide +kernel
theorem dX3_take_23 : decode cX3_take 23 = .ok (.iload_n 1, 1) := by decide +kernel
theorem dX3_take_24 : decode cX3_take 24 = .ok (.iaload, 1) := by decide +kernel
theorem dX3_take_25 : decode cX3_take 25 = .ok (.ixor, 1) := by decide +kernel
theorem dX3_take_26 : decode cX3_take 26 = .ok (.iastore, 1) := by decide +kernel
theorem dX3_take_27 : decode cX3_take 27 = .ok (.iinc 1 1, 3) := by decide +kernel
theorem dX3_take_30 : decode cX3_take 30 = .ok (.goto (-28), 3) := by decide +kernel
theorem dX3_take_33 : decode cX3_take 33 = .ok (.aload_n 0, 1) := by decide +kernel
theorem dX3_take_34 : decode cX3_take 34 = .ok (.invokevirtual 80, 3) := by decide +kernel
theorem dX3_take_37 : decode cX3_take 37 = .ok (.iconst 0, 1) := by decide +kernel
theorem dX3_take_38 : decode cX3_take 38 = .ok (.istore_n 1, 1) := by decide +kernel
theorem dX3_take_39 : decode cX3_take 39 = .ok (.iload_n 1, 1) := by decide +kernel
theorem dX3_take_40 : decode cX3_take 40 = .ok (.bipush 16, 2) := by decide +kernel
theorem dX3_take_42 : decode cX3_take 42 = .ok (.if_icmp .ge 21, 3) := by decide +kernel
theorem dX3_take_45 : decode cX3_take 45 = .ok (.aload_n 0, 1) := by decide +kernel
theorem dX3_take_46 : decode cX3_take 46 = .ok (.getfield 37, 3) := by decide +kernel
theorem dX3_take_49 : decode cX3_take 49 = .ok (.iload_n 1, 1) := by decide +kernel
theorem dX3_take_50 : decode cX3_take 50 = .ok (.aload_n 0, 1) := by decide +kernel
theorem dX3_take_51 : decode cX3_take 51 = .ok (.getfield 31, 3) := by decide +kernel
theorem dX3_take_54 : decode cX3_take 54 = .ok (.iload_n 1, 1) := by decide +kernel
theorem dX3_take_55 : decode cX3_take 55 = .ok (.iaload, 1) := by decide +kernel
theorem dX3_take_56 : decode cX3_take 56 = .ok (.iastore, 1) := by decide +kernel
theorem dX3_take_57 : decode cX3_take 57 = .ok (.iinc 1 1, 3) := by decide +kernel
theorem dX3_take_60 : decode cX3_take 60 = .ok (.goto (-21), 3) := by decide +kernel
theorem dX3_take_63 : decode cX3_take 63 = .ok (.aload_n 0, 1) := by decide +kernel
theorem dX3_take_64 : decode cX3_take 64 = .ok (.iconst 0, 1) := by decide +kernel
theorem dX3_take_65 : decode cX3_take 65 = .ok (.putfield 86, 3) := by decide +kernel
theorem dX3_take_68 : decode cX3_take 68 = .ok (.return_, 1) := by decide +kernel
theorem dX3_feed_0 : decode cX3_feed 0 = .ok (.aload_n 0, 1) := by decide +kernel
theorem dX3_feed_1 : decode cX3_feed 1 = .ok (.getfield 86, 3) := by decide +kernel
theorem dX3_feed_4 : decode cX3_feed 4 = .ok (.bipush 16, 2) := by decide +kernel
theorem dX3_feed_6 : decode cX3_feed 6 = .ok (.if_icmp .ne 7, 3) := by decide +kernel
theorem dX3_feed_9 : decode cX3_feed 9 = .ok (.aload_n 0, 1) := by decide +kernel
theorem dX3_feed_10 : decode cX3_feed 10 = .ok (.invokevirtual 89, 3) := by decide +kernel
theorem dX3_feed_13 : decode cX3_feed 13 = .ok (.aload_n 0, 1) := by decide +kernel
theorem dX3_feed_14 : decode cX3_feed 14 = .ok (.getfield 40, 3) := by decide +kernel
theorem dX3_feed_17 : decode cX3_feed 17 = .ok (.aload_n 0, 1) := by decide +kernel
theorem dX3_feed_18 : decode cX3_feed 18 = .ok (.getfield 86, 3) := by decide +kernel
theorem dX3_feed_21 : decode cX3_feed 21 = .ok (.iload_n 1, 1) := by decide +kernel
theorem dX3_feed_22 : decode cX3_feed 22 = .ok (.iastore, 1) := by decide +kernel
theorem dX3_feed_23 : decode cX3_feed 23 = .ok (.aload_n 0, 1) := by decide +kernel
theorem dX3_feed_24 : decode cX3_feed 24 = .ok (.dup, 1) := by decide +kernel
theorem dX3_feed_25 : decode cX3_feed 25 = .ok (.getfield 86, 3) := by decide +kernel
theorem dX3_feed_28 : decode cX3_feed 28 = .ok (.iconst 1, 1) := by decide +kernel
theorem dX3_feed_29 : decode cX3_feed 29 = .ok (.iadd, 1) := by decide +kernel
theorem dX3_feed_30 : decode cX3_feed 30 = .ok (.putfield 86, 3) := by decide +kernel
theorem dX3_feed_33 : decode cX3_feed 33 = .ok (.return_, 1) := by decide +kernel
theorem dX3_macUpdate_0 : decode cX3_macUpdate 0 = .ok (.aload_n 0, 1) := by decide +kernel
theorem dX3_macUpdate_1 : decode cX3_macUpdate 1 = .ok (.iconst 0, 1) := by decide +kernel
theorem dX3_macUpdate_2 : decode cX3_macUpdate 2 = .ok (.putfield 51, 3) := by decide +kernel
theorem dX3_macUpdate_5 : decode cX3_macUpdate 5 = .ok (.aload_n 0, 1) := by decide +kernel
theorem dX3_macUpdate_6 : decode cX3_macUpdate 6 = .ok (.getfield 62, 3) := by decide +kernel
theorem dX3_macUpdate_9 : decode cX3_macUpdate 9 = .ok (.iconst 1, 1) := by decide +kernel
theorem dX3_macUpdate_10 : decode cX3_macUpdate 10 = .ok (.if_icmp .ne 13, 3) := by decide +kernel
theorem dX3_macUpdate_13 : decode cX3_macUpdate 13 = .ok (.iload_n 1, 1) := by decide +kernel
theorem dX3_macUpdate_14 : decode cX3_macUpdate 14 = .ok (.sipush 255, 3) := by decide +kernel
theorem dX3_macUpdate_17 : decode cX3_macUpdate 17 = .ok (.invokestatic 65, 3) := by decide +kernel
theorem dX3_macUpdate_20 : decode cX3_macUpdate 20 = .ok (.ifCond .ne 5, 3) := by decide +kernel
theorem dX3_macUpdate_23 : decode cX3_macUpdate 23 = .ok (.iconst 0, 1) := by decide +kernel
theorem dX3_macUpdate_24 : decode cX3_macUpdate 24 = .ok (.ireturn, 1) := by decide +kernel
theorem dX3_macUpdate_25 : decode cX3_macUpdate 25 = .ok (.aload_n 0, 1) := by decide +kernel
theorem dX3_macUpdate_26 : decode cX3_macUpdate 26 = .ok (.iload_n 1, 1) := by decide +kernel
theorem dX3_macUpdate_27 : decode cX3_macUpdate 27 = .ok (.invokevirtual 92, 3) := by decide +kernel
theorem dX3_macUpdate_30 : decode cX3_macUpdate 30 = .ok (.iconst 1, 1) := by decide +kernel
theorem dX3_macUpdate_31 : decode cX3_macUpdate 31 = .ok (.ireturn, 1) := by decide +kernel
theorem dX3_macFill_0 : decode cX3_macFill 0 = .ok (.aload_n 0, 1) := by decide +kernel
theorem dX3_macFill_1 : decode cX3_macFill 1 = .ok (.iconst 0, 1) := by decide +kernel
theorem dX3_macFill_2 : decode cX3_macFill 2 = .ok (.putfield 51, 3) := by decide +kernel
theorem dX3_macFill_5 : decode cX3_macFill 5 = .ok (.aload_n 0, 1) := by decide +kernel
theorem dX3_macFill_6 : decode cX3_macFill 6 = .ok (.getfield 62, 3) := by decide +kernel
theorem dX3_macFill_9 : decode cX3_macFill 9 = .ok (.iconst 1, 1) := by decide +kernel
theorem dX3_macFill_10 : decode cX3_macFill 10 = .ok (.if_icmp .ne 13, 3) := by decide +kernel
theorem dX3_macFill_13 : decode cX3_macFill 13 = .ok (.iload_n 1, 1) := by decide +kernel
theorem dX3_macFill_14 : decode cX3_macFill 14 = .ok (.sipush 10000, 3) := by decide +kernel
theorem dX3_macFill_17 : decode cX3_macFill 17 = .ok (.invokestatic 65, 3) := by decide +kernel
theorem dX3_macFill_20 : decode cX3_macFill 20 = .ok (.ifCond .ne 5, 3) := by decide +kernel
theorem dX3_macFill_23 : decode cX3_macFill 23 = .ok (.iconst 0, 1) := by decide +kernel
theorem dX3_macFill_24 : decode cX3_macFill 24 = .ok (.ireturn, 1) := by decide +kernel
theorem dX3_macFill_25 : decode cX3_macFill 25 = .ok (.iload_n 2, 1) := by decide +kernel
theorem dX3_macFill_26 : decode cX3_macFill 26 = .ok (.istore 4, 2) := by decide +kernel
theorem dX3_macFill_28 : decode cX3_macFill 28 = .ok (.iconst 0, 1) := by decide +kernel
theorem dX3_macFill_29 : decode cX3_macFill 29 = .ok (.istore 5, 2) := by decide +kernel
theorem dX3_macFill_31 : decode cX3_macFill 31 = .ok (.iload 5, 2) := by decide +kernel
theorem dX3_macFill_33 : decode cX3_macFill 33 = .ok (.iload_n 1, 1) := by decide +kernel
theorem dX3_macFill_34 : decode cX3_macFill 34 = .ok (.if_icmp .ge 25, 3) := by decide +kernel
theorem dX3_macFill_37 : decode cX3_macFill 37 = .ok (.aload_n 0, 1) := by decide +kernel
theorem dX3_macFill_38 : decode cX3_macFill 38 = .ok (.iload 4, 2) := by decide +kernel
theorem dX3_macFill_40 : decode cX3_macFill 40 = .ok (.sipush 255, 3) := by decide +kernel
theorem dX3_macFill_43 : decode cX3_macFill 43 = .ok (.iand, 1) := by decide +kernel
theorem dX3_macFill_44 : decode cX3_macFill 44 = .ok (.invokevirtual 92, 3) := by decide +kernel
theorem dX3_macFill_47 : decode cX3_macFill 47 = .ok (.iload 4, 2) := by decide +kernel
theorem dX3_macFill_49 : decode cX3_macFill 49 = .ok (.iload_n 3, 1) := by decide +kernel
theorem dX3_macFill_50 : decode cX3_macFill 50 = .ok (.iadd, 1) := by decide +kernel
theorem dX3_macFill_51 : decode cX3_macFill 51 = .ok (.istore 4, 2) := by decide +kernel
theorem dX3_macFill_53 : decode cX3_macFill 53 = .ok (.iinc 5 1, 3) := by decide +kernel
theorem dX3_macFill_56 : decode cX3_macFill 56 = .ok (.goto (-25), 3) := by decide +kernel
theorem dX3_macFill_59 : decode cX3_macFill 59 = .ok (.iconst 1, 1) := by decide +kernel
theorem dX3_macFill_60 : decode cX3_macFill 60 = .ok (.ireturn, 1) := by decide +kernel
theorem dX3_macFinish_0 : decode cX3_macFinish 0 = .ok (.aload_n 0, 1) := by decide +kernel
theorem dX3_macFinish_1 : decode cX3_macFinish 1 = .ok (.iconst 0, 1) := by decide +kernel
theorem dX3_macFinish_2 : decode cX3_macFinish 2 = .ok (.putfield 51, 3) := by decide +kernel
theorem dX3_macFinish_5 : decode cX3_macFinish 5 = .ok (.aload_n 0, 1) := by decide +kernel
theorem dX3_macFinish_6 : decode cX3_macFinish 6 = .ok (.getfield 62, 3) := by decide +kernel
theorem dX3_macFinish_9 : decode cX3_macFinish 9 = .ok (.iconst 1, 1) := by decide +kernel
theorem dX3_macFinish_10 : decode cX3_macFinish 10 = .ok (.if_icmp .eq 5, 3) := by decide +kernel
theorem dX3_macFinish_13 : decode cX3_macFinish 13 = .ok (.iconst 0, 1) := by decide +kernel
theorem dX3_macFinish_14 : decode cX3_macFinish 14 = .ok (.ireturn, 1) := by decide +kernel
theorem dX3_macFinish_15 : decode cX3_macFinish 15 = .ok (.aload_n 0, 1) := by decide +kernel
theorem dX3_macFinish_16 : decode cX3_macFinish 16 = .ok (.getfield 86, 3) := by decide +kernel
theorem dX3_macFinish_19 : decode cX3_macFinish 19 = .ok (.bipush 16, 2) := by decide +kernel
theorem dX3_macFinish_21 : decode cX3_macFinish 21 = .ok (.if_icmp .ne 7, 3) := by decide +kernel
theorem dX3_macFinish_24 : decode cX3_macFinish 24 = .ok (.iconst 0, 1) := by decide +kernel
theorem dX3_macFinish_25 : decode cX3_macFinish 25 = .ok (.goto 5, 3) := by decide +kernel
theorem dX3_macFinish_28 : decode cX3_macFinish 28 = .ok (.bipush 16, 2) := by decide +kernel
theorem dX3_macFinish_30 : decode cX3_macFinish 30 = .ok (.istore_n 1, 1) := by decide +kernel
theorem dX3_macFinish_31 : decode cX3_macFinish 31 = .ok (.aload_n 0, 1) := by decide +kernel
theorem dX3_macFinish_32 : decode cX3_macFinish 32 = .ok (.getfield 86, 3) := by decide +kernel
theorem dX3_macFinish_35 : decode cX3_macFinish 35 = .ok (.istore_n 2, 1) := by decide +kernel
theorem dX3_macFinish_36 : decode cX3_macFinish 36 = .ok (.iload_n 2, 1) := by decide +kernel
theorem dX3_macFinish_37 : decode cX3_macFinish 37 = .ok (.bipush 16, 2) := by decide +kernel
theorem dX3_macFinish_39 : decode cX3_macFinish 39 = .ok (.if_icmp .ge 30, 3) := by decide +kernel
theorem dX3_macFinish_42 : decode cX3_macFinish 42 = .ok (.aload_n 0, 1) := by decide +kernel
theorem dX3_macFinish_43 : decode cX3_macFinish 43 = .ok (.getfield 40, 3) := by decide +kernel
theorem dX3_macFinish_46 : decode cX3_macFinish 46 = .ok (.iload_n 2, 1) := by decide +kernel
theorem dX3_macFinish_47 : decode cX3_macFinish 47 = .ok (.iload_n 2, 1) := by decide +kernel
theorem dX3_macFinish_48 : decode cX3_macFinish 48 = .ok (.aload_n 0, 1) := by decide +kernel
theorem dX3_macFinish_49 : decode cX3_macFinish 49 = .ok (.getfield 86, 3) := by decide +kernel
theorem dX3_macFinish_52 : decode cX3_macFinish 52 = .ok (.if_icmp .ne 9, 3) := by decide +kernel
theorem dX3_macFinish_55 : decode cX3_macFinish 55 = .ok (.sipush 128, 3) := by decide +kernel
theorem dX3_macFinish_58 : decode cX3_macFinish 58 = .ok (.goto 4, 3) := by decide +kernel
theorem dX3_macFinish_61 : decode cX3_macFinish 61 = .ok (.iconst 0, 1) := by decide +kernel
theorem dX3_macFinish_62 : decode cX3_macFinish 62 = .ok (.iastore, 1) := by decide +kernel
theorem dX3_macFinish_63 : decode cX3_macFinish 63 = .ok (.iinc 2 1, 3) := by decide +kernel
theorem dX3_macFinish_66 : decode cX3_macFinish 66 = .ok (.goto (-30), 3) := by decide +kernel
theorem dX3_macFinish_69 : decode cX3_macFinish 69 = .ok (.iconst 0, 1) := by decide +kernel
theorem dX3_macFinish_70 : decode cX3_macFinish 70 = .ok (.istore_n 2, 1) := by decide +kernel
theorem dX3_macFinish_71 : decode cX3_macFinish 71 = .ok (.iload_n 2, 1) := by decide +kernel
theorem dX3_macFinish_72 : decode cX3_macFinish 72 = .ok (.bipush 16, 2) := by decide +kernel
theorem dX3_macFinish_74 : decode cX3_macFinish 74 = .ok (.if_icmp .ge 37, 3) := by decide +kernel
theorem dX3_macFinish_77 : decode cX3_macFinish 77 = .ok (.aload_n 0, 1) := by decide +kernel
theorem dX3_macFinish_78 : decode cX3_macFinish 78 = .ok (.getfield 40, 3) := by decide +kernel
theorem dX3_macFinish_81 : decode cX3_macFinish 81 = .ok (.iload_n 2, 1) := by decide +kernel
theorem dX3_macFinish_82 : decode cX3_macFinish 82 = .ok (.aload_n 0, 1) := by decide +kernel
theorem dX3_macFinish_83 : decode cX3_macFinish 83 = .ok (.getfield 40, 3) := by decide +kernel
theorem dX3_macFinish_86 : decode cX3_macFinish 86 = .ok (.iload_n 2, 1) := by decide +kernel
theorem dX3_macFinish_87 : decode cX3_macFinish 87 = .ok (.iaload, 1) := by decide +kernel
theorem dX3_macFinish_88 : decode cX3_macFinish 88 = .ok (.aload_n 0, 1) := by decide +kernel
theorem dX3_macFinish_89 : decode cX3_macFinish 89 = .ok (.getfield 28, 3) := by decide +kernel
theorem dX3_macFinish_92 : decode cX3_macFinish 92 = .ok (.iload_n 1, 1) := by decide +kernel
theorem dX3_macFinish_93 : decode cX3_macFinish 93 = .ok (.iload_n 2, 1) := by decide +kernel
theorem dX3_macFinish_94 : decode cX3_macFinish 94 = .ok (.iadd, 1) := by decide +kernel
theorem dX3_macFinish_95 : decode cX3_macFinish 95 = .ok (.iaload, 1) := by decide +kernel
theorem dX3_macFinish_96 : decode cX3_macFinish 96 = .ok (.ixor, 1) := by decide +kernel
theorem dX3_macFinish_97 : decode cX3_macFinish 97 = .ok (.iastore, 1) := by decide +kernel
theorem dX3_macFinish_98 : decode cX3_macFinish 98 = .ok (.aload_n 0, 1) := by decide +kernel
theorem dX3_macFinish_99 : decode cX3_macFinish 99 = .ok (.getfield 43, 3) := by decide +kernel
theorem dX3_macFinish_102 : decode cX3_macFinish 102 = .ok (.iload_n 2, 1) := by decide +kernel
theorem dX3_macFinish_103 : decode cX3_macFinish 103 = .ok (.iconst 0, 1) := by decide +kernel
theorem dX3_macFinish_104 : decode cX3_macFinish 104 = .ok (.bastore, 1) := by decide +kernel
theorem dX3_macFinish_105 : decode cX3_macFinish 105 = .ok (.iinc 2 1, 3) := by decide +kernel
theorem dX3_macFinish_108 : decode cX3_macFinish 108 = .ok (.goto (-37), 3) := by decide +kernel
theorem dX3_macFinish_111 : decode cX3_macFinish 111 = .ok (.aload_n 0, 1) := by decide +kernel
theorem dX3_macFinish_112 : decode cX3_macFinish 112 = .ok (.invokevirtual 89, 3) := by decide +kernel
theorem dX3_macFinish_115 : decode cX3_macFinish 115 = .ok (.aload_n 0, 1) := by decide +kernel
theorem dX3_macFinish_116 : decode cX3_macFinish 116 = .ok (.iconst 0, 1) := by decide +kernel
theorem dX3_macFinish_117 : decode cX3_macFinish 117 = .ok (.putfield 95, 3) := by decide +kernel
theorem dX3_macFinish_120 : decode cX3_macFinish 120 = .ok (.aload_n 0, 1) := by decide +kernel
theorem dX3_macFinish_121 : decode cX3_macFinish 121 = .ok (.iconst 2, 1) := by decide +kernel
theorem dX3_macFinish_122 : decode cX3_macFinish 122 = .ok (.putfield 62, 3) := by decide +kernel
theorem dX3_macFinish_125 : decode cX3_macFinish 125 = .ok (.iconst 1, 1) := by decide +kernel
theorem dX3_macFinish_126 : decode cX3_macFinish 126 = .ok (.ireturn, 1) := by decide +kernel
theorem dX3_tagByte_0 : decode cX3_tagByte 0 = .ok (.aload_n 0, 1) := by decide +kernel
theorem dX3_tagByte_1 : decode cX3_tagByte 1 = .ok (.iconst 0, 1) := by decide +kernel
theorem dX3_tagByte_2 : decode cX3_tagByte 2 = .ok (.putfield 51, 3) := by decide +kernel
theorem dX3_tagByte_5 : decode cX3_tagByte 5 = .ok (.aload_n 0, 1) := by decide +kernel
theorem dX3_tagByte_6 : decode cX3_tagByte 6 = .ok (.getfield 62, 3) := by decide +kernel
theorem dX3_tagByte_9 : decode cX3_tagByte 9 = .ok (.iconst 2, 1) := by decide +kernel
theorem dX3_tagByte_10 : decode cX3_tagByte 10 = .ok (.if_icmp .ne 21, 3) := by decide +kernel
theorem dX3_tagByte_13 : decode cX3_tagByte 13 = .ok (.iload_n 1, 1) := by decide +kernel
theorem dX3_tagByte_14 : decode cX3_tagByte 14 = .ok (.bipush 15, 2) := by decide +kernel
theorem dX3_tagByte_16 : decode cX3_tagByte 16 = .ok (.invokestatic 65, 3) := by decide +kernel
theorem dX3_tagByte_19 : decode cX3_tagByte 19 = .ok (.ifCond .eq 12, 3) := by decide +kernel
theorem dX3_tagByte_22 : decode cX3_tagByte 22 = .ok (.aload_n 0, 1) := by decide +kernel
theorem dX3_tagByte_23 : decode cX3_tagByte 23 = .ok (.getfield 37, 3) := by decide +kernel
theorem dX3_tagByte_26 : decode cX3_tagByte 26 = .ok (.iload_n 1, 1) := by decide +kernel
theorem dX3_tagByte_27 : decode cX3_tagByte 27 = .ok (.iaload, 1) := by decide +kernel
theorem dX3_tagByte_28 : decode cX3_tagByte 28 = .ok (.goto 4, 3) := by decide +kernel
theorem dX3_tagByte_31 : decode cX3_tagByte 31 = .ok (.iconst (-1), 1) := by decide +kernel
theorem dX3_tagByte_32 : decode cX3_tagByte 32 = .ok (.ireturn, 1) := by decide +kernel
theorem dX3_macCheck_0 : decode cX3_macCheck 0 = .ok (.aload_n 0, 1) := by decide +kernel
theorem dX3_macCheck_1 : decode cX3_macCheck 1 = .ok (.iconst 0, 1) := by decide +kernel
theorem dX3_macCheck_2 : decode cX3_macCheck 2 = .ok (.putfield 51, 3) := by decide +kernel
theorem dX3_macCheck_5 : decode cX3_macCheck 5 = .ok (.aload_n 0, 1) := by decide +kernel
theorem dX3_macCheck_6 : decode cX3_macCheck 6 = .ok (.getfield 62, 3) := by decide +kernel
theorem dX3_macCheck_9 : decode cX3_macCheck 9 = .ok (.iconst 2, 1) := by decide +kernel
theorem dX3_macCheck_10 : decode cX3_macCheck 10 = .ok (.if_icmp .ne 12, 3) := by decide +kernel
theorem dX3_macCheck_13 : decode cX3_macCheck 13 = .ok (.iload_n 1, 1) := by decide +kernel
theorem dX3_macCheck_14 : decode cX3_macCheck 14 = .ok (.bipush 15, 2) := by decide +kernel
theorem dX3_macCheck_16 : decode cX3_macCheck 16 = .ok (.invokestatic 65, 3) := by decide +kernel
theorem dX3_macCheck_19 : decode cX3_macCheck 19 = .ok (.ifCond .ne 5, 3) := by decide +kernel
theorem dX3_macCheck_22 : decode cX3_macCheck 22 = .ok (.iconst 0, 1) := by decide +kernel
theorem dX3_macCheck_23 : decode cX3_macCheck 23 = .ok (.ireturn, 1) := by decide +kernel
theorem dX3_macCheck_24 : decode cX3_macCheck 24 = .ok (.aload_n 0, 1) := by decide +kernel
theorem dX3_macCheck_25 : decode cX3_macCheck 25 = .ok (.getfield 43, 3) := by decide +kernel
theorem dX3_macCheck_28 : decode cX3_macCheck 28 = .ok (.iload_n 1, 1) := by decide +kernel
theorem dX3_macCheck_29 : decode cX3_macCheck 29 = .ok (.iconst 1, 1) := by decide +kernel
theorem dX3_macCheck_30 : decode cX3_macCheck 30 = .ok (.bastore, 1) := by decide +kernel
theorem dX3_macCheck_31 : decode cX3_macCheck 31 = .ok (.aload_n 0, 1) := by decide +kernel
theorem dX3_macCheck_32 : decode cX3_macCheck 32 = .ok (.aload_n 0, 1) := by decide +kernel
theorem dX3_macCheck_33 : decode cX3_macCheck 33 = .ok (.getfield 95, 3) := by decide +kernel
theorem dX3_macCheck_36 : decode cX3_macCheck 36 = .ok (.ifCond .ne 13, 3) := by decide +kernel
theorem dX3_macCheck_39 : decode cX3_macCheck 39 = .ok (.aload_n 0, 1) := by decide +kernel
theorem dX3_macCheck_40 : decode cX3_macCheck 40 = .ok (.getfield 37, 3) := by decide +kernel
theorem dX3_macCheck_43 : decode cX3_macCheck 43 = .ok (.iload_n 1, 1) := by decide +kernel
theorem dX3_macCheck_44 : decode cX3_macCheck 44 = .ok (.iaload, 1) := by decide +kernel
theorem dX3_macCheck_45 : decode cX3_macCheck 45 = .ok (.iload_n 2, 1) := by decide +kernel
theorem dX3_macCheck_46 : decode cX3_macCheck 46 = .ok (.if_icmp .eq 7, 3) := by decide +kernel
theorem dX3_macCheck_49 : decode cX3_macCheck 49 = .ok (.iconst 1, 1) := by decide +kernel
theorem dX3_macCheck_50 : decode cX3_macCheck 50 = .ok (.goto 4, 3) := by decide +kernel
theorem dX3_macCheck_53 : decode cX3_macCheck 53 = .ok (.iconst 0, 1) := by decide +kernel
theorem dX3_macCheck_54 : decode cX3_macCheck 54 = .ok (.putfield 95, 3) := by decide +kernel
theorem dX3_macCheck_57 : decode cX3_macCheck 57 = .ok (.iconst 1, 1) := by decide +kernel
theorem dX3_macCheck_58 : decode cX3_macCheck 58 = .ok (.ireturn, 1) := by decide +kernel
theorem dX3_macVerdict_0 : decode cX3_macVerdict 0 = .ok (.aload_n 0, 1) := by decide +kernel
theorem dX3_macVerdict_1 : decode cX3_macVerdict 1 = .ok (.iconst 0, 1) := by decide +kernel
theorem dX3_macVerdict_2 : decode cX3_macVerdict 2 = .ok (.putfield 51, 3) := by decide +kernel
theorem dX3_macVerdict_5 : decode cX3_macVerdict 5 = .ok (.aload_n 0, 1) := by decide +kernel
theorem dX3_macVerdict_6 : decode cX3_macVerdict 6 = .ok (.getfield 62, 3) := by decide +kernel
theorem dX3_macVerdict_9 : decode cX3_macVerdict 9 = .ok (.iconst 2, 1) := by decide +kernel
theorem dX3_macVerdict_10 : decode cX3_macVerdict 10 = .ok (.if_icmp .ne 14, 3) := by decide +kernel
theorem dX3_macVerdict_13 : decode cX3_macVerdict 13 = .ok (.aload_n 0, 1) := by decide +kernel
theorem dX3_macVerdict_14 : decode cX3_macVerdict 14 = .ok (.getfield 95, 3) := by decide +kernel
theorem dX3_macVerdict_17 : decode cX3_macVerdict 17 = .ok (.ifCond .ne 7, 3) := by decide +kernel
theorem dX3_macVerdict_20 : decode cX3_macVerdict 20 = .ok (.iconst 1, 1) := by decide +kernel
theorem dX3_macVerdict_21 : decode cX3_macVerdict 21 = .ok (.goto 4, 3) := by decide +kernel
theorem dX3_macVerdict_24 : decode cX3_macVerdict 24 = .ok (.iconst 0, 1) := by decide +kernel
theorem dX3_macVerdict_25 : decode cX3_macVerdict 25 = .ok (.istore_n 1, 1) := by decide +kernel
theorem dX3_macVerdict_26 : decode cX3_macVerdict 26 = .ok (.iconst 0, 1) := by decide +kernel
theorem dX3_macVerdict_27 : decode cX3_macVerdict 27 = .ok (.istore_n 2, 1) := by decide +kernel
theorem dX3_macVerdict_28 : decode cX3_macVerdict 28 = .ok (.iload_n 2, 1) := by decide +kernel
theorem dX3_macVerdict_29 : decode cX3_macVerdict 29 = .ok (.bipush 16, 2) := by decide +kernel
theorem dX3_macVerdict_31 : decode cX3_macVerdict 31 = .ok (.if_icmp .ge 28, 3) := by decide +kernel
theorem dX3_macVerdict_34 : decode cX3_macVerdict 34 = .ok (.iload_n 1, 1) := by decide +kernel
theorem dX3_macVerdict_35 : decode cX3_macVerdict 35 = .ok (.ifCond .eq 16, 3) := by decide +kernel
theorem dX3_macVerdict_38 : decode cX3_macVerdict 38 = .ok (.aload_n 0, 1) := by decide +kernel
theorem dX3_macVerdict_39 : decode cX3_macVerdict 39 = .ok (.getfield 43, 3) := by decide +kernel
theorem dX3_macVerdict_42 : decode cX3_macVerdict 42 = .ok (.iload_n 2, 1) := by decide +kernel
theorem dX3_macVerdict_43 : decode cX3_macVerdict 43 = .ok (.baload, 1) := by decide +kernel
theorem dX3_macVerdict_44 : decode cX3_macVerdict 44 = .ok (.ifCond .eq 7, 3) := by decide +kernel
theorem dX3_macVerdict_47 : decode cX3_macVerdict 47 = .ok (.iconst 1, 1) := by decide +kernel
theorem dX3_macVerdict_48 : decode cX3_macVerdict 48 = .ok (.goto 4, 3) := by decide +kernel
theorem dX3_macVerdict_51 : decode cX3_macVerdict 51 = .ok (.iconst 0, 1) := by decide +kernel
theorem dX3_macVerdict_52 : decode cX3_macVerdict 52 = .ok (.istore_n 1, 1) := by decide +kernel
theorem dX3_macVerdict_53 : decode cX3_macVerdict 53 = .ok (.iinc 2 1, 3) := by decide +kernel
theorem dX3_macVerdict_56 : decode cX3_macVerdict 56 = .ok (.goto (-28), 3) := by decide +kernel
theorem dX3_macVerdict_59 : decode cX3_macVerdict 59 = .ok (.iload_n 1, 1) := by decide +kernel
theorem dX3_macVerdict_60 : decode cX3_macVerdict 60 = .ok (.ireturn, 1) := by decide +kernel
theorem dX3_setBlockByte_0 : decode cX3_setBlockByte 0 = .ok (.aload_n 0, 1) := by decide +kernel
theorem dX3_setBlockByte_1 : decode cX3_setBlockByte 1 = .ok (.iconst 0, 1) := by decide +kernel
theorem dX3_setBlockByte_2 : decode cX3_setBlockByte 2 = .ok (.putfield 51, 3) := by decide +kernel
theorem dX3_setBlockByte_5 : decode cX3_setBlockByte 5 = .ok (.aload_n 0, 1) := by decide +kernel
theorem dX3_setBlockByte_6 : decode cX3_setBlockByte 6 = .ok (.getfield 55, 3) := by decide +kernel
theorem dX3_setBlockByte_9 : decode cX3_setBlockByte 9 = .ok (.ifCond .eq 22, 3) := by decide +kernel
theorem dX3_setBlockByte_12 : decode cX3_setBlockByte 12 = .ok (.iload_n 1, 1) := by decide +kernel
theorem dX3_setBlockByte_13 : decode cX3_setBlockByte 13 = .ok (.bipush 15, 2) := by decide +kernel
theorem dX3_setBlockByte_15 : decode cX3_setBlockByte 15 = .ok (.invokestatic 65, 3) := by decide +kernel
theorem dX3_setBlockByte_18 : decode cX3_setBlockByte 18 = .ok (.ifCond .eq 13, 3) := by decide +kernel
theorem dX3_setBlockByte_21 : decode cX3_setBlockByte 21 = .ok (.iload_n 2, 1) := by decide +kernel
theorem dX3_setBlockByte_22 : decode cX3_setBlockByte 22 = .ok (.sipush 255, 3) := by decide +kernel
theorem dX3_setBlockByte_25 : decode cX3_setBlockByte 25 = .ok (.invokestatic 65, 3) := by decide +kernel
theorem dX3_setBlockByte_28 : decode cX3_setBlockByte 28 = .ok (.ifCond .ne 5, 3) := by decide +kernel
theorem dX3_setBlockByte_31 : decode cX3_setBlockByte 31 = .ok (.iconst 0, 1) := by decide +kernel
theorem dX3_setBlockByte_32 : decode cX3_setBlockByte 32 = .ok (.ireturn, 1) := by decide +kernel
theorem dX3_setBlockByte_33 : decode cX3_setBlockByte 33 = .ok (.aload_n 0, 1) := by decide +kernel
theorem dX3_setBlockByte_34 : decode cX3_setBlockByte 34 = .ok (.getfield 13, 3) := by decide +kernel
theorem dX3_setBlockByte_37 : decode cX3_setBlockByte 37 = .ok (.iload_n 1, 1) := by decide +kernel
theorem dX3_setBlockByte_38 : decode cX3_setBlockByte 38 = .ok (.iload_n 2, 1) := by decide +kernel
theorem dX3_setBlockByte_39 : decode cX3_setBlockByte 39 = .ok (.iastore, 1) := by decide +kernel
theorem dX3_setBlockByte_40 : decode cX3_setBlockByte 40 = .ok (.iconst 1, 1) := by decide +kernel
theorem dX3_setBlockByte_41 : decode cX3_setBlockByte 41 = .ok (.ireturn, 1) := by decide +kernel
theorem dX3_load_0 : decode cX3_load 0 = .ok (.iconst 0, 1) := by decide +kernel
theorem dX3_load_1 : decode cX3_load 1 = .ok (.istore_n 2, 1) := by decide +kernel
theorem dX3_load_2 : decode cX3_load 2 = .ok (.iload_n 2, 1) := by decide +kernel
theorem dX3_load_3 : decode cX3_load 3 = .ok (.bipush 16, 2) := by decide +kernel
theorem dX3_load_5 : decode cX3_load 5 = .ok (.if_icmp .ge 41, 3) := by decide +kernel
theorem dX3_load_8 : decode cX3_load 8 = .ok (.aload_n 0, 1) := by decide +kernel
theorem dX3_load_9 : decode cX3_load 9 = .ok (.getfield 31, 3) := by decide +kernel
theorem dX3_load_12 : decode cX3_load 12 = .ok (.iload_n 2, 1) := by decide +kernel
theorem dX3_load_13 : decode cX3_load 13 = .ok (.iload_n 1, 1) := by decide +kernel
theorem dX3_load_14 : decode cX3_load 14 = .ok (.ifCond .eq 19, 3) := by decide +kernel
theorem dX3_load_17 : decode cX3_load 17 = .ok (.aload_n 0, 1) := by decide +kernel
theorem dX3_load_18 : decode cX3_load 18 = .ok (.getfield 13, 3) := by decide +kernel
theorem dX3_load_21 : decode cX3_load 21 = .ok (.iload_n 2, 1) := by decide +kernel
theorem dX3_load_22 : decode cX3_load 22 = .ok (.iaload, 1) := by decide +kernel
theorem dX3_load_23 : decode cX3_load 23 = .ok (.aload_n 0, 1) := by decide +kernel
theorem dX3_load_24 : decode cX3_load 24 = .ok (.getfield 16, 3) := by decide +kernel
theorem dX3_load_27 : decode cX3_load 27 = .ok (.iload_n 2, 1) := by decide +kernel
theorem dX3_load_28 : decode cX3_load 28 = .ok (.iaload, 1) := by decide +kernel
theorem dX3_load_29 : decode cX3_load 29 = .ok (.ixor, 1) := by decide +kernel
theorem dX3_load_30 : decode cX3_load 30 = .ok (.goto 9, 3) := by decide +kernel
theorem dX3_load_33 : decode cX3_load 33 = .ok (.aload_n 0, 1) := by decide +kernel
theorem dX3_load_34 : decode cX3_load 34 = .ok (.getfield 13, 3) := by decide +kernel
theorem dX3_load_37 : decode cX3_load 37 = .ok (.iload_n 2, 1) := by decide +kernel
theorem dX3_load_38 : decode cX3_load 38 = .ok (.iaload, 1) := by decide +kernel
theorem dX3_load_39 : decode cX3_load 39 = .ok (.iastore, 1) := by decide +kernel
theorem dX3_load_40 : decode cX3_load 40 = .ok (.iinc 2 1, 3) := by decide +kernel
theorem dX3_load_43 : decode cX3_load 43 = .ok (.goto (-41), 3) := by decide +kernel
theorem dX3_load_46 : decode cX3_load 46 = .ok (.return_, 1) := by decide +kernel
theorem dX3_encryptBlock_0 : decode cX3_encryptBlock 0 = .ok (.aload_n 0, 1) := by decide +kernel
theorem dX3_encryptBlock_1 : decode cX3_encryptBlock 1 = .ok (.iconst 0, 1) := by decide +kernel
theorem dX3_encryptBlock_2 : decode cX3_encryptBlock 2 = .ok (.putfield 51, 3) := by decide +kernel
theorem dX3_encryptBlock_5 : decode cX3_encryptBlock 5 = .ok (.aload_n 0, 1) := by decide +kernel
theorem dX3_encryptBlock_6 : decode cX3_encryptBlock 6 = .ok (.getfield 59, 3) := by decide +kernel
theorem dX3_encryptBlock_9 : decode cX3_encryptBlock 9 = .ok (.ifCond .eq 38, 3) := by decide +kernel
theorem dX3_encryptBlock_12 : decode cX3_encryptBlock 12 = .ok (.aload_n 0, 1) := by decide +kernel
theorem dX3_encryptBlock_13 : decode cX3_encryptBlock 13 = .ok (.iconst 0, 1) := by decide +kernel
theorem dX3_encryptBlock_14 : decode cX3_encryptBlock 14 = .ok (.invokevirtual 98, 3) := by decide +kernel
theorem dX3_encryptBlock_17 : decode cX3_encryptBlock 17 = .ok (.aload_n 0, 1) := by decide +kernel
theorem dX3_encryptBlock_18 : decode cX3_encryptBlock 18 = .ok (.invokevirtual 80, 3) := by decide +kernel
theorem dX3_encryptBlock_21 : decode cX3_encryptBlock 21 = .ok (.iconst 0, 1) := by decide +kernel
theorem dX3_encryptBlock_22 : decode cX3_encryptBlock 22 = .ok (.istore_n 1, 1) := by decide +kernel
theorem dX3_encryptBlock_23 : decode cX3_encryptBlock 23 = .ok (.iload_n 1, 1) := by decide +kernel
theorem dX3_encryptBlock_24 : decode cX3_encryptBlock 24 = .ok (.bipush 16, 2) := by decide +kernel
theorem dX3_encryptBlock_26 : decode cX3_encryptBlock 26 = .ok (.if_icmp .ge 21, 3) := by decide +kernel
theorem dX3_encryptBlock_29 : decode cX3_encryptBlock 29 = .ok (.aload_n 0, 1) := by decide +kernel
theorem dX3_encryptBlock_30 : decode cX3_encryptBlock 30 = .ok (.getfield 13, 3) := by decide +kernel
theorem dX3_encryptBlock_33 : decode cX3_encryptBlock 33 = .ok (.iload_n 1, 1) := by decide +kernel
theorem dX3_encryptBlock_34 : decode cX3_encryptBlock 34 = .ok (.aload_n 0, 1) := by decide +kernel
theorem dX3_encryptBlock_35 : decode cX3_encryptBlock 35 = .ok (.getfield 31, 3) := by decide +kernel
theorem dX3_encryptBlock_38 : decode cX3_encryptBlock 38 = .ok (.iload_n 1, 1) := by decide +kernel
theorem dX3_encryptBlock_39 : decode cX3_encryptBlock 39 = .ok (.iaload, 1) := by decide +kernel
theorem dX3_encryptBlock_40 : decode cX3_encryptBlock 40 = .ok (.iastore, 1) := by decide +kernel
theorem dX3_encryptBlock_41 : decode cX3_encryptBlock 41 = .ok (.iinc 1 1, 3) := by decide +kernel
theorem dX3_encryptBlock_44 : decode cX3_encryptBlock 44 = .ok (.goto (-21), 3) := by decide +kernel
theorem dX3_encryptBlock_47 : decode cX3_encryptBlock 47 = .ok (.aload_n 0, 1) := by decide +kernel
theorem dX3_encryptBlock_48 : decode cX3_encryptBlock 48 = .ok (.getfield 59, 3) := by decide +kernel
theorem dX3_encryptBlock_51 : decode cX3_encryptBlock 51 = .ok (.ireturn, 1) := by decide +kernel
theorem dX3_decryptBlock_0 : decode cX3_decryptBlock 0 = .ok (.aload_n 0, 1) := by decide +kernel
theorem dX3_decryptBlock_1 : decode cX3_decryptBlock 1 = .ok (.iconst 0, 1) := by decide +kernel
theorem dX3_decryptBlock_2 : decode cX3_decryptBlock 2 = .ok (.putfield 51, 3) := by decide +kernel
theorem dX3_decryptBlock_5 : decode cX3_decryptBlock 5 = .ok (.aload_n 0, 1) := by decide +kernel
theorem dX3_decryptBlock_6 : decode cX3_decryptBlock 6 = .ok (.getfield 59, 3) := by decide +kernel
theorem dX3_decryptBlock_9 : decode cX3_decryptBlock 9 = .ok (.ifCond .eq 38, 3) := by decide +kernel
theorem dX3_decryptBlock_12 : decode cX3_decryptBlock 12 = .ok (.aload_n 0, 1) := by decide +kernel
theorem dX3_decryptBlock_13 : decode cX3_decryptBlock 13 = .ok (.iconst 0, 1) := by decide +kernel
theorem dX3_decryptBlock_14 : decode cX3_decryptBlock 14 = .ok (.invokevirtual 98, 3) := by decide +kernel
theorem dX3_decryptBlock_17 : decode cX3_decryptBlock 17 = .ok (.aload_n 0, 1) := by decide +kernel
theorem dX3_decryptBlock_18 : decode cX3_decryptBlock 18 = .ok (.invokevirtual 102, 3) := by decide +kernel
theorem dX3_decryptBlock_21 : decode cX3_decryptBlock 21 = .ok (.iconst 0, 1) := by decide +kernel
theorem dX3_decryptBlock_22 : decode cX3_decryptBlock 22 = .ok (.istore_n 1, 1) := by decide +kernel
theorem dX3_decryptBlock_23 : decode cX3_decryptBlock 23 = .ok (.iload_n 1, 1) := by decide +kernel
theorem dX3_decryptBlock_24 : decode cX3_decryptBlock 24 = .ok (.bipush 16, 2) := by decide +kernel
theorem dX3_decryptBlock_26 : decode cX3_decryptBlock 26 = .ok (.if_icmp .ge 21, 3) := by decide +kernel
theorem dX3_decryptBlock_29 : decode cX3_decryptBlock 29 = .ok (.aload_n 0, 1) := by decide +kernel
theorem dX3_decryptBlock_30 : decode cX3_decryptBlock 30 = .ok (.getfield 13, 3) := by decide +kernel
theorem dX3_decryptBlock_33 : decode cX3_decryptBlock 33 = .ok (.iload_n 1, 1) := by decide +kernel
theorem dX3_decryptBlock_34 : decode cX3_decryptBlock 34 = .ok (.aload_n 0, 1) := by decide +kernel
theorem dX3_decryptBlock_35 : decode cX3_decryptBlock 35 = .ok (.getfield 31, 3) := by decide +kernel
theorem dX3_decryptBlock_38 : decode cX3_decryptBlock 38 = .ok (.iload_n 1, 1) := by decide +kernel
theorem dX3_decryptBlock_39 : decode cX3_decryptBlock 39 = .ok (.iaload, 1) := by decide +kernel
theorem dX3_decryptBlock_40 : decode cX3_decryptBlock 40 = .ok (.iastore, 1) := by decide +kernel
theorem dX3_decryptBlock_41 : decode cX3_decryptBlock 41 = .ok (.iinc 1 1, 3) := by decide +kernel
theorem dX3_decryptBlock_44 : decode cX3_decryptBlock 44 = .ok (.goto (-21), 3) := by decide +kernel
theorem dX3_decryptBlock_47 : decode cX3_decryptBlock 47 = .ok (.aload_n 0, 1) := by decide +kernel
theorem dX3_decryptBlock_48 : decode cX3_decryptBlock 48 = .ok (.getfield 59, 3) := by decide +kernel
theorem dX3_decryptBlock_51 : decode cX3_decryptBlock 51 = .ok (.ireturn, 1) := by decide +kernel
theorem dX3_chain_0 : decode cX3_chain 0 = .ok (.aload_n 0, 1) := by decide +kernel
theorem dX3_chain_1 : decode cX3_chain 1 = .ok (.iconst 0, 1) := by decide +kernel
theorem dX3_chain_2 : decode cX3_chain 2 = .ok (.putfield 51, 3) := by decide +kernel
theorem dX3_chain_5 : decode cX3_chain 5 = .ok (.aload_n 0, 1) := by decide +kernel
theorem dX3_chain_6 : decode cX3_chain 6 = .ok (.getfield 59, 3) := by decide +kernel
theorem dX3_chain_9 : decode cX3_chain 9 = .ok (.ifCond .ne 5, 3) := by decide +kernel
theorem dX3_chain_12 : decode cX3_chain 12 = .ok (.iconst 0, 1) := by decide +kernel
theorem dX3_chain_13 : decode cX3_chain 13 = .ok (.ireturn, 1) := by decide +kernel
theorem dX3_chain_14 : decode cX3_chain 14 = .ok (.aload_n 0, 1) := by decide +kernel
theorem dX3_chain_15 : decode cX3_chain 15 = .ok (.iload_n 1, 1) := by decide +kernel
theorem dX3_chain_16 : decode cX3_chain 16 = .ok (.ifCond .ne 7, 3) := by decide +kernel
theorem dX3_chain_19 : decode cX3_chain 19 = .ok (.iconst 1, 1) := by decide +kernel
theorem dX3_chain_20 : decode cX3_chain 20 = .ok (.goto 4, 3) := by decide +kernel
theorem dX3_chain_23 : decode cX3_chain 23 = .ok (.iconst 0, 1) := by decide +kernel
theorem dX3_chain_24 : decode cX3_chain 24 = .ok (.invokevirtual 98, 3) := by decide +kernel
theorem dX3_chain_27 : decode cX3_chain 27 = .ok (.iload_n 1, 1) := by decide +kernel
theorem dX3_chain_28 : decode cX3_chain 28 = .ok (.ifCond .eq 10, 3) := by decide +kernel
theorem dX3_chain_31 : decode cX3_chain 31 = .ok (.aload_n 0, 1) := by decide +kernel
theorem dX3_chain_32 : decode cX3_chain 32 = .ok (.invokevirtual 102, 3) := by decide +kernel
theorem dX3_chain_35 : decode cX3_chain 35 = .ok (.goto 7, 3) := by decide +kernel
theorem dX3_chain_38 : decode cX3_chain 38 = .ok (.aload_n 0, 1) := by decide +kernel
theorem dX3_chain_39 : decode cX3_chain 39 = .ok (.invokevirtual 80, 3) := by decide +kernel
theorem dX3_chain_42 : decode cX3_chain 42 = .ok (.iconst 0, 1) := by decide +kernel
theorem dX3_chain_43 : decode cX3_chain 43 = .ok (.istore_n 2, 1) := by decide +kernel
theorem dX3_chain_44 : decode cX3_chain 44 = .ok (.iload_n 2, 1) := by decide +kernel
theorem dX3_chain_45 : decode cX3_chain 45 = .ok (.bipush 16, 2) := by decide +kernel
theorem dX3_chain_47 : decode cX3_chain 47 = .ok (.if_icmp .ge 68, 3) := by decide +kernel
theorem dX3_chain_50 : decode cX3_chain 50 = .ok (.aload_n 0, 1) := by decide +kernel
theorem dX3_chain_51 : decode cX3_chain 51 = .ok (.getfield 13, 3) := by decide +kernel
theorem dX3_chain_54 : decode cX3_chain 54 = .ok (.iload_n 2, 1) := by decide +kernel
theorem dX3_chain_55 : decode cX3_chain 55 = .ok (.iaload, 1) := by decide +kernel
theorem dX3_chain_56 : decode cX3_chain 56 = .ok (.istore_n 3, 1) := by decide +kernel
theorem dX3_chain_57 : decode cX3_chain 57 = .ok (.aload_n 0, 1) := by decide +kernel
theorem dX3_chain_58 : decode cX3_chain 58 = .ok (.getfield 13, 3) := by decide +kernel
theorem dX3_chain_61 : decode cX3_chain 61 = .ok (.iload_n 2, 1) := by decide +kernel
theorem dX3_chain_62 : decode cX3_chain 62 = .ok (.iload_n 1, 1) := by decide +kernel
theorem dX3_chain_63 : decode cX3_chain 63 = .ok (.ifCond .eq 19, 3) := by decide +kernel
theorem dX3_chain_66 : decode cX3_chain 66 = .ok (.aload_n 0, 1) := by decide +kernel
theorem dX3_chain_67 : decode cX3_chain 67 = .ok (.getfield 31, 3) := by decide +kernel
theorem dX3_chain_70 : decode cX3_chain 70 = .ok (.iload_n 2, 1) := by decide +kernel
theorem dX3_chain_71 : decode cX3_chain 71 = .ok (.iaload, 1) := by decide +kernel
theorem dX3_chain_72 : decode cX3_chain 72 = .ok (.aload_n 0, 1) := by decide +kernel
theorem dX3_chain_73 : decode cX3_chain 73 = .ok (.getfield 16, 3) := by decide +kernel
theorem dX3_chain_76 : decode cX3_chain 76 = .ok (.iload_n 2, 1) := by decide +kernel
theorem dX3_chain_77 : decode cX3_chain 77 = .ok (.iaload, 1) := by decide +kernel
theorem dX3_chain_78 : decode cX3_chain 78 = .ok (.ixor, 1) := by decide +kernel
theorem dX3_chain_79 : decode cX3_chain 79 = .ok (.goto 9, 3) := by decide +kernel
theorem dX3_chain_82 : decode cX3_chain 82 = .ok (.aload_n 0, 1) := by decide +kernel
theorem dX3_chain_83 : decode cX3_chain 83 = .ok (.getfield 31, 3) := by decide +kernel
theorem dX3_chain_86 : decode cX3_chain 86 = .ok (.iload_n 2, 1) := by decide +kernel
theorem dX3_chain_87 : decode cX3_chain 87 = .ok (.iaload, 1) := by decide +kernel
theorem dX3_chain_88 : decode cX3_chain 88 = .ok (.iastore, 1) := by decide +kernel
theorem dX3_chain_89 : decode cX3_chain 89 = .ok (.aload_n 0, 1) := by decide +kernel
theorem dX3_chain_90 : decode cX3_chain 90 = .ok (.getfield 16, 3) := by decide +kernel
theorem dX3_chain_93 : decode cX3_chain 93 = .ok (.iload_n 2, 1) := by decide +kernel
theorem dX3_chain_94 : decode cX3_chain 94 = .ok (.iload_n 1, 1) := by decide +kernel
theorem dX3_chain_95 : decode cX3_chain 95 = .ok (.ifCond .eq 7, 3) := by decide +kernel
theorem dX3_chain_98 : decode cX3_chain 98 = .ok (.iload_n 3, 1) := by decide +kernel
theorem dX3_chain_99 : decode cX3_chain 99 = .ok (.goto 9, 3) := by decide +kernel
theorem dX3_chain_102 : decode cX3_chain 102 = .ok (.aload_n 0, 1) := by decide +kernel
theorem dX3_chain_103 : decode cX3_chain 103 = .ok (.getfield 31, 3) := by decide +kernel
theorem dX3_chain_106 : decode cX3_chain 106 = .ok (.iload_n 2, 1) := by decide +kernel
theorem dX3_chain_107 : decode cX3_chain 107 = .ok (.iaload, 1) := by decide +kernel
theorem dX3_chain_108 : decode cX3_chain 108 = .ok (.iastore, 1) := by decide +kernel
theorem dX3_chain_109 : decode cX3_chain 109 = .ok (.iinc 2 1, 3) := by decide +kernel
theorem dX3_chain_112 : decode cX3_chain 112 = .ok (.goto (-68), 3) := by decide +kernel
theorem dX3_chain_115 : decode cX3_chain 115 = .ok (.iconst 1, 1) := by decide +kernel
theorem dX3_chain_116 : decode cX3_chain 116 = .ok (.ireturn, 1) := by decide +kernel
theorem dX3_unchain_0 : decode cX3_unchain 0 = .ok (.aload_n 0, 1) := by decide +kernel
theorem dX3_unchain_1 : decode cX3_unchain 1 = .ok (.iconst 0, 1) := by decide +kernel
theorem dX3_unchain_2 : decode cX3_unchain 2 = .ok (.putfield 51, 3) := by decide +kernel
theorem dX3_unchain_5 : decode cX3_unchain 5 = .ok (.iconst 0, 1) := by decide +kernel
theorem dX3_unchain_6 : decode cX3_unchain 6 = .ok (.istore_n 1, 1) := by decide +kernel
theorem dX3_unchain_7 : decode cX3_unchain 7 = .ok (.iload_n 1, 1) := by decide +kernel
theorem dX3_unchain_8 : decode cX3_unchain 8 = .ok (.bipush 16, 2) := by decide +kernel
theorem dX3_unchain_10 : decode cX3_unchain 10 = .ok (.if_icmp .ge 23, 3) := by decide +kernel
theorem dX3_unchain_13 : decode cX3_unchain 13 = .ok (.aload_n 0, 1) := by decide +kernel
theorem dX3_unchain_14 : decode cX3_unchain 14 = .ok (.getfield 55, 3) := by decide +kernel
theorem dX3_unchain_17 : decode cX3_unchain 17 = .ok (.ifCond .eq 16, 3) := by decide +kernel
theorem dX3_unchain_20 : decode cX3_unchain 20 = .ok (.aload_n 0, 1) := by decide +kernel
theorem dX3_unchain_21 : decode cX3_unchain 21 = .ok (.getfield 16, 3) := by decide +kernel
theorem dX3_unchain_24 : decode cX3_unchain 24 = .ok (.iload_n 1, 1) := by decide +kernel
theorem dX3_unchain_25 : decode cX3_unchain 25 = .ok (.iconst 0, 1) := by decide +kernel
theorem dX3_unchain_26 : decode cX3_unchain 26 = .ok (.iastore, 1) := by decide +kernel
theorem dX3_unchain_27 : decode cX3_unchain 27 = .ok (.iinc 1 1, 3) := by decide +kernel
theorem dX3_unchain_30 : decode cX3_unchain 30 = .ok (.goto (-23), 3) := by decide +kernel
theorem dX3_unchain_33 : decode cX3_unchain 33 = .ok (.aload_n 0, 1) := by decide +kernel
theorem dX3_unchain_34 : decode cX3_unchain 34 = .ok (.getfield 55, 3) := by decide +kernel
theorem dX3_unchain_37 : decode cX3_unchain 37 = .ok (.ireturn, 1) := by decide +kernel
theorem dX3_blockByte_0 : decode cX3_blockByte 0 = .ok (.aload_n 0, 1) := by decide +kernel
theorem dX3_blockByte_1 : decode cX3_blockByte 1 = .ok (.iconst 0, 1) := by decide +kernel
theorem dX3_blockByte_2 : decode cX3_blockByte 2 = .ok (.putfield 51, 3) := by decide +kernel
theorem dX3_blockByte_5 : decode cX3_blockByte 5 = .ok (.aload_n 0, 1) := by decide +kernel
theorem dX3_blockByte_6 : decode cX3_blockByte 6 = .ok (.getfield 55, 3) := by decide +kernel
theorem dX3_blockByte_9 : decode cX3_blockByte 9 = .ok (.ifCond .eq 21, 3) := by decide +kernel
theorem dX3_blockByte_12 : decode cX3_blockByte 12 = .ok (.iload_n 1, 1) := by decide +kernel
theorem dX3_blockByte_13 : decode cX3_blockByte 13 = .ok (.bipush 15, 2) := by decide +kernel
theorem dX3_blockByte_15 : decode cX3_blockByte 15 = .ok (.invokestatic 65, 3) := by decide +kernel
theorem dX3_blockByte_18 : decode cX3_blockByte 18 = .ok (.ifCond .eq 12, 3) := by decide +kernel
theorem dX3_blockByte_21 : decode cX3_blockByte 21 = .ok (.aload_n 0, 1) := by decide +kernel
theorem dX3_blockByte_22 : decode cX3_blockByte 22 = .ok (.getfield 13, 3) := by decide +kernel
theorem dX3_blockByte_25 : decode cX3_blockByte 25 = .ok (.iload_n 1, 1) := by decide +kernel
theorem dX3_blockByte_26 : decode cX3_blockByte 26 = .ok (.iaload, 1) := by decide +kernel
theorem dX3_blockByte_27 : decode cX3_blockByte 27 = .ok (.goto 4, 3) := by decide +kernel
theorem dX3_blockByte_30 : decode cX3_blockByte 30 = .ok (.iconst (-1), 1) := by decide +kernel
theorem dX3_blockByte_31 : decode cX3_blockByte 31 = .ok (.ireturn, 1) := by decide +kernel
theorem dX3_half_0 : decode cX3_half 0 = .ok (.aload_n 0, 1) := by decide +kernel
theorem dX3_half_1 : decode cX3_half 1 = .ok (.iconst 0, 1) := by decide +kernel
theorem dX3_half_2 : decode cX3_half 2 = .ok (.putfield 51, 3) := by decide +kernel
theorem dX3_half_5 : decode cX3_half 5 = .ok (.aload_n 0, 1) := by decide +kernel
theorem dX3_half_6 : decode cX3_half 6 = .ok (.getfield 59, 3) := by decide +kernel
theorem dX3_half_9 : decode cX3_half 9 = .ok (.ifCond .eq 34, 3) := by decide +kernel
theorem dX3_half_12 : decode cX3_half 12 = .ok (.iload_n 1, 1) := by decide +kernel
theorem dX3_half_13 : decode cX3_half 13 = .ok (.iconst 1, 1) := by decide +kernel
theorem dX3_half_14 : decode cX3_half 14 = .ok (.invokestatic 65, 3) := by decide +kernel
theorem dX3_half_17 : decode cX3_half 17 = .ok (.ifCond .eq 26, 3) := by decide +kernel
theorem dX3_half_20 : decode cX3_half 20 = .ok (.iload_n 2, 1) := by decide +kernel
theorem dX3_half_21 : decode cX3_half 21 = .ok (.bipush 15, 2) := by decide +kernel
theorem dX3_half_23 : decode cX3_half 23 = .ok (.invokestatic 65, 3) := by decide +kernel
theorem dX3_half_26 : decode cX3_half 26 = .ok (.ifCond .eq 17, 3) := by decide +kernel
theorem dX3_half_29 : decode cX3_half 29 = .ok (.aload_n 0, 1) := by decide +kernel
theorem dX3_half_30 : decode cX3_half 30 = .ok (.getfield 28, 3) := by decide +kernel
theorem dX3_half_33 : decode cX3_half 33 = .ok (.bipush 16, 2) := by decide +kernel
theorem dX3_half_35 : decode cX3_half 35 = .ok (.iload_n 1, 1) := by decide +kernel
theorem dX3_half_36 : decode cX3_half 36 = .ok (.imul, 1) := by decide +kernel
theorem dX3_half_37 : decode cX3_half 37 = .ok (.iload_n 2, 1) := by decide +kernel
theorem dX3_half_38 : decode cX3_half 38 = .ok (.iadd, 1) := by decide +kernel
theorem dX3_half_39 : decode cX3_half 39 = .ok (.iaload, 1) := by decide +kernel
theorem dX3_half_40 : decode cX3_half 40 = .ok (.goto 4, 3) := by decide +kernel
theorem dX3_half_43 : decode cX3_half 43 = .ok (.iconst (-1), 1) := by decide +kernel
theorem dX3_half_44 : decode cX3_half 44 = .ok (.ireturn, 1) := by decide +kernel
theorem dJ7_fill_53178_0 : decode cJ7_fill_53178 0 = .ok (.iconst 0, 1) := by decide +kernel
theorem dJ7_fill_53178_1 : decode cJ7_fill_53178 1 = .ok (.istore_n 2, 1) := by decide +kernel
theorem dJ7_fill_53178_2 : decode cJ7_fill_53178 2 = .ok (.aload_n 0, 1) := by decide +kernel
theorem dJ7_fill_53178_3 : decode cJ7_fill_53178 3 = .ok (.arraylength, 1) := by decide +kernel
theorem dJ7_fill_53178_4 : decode cJ7_fill_53178 4 = .ok (.istore_n 3, 1) := by decide +kernel
theorem dJ7_fill_53178_5 : decode cJ7_fill_53178 5 = .ok (.iload_n 2, 1) := by decide +kernel
theorem dJ7_fill_53178_6 : decode cJ7_fill_53178 6 = .ok (.iload_n 3, 1) := by decide +kernel
theorem dJ7_fill_53178_7 : decode cJ7_fill_53178 7 = .ok (.if_icmp .ge 13, 3) := by decide +kernel
theorem dJ7_fill_53178_10 : decode cJ7_fill_53178 10 = .ok (.aload_n 0, 1) := by decide +kernel
theorem dJ7_fill_53178_11 : decode cJ7_fill_53178 11 = .ok (.iload_n 2, 1) := by decide +kernel
theorem dJ7_fill_53178_12 : decode cJ7_fill_53178 12 = .ok (.iload_n 1, 1) := by decide +kernel
theorem dJ7_fill_53178_13 : decode cJ7_fill_53178 13 = .ok (.iastore, 1) := by decide +kernel
theorem dJ7_fill_53178_14 : decode cJ7_fill_53178 14 = .ok (.iinc 2 1, 3) := by decide +kernel
theorem dJ7_fill_53178_17 : decode cJ7_fill_53178 17 = .ok (.goto (-12), 3) := by decide +kernel
theorem dJ7_fill_53178_20 : decode cJ7_fill_53178 20 = .ok (.return_, 1) := by decide +kernel
theorem dL_law_0 : decode cL_law 0 = .ok (.new 7, 3) := by decide +kernel
theorem dL_law_3 : decode cL_law 3 = .ok (.dup, 1) := by decide +kernel
theorem dL_law_4 : decode cL_law 4 = .ok (.invokespecial 9, 3) := by decide +kernel
theorem dL_law_7 : decode cL_law 7 = .ok (.astore_n 1, 1) := by decide +kernel
theorem dL_law_8 : decode cL_law 8 = .ok (.new 10, 3) := by decide +kernel
theorem dL_law_11 : decode cL_law 11 = .ok (.dup, 1) := by decide +kernel
theorem dL_law_12 : decode cL_law 12 = .ok (.invokespecial 12, 3) := by decide +kernel
theorem dL_law_15 : decode cL_law 15 = .ok (.astore_n 2, 1) := by decide +kernel
theorem dL_law_16 : decode cL_law 16 = .ok (.iconst 0, 1) := by decide +kernel
theorem dL_law_17 : decode cL_law 17 = .ok (.istore_n 3, 1) := by decide +kernel
theorem dL_law_18 : decode cL_law 18 = .ok (.iload_n 3, 1) := by decide +kernel
theorem dL_law_19 : decode cL_law 19 = .ok (.aload_n 0, 1) := by decide +kernel
theorem dL_law_20 : decode cL_law 20 = .ok (.arraylength, 1) := by decide +kernel
theorem dL_law_21 : decode cL_law 21 = .ok (.iconst 4, 1) := by decide +kernel
theorem dL_law_22 : decode cL_law 22 = .ok (.isub, 1) := by decide +kernel
theorem dL_law_23 : decode cL_law 23 = .ok (.if_icmp .gt 484, 3) := by decide +kernel
theorem dL_law_26 : decode cL_law 26 = .ok (.aload_n 0, 1) := by decide +kernel
theorem dL_law_27 : decode cL_law 27 = .ok (.iload_n 3, 1) := by decide +kernel
theorem dL_law_28 : decode cL_law 28 = .ok (.iaload, 1) := by decide +kernel
theorem dL_law_29 : decode cL_law 29 = .ok (.bipush 31, 2) := by decide +kernel
theorem dL_law_31 : decode cL_law 31 = .ok (.iand, 1) := by decide +kernel
theorem dL_law_32 : decode cL_law 32 = .ok (.tableswitch 469 0 16 #[84, 95, 128, 141, 154, 177, 220, 233, 256, 289, 302, 335, 348, 361, 400, 413, 436], 84) := by decide +kernel
theorem dL_law_116 : decode cL_law 116 = .ok (.aload_n 1, 1) := by decide +kernel
theorem dL_law_117 : decode cL_law 117 = .ok (.invokevirtual 13, 3) := by decide +kernel
theorem dL_law_120 : decode cL_law 120 = .ok (.aload_n 2, 1) := by decide +kernel
theorem dL_law_121 : decode cL_law 121 = .ok (.invokevirtual 16, 3) := by decide +kernel
theorem dL_law_124 : decode cL_law 124 = .ok (.goto 377, 3) := by decide +kernel
theorem dL_law_127 : decode cL_law 127 = .ok (.aload_n 1, 1) := by decide +kernel
theorem dL_law_128 : decode cL_law 128 = .ok (.aload_n 0, 1) := by decide +kernel
theorem dL_law_129 : decode cL_law 129 = .ok (.iload_n 3, 1) := by decide +kernel
theorem dL_law_130 : decode cL_law 130 = .ok (.iconst 1, 1) := by decide +kernel
theorem dL_law_131 : decode cL_law 131 = .ok (.iadd, 1) := by decide +kernel
theorem dL_law_132 : decode cL_law 132 = .ok (.iaload, 1) := by decide +kernel
theorem dL_law_133 : decode cL_law 133 = .ok (.aload_n 0, 1) := by decide +kernel
theorem dL_law_134 : decode cL_law 134 = .ok (.iload_n 3, 1) := by decide +kernel
theorem dL_law_135 : decode cL_law 135 = .ok (.iconst 2, 1) := by decide +kernel
theorem dL_law_136 : decode cL_law 136 = .ok (.iadd, 1) := by decide +kernel
theorem dL_law_137 : decode cL_law 137 = .ok (.iaload, 1) := by decide +kernel
theorem dL_law_138 : decode cL_law 138 = .ok (.invokevirtual 17, 3) := by decide +kernel
theorem dL_law_141 : decode cL_law 141 = .ok (.aload_n 2, 1) := by decide +kernel
theorem dL_law_142 : decode cL_law 142 = .ok (.aload_n 0, 1) := by decide +kernel
theorem dL_law_143 : decode cL_law 143 = .ok (.iload_n 3, 1) := by decide +kernel
theorem dL_law_144 : decode cL_law 144 = .ok (.iconst 1, 1) := by decide +kernel
theorem dL_law_145 : decode cL_law 145 = .ok (.iadd, 1) := by decide +kernel
theorem dL_law_146 : decode cL_law 146 = .ok (.iaload, 1) := by decide +kernel
theorem dL_law_147 : decode cL_law 147 = .ok (.aload_n 0, 1) := by decide +kernel
theorem dL_law_148 : decode cL_law 148 = .ok (.iload_n 3, 1) := by decide +kernel
theorem dL_law_149 : decode cL_law 149 = .ok (.iconst 2, 1) := by decide +kernel
theorem dL_law_150 : decode cL_law 150 = .ok (.iadd, 1) := by decide +kernel
theorem dL_law_151 : decode cL_law 151 = .ok (.iaload, 1) := by decide +kernel
theorem dL_law_152 : decode cL_law 152 = .ok (.invokevirtual 21, 3) := by decide +kernel
theorem dL_law_155 : decode cL_law 155 = .ok (.if_icmp .eq 346, 3) := by decide +kernel
theorem dL_law_158 : decode cL_law 158 = .ok (.iconst 0, 1) := by decide +kernel
theorem dL_law_159 : decode cL_law 159 = .ok (.ireturn, 1) := by decide +kernel
theorem dL_law_160 : decode cL_law 160 = .ok (.aload_n 1, 1) := by decide +kernel
theorem dL_law_161 : decode cL_law 161 = .ok (.invokevirtual 22, 3) := by decide +kernel
theorem dL_law_164 : decode cL_law 164 = .ok (.aload_n 2, 1) := by decide +kernel
theorem dL_law_165 : decode cL_law 165 = .ok (.invokevirtual 26, 3) := by decide +kernel
theorem dL_law_168 : decode cL_law 168 = .ok (.if_icmp .eq 333, 3) := by decide +kernel
theorem dL_law_171 : decode cL_law 171 = .ok (.iconst 0, 1) := by decide +kernel
theorem dL_law_172 : decode cL_law 172 = .ok (.ireturn, 1) := by decide +kernel
theorem dL_law_173 : decode cL_law 173 = .ok (.aload_n 1, 1) := by decide +kernel
theorem dL_law_174 : decode cL_law 174 = .ok (.invokevirtual 27, 3) := by decide +kernel
theorem dL_law_177 : decode cL_law 177 = .ok (.aload_n 2, 1) := by decide +kernel
theorem dL_law_178 : decode cL_law 178 = .ok (.invokevirtual 30, 3) := by decide +kernel
theorem dL_law_181 : decode cL_law 181 = .ok (.if_icmp .eq 320, 3) := by decide +kernel
theorem dL_law_184 : decode cL_law 184 = .ok (.iconst 0, 1) := by decide +kernel
theorem dL_law_185 : decode cL_law 185 = .ok (.ireturn, 1) := by decide +kernel
theorem dL_law_186 : decode cL_law 186 = .ok (.aload_n 1, 1) := by decide +kernel
theorem dL_law_187 : decode cL_law 187 = .ok (.aload_n 0, 1) := by decide +kernel
theorem dL_law_188 : decode cL_law 188 = .ok (.iload_n 3, 1) := by decide +kernel
theorem dL_law_189 : decode cL_law 189 = .ok (.iconst 1, 1) := by decide +kernel
theorem dL_law_190 : decode cL_law 190 = .ok (.iadd, 1) := by decide +kernel
theorem dL_law_191 : decode cL_law 191 = .ok (.iaload, 1) := by decide +kernel
theorem dL_law_192 : decode cL_law 192 = .ok (.invokevirtual 31, 3) := by decide +kernel
theorem dL_law_195 : decode cL_law 195 = .ok (.aload_n 2, 1) := by decide +kernel
theorem dL_law_196 : decode cL_law 196 = .ok (.aload_n 0, 1) := by decide +kernel
theorem dL_law_197 : decode cL_law 197 = .ok (.iload_n 3, 1) := by decide +kernel
theorem dL_law_198 : decode cL_law 198 = .ok (.iconst 1, 1) := by decide +kernel
theorem dL_law_199 : decode cL_law 199 = .ok (.iadd, 1) := by decide +kernel
theorem dL_law_200 : decode cL_law 200 = .ok (.iaload, 1) := by decide +kernel
theorem dL_law_201 : decode cL_law 201 = .ok (.invokevirtual 35, 3) := by decide +kernel
theorem dL_law_204 : decode cL_law 204 = .ok (.if_icmp .eq 297, 3) := by decide +kernel
theorem dL_law_207 : decode cL_law 207 = .ok (.iconst 0, 1) := by decide +kernel
theorem dL_law_208 : decode cL_law 208 = .ok (.ireturn, 1) := by decide +kernel
theorem dL_law_209 : decode cL_law 209 = .ok (.aload_n 1, 1) := by decide +kernel
theorem dL_law_210 : decode cL_law 210 = .ok (.aload_n 0, 1) := by decide +kernel
theorem dL_law_211 : decode cL_law 211 = .ok (.iload_n 3, 1) := by decide +kernel
theorem dL_law_212 : decode cL_law 212 = .ok (.iconst 1, 1) := by decide +kernel
theorem dL_law_213 : decode cL_law 213 = .ok (.iadd, 1) := by decide +kernel
theorem dL_law_214 : decode cL_law 214 = .ok (.iaload, 1) := by decide +kernel
theorem dL_law_215 : decode cL_law 215 = .ok (.aload_n 0, 1) := by decide +kernel
theorem dL_law_216 : decode cL_law 216 = .ok (.iload_n 3, 1) := by decide +kernel
theorem dL_law_217 : decode cL_law 217 = .ok (.iconst 2, 1) := by decide +kernel
theorem dL_law_218 : decode cL_law 218 = .ok (.iadd, 1) := by decide +kernel
theorem dL_law_219 : decode cL_law 219 = .ok (.iaload, 1) := by decide +kernel
theorem dL_law_220 : decode cL_law 220 = .ok (.aload_n 0, 1) := by decide +kernel
theorem dL_law_221 : decode cL_law 221 = .ok (.iload_n 3, 1) := by decide +kernel
theorem dL_law_222 : decode cL_law 222 = .ok (.iconst 3, 1) := by decide +kernel
theorem dL_law_223 : decode cL_law 223 = .ok (.iadd, 1) := by decide +kernel
theorem dL_law_224 : decode cL_law 224 = .ok (.iaload, 1) := by decide +kernel
theorem dL_law_225 : decode cL_law 225 = .ok (.invokevirtual 36, 3) := by decide +kernel
theorem dL_law_228 : decode cL_law 228 = .ok (.aload_n 2, 1) := by decide +kernel
theorem dL_law_229 : decode cL_law 229 = .ok (.aload_n 0, 1) := by decide +kernel
theorem dL_law_230 : decode cL_law 230 = .ok (.iload_n 3, 1) := by decide +kernel
theorem dL_law_231 : decode cL_law 231 = .ok (.iconst 1, 1) := by decide +kernel
theorem dL_law_232 : decode cL_law 232 = .ok (.iadd, 1) := by decide +kernel
theorem dL_law_233 : decode cL_law 233 = .ok (.iaload, 1) := by decide +kernel
theorem dL_law_234 : decode cL_law 234 = .ok (.aload_n 0, 1) := by decide +kernel
theorem dL_law_235 : decode cL_law 235 = .ok (.iload_n 3, 1) := by decide +kernel
theorem dL_law_236 : decode cL_law 236 = .ok (.iconst 2, 1) := by decide +kernel
theorem dL_law_237 : decode cL_law 237 = .ok (.iadd, 1) := by decide +kernel
theorem dL_law_238 : decode cL_law 238 = .ok (.iaload, 1) := by decide +kernel
theorem dL_law_239 : decode cL_law 239 = .ok (.aload_n 0, 1) := by decide +kernel
theorem dL_law_240 : decode cL_law 240 = .ok (.iload_n 3, 1) := by decide +kernel
theorem dL_law_241 : decode cL_law 241 = .ok (.iconst 3, 1) := by decide +kernel
theorem dL_law_242 : decode cL_law 242 = .ok (.iadd, 1) := by decide +kernel
theorem dL_law_243 : decode cL_law 243 = .ok (.iaload, 1) := by decide +kernel
theorem dL_law_244 : decode cL_law 244 = .ok (.invokevirtual 40, 3) := by decide +kernel
theorem dL_law_247 : decode cL_law 247 = .ok (.if_icmp .eq 254, 3) := by decide +kernel
theorem dL_law_250 : decode cL_law 250 = .ok (.iconst 0, 1) := by decide +kernel
theorem dL_law_251 : decode cL_law 251 = .ok (.ireturn, 1) := by decide +kernel
theorem dL_law_252 : decode cL_law 252 = .ok (.aload_n 1, 1) := by decide +kernel
theorem dL_law_253 : decode cL_law 253 = .ok (.invokevirtual 41, 3) := by decide +kernel
theorem dL_law_256 : decode cL_law 256 = .ok (.aload_n 2, 1) := by decide +kernel
theorem dL_law_257 : decode cL_law 257 = .ok (.invokevirtual 44, 3) := by decide +kernel
theorem dL_law_260 : decode cL_law 260 = .ok (.if_icmp .eq 241, 3) := by decide +kernel
theorem dL_law_263 : decode cL_law 263 = .ok (.iconst 0, 1) := by decide +kernel
theorem dL_law_264 : decode cL_law 264 = .ok (.ireturn, 1) := by decide +kernel
theorem dL_law_265 : decode cL_law 265 = .ok (.aload_n 1, 1) := by decide +kernel
theorem dL_law_266 : decode cL_law 266 = .ok (.aload_n 0, 1) := by decide +kernel
theorem dL_law_267 : decode cL_law 267 = .ok (.iload_n 3, 1) := by decide +kernel
theorem dL_law_268 : decode cL_law 268 = .ok (.iconst 1, 1) := by decide +kernel
theorem dL_law_269 : decode cL_law 269 = .ok (.iadd, 1) := by decide +kernel
theorem dL_law_270 : decode cL_law 270 = .ok (.iaload, 1) := by decide +kernel
theorem dL_law_271 : decode cL_law 271 = .ok (.invokevirtual 45, 3) := by decide +kernel
theorem dL_law_274 : decode cL_law 274 = .ok (.aload_n 2, 1) := by decide +kernel
theorem dL_law_275 : decode cL_law 275 = .ok (.aload_n 0, 1) := by decide +kernel
theorem dL_law_276 : decode cL_law 276 = .ok (.iload_n 3, 1) := by decide +kernel
theorem dL_law_277 : decode cL_law 277 = .ok (.iconst 1, 1) := by decide +kernel
theorem dL_law_278 : decode cL_law 278 = .ok (.iadd, 1) := by decide +kernel
theorem dL_law_279 : decode cL_law 279 = .ok (.iaload, 1) := by decide +kernel
theorem dL_law_280 : decode cL_law 280 = .ok (.invokevirtual 49, 3) := by decide +kernel
theorem dL_law_283 : decode cL_law 283 = .ok (.if_icmp .eq 218, 3) := by decide +kernel
theorem dL_law_286 : decode cL_law 286 = .ok (.iconst 0, 1) := by decide +kernel
theorem dL_law_287 : decode cL_law 287 = .ok (.ireturn, 1) := by decide +kernel
theorem dL_law_288 : decode cL_law 288 = .ok (.aload_n 1, 1) := by decide +kernel
theorem dL_law_289 : decode cL_law 289 = .ok (.aload_n 0, 1) := by decide +kernel
theorem dL_law_290 : decode cL_law 290 = .ok (.iload_n 3, 1) := by decide +kernel
theorem dL_law_291 : decode cL_law 291 = .ok (.iconst 1, 1) := by decide +kernel
theorem dL_law_292 : decode cL_law 292 = .ok (.iadd, 1) := by decide +kernel
theorem dL_law_293 : decode cL_law 293 = .ok (.iaload, 1) := by decide +kernel
theorem dL_law_294 : decode cL_law 294 = .ok (.aload_n 0, 1) := by decide +kernel
theorem dL_law_295 : decode cL_law 295 = .ok (.iload_n 3, 1) := by decide +kernel
theorem dL_law_296 : decode cL_law 296 = .ok (.iconst 2, 1) := by decide +kernel
theorem dL_law_297 : decode cL_law 297 = .ok (.iadd, 1) := by decide +kernel
theorem dL_law_298 : decode cL_law 298 = .ok (.iaload, 1) := by decide +kernel
theorem dL_law_299 : decode cL_law 299 = .ok (.invokevirtual 50, 3) := by decide +kernel
theorem dL_law_302 : decode cL_law 302 = .ok (.aload_n 2, 1) := by decide +kernel
theorem dL_law_303 : decode cL_law 303 = .ok (.aload_n 0, 1) := by decide +kernel
theorem dL_law_304 : decode cL_law 304 = .ok (.iload_n 3, 1) := by decide +kernel
theorem dL_law_305 : decode cL_law 305 = .ok (.iconst 1, 1) := by decide +kernel
theorem dL_law_306 : decode cL_law 306 = .ok (.iadd, 1) := by decide +kernel
theorem dL_law_307 : decode cL_law 307 = .ok (.iaload, 1) := by decide +kernel
theorem dL_law_308 : decode cL_law 308 = .ok (.aload_n 0, 1) := by decide +kernel
theorem dL_law_309 : decode cL_law 309 = .ok (.iload_n 3, 1) := by decide +kernel
theorem dL_law_310 : decode cL_law 310 = .ok (.iconst 2, 1) := by decide +kernel
theorem dL_law_311 : decode cL_law 311 = .ok (.iadd, 1) := by decide +kernel
theorem dL_law_312 : decode cL_law 312 = .ok (.iaload, 1) := by decide +kernel
theorem dL_law_313 : decode cL_law 313 = .ok (.invokevirtual 53, 3) := by decide +kernel
theorem dL_law_316 : decode cL_law 316 = .ok (.if_icmp .eq 185, 3) := by decide +kernel
theorem dL_law_319 : decode cL_law 319 = .ok (.iconst 0, 1) := by decide +kernel
theorem dL_law_320 : decode cL_law 320 = .ok (.ireturn, 1) := by decide +kernel
theorem dL_law_321 : decode cL_law 321 = .ok (.aload_n 1, 1) := by decide +kernel
theorem dL_law_322 : decode cL_law 322 = .ok (.invokevirtual 54, 3) := by decide +kernel
theorem dL_law_325 : decode cL_law 325 = .ok (.aload_n 2, 1) := by decide +kernel
theorem dL_law_326 : decode cL_law 326 = .ok (.invokevirtual 57, 3) := by decide +kernel
theorem dL_law_329 : decode cL_law 329 = .ok (.if_icmp .eq 172, 3) := by decide +kernel
theorem dL_law_332 : decode cL_law 332 = .ok (.iconst 0, 1) := by decide +kernel
theorem dL_law_333 : decode cL_law 333 = .ok (.ireturn, 1) := by decide +kernel
theorem dL_law_334 : decode cL_law 334 = .ok (.aload_n 1, 1) := by decide +kernel
theorem dL_law_335 : decode cL_law 335 = .ok (.aload_n 0, 1) := by decide +kernel
theorem dL_law_336 : decode cL_law 336 = .ok (.iload_n 3, 1) := by decide +kernel
theorem dL_law_337 : decode cL_law 337 = .ok (.iconst 1, 1) := by decide +kernel
theorem dL_law_338 : decode cL_law 338 = .ok (.iadd, 1) := by decide +kernel
theorem dL_law_339 : decode cL_law 339 = .ok (.iaload, 1) := by decide +kernel
theorem dL_law_340 : decode cL_law 340 = .ok (.aload_n 0, 1) := by decide +kernel
theorem dL_law_341 : decode cL_law 341 = .ok (.iload_n 3, 1) := by decide +kernel
theorem dL_law_342 : decode cL_law 342 = .ok (.iconst 2, 1) := by decide +kernel
theorem dL_law_343 : decode cL_law 343 = .ok (.iadd, 1) := by decide +kernel
theorem dL_law_344 : decode cL_law 344 = .ok (.iaload, 1) := by decide +kernel
theorem dL_law_345 : decode cL_law 345 = .ok (.invokevirtual 58, 3) := by decide +kernel
theorem dL_law_348 : decode cL_law 348 = .ok (.aload_n 2, 1) := by decide +kernel
theorem dL_law_349 : decode cL_law 349 = .ok (.aload_n 0, 1) := by decide +kernel
theorem dL_law_350 : decode cL_law 350 = .ok (.iload_n 3, 1) := by decide +kernel
theorem dL_law_351 : decode cL_law 351 = .ok (.iconst 1, 1) := by decide +kernel
theorem dL_law_352 : decode cL_law 352 = .ok (.iadd, 1) := by decide +kernel
theorem dL_law_353 : decode cL_law 353 = .ok (.iaload, 1) := by decide +kernel
theorem dL_law_354 : decode cL_law 354 = .ok (.aload_n 0, 1) := by decide +kernel
theorem dL_law_355 : decode cL_law 355 = .ok (.iload_n 3, 1) := by decide +kernel
theorem dL_law_356 : decode cL_law 356 = .ok (.iconst 2, 1) := by decide +kernel
theorem dL_law_357 : decode cL_law 357 = .ok (.iadd, 1) := by decide +kernel
theorem dL_law_358 : decode cL_law 358 = .ok (.iaload, 1) := by decide +kernel
theorem dL_law_359 : decode cL_law 359 = .ok (.invokevirtual 61, 3) := by decide +kernel
theorem dL_law_362 : decode cL_law 362 = .ok (.if_icmp .eq 139, 3) := by decide +kernel
theorem dL_law_365 : decode cL_law 365 = .ok (.iconst 0, 1) := by decide +kernel
theorem dL_law_366 : decode cL_law 366 = .ok (.ireturn, 1) := by decide +kernel
theorem dL_law_367 : decode cL_law 367 = .ok (.aload_n 1, 1) := by decide +kernel
theorem dL_law_368 : decode cL_law 368 = .ok (.invokevirtual 62, 3) := by decide +kernel
theorem dL_law_371 : decode cL_law 371 = .ok (.aload_n 2, 1) := by decide +kernel
theorem dL_law_372 : decode cL_law 372 = .ok (.invokevirtual 65, 3) := by decide +kernel
theorem dL_law_375 : decode cL_law 375 = .ok (.if_icmp .eq 126, 3) := by decide +kernel
theorem dL_law_378 : decode cL_law 378 = .ok (.iconst 0, 1) := by decide +kernel
theorem dL_law_379 : decode cL_law 379 = .ok (.ireturn, 1) := by decide +kernel
theorem dL_law_380 : decode cL_law 380 = .ok (.aload_n 1, 1) := by decide +kernel
theorem dL_law_381 : decode cL_law 381 = .ok (.invokevirtual 66, 3) := by decide +kernel
theorem dL_law_384 : decode cL_law 384 = .ok (.aload_n 2, 1) := by decide +kernel
theorem dL_law_385 : decode cL_law 385 = .ok (.invokevirtual 69, 3) := by decide +kernel
theorem dL_law_388 : decode cL_law 388 = .ok (.if_icmp .eq 113, 3) := by decide +kernel
theorem dL_law_391 : decode cL_law 391 = .ok (.iconst 0, 1) := by decide +kernel
theorem dL_law_392 : decode cL_law 392 = .ok (.ireturn, 1) := by decide +kernel
theorem dL_law_393 : decode cL_law 393 = .ok (.aload_n 1, 1) := by decide +kernel
theorem dL_law_394 : decode cL_law 394 = .ok (.aload_n 0, 1) := by decide +kernel
theorem dL_law_395 : decode cL_law 395 = .ok (.iload_n 3, 1) := by decide +kernel
theorem dL_law_396 : decode cL_law 396 = .ok (.iconst 1, 1) := by decide +kernel
theorem dL_law_397 : decode cL_law 397 = .ok (.iadd, 1) := by decide +kernel
theorem dL_law_398 : decode cL_law 398 = .ok (.iaload, 1) := by decide +kernel
theorem dL_law_399 : decode cL_law 399 = .ok (.ifCond .eq 7, 3) := by decide +kernel
theorem dL_law_402 : decode cL_law 402 = .ok (.iconst 1, 1) := by decide +kernel
theorem dL_law_403 : decode cL_law 403 = .ok (.goto 4, 3) := by decide +kernel
theorem dL_law_406 : decode cL_law 406 = .ok (.iconst 0, 1) := by decide +kernel
theorem dL_law_407 : decode cL_law 407 = .ok (.invokevirtual 70, 3) := by decide +kernel
theorem dL_law_410 : decode cL_law 410 = .ok (.aload_n 2, 1) := by decide +kernel
theorem dL_law_411 : decode cL_law 411 = .ok (.aload_n 0, 1) := by decide +kernel
theorem dL_law_412 : decode cL_law 412 = .ok (.iload_n 3, 1) := by decide +kernel
theorem dL_law_413 : decode cL_law 413 = .ok (.iconst 1, 1) := by decide +kernel
theorem dL_law_414 : decode cL_law 414 = .ok (.iadd, 1) := by decide +kernel
theorem dL_law_415 : decode cL_law 415 = .ok (.iaload, 1) := by decide +kernel
theorem dL_law_416 : decode cL_law 416 = .ok (.ifCond .eq 7, 3) := by decide +kernel
theorem dL_law_419 : decode cL_law 419 = .ok (.iconst 1, 1) := by decide +kernel
theorem dL_law_420 : decode cL_law 420 = .ok (.goto 4, 3) := by decide +kernel
theorem dL_law_423 : decode cL_law 423 = .ok (.iconst 0, 1) := by decide +kernel
theorem dL_law_424 : decode cL_law 424 = .ok (.invokevirtual 74, 3) := by decide +kernel
theorem dL_law_427 : decode cL_law 427 = .ok (.if_icmp .eq 74, 3) := by decide +kernel
theorem dL_law_430 : decode cL_law 430 = .ok (.iconst 0, 1) := by decide +kernel
theorem dL_law_431 : decode cL_law 431 = .ok (.ireturn, 1) := by decide +kernel
theorem dL_law_432 : decode cL_law 432 = .ok (.aload_n 1, 1) := by decide +kernel
theorem dL_law_433 : decode cL_law 433 = .ok (.invokevirtual 75, 3) := by decide +kernel
theorem dL_law_436 : decode cL_law 436 = .ok (.aload_n 2, 1) := by decide +kernel
theorem dL_law_437 : decode cL_law 437 = .ok (.invokevirtual 78, 3) := by decide +kernel
theorem dL_law_440 : decode cL_law 440 = .ok (.if_icmp .eq 61, 3) := by decide +kernel
theorem dL_law_443 : decode cL_law 443 = .ok (.iconst 0, 1) := by decide +kernel
theorem dL_law_444 : decode cL_law 444 = .ok (.ireturn, 1) := by decide +kernel
theorem dL_law_445 : decode cL_law 445 = .ok (.aload_n 1, 1) := by decide +kernel
theorem dL_law_446 : decode cL_law 446 = .ok (.aload_n 0, 1) := by decide +kernel
theorem dL_law_447 : decode cL_law 447 = .ok (.iload_n 3, 1) := by decide +kernel
theorem dL_law_448 : decode cL_law 448 = .ok (.iconst 1, 1) := by decide +kernel
theorem dL_law_449 : decode cL_law 449 = .ok (.iadd, 1) := by decide +kernel
theorem dL_law_450 : decode cL_law 450 = .ok (.iaload, 1) := by decide +kernel
theorem dL_law_451 : decode cL_law 451 = .ok (.invokevirtual 79, 3) := by decide +kernel
theorem dL_law_454 : decode cL_law 454 = .ok (.aload_n 2, 1) := by decide +kernel
theorem dL_law_455 : decode cL_law 455 = .ok (.aload_n 0, 1) := by decide +kernel
theorem dL_law_456 : decode cL_law 456 = .ok (.iload_n 3, 1) := by decide +kernel
theorem dL_law_457 : decode cL_law 457 = .ok (.iconst 1, 1) := by decide +kernel
theorem dL_law_458 : decode cL_law 458 = .ok (.iadd, 1) := by decide +kernel
theorem dL_law_459 : decode cL_law 459 = .ok (.iaload, 1) := by decide +kernel
theorem dL_law_460 : decode cL_law 460 = .ok (.invokevirtual 82, 3) := by decide +kernel
theorem dL_law_463 : decode cL_law 463 = .ok (.if_icmp .eq 38, 3) := by decide +kernel
theorem dL_law_466 : decode cL_law 466 = .ok (.iconst 0, 1) := by decide +kernel
theorem dL_law_467 : decode cL_law 467 = .ok (.ireturn, 1) := by decide +kernel
theorem dL_law_468 : decode cL_law 468 = .ok (.aload_n 1, 1) := by decide +kernel
theorem dL_law_469 : decode cL_law 469 = .ok (.aload_n 0, 1) := by decide +kernel
theorem dL_law_470 : decode cL_law 470 = .ok (.iload_n 3, 1) := by decide +kernel
theorem dL_law_471 : decode cL_law 471 = .ok (.iconst 1, 1) := by decide +kernel
theorem dL_law_472 : decode cL_law 472 = .ok (.iadd, 1) := by decide +kernel
theorem dL_law_473 : decode cL_law 473 = .ok (.iaload, 1) := by decide +kernel
theorem dL_law_474 : decode cL_law 474 = .ok (.aload_n 0, 1) := by decide +kernel
theorem dL_law_475 : decode cL_law 475 = .ok (.iload_n 3, 1) := by decide +kernel
theorem dL_law_476 : decode cL_law 476 = .ok (.iconst 2, 1) := by decide +kernel
theorem dL_law_477 : decode cL_law 477 = .ok (.iadd, 1) := by decide +kernel
theorem dL_law_478 : decode cL_law 478 = .ok (.iaload, 1) := by decide +kernel
theorem dL_law_479 : decode cL_law 479 = .ok (.invokevirtual 83, 3) := by decide +kernel
theorem dL_law_482 : decode cL_law 482 = .ok (.aload_n 2, 1) := by decide +kernel
theorem dL_law_483 : decode cL_law 483 = .ok (.aload_n 0, 1) := by decide +kernel
theorem dL_law_484 : decode cL_law 484 = .ok (.iload_n 3, 1) := by decide +kernel
theorem dL_law_485 : decode cL_law 485 = .ok (.iconst 1, 1) := by decide +kernel
theorem dL_law_486 : decode cL_law 486 = .ok (.iadd, 1) := by decide +kernel
theorem dL_law_487 : decode cL_law 487 = .ok (.iaload, 1) := by decide +kernel
theorem dL_law_488 : decode cL_law 488 = .ok (.aload_n 0, 1) := by decide +kernel
theorem dL_law_489 : decode cL_law 489 = .ok (.iload_n 3, 1) := by decide +kernel
theorem dL_law_490 : decode cL_law 490 = .ok (.iconst 2, 1) := by decide +kernel
theorem dL_law_491 : decode cL_law 491 = .ok (.iadd, 1) := by decide +kernel
theorem dL_law_492 : decode cL_law 492 = .ok (.iaload, 1) := by decide +kernel
theorem dL_law_493 : decode cL_law 493 = .ok (.invokevirtual 87, 3) := by decide +kernel
theorem dL_law_496 : decode cL_law 496 = .ok (.if_icmp .eq 5, 3) := by decide +kernel
theorem dL_law_499 : decode cL_law 499 = .ok (.iconst 0, 1) := by decide +kernel
theorem dL_law_500 : decode cL_law 500 = .ok (.ireturn, 1) := by decide +kernel
theorem dL_law_501 : decode cL_law 501 = .ok (.iinc 3 4, 3) := by decide +kernel
theorem dL_law_504 : decode cL_law 504 = .ok (.goto (-486), 3) := by decide +kernel
theorem dL_law_507 : decode cL_law 507 = .ok (.iconst 1, 1) := by decide +kernel
theorem dL_law_508 : decode cL_law 508 = .ok (.ireturn, 1) := by decide +kernel
end
section
def fSL : List Int32 := [99, 124, 119, 123, 242, 107, 111, 197, 48, 1, 103, 43, 254, 215, 171, 118, 202, 130, 201, 125, 250, 89, 71, 240, 173, 212, 162, 175, 156, 164, 114, 192, 183, 253, 147, 38, 54, 63, 247, 204, 52, 165, 229, 241, 113, 216, 49, 21, 4, 199, 35, 195, 24, 150, 5, 154, 7, 18, 128, 226, 235, 39, 178, 117, 9, 131, 44, 26, 27, 110, 90, 160, 82, 59, 214, 179, 41, 227, 47, 132, 83, 209, 0, 237, 32, 252, 177, 91, 106, 203, 190, 57, 74, 76, 88, 207, 208, 239, 170, 251, 67, 77, 51, 133, 69, 249, 2, 127, 80, 60, 159, 168, 81, 163, 64, 143, 146, 157, 56, 245, 188, 182, 218, 33, 16, 255, 243, 210, 205, 12, 19, 236, 95, 151, 68, 23, 196, 167, 126, 61, 100, 93, 25, 115, 96, 129, 79, 220, 34, 42, 144, 136, 70, 238, 184, 20, 222, 94, 11, 219, 224, 50, 58, 10, 73, 6, 36, 92, 194, 211, 172, 98, 145, 149, 228, 121, 231, 200, 55, 109, 141, 213, 78, 169, 108, 86, 244, 234, 101, 122, 174, 8, 186, 120, 37, 46, 28, 166, 180, 198, 232, 221, 116, 31, 75, 189, 139, 138, 112, 62, 181, 102, 72, 3, 246, 14, 97, 53, 87, 185, 134, 193, 29, 158, 225, 248, 152, 17, 105, 217, 142, 148, 155, 30, 135, 233, 206, 85, 40, 223, 140, 161, 137, 13, 191, 230, 66, 104, 65, 153, 45, 15, 176, 84, 187, 22]
def fS (j : Nat) : Int32 := fSL.getD j 0
def fUL : List Int32 := [82, 9, 106, 213, 48, 54, 165, 56, 191, 64, 163, 158, 129, 243, 215, 251, 124, 227, 57, 130, 155, 47, 255, 135, 52, 142, 67, 68, 196, 222, 233, 203, 84, 123, 148, 50, 166, 194, 35, 61, 238, 76, 149, 11, 66, 250, 195, 78, 8, 46, 161, 102, 40, 217, 36, 178, 118, 91, 162, 73, 109, 139, 209, 37, 114, 248, 246, 100, 134, 104, 152, 22, 212, 164, 92, 204, 93, 101, 182, 146, 108, 112, 72, 80, 253, 237, 185, 218, 94, 21, 70, 87, 167, 141, 157, 132, 144, 216, 171, 0, 140, 188, 211, 10, 247, 228, 88, 5, 184, 179, 69, 6, 208, 44, 30, 143, 202, 63, 15, 2, 193, 175, 189, 3, 1, 19, 138, 107, 58, 145, 17, 65, 79, 103, 220, 234, 151, 242, 207, 206, 240, 180, 230, 115, 150, 172, 116, 34, 231, 173, 53, 133, 226, 249, 55, 232, 28, 117, 223, 110, 71, 241, 26, 113, 29, 41, 197, 137, 111, 183, 98, 14, 170, 24, 190, 27, 252, 86, 62, 75, 198, 210, 121, 32, 154, 219, 192, 254, 120, 205, 90, 244, 31, 221, 168, 51, 136, 7, 199, 49, 177, 18, 16, 89, 39, 128, 236, 95, 96, 81, 127, 169, 25, 181, 74, 13, 45, 229, 122, 159, 147, 201, 156, 239, 160, 224, 59, 77, 174, 42, 245, 176, 200, 235, 187, 60, 131, 83, 153, 97, 23, 43, 4, 126, 186, 119, 214, 38, 225, 105, 20, 99, 85, 33, 12, 125]
def fU (j : Nat) : Int32 := fUL.getD j 0
def tabs : List (String × String × Nat × (Nat → Int32)) := [("BlockCode", "S", 256, fS), ("BlockCode", "UNDO_S", 256, fU)]
abbrev classes : List vw_C := [(RX0, TX0, 6), (RX1, TX1, 6), (RX2, TX2, 6), (RX3, TX3, 18)]
/-! A layer of our own over the kit: one bundle of a body's standing facts, contracts over one list of words, rows that take the bundle. -/
/-- every word of the tables that a caller may hand on -/
def G : List Cond := lw_tbl.filter goodWord
theorem G_in {w : Cond} (h : w ∈ lw_tbl) (hg : goodWord w = true) : w ∈ G := List.mem_filter.mpr ⟨h, hg⟩
theorem G_tbl {w : Cond} (h : w ∈ G) : w ∈ lw_tbl := (List.mem_filter.mp h).1
theorem G_good {cd cd' : Cond} (h : cd' ∈ G) : GoodIn (cd :: G) (cd' :: G) := by
  intro w hw
  rcases List.mem_cons.mp hw with rfl | hw
  · exact ⟨List.mem_cons_of_mem _ h, good_of_word (List.mem_filter.mp h).2⟩
  · exact ⟨List.mem_cons_of_mem _ hw, good_of_word (List.mem_filter.mp hw).2⟩
theorem G_goodG {cd' : Cond} (h : cd' ∈ G) : GoodIn G (cd' :: G) := by
  intro w hw
  rcases List.mem_cons.mp hw with rfl | hw
  · exact ⟨h, good_of_word (List.mem_filter.mp h).2⟩
  · exact ⟨hw, good_of_word (List.mem_filter.mp hw).2⟩
def isNest : Cond → Bool
  | .fieldLinkNest .. => true
  | .methodLinkNest .. => true
  | _ => false
def nests : List Cond := tables_1.filter isNest
theorem nests_in {w : Cond} (h : w ∈ tables_1) (hg : isNest w = true) : w ∈ nests := List.mem_filter.mpr ⟨h, hg⟩
def NW (U : State) : Prop := ∀ w ∈ nests, va_Nw w U
theorem NW.warm {s U : State} (hW : s.WarmedH U.vm) (h : NW s) : NW U := by
  intro w hw
  have h1 := h w hw
  have h2 : isNest w = true := (List.mem_filter.mp hw).2
  cases w <;> first | exact va_Nw.warmF hW h1 | exact va_Nw.warmM hW h1 | (simp [isNest] at h2; done)
theorem NW.same {u U : State} (e : u.vm = U.vm) (h : NW u) : NW U := by
  intro w hw
  have h1 := h w hw
  have h2 : isNest w = true := (List.mem_filter.mp hw).2
  cases w <;> first | exact va_Nw.same rfl e h1 | (simp [isNest] at h2; done)
end
section
/-- a callee's words -/
def Kd (y : MethodName) (bytes : ByteArray) (maxL : Nat) (ret : Option FieldType) (n : Nat) : Prop := Cond.code y bytes maxL ret ∈ G ∧ Cond.initialized y.cls ∈ G ∧ y.cls ≠ "java/lang/invoke/MethodHandle" ∧ y.cls ≠ "java/lang/invoke/VarHandle" ∧ (parseMethodDescriptor y.desc).map (fun d => d.parameters.length) = some n
set_option maxRecDepth 20000 in
theorem g_0 : (Jvm.Cond.initialized "BlockCodeLaw") ∈ G := G_in (List.mem_of_getElem? (i := 17) rfl) rfl
set_option maxRecDepth 20000 in
theorem g_1 : (Jvm.Cond.initialized "BlockCode") ∈ G := G_in (List.mem_of_getElem? (i := 18) rfl) rfl
set_option maxRecDepth 20000 in
theorem g_2 : (Jvm.Cond.initialized "BlockCode$Key") ∈ G := G_in (List.mem_of_getElem? (i := 19) rfl) rfl
set_option maxRecDepth 20000 in
theorem g_3 : (Jvm.Cond.initialized "BlockCode$Message") ∈ G := G_in (List.mem_of_getElem? (i := 20) rfl) rfl
set_option maxRecDepth 20000 in
theorem g_4 : (Jvm.Cond.initialized "BlockCodeModel") ∈ G := G_in (List.mem_of_getElem? (i := 21) rfl) rfl
set_option maxRecDepth 20000 in
theorem g_5 : (Jvm.Cond.initialized "java/util/Arrays") ∈ G := G_in (List.mem_of_getElem? (i := 22) rfl) rfl
set_option maxRecDepth 20000 in
theorem g_6 : (Jvm.Cond.initialized "java/lang/System") ∈ G := G_in (List.mem_of_getElem? (i := 23) rfl) rfl
set_option maxRecDepth 20000 in
theorem g_7 : (Jvm.Cond.classLink "BlockCodeLaw" (7 : Nat) "BlockCode") ∈ G := G_in (List.mem_of_getElem? (i := 24) rfl) rfl
set_option maxRecDepth 20000 in
theorem g_8 : (Jvm.Cond.instantiable "BlockCode" (6 : Nat)) ∈ G := G_in (List.mem_of_getElem? (i := 25) rfl) rfl
set_option maxRecDepth 20000 in
theorem g_9 : (Jvm.Cond.methodLink "BlockCodeLaw" (9 : Nat) ({ cls := "BlockCode", name := "<init>", desc := "()V" } : Jvm.MethodName)) ∈ G := G_in (List.mem_of_getElem? (i := 26) rfl) rfl
set_option maxRecDepth 20000 in
theorem g_10 : (Jvm.Cond.instanceMethod ({ cls := "BlockCode", name := "<init>", desc := "()V" } : Jvm.MethodName)) ∈ G := G_in (List.mem_of_getElem? (i := 27) rfl) rfl
set_option maxRecDepth 20000 in
theorem g_11 : (Jvm.Cond.code ({ cls := "BlockCode", name := "<init>", desc := "()V" } : Jvm.MethodName) prog_1_method_1_code (1 : Nat) (Option.none : Option Jvm.ClassFile.FieldType)) ∈ G := G_in (List.mem_of_getElem? (i := 28) rfl) rfl
set_option maxRecDepth 20000 in
theorem g_12 : (Jvm.Cond.methodLink "BlockCode" (3 : Nat) ({ cls := "java/lang/Object", name := "<init>", desc := "()V" } : Jvm.MethodName)) ∈ G := G_in (List.mem_of_getElem? (i := 29) rfl) rfl
set_option maxRecDepth 20000 in
theorem g_13 : (Jvm.Cond.instanceMethod ({ cls := "java/lang/Object", name := "<init>", desc := "()V" } : Jvm.MethodName)) ∈ G := G_in (List.mem_of_getElem? (i := 30) rfl) rfl
set_option maxRecDepth 20000 in
theorem g_14 : (Jvm.Cond.code ({ cls := "java/lang/Object", name := "<init>", desc := "()V" } : Jvm.MethodName) object_method_1_code (1 : Nat) (Option.none : Option Jvm.ClassFile.FieldType)) ∈ G := G_in (List.mem_of_getElem? (i := 31) rfl) rfl
set_option maxRecDepth 20000 in
theorem g_15 : (Jvm.Cond.classLink "BlockCode" (9 : Nat) "BlockCode$Key") ∈ G := G_in (List.mem_of_getElem? (i := 32) rfl) rfl
set_option maxRecDepth 20000 in
theorem g_16 : (Jvm.Cond.instantiable "BlockCode$Key" (6 : Nat)) ∈ G := G_in (List.mem_of_getElem? (i := 33) rfl) rfl
set_option maxRecDepth 20000 in
theorem g_17 : (Jvm.Cond.methodLink "BlockCode" (11 : Nat) ({ cls := "BlockCode$Key", name := "<init>", desc := "()V" } : Jvm.MethodName)) ∈ G := G_in (List.mem_of_getElem? (i := 34) rfl) rfl
set_option maxRecDepth 20000 in
theorem g_18 : (Jvm.Cond.instanceMethod ({ cls := "BlockCode$Key", name := "<init>", desc := "()V" } : Jvm.MethodName)) ∈ G := G_in (List.mem_of_getElem? (i := 35) rfl) rfl
set_option maxRecDepth 20000 in
theorem g_19 : (Jvm.Cond.code ({ cls := "BlockCode$Key", name := "<init>", desc := "()V" } : Jvm.MethodName) prog_2_method_1_code (1 : Nat) (Option.none : Option Jvm.ClassFile.FieldType)) ∈ G := G_in (List.mem_of_getElem? (i := 36) rfl) rfl
set_option maxRecDepth 20000 in
theorem g_20 : (Jvm.Cond.methodLink "BlockCode$Key" (3 : Nat) ({ cls := "java/lang/Object", name := "<init>", desc := "()V" } : Jvm.MethodName)) ∈ G := G_in (List.mem_of_getElem? (i := 37) rfl) rfl
set_option maxRecDepth 20000 in
theorem g_21 : (Jvm.Cond.fieldLink "BlockCode$Key" (9 : Nat) "BlockCode$Key" "bytes" "[I") ∈ G := G_in (List.mem_of_getElem? (i := 38) rfl) rfl
set_option maxRecDepth 20000 in
theorem g_22 : (Jvm.Cond.fieldLink "BlockCode$Key" (15 : Nat) "BlockCode$Key" "words" "[I") ∈ G := G_in (List.mem_of_getElem? (i := 39) rfl) rfl
set_option maxRecDepth 20000 in
theorem g_23 : (Jvm.Cond.fieldLink "BlockCode$Key" (18 : Nat) "BlockCode$Key" "firstHalf" "[I") ∈ G := G_in (List.mem_of_getElem? (i := 40) rfl) rfl
set_option maxRecDepth 20000 in
theorem n_24 : (Jvm.Cond.fieldLinkNest "BlockCode$Message" (44 : Nat) "BlockCode$Key" "firstHalf" "[I" "BlockCode") ∈ nests := nests_in (List.mem_of_getElem? (i := 24) rfl) rfl
set_option maxRecDepth 20000 in
theorem n_25 : (Jvm.Cond.fieldLinkNest "BlockCode" (110 : Nat) "BlockCode$Key" "firstHalf" "[I" "BlockCode") ∈ nests := nests_in (List.mem_of_getElem? (i := 25) rfl) rfl
set_option maxRecDepth 20000 in
theorem g_26 : (Jvm.Cond.fieldLink "BlockCode$Key" (21 : Nat) "BlockCode$Key" "secondHalf" "[I") ∈ G := G_in (List.mem_of_getElem? (i := 43) rfl) rfl
set_option maxRecDepth 20000 in
theorem n_27 : (Jvm.Cond.fieldLinkNest "BlockCode$Message" (51 : Nat) "BlockCode$Key" "secondHalf" "[I" "BlockCode") ∈ nests := nests_in (List.mem_of_getElem? (i := 27) rfl) rfl
set_option maxRecDepth 20000 in
theorem n_28 : (Jvm.Cond.fieldLinkNest "BlockCode" (113 : Nat) "BlockCode$Key" "secondHalf" "[I" "BlockCode") ∈ nests := nests_in (List.mem_of_getElem? (i := 28) rfl) rfl
set_option maxRecDepth 20000 in
theorem g_29 : (Jvm.Cond.fieldLink "BlockCode$Key" (24 : Nat) "BlockCode$Key" "moved" "[I") ∈ G := G_in (List.mem_of_getElem? (i := 46) rfl) rfl
set_option maxRecDepth 20000 in
theorem g_30 : (Jvm.Cond.fieldLink "BlockCode$Key" (27 : Nat) "BlockCode$Key" "made" "Z") ∈ G := G_in (List.mem_of_getElem? (i := 47) rfl) rfl
set_option maxRecDepth 20000 in
theorem n_31 : (Jvm.Cond.fieldLinkNest "BlockCode" (57 : Nat) "BlockCode$Key" "made" "Z" "BlockCode") ∈ nests := nests_in (List.mem_of_getElem? (i := 31) rfl) rfl
set_option maxRecDepth 20000 in
theorem g_32 : (Jvm.Cond.laysFinal "BlockCode$Key" "BlockCode$Key" "bytes" "[I") ∈ G := G_in (List.mem_of_getElem? (i := 49) rfl) rfl
set_option maxRecDepth 20000 in
theorem g_33 : (Jvm.Cond.soleField "BlockCode$Key" "bytes") ∈ G := G_in (List.mem_of_getElem? (i := 50) rfl) rfl
set_option maxRecDepth 20000 in
theorem g_34 : (Jvm.Cond.laysFinal "BlockCode$Key" "BlockCode$Key" "words" "[I") ∈ G := G_in (List.mem_of_getElem? (i := 51) rfl) rfl
set_option maxRecDepth 20000 in
theorem g_35 : (Jvm.Cond.soleField "BlockCode$Key" "words") ∈ G := G_in (List.mem_of_getElem? (i := 52) rfl) rfl
set_option maxRecDepth 20000 in
theorem g_36 : (Jvm.Cond.laysFinal "BlockCode$Key" "BlockCode$Key" "firstHalf" "[I") ∈ G := G_in (List.mem_of_getElem? (i := 53) rfl) rfl
set_option maxRecDepth 20000 in
theorem g_37 : (Jvm.Cond.soleField "BlockCode$Key" "firstHalf") ∈ G := G_in (List.mem_of_getElem? (i := 54) rfl) rfl
set_option maxRecDepth 20000 in
theorem g_38 : (Jvm.Cond.laysFinal "BlockCode$Key" "BlockCode$Key" "secondHalf" "[I") ∈ G := G_in (List.mem_of_getElem? (i := 55) rfl) rfl
set_option maxRecDepth 20000 in
theorem g_39 : (Jvm.Cond.soleField "BlockCode$Key" "secondHalf") ∈ G := G_in (List.mem_of_getElem? (i := 56) rfl) rfl
set_option maxRecDepth 20000 in
theorem g_40 : (Jvm.Cond.laysFinal "BlockCode$Key" "BlockCode$Key" "moved" "[I") ∈ G := G_in (List.mem_of_getElem? (i := 57) rfl) rfl
set_option maxRecDepth 20000 in
theorem g_41 : (Jvm.Cond.soleField "BlockCode$Key" "moved") ∈ G := G_in (List.mem_of_getElem? (i := 58) rfl) rfl
set_option maxRecDepth 20000 in
theorem g_42 : (Jvm.Cond.lays "BlockCode$Key" "BlockCode$Key" "made" "Z") ∈ G := G_in (List.mem_of_getElem? (i := 59) rfl) rfl
set_option maxRecDepth 20000 in
theorem g_43 : (Jvm.Cond.soleField "BlockCode$Key" "made") ∈ G := G_in (List.mem_of_getElem? (i := 60) rfl) rfl
set_option maxRecDepth 20000 in
theorem g_44 : (Jvm.Cond.superclass "BlockCode$Key" "java/lang/Object") ∈ G := G_in (List.mem_of_getElem? (i := 61) rfl) rfl
set_option maxRecDepth 20000 in
theorem g_45 : (Jvm.Cond.arrayClass Jvm.ClassFile.FieldType.int) ∈ G := G_in (List.mem_of_getElem? (i := 62) rfl) rfl
set_option maxRecDepth 20000 in
theorem g_46 : (Jvm.Cond.classLink "BlockCode" (16 : Nat) "BlockCode$Message") ∈ G := G_in (List.mem_of_getElem? (i := 63) rfl) rfl
set_option maxRecDepth 20000 in
theorem g_47 : (Jvm.Cond.instantiable "BlockCode$Message" (6 : Nat)) ∈ G := G_in (List.mem_of_getElem? (i := 64) rfl) rfl
set_option maxRecDepth 20000 in
theorem g_48 : (Jvm.Cond.methodLink "BlockCode" (18 : Nat) ({ cls := "BlockCode$Message", name := "<init>", desc := "()V" } : Jvm.MethodName)) ∈ G := G_in (List.mem_of_getElem? (i := 65) rfl) rfl
set_option maxRecDepth 20000 in
theorem g_49 : (Jvm.Cond.instanceMethod ({ cls := "BlockCode$Message", name := "<init>", desc := "()V" } : Jvm.MethodName)) ∈ G := G_in (List.mem_of_getElem? (i := 66) rfl) rfl
set_option maxRecDepth 20000 in
theorem g_50 : (Jvm.Cond.code ({ cls := "BlockCode$Message", name := "<init>", desc := "()V" } : Jvm.MethodName) prog_3_method_1_code (1 : Nat) (Option.none : Option Jvm.ClassFile.FieldType)) ∈ G := G_in (List.mem_of_getElem? (i := 67) rfl) rfl
set_option maxRecDepth 20000 in
theorem g_51 : (Jvm.Cond.methodLink "BlockCode$Message" (3 : Nat) ({ cls := "java/lang/Object", name := "<init>", desc := "()V" } : Jvm.MethodName)) ∈ G := G_in (List.mem_of_getElem? (i := 68) rfl) rfl
set_option maxRecDepth 20000 in
theorem g_52 : (Jvm.Cond.fieldLink "BlockCode$Message" (9 : Nat) "BlockCode$Message" "sum" "[I") ∈ G := G_in (List.mem_of_getElem? (i := 69) rfl) rfl
set_option maxRecDepth 20000 in
theorem n_53 : (Jvm.Cond.fieldLinkNest "BlockCode" (77 : Nat) "BlockCode$Message" "sum" "[I" "BlockCode") ∈ nests := nests_in (List.mem_of_getElem? (i := 53) rfl) rfl
set_option maxRecDepth 20000 in
theorem g_54 : (Jvm.Cond.fieldLink "BlockCode$Message" (15 : Nat) "BlockCode$Message" "filled" "I") ∈ G := G_in (List.mem_of_getElem? (i := 71) rfl) rfl
set_option maxRecDepth 20000 in
theorem g_55 : (Jvm.Cond.fieldLink "BlockCode$Message" (19 : Nat) "BlockCode$Message" "open" "Z") ∈ G := G_in (List.mem_of_getElem? (i := 72) rfl) rfl
set_option maxRecDepth 20000 in
theorem n_56 : (Jvm.Cond.fieldLinkNest "BlockCode" (63 : Nat) "BlockCode$Message" "open" "Z" "BlockCode") ∈ nests := nests_in (List.mem_of_getElem? (i := 56) rfl) rfl
set_option maxRecDepth 20000 in
theorem g_57 : (Jvm.Cond.fieldLink "BlockCode$Message" (23 : Nat) "BlockCode$Message" "ended" "Z") ∈ G := G_in (List.mem_of_getElem? (i := 74) rfl) rfl
set_option maxRecDepth 20000 in
theorem n_58 : (Jvm.Cond.fieldLinkNest "BlockCode" (74 : Nat) "BlockCode$Message" "ended" "Z" "BlockCode") ∈ nests := nests_in (List.mem_of_getElem? (i := 58) rfl) rfl
set_option maxRecDepth 20000 in
theorem g_59 : (Jvm.Cond.fieldLink "BlockCode$Message" (26 : Nat) "BlockCode$Message" "compared" "I") ∈ G := G_in (List.mem_of_getElem? (i := 76) rfl) rfl
set_option maxRecDepth 20000 in
theorem n_60 : (Jvm.Cond.fieldLinkNest "BlockCode" (83 : Nat) "BlockCode$Message" "compared" "I" "BlockCode") ∈ nests := nests_in (List.mem_of_getElem? (i := 60) rfl) rfl
set_option maxRecDepth 20000 in
theorem g_61 : (Jvm.Cond.fieldLink "BlockCode$Message" (29 : Nat) "BlockCode$Message" "differed" "Z") ∈ G := G_in (List.mem_of_getElem? (i := 78) rfl) rfl
set_option maxRecDepth 20000 in
theorem n_62 : (Jvm.Cond.fieldLinkNest "BlockCode" (88 : Nat) "BlockCode$Message" "differed" "Z" "BlockCode") ∈ nests := nests_in (List.mem_of_getElem? (i := 62) rfl) rfl
set_option maxRecDepth 20000 in
theorem g_63 : (Jvm.Cond.laysFinal "BlockCode$Message" "BlockCode$Message" "sum" "[I") ∈ G := G_in (List.mem_of_getElem? (i := 80) rfl) rfl
set_option maxRecDepth 20000 in
theorem g_64 : (Jvm.Cond.soleField "BlockCode$Message" "sum") ∈ G := G_in (List.mem_of_getElem? (i := 81) rfl) rfl
set_option maxRecDepth 20000 in
theorem g_65 : (Jvm.Cond.lays "BlockCode$Message" "BlockCode$Message" "filled" "I") ∈ G := G_in (List.mem_of_getElem? (i := 82) rfl) rfl
set_option maxRecDepth 20000 in
theorem g_66 : (Jvm.Cond.soleField "BlockCode$Message" "filled") ∈ G := G_in (List.mem_of_getElem? (i := 83) rfl) rfl
set_option maxRecDepth 20000 in
theorem g_67 : (Jvm.Cond.lays "BlockCode$Message" "BlockCode$Message" "open" "Z") ∈ G := G_in (List.mem_of_getElem? (i := 84) rfl) rfl
set_option maxRecDepth 20000 in
theorem g_68 : (Jvm.Cond.soleField "BlockCode$Message" "open") ∈ G := G_in (List.mem_of_getElem? (i := 85) rfl) rfl
set_option maxRecDepth 20000 in
theorem g_69 : (Jvm.Cond.lays "BlockCode$Message" "BlockCode$Message" "ended" "Z") ∈ G := G_in (List.mem_of_getElem? (i := 86) rfl) rfl
set_option maxRecDepth 20000 in
theorem g_70 : (Jvm.Cond.soleField "BlockCode$Message" "ended") ∈ G := G_in (List.mem_of_getElem? (i := 87) rfl) rfl
set_option maxRecDepth 20000 in
theorem g_71 : (Jvm.Cond.lays "BlockCode$Message" "BlockCode$Message" "compared" "I") ∈ G := G_in (List.mem_of_getElem? (i := 88) rfl) rfl
set_option maxRecDepth 20000 in
theorem g_72 : (Jvm.Cond.soleField "BlockCode$Message" "compared") ∈ G := G_in (List.mem_of_getElem? (i := 89) rfl) rfl
set_option maxRecDepth 20000 in
theorem g_73 : (Jvm.Cond.lays "BlockCode$Message" "BlockCode$Message" "differed" "Z") ∈ G := G_in (List.mem_of_getElem? (i := 90) rfl) rfl
set_option maxRecDepth 20000 in
theorem g_74 : (Jvm.Cond.soleField "BlockCode$Message" "differed") ∈ G := G_in (List.mem_of_getElem? (i := 91) rfl) rfl
set_option maxRecDepth 20000 in
theorem g_75 : (Jvm.Cond.superclass "BlockCode$Message" "java/lang/Object") ∈ G := G_in (List.mem_of_getElem? (i := 92) rfl) rfl
set_option maxRecDepth 20000 in
theorem g_76 : (Jvm.Cond.fieldLink "BlockCode" (12 : Nat) "BlockCode" "key" "LBlockCode$Key;") ∈ G := G_in (List.mem_of_getElem? (i := 93) rfl) rfl
set_option maxRecDepth 20000 in
theorem g_77 : (Jvm.Cond.fieldLink "BlockCode" (19 : Nat) "BlockCode" "message" "LBlockCode$Message;") ∈ G := G_in (List.mem_of_getElem? (i := 94) rfl) rfl
set_option maxRecDepth 20000 in
theorem g_78 : (Jvm.Cond.fieldLink "BlockCode" (23 : Nat) "BlockCode" "block" "[I") ∈ G := G_in (List.mem_of_getElem? (i := 95) rfl) rfl
set_option maxRecDepth 20000 in
theorem g_79 : (Jvm.Cond.fieldLink "BlockCode" (27 : Nat) "BlockCode" "before" "[I") ∈ G := G_in (List.mem_of_getElem? (i := 96) rfl) rfl
set_option maxRecDepth 20000 in
theorem g_80 : (Jvm.Cond.fieldLink "BlockCode" (30 : Nat) "BlockCode" "kept" "[I") ∈ G := G_in (List.mem_of_getElem? (i := 97) rfl) rfl
set_option maxRecDepth 20000 in
theorem g_81 : (Jvm.Cond.fieldLink "BlockCode" (33 : Nat) "BlockCode" "ready" "Z") ∈ G := G_in (List.mem_of_getElem? (i := 98) rfl) rfl
set_option maxRecDepth 20000 in
theorem g_82 : (Jvm.Cond.laysFinal "BlockCode" "BlockCode" "key" "LBlockCode$Key;") ∈ G := G_in (List.mem_of_getElem? (i := 99) rfl) rfl
set_option maxRecDepth 20000 in
theorem g_83 : (Jvm.Cond.soleField "BlockCode" "key") ∈ G := G_in (List.mem_of_getElem? (i := 100) rfl) rfl
set_option maxRecDepth 20000 in
theorem g_84 : (Jvm.Cond.laysFinal "BlockCode" "BlockCode" "message" "LBlockCode$Message;") ∈ G := G_in (List.mem_of_getElem? (i := 101) rfl) rfl
set_option maxRecDepth 20000 in
theorem g_85 : (Jvm.Cond.soleField "BlockCode" "message") ∈ G := G_in (List.mem_of_getElem? (i := 102) rfl) rfl
set_option maxRecDepth 20000 in
theorem g_86 : (Jvm.Cond.laysFinal "BlockCode" "BlockCode" "block" "[I") ∈ G := G_in (List.mem_of_getElem? (i := 103) rfl) rfl
set_option maxRecDepth 20000 in
theorem g_87 : (Jvm.Cond.soleField "BlockCode" "block") ∈ G := G_in (List.mem_of_getElem? (i := 104) rfl) rfl
set_option maxRecDepth 20000 in
theorem g_88 : (Jvm.Cond.laysFinal "BlockCode" "BlockCode" "before" "[I") ∈ G := G_in (List.mem_of_getElem? (i := 105) rfl) rfl
set_option maxRecDepth 20000 in
theorem g_89 : (Jvm.Cond.soleField "BlockCode" "before") ∈ G := G_in (List.mem_of_getElem? (i := 106) rfl) rfl
set_option maxRecDepth 20000 in
theorem g_90 : (Jvm.Cond.laysFinal "BlockCode" "BlockCode" "kept" "[I") ∈ G := G_in (List.mem_of_getElem? (i := 107) rfl) rfl
set_option maxRecDepth 20000 in
theorem g_91 : (Jvm.Cond.soleField "BlockCode" "kept") ∈ G := G_in (List.mem_of_getElem? (i := 108) rfl) rfl
set_option maxRecDepth 20000 in
theorem g_92 : (Jvm.Cond.lays "BlockCode" "BlockCode" "ready" "Z") ∈ G := G_in (List.mem_of_getElem? (i := 109) rfl) rfl
set_option maxRecDepth 20000 in
theorem g_93 : (Jvm.Cond.soleField "BlockCode" "ready") ∈ G := G_in (List.mem_of_getElem? (i := 110) rfl) rfl
set_option maxRecDepth 20000 in
theorem g_94 : (Jvm.Cond.superclass "BlockCode" "java/lang/Object") ∈ G := G_in (List.mem_of_getElem? (i := 111) rfl) rfl
set_option maxRecDepth 20000 in
theorem g_95 : (Jvm.Cond.methodLink "BlockCodeLaw" (13 : Nat) ({ cls := "BlockCode", name := "init", desc := "()V" } : Jvm.MethodName)) ∈ G := G_in (List.mem_of_getElem? (i := 112) rfl) rfl
set_option maxRecDepth 20000 in
theorem g_96 : (Jvm.Cond.instanceMethod ({ cls := "BlockCode", name := "init", desc := "()V" } : Jvm.MethodName)) ∈ G := G_in (List.mem_of_getElem? (i := 113) rfl) rfl
set_option maxRecDepth 20000 in
theorem g_97 : (Jvm.Cond.selects "BlockCode" ({ cls := "BlockCode", name := "init", desc := "()V" } : Jvm.MethodName) ({ cls := "BlockCode", name := "init", desc := "()V" } : Jvm.MethodName)) ∈ G := G_in (List.mem_of_getElem? (i := 114) rfl) rfl
set_option maxRecDepth 20000 in
theorem g_98 : (Jvm.Cond.code ({ cls := "BlockCode", name := "init", desc := "()V" } : Jvm.MethodName) prog_1_method_2_code (1 : Nat) (Option.none : Option Jvm.ClassFile.FieldType)) ∈ G := G_in (List.mem_of_getElem? (i := 115) rfl) rfl
set_option maxRecDepth 20000 in
theorem g_99 : (Jvm.Cond.methodLink "BlockCode" (37 : Nat) ({ cls := "BlockCode$Key", name := "clear", desc := "()V" } : Jvm.MethodName)) ∈ G := G_in (List.mem_of_getElem? (i := 116) rfl) rfl
set_option maxRecDepth 20000 in
theorem g_100 : (Jvm.Cond.instanceMethod ({ cls := "BlockCode$Key", name := "clear", desc := "()V" } : Jvm.MethodName)) ∈ G := G_in (List.mem_of_getElem? (i := 117) rfl) rfl
set_option maxRecDepth 20000 in
theorem g_101 : (Jvm.Cond.selects "BlockCode$Key" ({ cls := "BlockCode$Key", name := "clear", desc := "()V" } : Jvm.MethodName) ({ cls := "BlockCode$Key", name := "clear", desc := "()V" } : Jvm.MethodName)) ∈ G := G_in (List.mem_of_getElem? (i := 118) rfl) rfl
set_option maxRecDepth 20000 in
theorem g_102 : (Jvm.Cond.code ({ cls := "BlockCode$Key", name := "clear", desc := "()V" } : Jvm.MethodName) prog_2_method_2_code (1 : Nat) (Option.none : Option Jvm.ClassFile.FieldType)) ∈ G := G_in (List.mem_of_getElem? (i := 119) rfl) rfl
set_option maxRecDepth 20000 in
theorem g_103 : (Jvm.Cond.methodLink "BlockCode$Key" (31 : Nat) ({ cls := "java/util/Arrays", name := "fill", desc := "([II)V" } : Jvm.MethodName)) ∈ G := G_in (List.mem_of_getElem? (i := 120) rfl) rfl
set_option maxRecDepth 20000 in
theorem g_104 : (Jvm.Cond.static ({ cls := "java/util/Arrays", name := "fill", desc := "([II)V" } : Jvm.MethodName)) ∈ G := G_in (List.mem_of_getElem? (i := 121) rfl) rfl
set_option maxRecDepth 20000 in
theorem g_105 : (Jvm.Cond.code ({ cls := "java/util/Arrays", name := "fill", desc := "([II)V" } : Jvm.MethodName) prog_7_method_103_code (4 : Nat) (Option.none : Option Jvm.ClassFile.FieldType)) ∈ G := G_in (List.mem_of_getElem? (i := 122) rfl) rfl
set_option maxRecDepth 20000 in
theorem g_106 : (Jvm.Cond.methodLink "BlockCode" (40 : Nat) ({ cls := "BlockCode$Message", name := "drop", desc := "()V" } : Jvm.MethodName)) ∈ G := G_in (List.mem_of_getElem? (i := 123) rfl) rfl
set_option maxRecDepth 20000 in
theorem g_107 : (Jvm.Cond.instanceMethod ({ cls := "BlockCode$Message", name := "drop", desc := "()V" } : Jvm.MethodName)) ∈ G := G_in (List.mem_of_getElem? (i := 124) rfl) rfl
set_option maxRecDepth 20000 in
theorem g_108 : (Jvm.Cond.selects "BlockCode$Message" ({ cls := "BlockCode$Message", name := "drop", desc := "()V" } : Jvm.MethodName) ({ cls := "BlockCode$Message", name := "drop", desc := "()V" } : Jvm.MethodName)) ∈ G := G_in (List.mem_of_getElem? (i := 125) rfl) rfl
set_option maxRecDepth 20000 in
theorem g_109 : (Jvm.Cond.code ({ cls := "BlockCode$Message", name := "drop", desc := "()V" } : Jvm.MethodName) prog_3_method_2_code (1 : Nat) (Option.none : Option Jvm.ClassFile.FieldType)) ∈ G := G_in (List.mem_of_getElem? (i := 126) rfl) rfl
set_option maxRecDepth 20000 in
theorem g_110 : (Jvm.Cond.methodLink "BlockCodeLaw" (17 : Nat) ({ cls := "BlockCode", name := "setKeyByte", desc := "(II)Z" } : Jvm.MethodName)) ∈ G := G_in (List.mem_of_getElem? (i := 127) rfl) rfl
set_option maxRecDepth 20000 in
theorem g_111 : (Jvm.Cond.instanceMethod ({ cls := "BlockCode", name := "setKeyByte", desc := "(II)Z" } : Jvm.MethodName)) ∈ G := G_in (List.mem_of_getElem? (i := 128) rfl) rfl
set_option maxRecDepth 20000 in
theorem g_112 : (Jvm.Cond.selects "BlockCode" ({ cls := "BlockCode", name := "setKeyByte", desc := "(II)Z" } : Jvm.MethodName) ({ cls := "BlockCode", name := "setKeyByte", desc := "(II)Z" } : Jvm.MethodName)) ∈ G := G_in (List.mem_of_getElem? (i := 129) rfl) rfl
set_option maxRecDepth 20000 in
theorem g_113 : (Jvm.Cond.code ({ cls := "BlockCode", name := "setKeyByte", desc := "(II)Z" } : Jvm.MethodName) prog_1_method_3_code (3 : Nat) (Option.some Jvm.ClassFile.FieldType.boolean)) ∈ G := G_in (List.mem_of_getElem? (i := 130) rfl) rfl
set_option maxRecDepth 20000 in
theorem g_114 : (Jvm.Cond.methodLink "BlockCode" (43 : Nat) ({ cls := "BlockCode", name := "isPlace", desc := "(I)Z" } : Jvm.MethodName)) ∈ G := G_in (List.mem_of_getElem? (i := 131) rfl) rfl
set_option maxRecDepth 20000 in
theorem g_115 : (Jvm.Cond.static ({ cls := "BlockCode", name := "isPlace", desc := "(I)Z" } : Jvm.MethodName)) ∈ G := G_in (List.mem_of_getElem? (i := 132) rfl) rfl
set_option maxRecDepth 20000 in
theorem g_116 : (Jvm.Cond.code ({ cls := "BlockCode", name := "isPlace", desc := "(I)Z" } : Jvm.MethodName) prog_1_method_21_code (1 : Nat) (Option.some Jvm.ClassFile.FieldType.boolean)) ∈ G := G_in (List.mem_of_getElem? (i := 133) rfl) rfl
set_option maxRecDepth 20000 in
theorem g_117 : (Jvm.Cond.methodLink "BlockCode" (47 : Nat) ({ cls := "BlockCode", name := "isByte", desc := "(I)Z" } : Jvm.MethodName)) ∈ G := G_in (List.mem_of_getElem? (i := 134) rfl) rfl
set_option maxRecDepth 20000 in
theorem g_118 : (Jvm.Cond.static ({ cls := "BlockCode", name := "isByte", desc := "(I)Z" } : Jvm.MethodName)) ∈ G := G_in (List.mem_of_getElem? (i := 135) rfl) rfl
set_option maxRecDepth 20000 in
theorem g_119 : (Jvm.Cond.code ({ cls := "BlockCode", name := "isByte", desc := "(I)Z" } : Jvm.MethodName) prog_1_method_22_code (1 : Nat) (Option.some Jvm.ClassFile.FieldType.boolean)) ∈ G := G_in (List.mem_of_getElem? (i := 136) rfl) rfl
set_option maxRecDepth 20000 in
theorem g_120 : (Jvm.Cond.methodLink "BlockCode" (50 : Nat) ({ cls := "BlockCode$Key", name := "put", desc := "(II)V" } : Jvm.MethodName)) ∈ G := G_in (List.mem_of_getElem? (i := 137) rfl) rfl
set_option maxRecDepth 20000 in
theorem g_121 : (Jvm.Cond.instanceMethod ({ cls := "BlockCode$Key", name := "put", desc := "(II)V" } : Jvm.MethodName)) ∈ G := G_in (List.mem_of_getElem? (i := 138) rfl) rfl
set_option maxRecDepth 20000 in
theorem g_122 : (Jvm.Cond.selects "BlockCode$Key" ({ cls := "BlockCode$Key", name := "put", desc := "(II)V" } : Jvm.MethodName) ({ cls := "BlockCode$Key", name := "put", desc := "(II)V" } : Jvm.MethodName)) ∈ G := G_in (List.mem_of_getElem? (i := 139) rfl) rfl
set_option maxRecDepth 20000 in
theorem g_123 : (Jvm.Cond.code ({ cls := "BlockCode$Key", name := "put", desc := "(II)V" } : Jvm.MethodName) prog_2_method_3_code (3 : Nat) (Option.none : Option Jvm.ClassFile.FieldType)) ∈ G := G_in (List.mem_of_getElem? (i := 140) rfl) rfl
set_option maxRecDepth 20000 in
theorem g_124 : (Jvm.Cond.methodLink "BlockCodeLaw" (22 : Nat) ({ cls := "BlockCode", name := "expand", desc := "()Z" } : Jvm.MethodName)) ∈ G := G_in (List.mem_of_getElem? (i := 141) rfl) rfl
set_option maxRecDepth 20000 in
theorem g_125 : (Jvm.Cond.instanceMethod ({ cls := "BlockCode", name := "expand", desc := "()Z" } : Jvm.MethodName)) ∈ G := G_in (List.mem_of_getElem? (i := 142) rfl) rfl
set_option maxRecDepth 20000 in
theorem g_126 : (Jvm.Cond.selects "BlockCode" ({ cls := "BlockCode", name := "expand", desc := "()Z" } : Jvm.MethodName) ({ cls := "BlockCode", name := "expand", desc := "()Z" } : Jvm.MethodName)) ∈ G := G_in (List.mem_of_getElem? (i := 143) rfl) rfl
set_option maxRecDepth 20000 in
theorem g_127 : (Jvm.Cond.code ({ cls := "BlockCode", name := "expand", desc := "()Z" } : Jvm.MethodName) prog_1_method_4_code (1 : Nat) (Option.some Jvm.ClassFile.FieldType.boolean)) ∈ G := G_in (List.mem_of_getElem? (i := 144) rfl) rfl
set_option maxRecDepth 20000 in
theorem g_128 : (Jvm.Cond.methodLink "BlockCode" (54 : Nat) ({ cls := "BlockCode$Key", name := "make", desc := "()V" } : Jvm.MethodName)) ∈ G := G_in (List.mem_of_getElem? (i := 145) rfl) rfl
set_option maxRecDepth 20000 in
theorem g_129 : (Jvm.Cond.instanceMethod ({ cls := "BlockCode$Key", name := "make", desc := "()V" } : Jvm.MethodName)) ∈ G := G_in (List.mem_of_getElem? (i := 146) rfl) rfl
set_option maxRecDepth 20000 in
theorem g_130 : (Jvm.Cond.selects "BlockCode$Key" ({ cls := "BlockCode$Key", name := "make", desc := "()V" } : Jvm.MethodName) ({ cls := "BlockCode$Key", name := "make", desc := "()V" } : Jvm.MethodName)) ∈ G := G_in (List.mem_of_getElem? (i := 147) rfl) rfl
set_option maxRecDepth 20000 in
theorem g_131 : (Jvm.Cond.code ({ cls := "BlockCode$Key", name := "make", desc := "()V" } : Jvm.MethodName) prog_2_method_4_code (1 : Nat) (Option.none : Option Jvm.ClassFile.FieldType)) ∈ G := G_in (List.mem_of_getElem? (i := 148) rfl) rfl
set_option maxRecDepth 20000 in
theorem g_132 : (Jvm.Cond.methodLink "BlockCode$Key" (37 : Nat) ({ cls := "BlockCode$Key", name := "makeWords", desc := "()V" } : Jvm.MethodName)) ∈ G := G_in (List.mem_of_getElem? (i := 149) rfl) rfl
set_option maxRecDepth 20000 in
theorem g_134 : (Jvm.Cond.instanceMethod ({ cls := "BlockCode$Key", name := "makeWords", desc := "()V" } : Jvm.MethodName)) ∈ G := G_in (List.mem_of_getElem? (i := 151) rfl) rfl
set_option maxRecDepth 20000 in
theorem g_135 : (Jvm.Cond.code ({ cls := "BlockCode$Key", name := "makeWords", desc := "()V" } : Jvm.MethodName) prog_2_method_5_code (3 : Nat) (Option.none : Option Jvm.ClassFile.FieldType)) ∈ G := G_in (List.mem_of_getElem? (i := 152) rfl) rfl
set_option maxRecDepth 20000 in
theorem g_136 : (Jvm.Cond.methodLink "BlockCode$Key" (43 : Nat) ({ cls := "java/lang/System", name := "arraycopy", desc := "(Ljava/lang/Object;ILjava/lang/Object;II)V" } : Jvm.MethodName)) ∈ G := G_in (List.mem_of_getElem? (i := 153) rfl) rfl
set_option maxRecDepth 20000 in
theorem g_137 : (Jvm.Cond.static ({ cls := "java/lang/System", name := "arraycopy", desc := "(Ljava/lang/Object;ILjava/lang/Object;II)V" } : Jvm.MethodName)) ∈ G := G_in (List.mem_of_getElem? (i := 154) rfl) rfl
set_option maxRecDepth 20000 in
theorem g_138 : (Jvm.Cond.native ({ cls := "java/lang/System", name := "arraycopy", desc := "(Ljava/lang/Object;ILjava/lang/Object;II)V" } : Jvm.MethodName)) ∈ G := G_in (List.mem_of_getElem? (i := 155) rfl) rfl
set_option maxRecDepth 20000 in
theorem g_139 : (Jvm.Cond.methodLink "BlockCode$Key" (49 : Nat) ({ cls := "BlockCode$Key", name := "makeTurnedWord", desc := "(II)V" } : Jvm.MethodName)) ∈ G := G_in (List.mem_of_getElem? (i := 156) rfl) rfl
set_option maxRecDepth 20000 in
theorem g_141 : (Jvm.Cond.instanceMethod ({ cls := "BlockCode$Key", name := "makeTurnedWord", desc := "(II)V" } : Jvm.MethodName)) ∈ G := G_in (List.mem_of_getElem? (i := 158) rfl) rfl
set_option maxRecDepth 20000 in
theorem g_142 : (Jvm.Cond.code ({ cls := "BlockCode$Key", name := "makeTurnedWord", desc := "(II)V" } : Jvm.MethodName) prog_2_method_7_code (4 : Nat) (Option.none : Option Jvm.ClassFile.FieldType)) ∈ G := G_in (List.mem_of_getElem? (i := 159) rfl) rfl
set_option maxRecDepth 20000 in
theorem n_143 : (Jvm.Cond.fieldLinkNest "BlockCode$Key" (61 : Nat) "BlockCode" "S" "[I" "BlockCode") ∈ nests := nests_in (List.mem_of_getElem? (i := 143) rfl) rfl
set_option maxRecDepth 20000 in
theorem g_145 : (Jvm.Cond.methodLink "BlockCode$Key" (53 : Nat) ({ cls := "BlockCode$Key", name := "twice", desc := "(I)I" } : Jvm.MethodName)) ∈ G := G_in (List.mem_of_getElem? (i := 162) rfl) rfl
set_option maxRecDepth 20000 in
theorem g_146 : (Jvm.Cond.static ({ cls := "BlockCode$Key", name := "twice", desc := "(I)I" } : Jvm.MethodName)) ∈ G := G_in (List.mem_of_getElem? (i := 163) rfl) rfl
set_option maxRecDepth 20000 in
theorem g_147 : (Jvm.Cond.code ({ cls := "BlockCode$Key", name := "twice", desc := "(I)I" } : Jvm.MethodName) prog_2_method_18_code (1 : Nat) (Option.some Jvm.ClassFile.FieldType.int)) ∈ G := G_in (List.mem_of_getElem? (i := 164) rfl) rfl
set_option maxRecDepth 20000 in
theorem g_148 : (Jvm.Cond.methodLink "BlockCode$Key" (57 : Nat) ({ cls := "BlockCode$Key", name := "makePlainWord", desc := "(I)V" } : Jvm.MethodName)) ∈ G := G_in (List.mem_of_getElem? (i := 165) rfl) rfl
set_option maxRecDepth 20000 in
theorem g_150 : (Jvm.Cond.instanceMethod ({ cls := "BlockCode$Key", name := "makePlainWord", desc := "(I)V" } : Jvm.MethodName)) ∈ G := G_in (List.mem_of_getElem? (i := 167) rfl) rfl
set_option maxRecDepth 20000 in
theorem g_151 : (Jvm.Cond.code ({ cls := "BlockCode$Key", name := "makePlainWord", desc := "(I)V" } : Jvm.MethodName) prog_2_method_6_code (3 : Nat) (Option.none : Option Jvm.ClassFile.FieldType)) ∈ G := G_in (List.mem_of_getElem? (i := 168) rfl) rfl
set_option maxRecDepth 20000 in
theorem g_152 : (Jvm.Cond.methodLink "BlockCode$Key" (40 : Nat) ({ cls := "BlockCode$Key", name := "makeHalves", desc := "()V" } : Jvm.MethodName)) ∈ G := G_in (List.mem_of_getElem? (i := 169) rfl) rfl
set_option maxRecDepth 20000 in
theorem g_154 : (Jvm.Cond.instanceMethod ({ cls := "BlockCode$Key", name := "makeHalves", desc := "()V" } : Jvm.MethodName)) ∈ G := G_in (List.mem_of_getElem? (i := 171) rfl) rfl
set_option maxRecDepth 20000 in
theorem g_155 : (Jvm.Cond.code ({ cls := "BlockCode$Key", name := "makeHalves", desc := "()V" } : Jvm.MethodName) prog_2_method_8_code (1 : Nat) (Option.none : Option Jvm.ClassFile.FieldType)) ∈ G := G_in (List.mem_of_getElem? (i := 172) rfl) rfl
set_option maxRecDepth 20000 in
theorem g_156 : (Jvm.Cond.methodLink "BlockCode$Key" (64 : Nat) ({ cls := "BlockCode$Key", name := "goForth", desc := "([I)V" } : Jvm.MethodName)) ∈ G := G_in (List.mem_of_getElem? (i := 173) rfl) rfl
set_option maxRecDepth 20000 in
theorem g_157 : (Jvm.Cond.instanceMethod ({ cls := "BlockCode$Key", name := "goForth", desc := "([I)V" } : Jvm.MethodName)) ∈ G := G_in (List.mem_of_getElem? (i := 174) rfl) rfl
set_option maxRecDepth 20000 in
theorem g_158 : (Jvm.Cond.selects "BlockCode$Key" ({ cls := "BlockCode$Key", name := "goForth", desc := "([I)V" } : Jvm.MethodName) ({ cls := "BlockCode$Key", name := "goForth", desc := "([I)V" } : Jvm.MethodName)) ∈ G := G_in (List.mem_of_getElem? (i := 175) rfl) rfl
set_option maxRecDepth 20000 in
theorem g_159 : (Jvm.Cond.code ({ cls := "BlockCode$Key", name := "goForth", desc := "([I)V" } : Jvm.MethodName) prog_2_method_10_code (3 : Nat) (Option.none : Option Jvm.ClassFile.FieldType)) ∈ G := G_in (List.mem_of_getElem? (i := 176) rfl) rfl
set_option maxRecDepth 20000 in
theorem n_160 : (Jvm.Cond.methodLinkNest "BlockCode$Key" (72 : Nat) ({ cls := "BlockCode", name := "xor", desc := "([I[II)V" } : Jvm.MethodName) "BlockCode") ∈ nests := nests_in (List.mem_of_getElem? (i := 160) rfl) rfl
set_option maxRecDepth 20000 in
theorem g_161 : (Jvm.Cond.static ({ cls := "BlockCode", name := "xor", desc := "([I[II)V" } : Jvm.MethodName)) ∈ G := G_in (List.mem_of_getElem? (i := 178) rfl) rfl
set_option maxRecDepth 20000 in
theorem g_162 : (Jvm.Cond.code ({ cls := "BlockCode", name := "xor", desc := "([I[II)V" } : Jvm.MethodName) prog_1_method_23_code (4 : Nat) (Option.none : Option Jvm.ClassFile.FieldType)) ∈ G := G_in (List.mem_of_getElem? (i := 179) rfl) rfl
set_option maxRecDepth 20000 in
theorem g_163 : (Jvm.Cond.methodLink "BlockCode$Key" (76 : Nat) ({ cls := "BlockCode$Key", name := "replaceAndMove", desc := "([I)V" } : Jvm.MethodName)) ∈ G := G_in (List.mem_of_getElem? (i := 180) rfl) rfl
set_option maxRecDepth 20000 in
theorem g_165 : (Jvm.Cond.instanceMethod ({ cls := "BlockCode$Key", name := "replaceAndMove", desc := "([I)V" } : Jvm.MethodName)) ∈ G := G_in (List.mem_of_getElem? (i := 182) rfl) rfl
set_option maxRecDepth 20000 in
theorem g_166 : (Jvm.Cond.code ({ cls := "BlockCode$Key", name := "replaceAndMove", desc := "([I)V" } : Jvm.MethodName) prog_2_method_12_code (3 : Nat) (Option.none : Option Jvm.ClassFile.FieldType)) ∈ G := G_in (List.mem_of_getElem? (i := 183) rfl) rfl
set_option maxRecDepth 20000 in
theorem g_167 : (Jvm.Cond.methodLink "BlockCode$Key" (88 : Nat) ({ cls := "BlockCode$Key", name := "source", desc := "(I)I" } : Jvm.MethodName)) ∈ G := G_in (List.mem_of_getElem? (i := 184) rfl) rfl
set_option maxRecDepth 20000 in
theorem g_168 : (Jvm.Cond.static ({ cls := "BlockCode$Key", name := "source", desc := "(I)I" } : Jvm.MethodName)) ∈ G := G_in (List.mem_of_getElem? (i := 185) rfl) rfl
set_option maxRecDepth 20000 in
theorem g_169 : (Jvm.Cond.code ({ cls := "BlockCode$Key", name := "source", desc := "(I)I" } : Jvm.MethodName) prog_2_method_14_code (1 : Nat) (Option.some Jvm.ClassFile.FieldType.int)) ∈ G := G_in (List.mem_of_getElem? (i := 186) rfl) rfl
set_option maxRecDepth 20000 in
theorem g_170 : (Jvm.Cond.methodLink "BlockCode$Key" (79 : Nat) ({ cls := "BlockCode$Key", name := "mix", desc := "([I)V" } : Jvm.MethodName)) ∈ G := G_in (List.mem_of_getElem? (i := 187) rfl) rfl
set_option maxRecDepth 20000 in
theorem g_171 : (Jvm.Cond.static ({ cls := "BlockCode$Key", name := "mix", desc := "([I)V" } : Jvm.MethodName)) ∈ G := G_in (List.mem_of_getElem? (i := 188) rfl) rfl
set_option maxRecDepth 20000 in
theorem g_172 : (Jvm.Cond.code ({ cls := "BlockCode$Key", name := "mix", desc := "([I)V" } : Jvm.MethodName) prog_2_method_15_code (6 : Nat) (Option.none : Option Jvm.ClassFile.FieldType)) ∈ G := G_in (List.mem_of_getElem? (i := 189) rfl) rfl
set_option maxRecDepth 20000 in
theorem g_173 : (Jvm.Cond.methodLink "BlockCode$Key" (94 : Nat) ({ cls := "BlockCode$Key", name := "mixed", desc := "(IIII)I" } : Jvm.MethodName)) ∈ G := G_in (List.mem_of_getElem? (i := 190) rfl) rfl
set_option maxRecDepth 20000 in
theorem g_174 : (Jvm.Cond.static ({ cls := "BlockCode$Key", name := "mixed", desc := "(IIII)I" } : Jvm.MethodName)) ∈ G := G_in (List.mem_of_getElem? (i := 191) rfl) rfl
set_option maxRecDepth 20000 in
theorem g_175 : (Jvm.Cond.code ({ cls := "BlockCode$Key", name := "mixed", desc := "(IIII)I" } : Jvm.MethodName) prog_2_method_17_code (4 : Nat) (Option.some Jvm.ClassFile.FieldType.int)) ∈ G := G_in (List.mem_of_getElem? (i := 192) rfl) rfl
set_option maxRecDepth 20000 in
theorem g_176 : (Jvm.Cond.methodLink "BlockCode$Key" (68 : Nat) ({ cls := "BlockCode$Key", name := "putDoubled", desc := "([I[I)V" } : Jvm.MethodName)) ∈ G := G_in (List.mem_of_getElem? (i := 193) rfl) rfl
set_option maxRecDepth 20000 in
theorem g_177 : (Jvm.Cond.static ({ cls := "BlockCode$Key", name := "putDoubled", desc := "([I[I)V" } : Jvm.MethodName)) ∈ G := G_in (List.mem_of_getElem? (i := 194) rfl) rfl
set_option maxRecDepth 20000 in
theorem g_178 : (Jvm.Cond.code ({ cls := "BlockCode$Key", name := "putDoubled", desc := "([I[I)V" } : Jvm.MethodName) prog_2_method_9_code (4 : Nat) (Option.none : Option Jvm.ClassFile.FieldType)) ∈ G := G_in (List.mem_of_getElem? (i := 195) rfl) rfl
set_option maxRecDepth 20000 in
theorem g_179 : (Jvm.Cond.methodLink "BlockCodeLaw" (27 : Nat) ({ cls := "BlockCode", name := "macStart", desc := "()Z" } : Jvm.MethodName)) ∈ G := G_in (List.mem_of_getElem? (i := 196) rfl) rfl
set_option maxRecDepth 20000 in
theorem g_180 : (Jvm.Cond.instanceMethod ({ cls := "BlockCode", name := "macStart", desc := "()Z" } : Jvm.MethodName)) ∈ G := G_in (List.mem_of_getElem? (i := 197) rfl) rfl
set_option maxRecDepth 20000 in
theorem g_181 : (Jvm.Cond.selects "BlockCode" ({ cls := "BlockCode", name := "macStart", desc := "()Z" } : Jvm.MethodName) ({ cls := "BlockCode", name := "macStart", desc := "()Z" } : Jvm.MethodName)) ∈ G := G_in (List.mem_of_getElem? (i := 198) rfl) rfl
set_option maxRecDepth 20000 in
theorem g_182 : (Jvm.Cond.code ({ cls := "BlockCode", name := "macStart", desc := "()Z" } : Jvm.MethodName) prog_1_method_5_code (1 : Nat) (Option.some Jvm.ClassFile.FieldType.boolean)) ∈ G := G_in (List.mem_of_getElem? (i := 199) rfl) rfl
set_option maxRecDepth 20000 in
theorem g_183 : (Jvm.Cond.methodLink "BlockCode" (60 : Nat) ({ cls := "BlockCode$Message", name := "begin", desc := "()V" } : Jvm.MethodName)) ∈ G := G_in (List.mem_of_getElem? (i := 200) rfl) rfl
set_option maxRecDepth 20000 in
theorem g_184 : (Jvm.Cond.instanceMethod ({ cls := "BlockCode$Message", name := "begin", desc := "()V" } : Jvm.MethodName)) ∈ G := G_in (List.mem_of_getElem? (i := 201) rfl) rfl
set_option maxRecDepth 20000 in
theorem g_185 : (Jvm.Cond.selects "BlockCode$Message" ({ cls := "BlockCode$Message", name := "begin", desc := "()V" } : Jvm.MethodName) ({ cls := "BlockCode$Message", name := "begin", desc := "()V" } : Jvm.MethodName)) ∈ G := G_in (List.mem_of_getElem? (i := 202) rfl) rfl
set_option maxRecDepth 20000 in
theorem g_186 : (Jvm.Cond.code ({ cls := "BlockCode$Message", name := "begin", desc := "()V" } : Jvm.MethodName) prog_3_method_3_code (1 : Nat) (Option.none : Option Jvm.ClassFile.FieldType)) ∈ G := G_in (List.mem_of_getElem? (i := 203) rfl) rfl
set_option maxRecDepth 20000 in
theorem g_187 : (Jvm.Cond.methodLink "BlockCode$Message" (32 : Nat) ({ cls := "java/util/Arrays", name := "fill", desc := "([II)V" } : Jvm.MethodName)) ∈ G := G_in (List.mem_of_getElem? (i := 204) rfl) rfl
set_option maxRecDepth 20000 in
theorem g_188 : (Jvm.Cond.methodLink "BlockCodeLaw" (31 : Nat) ({ cls := "BlockCode", name := "macUpdate", desc := "(I)Z" } : Jvm.MethodName)) ∈ G := G_in (List.mem_of_getElem? (i := 205) rfl) rfl
set_option maxRecDepth 20000 in
theorem g_189 : (Jvm.Cond.instanceMethod ({ cls := "BlockCode", name := "macUpdate", desc := "(I)Z" } : Jvm.MethodName)) ∈ G := G_in (List.mem_of_getElem? (i := 206) rfl) rfl
set_option maxRecDepth 20000 in
theorem g_190 : (Jvm.Cond.selects "BlockCode" ({ cls := "BlockCode", name := "macUpdate", desc := "(I)Z" } : Jvm.MethodName) ({ cls := "BlockCode", name := "macUpdate", desc := "(I)Z" } : Jvm.MethodName)) ∈ G := G_in (List.mem_of_getElem? (i := 207) rfl) rfl
set_option maxRecDepth 20000 in
theorem g_191 : (Jvm.Cond.code ({ cls := "BlockCode", name := "macUpdate", desc := "(I)Z" } : Jvm.MethodName) prog_1_method_6_code (2 : Nat) (Option.some Jvm.ClassFile.FieldType.boolean)) ∈ G := G_in (List.mem_of_getElem? (i := 208) rfl) rfl
set_option maxRecDepth 20000 in
theorem g_192 : (Jvm.Cond.methodLink "BlockCode" (66 : Nat) ({ cls := "BlockCode$Message", name := "take", desc := "(ILBlockCode$Key;)V" } : Jvm.MethodName)) ∈ G := G_in (List.mem_of_getElem? (i := 209) rfl) rfl
set_option maxRecDepth 20000 in
theorem g_193 : (Jvm.Cond.instanceMethod ({ cls := "BlockCode$Message", name := "take", desc := "(ILBlockCode$Key;)V" } : Jvm.MethodName)) ∈ G := G_in (List.mem_of_getElem? (i := 210) rfl) rfl
set_option maxRecDepth 20000 in
theorem g_194 : (Jvm.Cond.selects "BlockCode$Message" ({ cls := "BlockCode$Message", name := "take", desc := "(ILBlockCode$Key;)V" } : Jvm.MethodName) ({ cls := "BlockCode$Message", name := "take", desc := "(ILBlockCode$Key;)V" } : Jvm.MethodName)) ∈ G := G_in (List.mem_of_getElem? (i := 211) rfl) rfl
set_option maxRecDepth 20000 in
theorem g_195 : (Jvm.Cond.code ({ cls := "BlockCode$Message", name := "take", desc := "(ILBlockCode$Key;)V" } : Jvm.MethodName) prog_3_method_4_code (3 : Nat) (Option.none : Option Jvm.ClassFile.FieldType)) ∈ G := G_in (List.mem_of_getElem? (i := 212) rfl) rfl
set_option maxRecDepth 20000 in
theorem g_196 : (Jvm.Cond.methodLink "BlockCode$Message" (38 : Nat) ({ cls := "BlockCode$Key", name := "goForth", desc := "([I)V" } : Jvm.MethodName)) ∈ G := G_in (List.mem_of_getElem? (i := 213) rfl) rfl
set_option maxRecDepth 20000 in
theorem g_197 : (Jvm.Cond.methodLink "BlockCodeLaw" (36 : Nat) ({ cls := "BlockCode", name := "macFill", desc := "(III)Z" } : Jvm.MethodName)) ∈ G := G_in (List.mem_of_getElem? (i := 214) rfl) rfl
set_option maxRecDepth 20000 in
theorem g_198 : (Jvm.Cond.instanceMethod ({ cls := "BlockCode", name := "macFill", desc := "(III)Z" } : Jvm.MethodName)) ∈ G := G_in (List.mem_of_getElem? (i := 215) rfl) rfl
set_option maxRecDepth 20000 in
theorem g_199 : (Jvm.Cond.selects "BlockCode" ({ cls := "BlockCode", name := "macFill", desc := "(III)Z" } : Jvm.MethodName) ({ cls := "BlockCode", name := "macFill", desc := "(III)Z" } : Jvm.MethodName)) ∈ G := G_in (List.mem_of_getElem? (i := 216) rfl) rfl
set_option maxRecDepth 20000 in
theorem g_200 : (Jvm.Cond.code ({ cls := "BlockCode", name := "macFill", desc := "(III)Z" } : Jvm.MethodName) prog_1_method_7_code (6 : Nat) (Option.some Jvm.ClassFile.FieldType.boolean)) ∈ G := G_in (List.mem_of_getElem? (i := 217) rfl) rfl
set_option maxRecDepth 20000 in
theorem g_201 : (Jvm.Cond.methodLink "BlockCodeLaw" (41 : Nat) ({ cls := "BlockCode", name := "macFinish", desc := "()Z" } : Jvm.MethodName)) ∈ G := G_in (List.mem_of_getElem? (i := 218) rfl) rfl
set_option maxRecDepth 20000 in
theorem g_202 : (Jvm.Cond.instanceMethod ({ cls := "BlockCode", name := "macFinish", desc := "()Z" } : Jvm.MethodName)) ∈ G := G_in (List.mem_of_getElem? (i := 219) rfl) rfl
set_option maxRecDepth 20000 in
theorem g_203 : (Jvm.Cond.selects "BlockCode" ({ cls := "BlockCode", name := "macFinish", desc := "()Z" } : Jvm.MethodName) ({ cls := "BlockCode", name := "macFinish", desc := "()Z" } : Jvm.MethodName)) ∈ G := G_in (List.mem_of_getElem? (i := 220) rfl) rfl
set_option maxRecDepth 20000 in
theorem g_204 : (Jvm.Cond.code ({ cls := "BlockCode", name := "macFinish", desc := "()Z" } : Jvm.MethodName) prog_1_method_8_code (1 : Nat) (Option.some Jvm.ClassFile.FieldType.boolean)) ∈ G := G_in (List.mem_of_getElem? (i := 221) rfl) rfl
set_option maxRecDepth 20000 in
theorem g_205 : (Jvm.Cond.methodLink "BlockCode" (70 : Nat) ({ cls := "BlockCode$Message", name := "end", desc := "(LBlockCode$Key;)V" } : Jvm.MethodName)) ∈ G := G_in (List.mem_of_getElem? (i := 222) rfl) rfl
set_option maxRecDepth 20000 in
theorem g_206 : (Jvm.Cond.instanceMethod ({ cls := "BlockCode$Message", name := "end", desc := "(LBlockCode$Key;)V" } : Jvm.MethodName)) ∈ G := G_in (List.mem_of_getElem? (i := 223) rfl) rfl
set_option maxRecDepth 20000 in
theorem g_207 : (Jvm.Cond.selects "BlockCode$Message" ({ cls := "BlockCode$Message", name := "end", desc := "(LBlockCode$Key;)V" } : Jvm.MethodName) ({ cls := "BlockCode$Message", name := "end", desc := "(LBlockCode$Key;)V" } : Jvm.MethodName)) ∈ G := G_in (List.mem_of_getElem? (i := 224) rfl) rfl
set_option maxRecDepth 20000 in
theorem g_208 : (Jvm.Cond.code ({ cls := "BlockCode$Message", name := "end", desc := "(LBlockCode$Key;)V" } : Jvm.MethodName) prog_3_method_5_code (2 : Nat) (Option.none : Option Jvm.ClassFile.FieldType)) ∈ G := G_in (List.mem_of_getElem? (i := 225) rfl) rfl
set_option maxRecDepth 20000 in
theorem n_209 : (Jvm.Cond.methodLinkNest "BlockCode$Message" (47 : Nat) ({ cls := "BlockCode", name := "xor", desc := "([I[II)V" } : Jvm.MethodName) "BlockCode") ∈ nests := nests_in (List.mem_of_getElem? (i := 209) rfl) rfl
set_option maxRecDepth 20000 in
theorem g_210 : (Jvm.Cond.methodLink "BlockCodeLaw" (45 : Nat) ({ cls := "BlockCode", name := "tagByte", desc := "(I)I" } : Jvm.MethodName)) ∈ G := G_in (List.mem_of_getElem? (i := 227) rfl) rfl
set_option maxRecDepth 20000 in
theorem g_211 : (Jvm.Cond.instanceMethod ({ cls := "BlockCode", name := "tagByte", desc := "(I)I" } : Jvm.MethodName)) ∈ G := G_in (List.mem_of_getElem? (i := 228) rfl) rfl
set_option maxRecDepth 20000 in
theorem g_212 : (Jvm.Cond.selects "BlockCode" ({ cls := "BlockCode", name := "tagByte", desc := "(I)I" } : Jvm.MethodName) ({ cls := "BlockCode", name := "tagByte", desc := "(I)I" } : Jvm.MethodName)) ∈ G := G_in (List.mem_of_getElem? (i := 229) rfl) rfl
set_option maxRecDepth 20000 in
theorem g_213 : (Jvm.Cond.code ({ cls := "BlockCode", name := "tagByte", desc := "(I)I" } : Jvm.MethodName) prog_1_method_9_code (2 : Nat) (Option.some Jvm.ClassFile.FieldType.int)) ∈ G := G_in (List.mem_of_getElem? (i := 230) rfl) rfl
set_option maxRecDepth 20000 in
theorem g_214 : (Jvm.Cond.methodLink "BlockCodeLaw" (50 : Nat) ({ cls := "BlockCode", name := "macCheck", desc := "(II)Z" } : Jvm.MethodName)) ∈ G := G_in (List.mem_of_getElem? (i := 231) rfl) rfl
set_option maxRecDepth 20000 in
theorem g_215 : (Jvm.Cond.instanceMethod ({ cls := "BlockCode", name := "macCheck", desc := "(II)Z" } : Jvm.MethodName)) ∈ G := G_in (List.mem_of_getElem? (i := 232) rfl) rfl
set_option maxRecDepth 20000 in
theorem g_216 : (Jvm.Cond.selects "BlockCode" ({ cls := "BlockCode", name := "macCheck", desc := "(II)Z" } : Jvm.MethodName) ({ cls := "BlockCode", name := "macCheck", desc := "(II)Z" } : Jvm.MethodName)) ∈ G := G_in (List.mem_of_getElem? (i := 233) rfl) rfl
set_option maxRecDepth 20000 in
theorem g_217 : (Jvm.Cond.code ({ cls := "BlockCode", name := "macCheck", desc := "(II)Z" } : Jvm.MethodName) prog_1_method_10_code (3 : Nat) (Option.some Jvm.ClassFile.FieldType.boolean)) ∈ G := G_in (List.mem_of_getElem? (i := 234) rfl) rfl
set_option maxRecDepth 20000 in
theorem g_218 : (Jvm.Cond.methodLink "BlockCode" (80 : Nat) ({ cls := "BlockCode$Message", name := "compare", desc := "(II)V" } : Jvm.MethodName)) ∈ G := G_in (List.mem_of_getElem? (i := 235) rfl) rfl
set_option maxRecDepth 20000 in
theorem g_219 : (Jvm.Cond.instanceMethod ({ cls := "BlockCode$Message", name := "compare", desc := "(II)V" } : Jvm.MethodName)) ∈ G := G_in (List.mem_of_getElem? (i := 236) rfl) rfl
set_option maxRecDepth 20000 in
theorem g_220 : (Jvm.Cond.selects "BlockCode$Message" ({ cls := "BlockCode$Message", name := "compare", desc := "(II)V" } : Jvm.MethodName) ({ cls := "BlockCode$Message", name := "compare", desc := "(II)V" } : Jvm.MethodName)) ∈ G := G_in (List.mem_of_getElem? (i := 237) rfl) rfl
set_option maxRecDepth 20000 in
theorem g_221 : (Jvm.Cond.code ({ cls := "BlockCode$Message", name := "compare", desc := "(II)V" } : Jvm.MethodName) prog_3_method_6_code (3 : Nat) (Option.none : Option Jvm.ClassFile.FieldType)) ∈ G := G_in (List.mem_of_getElem? (i := 238) rfl) rfl
set_option maxRecDepth 20000 in
theorem g_222 : (Jvm.Cond.methodLink "BlockCodeLaw" (54 : Nat) ({ cls := "BlockCode", name := "macVerdict", desc := "()Z" } : Jvm.MethodName)) ∈ G := G_in (List.mem_of_getElem? (i := 239) rfl) rfl
set_option maxRecDepth 20000 in
theorem g_223 : (Jvm.Cond.instanceMethod ({ cls := "BlockCode", name := "macVerdict", desc := "()Z" } : Jvm.MethodName)) ∈ G := G_in (List.mem_of_getElem? (i := 240) rfl) rfl
set_option maxRecDepth 20000 in
theorem g_224 : (Jvm.Cond.selects "BlockCode" ({ cls := "BlockCode", name := "macVerdict", desc := "()Z" } : Jvm.MethodName) ({ cls := "BlockCode", name := "macVerdict", desc := "()Z" } : Jvm.MethodName)) ∈ G := G_in (List.mem_of_getElem? (i := 241) rfl) rfl
set_option maxRecDepth 20000 in
theorem g_225 : (Jvm.Cond.code ({ cls := "BlockCode", name := "macVerdict", desc := "()Z" } : Jvm.MethodName) prog_1_method_11_code (1 : Nat) (Option.some Jvm.ClassFile.FieldType.boolean)) ∈ G := G_in (List.mem_of_getElem? (i := 242) rfl) rfl
set_option maxRecDepth 20000 in
theorem g_226 : (Jvm.Cond.constant "BlockCode" (87 : Nat) (65535 : Int32)) ∈ G := G_in (List.mem_of_getElem? (i := 243) rfl) rfl
set_option maxRecDepth 20000 in
theorem g_227 : (Jvm.Cond.methodLink "BlockCodeLaw" (58 : Nat) ({ cls := "BlockCode", name := "setBlockByte", desc := "(II)Z" } : Jvm.MethodName)) ∈ G := G_in (List.mem_of_getElem? (i := 244) rfl) rfl
set_option maxRecDepth 20000 in
theorem g_228 : (Jvm.Cond.instanceMethod ({ cls := "BlockCode", name := "setBlockByte", desc := "(II)Z" } : Jvm.MethodName)) ∈ G := G_in (List.mem_of_getElem? (i := 245) rfl) rfl
set_option maxRecDepth 20000 in
theorem g_229 : (Jvm.Cond.selects "BlockCode" ({ cls := "BlockCode", name := "setBlockByte", desc := "(II)Z" } : Jvm.MethodName) ({ cls := "BlockCode", name := "setBlockByte", desc := "(II)Z" } : Jvm.MethodName)) ∈ G := G_in (List.mem_of_getElem? (i := 246) rfl) rfl
set_option maxRecDepth 20000 in
theorem g_230 : (Jvm.Cond.code ({ cls := "BlockCode", name := "setBlockByte", desc := "(II)Z" } : Jvm.MethodName) prog_1_method_12_code (3 : Nat) (Option.some Jvm.ClassFile.FieldType.boolean)) ∈ G := G_in (List.mem_of_getElem? (i := 247) rfl) rfl
set_option maxRecDepth 20000 in
theorem g_231 : (Jvm.Cond.methodLink "BlockCodeLaw" (62 : Nat) ({ cls := "BlockCode", name := "encryptBlock", desc := "()Z" } : Jvm.MethodName)) ∈ G := G_in (List.mem_of_getElem? (i := 248) rfl) rfl
set_option maxRecDepth 20000 in
theorem g_232 : (Jvm.Cond.instanceMethod ({ cls := "BlockCode", name := "encryptBlock", desc := "()Z" } : Jvm.MethodName)) ∈ G := G_in (List.mem_of_getElem? (i := 249) rfl) rfl
set_option maxRecDepth 20000 in
theorem g_233 : (Jvm.Cond.selects "BlockCode" ({ cls := "BlockCode", name := "encryptBlock", desc := "()Z" } : Jvm.MethodName) ({ cls := "BlockCode", name := "encryptBlock", desc := "()Z" } : Jvm.MethodName)) ∈ G := G_in (List.mem_of_getElem? (i := 250) rfl) rfl
set_option maxRecDepth 20000 in
theorem g_234 : (Jvm.Cond.code ({ cls := "BlockCode", name := "encryptBlock", desc := "()Z" } : Jvm.MethodName) prog_1_method_13_code (1 : Nat) (Option.some Jvm.ClassFile.FieldType.boolean)) ∈ G := G_in (List.mem_of_getElem? (i := 251) rfl) rfl
set_option maxRecDepth 20000 in
theorem g_235 : (Jvm.Cond.methodLink "BlockCode" (91 : Nat) ({ cls := "BlockCode$Key", name := "goForth", desc := "([I)V" } : Jvm.MethodName)) ∈ G := G_in (List.mem_of_getElem? (i := 252) rfl) rfl
set_option maxRecDepth 20000 in
theorem g_236 : (Jvm.Cond.methodLink "BlockCodeLaw" (66 : Nat) ({ cls := "BlockCode", name := "decryptBlock", desc := "()Z" } : Jvm.MethodName)) ∈ G := G_in (List.mem_of_getElem? (i := 253) rfl) rfl
set_option maxRecDepth 20000 in
theorem g_237 : (Jvm.Cond.instanceMethod ({ cls := "BlockCode", name := "decryptBlock", desc := "()Z" } : Jvm.MethodName)) ∈ G := G_in (List.mem_of_getElem? (i := 254) rfl) rfl
set_option maxRecDepth 20000 in
theorem g_238 : (Jvm.Cond.selects "BlockCode" ({ cls := "BlockCode", name := "decryptBlock", desc := "()Z" } : Jvm.MethodName) ({ cls := "BlockCode", name := "decryptBlock", desc := "()Z" } : Jvm.MethodName)) ∈ G := G_in (List.mem_of_getElem? (i := 255) rfl) rfl
set_option maxRecDepth 20000 in
theorem g_239 : (Jvm.Cond.code ({ cls := "BlockCode", name := "decryptBlock", desc := "()Z" } : Jvm.MethodName) prog_1_method_14_code (1 : Nat) (Option.some Jvm.ClassFile.FieldType.boolean)) ∈ G := G_in (List.mem_of_getElem? (i := 256) rfl) rfl
set_option maxRecDepth 20000 in
theorem g_240 : (Jvm.Cond.methodLink "BlockCode" (95 : Nat) ({ cls := "BlockCode$Key", name := "goBack", desc := "([I)V" } : Jvm.MethodName)) ∈ G := G_in (List.mem_of_getElem? (i := 257) rfl) rfl
set_option maxRecDepth 20000 in
theorem g_241 : (Jvm.Cond.instanceMethod ({ cls := "BlockCode$Key", name := "goBack", desc := "([I)V" } : Jvm.MethodName)) ∈ G := G_in (List.mem_of_getElem? (i := 258) rfl) rfl
set_option maxRecDepth 20000 in
theorem g_242 : (Jvm.Cond.selects "BlockCode$Key" ({ cls := "BlockCode$Key", name := "goBack", desc := "([I)V" } : Jvm.MethodName) ({ cls := "BlockCode$Key", name := "goBack", desc := "([I)V" } : Jvm.MethodName)) ∈ G := G_in (List.mem_of_getElem? (i := 259) rfl) rfl
set_option maxRecDepth 20000 in
theorem g_243 : (Jvm.Cond.code ({ cls := "BlockCode$Key", name := "goBack", desc := "([I)V" } : Jvm.MethodName) prog_2_method_11_code (3 : Nat) (Option.none : Option Jvm.ClassFile.FieldType)) ∈ G := G_in (List.mem_of_getElem? (i := 260) rfl) rfl
set_option maxRecDepth 20000 in
theorem g_244 : (Jvm.Cond.methodLink "BlockCode$Key" (82 : Nat) ({ cls := "BlockCode$Key", name := "unmix", desc := "([I)V" } : Jvm.MethodName)) ∈ G := G_in (List.mem_of_getElem? (i := 261) rfl) rfl
set_option maxRecDepth 20000 in
theorem g_245 : (Jvm.Cond.static ({ cls := "BlockCode$Key", name := "unmix", desc := "([I)V" } : Jvm.MethodName)) ∈ G := G_in (List.mem_of_getElem? (i := 262) rfl) rfl
set_option maxRecDepth 20000 in
theorem g_246 : (Jvm.Cond.code ({ cls := "BlockCode$Key", name := "unmix", desc := "([I)V" } : Jvm.MethodName) prog_2_method_16_code (1 : Nat) (Option.none : Option Jvm.ClassFile.FieldType)) ∈ G := G_in (List.mem_of_getElem? (i := 263) rfl) rfl
set_option maxRecDepth 20000 in
theorem g_247 : (Jvm.Cond.methodLink "BlockCode$Key" (85 : Nat) ({ cls := "BlockCode$Key", name := "moveAndReplaceBack", desc := "([I)V" } : Jvm.MethodName)) ∈ G := G_in (List.mem_of_getElem? (i := 264) rfl) rfl
set_option maxRecDepth 20000 in
theorem g_249 : (Jvm.Cond.instanceMethod ({ cls := "BlockCode$Key", name := "moveAndReplaceBack", desc := "([I)V" } : Jvm.MethodName)) ∈ G := G_in (List.mem_of_getElem? (i := 266) rfl) rfl
set_option maxRecDepth 20000 in
theorem g_250 : (Jvm.Cond.code ({ cls := "BlockCode$Key", name := "moveAndReplaceBack", desc := "([I)V" } : Jvm.MethodName) prog_2_method_13_code (3 : Nat) (Option.none : Option Jvm.ClassFile.FieldType)) ∈ G := G_in (List.mem_of_getElem? (i := 267) rfl) rfl
set_option maxRecDepth 20000 in
theorem n_251 : (Jvm.Cond.fieldLinkNest "BlockCode$Key" (91 : Nat) "BlockCode" "UNDO_S" "[I" "BlockCode") ∈ nests := nests_in (List.mem_of_getElem? (i := 251) rfl) rfl
set_option maxRecDepth 20000 in
theorem g_253 : (Jvm.Cond.methodLink "BlockCodeLaw" (70 : Nat) ({ cls := "BlockCode", name := "chain", desc := "(Z)Z" } : Jvm.MethodName)) ∈ G := G_in (List.mem_of_getElem? (i := 270) rfl) rfl
set_option maxRecDepth 20000 in
theorem g_254 : (Jvm.Cond.instanceMethod ({ cls := "BlockCode", name := "chain", desc := "(Z)Z" } : Jvm.MethodName)) ∈ G := G_in (List.mem_of_getElem? (i := 271) rfl) rfl
set_option maxRecDepth 20000 in
theorem g_255 : (Jvm.Cond.selects "BlockCode" ({ cls := "BlockCode", name := "chain", desc := "(Z)Z" } : Jvm.MethodName) ({ cls := "BlockCode", name := "chain", desc := "(Z)Z" } : Jvm.MethodName)) ∈ G := G_in (List.mem_of_getElem? (i := 272) rfl) rfl
set_option maxRecDepth 20000 in
theorem g_256 : (Jvm.Cond.code ({ cls := "BlockCode", name := "chain", desc := "(Z)Z" } : Jvm.MethodName) prog_1_method_15_code (2 : Nat) (Option.some Jvm.ClassFile.FieldType.boolean)) ∈ G := G_in (List.mem_of_getElem? (i := 273) rfl) rfl
set_option maxRecDepth 20000 in
theorem g_257 : (Jvm.Cond.methodLink "BlockCode" (98 : Nat) ({ cls := "BlockCode", name := "chainBack", desc := "()V" } : Jvm.MethodName)) ∈ G := G_in (List.mem_of_getElem? (i := 274) rfl) rfl
set_option maxRecDepth 20000 in
theorem g_259 : (Jvm.Cond.instanceMethod ({ cls := "BlockCode", name := "chainBack", desc := "()V" } : Jvm.MethodName)) ∈ G := G_in (List.mem_of_getElem? (i := 276) rfl) rfl
set_option maxRecDepth 20000 in
theorem g_260 : (Jvm.Cond.code ({ cls := "BlockCode", name := "chainBack", desc := "()V" } : Jvm.MethodName) prog_1_method_20_code (1 : Nat) (Option.none : Option Jvm.ClassFile.FieldType)) ∈ G := G_in (List.mem_of_getElem? (i := 277) rfl) rfl
set_option maxRecDepth 20000 in
theorem g_261 : (Jvm.Cond.methodLink "BlockCode" (120 : Nat) ({ cls := "java/lang/System", name := "arraycopy", desc := "(Ljava/lang/Object;ILjava/lang/Object;II)V" } : Jvm.MethodName)) ∈ G := G_in (List.mem_of_getElem? (i := 278) rfl) rfl
set_option maxRecDepth 20000 in
theorem g_262 : (Jvm.Cond.methodLink "BlockCode" (116 : Nat) ({ cls := "BlockCode", name := "xor", desc := "([I[II)V" } : Jvm.MethodName)) ∈ G := G_in (List.mem_of_getElem? (i := 279) rfl) rfl
set_option maxRecDepth 20000 in
theorem g_263 : (Jvm.Cond.methodLink "BlockCode" (101 : Nat) ({ cls := "BlockCode", name := "chainForth", desc := "()V" } : Jvm.MethodName)) ∈ G := G_in (List.mem_of_getElem? (i := 280) rfl) rfl
set_option maxRecDepth 20000 in
theorem g_265 : (Jvm.Cond.instanceMethod ({ cls := "BlockCode", name := "chainForth", desc := "()V" } : Jvm.MethodName)) ∈ G := G_in (List.mem_of_getElem? (i := 282) rfl) rfl
set_option maxRecDepth 20000 in
theorem g_266 : (Jvm.Cond.code ({ cls := "BlockCode", name := "chainForth", desc := "()V" } : Jvm.MethodName) prog_1_method_19_code (1 : Nat) (Option.none : Option Jvm.ClassFile.FieldType)) ∈ G := G_in (List.mem_of_getElem? (i := 283) rfl) rfl
set_option maxRecDepth 20000 in
theorem g_267 : (Jvm.Cond.methodLink "BlockCodeLaw" (75 : Nat) ({ cls := "BlockCode", name := "unchain", desc := "()Z" } : Jvm.MethodName)) ∈ G := G_in (List.mem_of_getElem? (i := 284) rfl) rfl
set_option maxRecDepth 20000 in
theorem g_268 : (Jvm.Cond.instanceMethod ({ cls := "BlockCode", name := "unchain", desc := "()Z" } : Jvm.MethodName)) ∈ G := G_in (List.mem_of_getElem? (i := 285) rfl) rfl
set_option maxRecDepth 20000 in
theorem g_269 : (Jvm.Cond.selects "BlockCode" ({ cls := "BlockCode", name := "unchain", desc := "()Z" } : Jvm.MethodName) ({ cls := "BlockCode", name := "unchain", desc := "()Z" } : Jvm.MethodName)) ∈ G := G_in (List.mem_of_getElem? (i := 286) rfl) rfl
set_option maxRecDepth 20000 in
theorem g_270 : (Jvm.Cond.code ({ cls := "BlockCode", name := "unchain", desc := "()Z" } : Jvm.MethodName) prog_1_method_16_code (1 : Nat) (Option.some Jvm.ClassFile.FieldType.boolean)) ∈ G := G_in (List.mem_of_getElem? (i := 287) rfl) rfl
set_option maxRecDepth 20000 in
theorem g_271 : (Jvm.Cond.methodLink "BlockCode" (104 : Nat) ({ cls := "java/util/Arrays", name := "fill", desc := "([II)V" } : Jvm.MethodName)) ∈ G := G_in (List.mem_of_getElem? (i := 288) rfl) rfl
set_option maxRecDepth 20000 in
theorem g_272 : (Jvm.Cond.methodLink "BlockCodeLaw" (79 : Nat) ({ cls := "BlockCode", name := "blockByte", desc := "(I)I" } : Jvm.MethodName)) ∈ G := G_in (List.mem_of_getElem? (i := 289) rfl) rfl
set_option maxRecDepth 20000 in
theorem g_273 : (Jvm.Cond.instanceMethod ({ cls := "BlockCode", name := "blockByte", desc := "(I)I" } : Jvm.MethodName)) ∈ G := G_in (List.mem_of_getElem? (i := 290) rfl) rfl
set_option maxRecDepth 20000 in
theorem g_274 : (Jvm.Cond.selects "BlockCode" ({ cls := "BlockCode", name := "blockByte", desc := "(I)I" } : Jvm.MethodName) ({ cls := "BlockCode", name := "blockByte", desc := "(I)I" } : Jvm.MethodName)) ∈ G := G_in (List.mem_of_getElem? (i := 291) rfl) rfl
set_option maxRecDepth 20000 in
theorem g_275 : (Jvm.Cond.code ({ cls := "BlockCode", name := "blockByte", desc := "(I)I" } : Jvm.MethodName) prog_1_method_17_code (2 : Nat) (Option.some Jvm.ClassFile.FieldType.int)) ∈ G := G_in (List.mem_of_getElem? (i := 292) rfl) rfl
set_option maxRecDepth 20000 in
theorem g_276 : (Jvm.Cond.methodLink "BlockCodeLaw" (83 : Nat) ({ cls := "BlockCode", name := "half", desc := "(II)I" } : Jvm.MethodName)) ∈ G := G_in (List.mem_of_getElem? (i := 293) rfl) rfl
set_option maxRecDepth 20000 in
theorem g_277 : (Jvm.Cond.instanceMethod ({ cls := "BlockCode", name := "half", desc := "(II)I" } : Jvm.MethodName)) ∈ G := G_in (List.mem_of_getElem? (i := 294) rfl) rfl
set_option maxRecDepth 20000 in
theorem g_278 : (Jvm.Cond.selects "BlockCode" ({ cls := "BlockCode", name := "half", desc := "(II)I" } : Jvm.MethodName) ({ cls := "BlockCode", name := "half", desc := "(II)I" } : Jvm.MethodName)) ∈ G := G_in (List.mem_of_getElem? (i := 295) rfl) rfl
set_option maxRecDepth 20000 in
theorem g_279 : (Jvm.Cond.code ({ cls := "BlockCode", name := "half", desc := "(II)I" } : Jvm.MethodName) prog_1_method_18_code (3 : Nat) (Option.some Jvm.ClassFile.FieldType.int)) ∈ G := G_in (List.mem_of_getElem? (i := 296) rfl) rfl
set_option maxRecDepth 20000 in
theorem g_280 : (Jvm.Cond.classLink "BlockCodeLaw" (10 : Nat) "BlockCodeModel") ∈ G := G_in (List.mem_of_getElem? (i := 297) rfl) rfl
set_option maxRecDepth 20000 in
theorem g_281 : (Jvm.Cond.instantiable "BlockCodeModel" (18 : Nat)) ∈ G := G_in (List.mem_of_getElem? (i := 298) rfl) rfl
set_option maxRecDepth 20000 in
theorem g_282 : (Jvm.Cond.methodLink "BlockCodeLaw" (12 : Nat) ({ cls := "BlockCodeModel", name := "<init>", desc := "()V" } : Jvm.MethodName)) ∈ G := G_in (List.mem_of_getElem? (i := 299) rfl) rfl
set_option maxRecDepth 20000 in
theorem g_283 : (Jvm.Cond.instanceMethod ({ cls := "BlockCodeModel", name := "<init>", desc := "()V" } : Jvm.MethodName)) ∈ G := G_in (List.mem_of_getElem? (i := 300) rfl) rfl
set_option maxRecDepth 20000 in
theorem g_284 : (Jvm.Cond.code ({ cls := "BlockCodeModel", name := "<init>", desc := "()V" } : Jvm.MethodName) prog_5_method_1_code (6 : Nat) (Option.none : Option Jvm.ClassFile.FieldType)) ∈ G := G_in (List.mem_of_getElem? (i := 301) rfl) rfl
set_option maxRecDepth 20000 in
theorem g_285 : (Jvm.Cond.methodLink "BlockCodeModel" (1 : Nat) ({ cls := "java/lang/Object", name := "<init>", desc := "()V" } : Jvm.MethodName)) ∈ G := G_in (List.mem_of_getElem? (i := 302) rfl) rfl
set_option maxRecDepth 20000 in
theorem g_286 : (Jvm.Cond.methodLink "BlockCodeModel" (47 : Nat) ({ cls := "BlockCodeModel", name := "times", desc := "(II)I" } : Jvm.MethodName)) ∈ G := G_in (List.mem_of_getElem? (i := 303) rfl) rfl
set_option maxRecDepth 20000 in
theorem g_287 : (Jvm.Cond.static ({ cls := "BlockCodeModel", name := "times", desc := "(II)I" } : Jvm.MethodName)) ∈ G := G_in (List.mem_of_getElem? (i := 304) rfl) rfl
set_option maxRecDepth 20000 in
theorem g_288 : (Jvm.Cond.code ({ cls := "BlockCodeModel", name := "times", desc := "(II)I" } : Jvm.MethodName) prog_5_method_2_code (5 : Nat) (Option.some Jvm.ClassFile.FieldType.int)) ∈ G := G_in (List.mem_of_getElem? (i := 305) rfl) rfl
set_option maxRecDepth 20000 in
theorem g_289 : (Jvm.Cond.fieldLink "BlockCodeModel" (51 : Nat) "BlockCodeModel" "thrown" "I") ∈ G := G_in (List.mem_of_getElem? (i := 306) rfl) rfl
set_option maxRecDepth 20000 in
theorem g_290 : (Jvm.Cond.fieldLink "BlockCodeModel" (55 : Nat) "BlockCodeModel" "ready" "Z") ∈ G := G_in (List.mem_of_getElem? (i := 307) rfl) rfl
set_option maxRecDepth 20000 in
theorem g_291 : (Jvm.Cond.fieldLink "BlockCodeModel" (59 : Nat) "BlockCodeModel" "made" "Z") ∈ G := G_in (List.mem_of_getElem? (i := 308) rfl) rfl
set_option maxRecDepth 20000 in
theorem g_292 : (Jvm.Cond.fieldLink "BlockCodeModel" (62 : Nat) "BlockCodeModel" "message" "I") ∈ G := G_in (List.mem_of_getElem? (i := 309) rfl) rfl
set_option maxRecDepth 20000 in
theorem g_293 : (Jvm.Cond.fieldLink "BlockCodeModel" (7 : Nat) "BlockCodeModel" "key" "[I") ∈ G := G_in (List.mem_of_getElem? (i := 310) rfl) rfl
set_option maxRecDepth 20000 in
theorem g_294 : (Jvm.Cond.fieldLink "BlockCodeModel" (13 : Nat) "BlockCodeModel" "block" "[I") ∈ G := G_in (List.mem_of_getElem? (i := 311) rfl) rfl
set_option maxRecDepth 20000 in
theorem g_295 : (Jvm.Cond.fieldLink "BlockCodeModel" (16 : Nat) "BlockCodeModel" "before" "[I") ∈ G := G_in (List.mem_of_getElem? (i := 312) rfl) rfl
set_option maxRecDepth 20000 in
theorem g_296 : (Jvm.Cond.fieldLink "BlockCodeModel" (19 : Nat) "BlockCodeModel" "s" "[I") ∈ G := G_in (List.mem_of_getElem? (i := 313) rfl) rfl
set_option maxRecDepth 20000 in
theorem g_297 : (Jvm.Cond.fieldLink "BlockCodeModel" (22 : Nat) "BlockCodeModel" "unS" "[I") ∈ G := G_in (List.mem_of_getElem? (i := 314) rfl) rfl
set_option maxRecDepth 20000 in
theorem g_298 : (Jvm.Cond.fieldLink "BlockCodeModel" (25 : Nat) "BlockCodeModel" "words" "[I") ∈ G := G_in (List.mem_of_getElem? (i := 315) rfl) rfl
set_option maxRecDepth 20000 in
theorem g_299 : (Jvm.Cond.fieldLink "BlockCodeModel" (28 : Nat) "BlockCodeModel" "halves" "[I") ∈ G := G_in (List.mem_of_getElem? (i := 316) rfl) rfl
set_option maxRecDepth 20000 in
theorem g_300 : (Jvm.Cond.fieldLink "BlockCodeModel" (31 : Nat) "BlockCodeModel" "state" "[I") ∈ G := G_in (List.mem_of_getElem? (i := 317) rfl) rfl
set_option maxRecDepth 20000 in
theorem g_301 : (Jvm.Cond.fieldLink "BlockCodeModel" (34 : Nat) "BlockCodeModel" "moved" "[I") ∈ G := G_in (List.mem_of_getElem? (i := 318) rfl) rfl
set_option maxRecDepth 20000 in
theorem g_302 : (Jvm.Cond.fieldLink "BlockCodeModel" (37 : Nat) "BlockCodeModel" "code" "[I") ∈ G := G_in (List.mem_of_getElem? (i := 319) rfl) rfl
set_option maxRecDepth 20000 in
theorem g_303 : (Jvm.Cond.fieldLink "BlockCodeModel" (40 : Nat) "BlockCodeModel" "last" "[I") ∈ G := G_in (List.mem_of_getElem? (i := 320) rfl) rfl
set_option maxRecDepth 20000 in
theorem g_304 : (Jvm.Cond.fieldLink "BlockCodeModel" (86 : Nat) "BlockCodeModel" "lastCount" "I") ∈ G := G_in (List.mem_of_getElem? (i := 321) rfl) rfl
set_option maxRecDepth 20000 in
theorem g_305 : (Jvm.Cond.fieldLink "BlockCodeModel" (43 : Nat) "BlockCodeModel" "compared" "[Z") ∈ G := G_in (List.mem_of_getElem? (i := 322) rfl) rfl
set_option maxRecDepth 20000 in
theorem g_306 : (Jvm.Cond.fieldLink "BlockCodeModel" (95 : Nat) "BlockCodeModel" "wrong" "Z") ∈ G := G_in (List.mem_of_getElem? (i := 323) rfl) rfl
set_option maxRecDepth 20000 in
theorem g_307 : (Jvm.Cond.lays "BlockCodeModel" "BlockCodeModel" "thrown" "I") ∈ G := G_in (List.mem_of_getElem? (i := 324) rfl) rfl
set_option maxRecDepth 20000 in
theorem g_308 : (Jvm.Cond.soleField "BlockCodeModel" "thrown") ∈ G := G_in (List.mem_of_getElem? (i := 325) rfl) rfl
set_option maxRecDepth 20000 in
theorem g_309 : (Jvm.Cond.lays "BlockCodeModel" "BlockCodeModel" "ready" "Z") ∈ G := G_in (List.mem_of_getElem? (i := 326) rfl) rfl
set_option maxRecDepth 20000 in
theorem g_310 : (Jvm.Cond.soleField "BlockCodeModel" "ready") ∈ G := G_in (List.mem_of_getElem? (i := 327) rfl) rfl
set_option maxRecDepth 20000 in
theorem g_311 : (Jvm.Cond.lays "BlockCodeModel" "BlockCodeModel" "made" "Z") ∈ G := G_in (List.mem_of_getElem? (i := 328) rfl) rfl
set_option maxRecDepth 20000 in
theorem g_312 : (Jvm.Cond.soleField "BlockCodeModel" "made") ∈ G := G_in (List.mem_of_getElem? (i := 329) rfl) rfl
set_option maxRecDepth 20000 in
theorem g_313 : (Jvm.Cond.lays "BlockCodeModel" "BlockCodeModel" "message" "I") ∈ G := G_in (List.mem_of_getElem? (i := 330) rfl) rfl
set_option maxRecDepth 20000 in
theorem g_314 : (Jvm.Cond.soleField "BlockCodeModel" "message") ∈ G := G_in (List.mem_of_getElem? (i := 331) rfl) rfl
set_option maxRecDepth 20000 in
theorem g_315 : (Jvm.Cond.laysFinal "BlockCodeModel" "BlockCodeModel" "key" "[I") ∈ G := G_in (List.mem_of_getElem? (i := 332) rfl) rfl
set_option maxRecDepth 20000 in
theorem g_316 : (Jvm.Cond.soleField "BlockCodeModel" "key") ∈ G := G_in (List.mem_of_getElem? (i := 333) rfl) rfl
set_option maxRecDepth 20000 in
theorem g_317 : (Jvm.Cond.laysFinal "BlockCodeModel" "BlockCodeModel" "block" "[I") ∈ G := G_in (List.mem_of_getElem? (i := 334) rfl) rfl
set_option maxRecDepth 20000 in
theorem g_318 : (Jvm.Cond.soleField "BlockCodeModel" "block") ∈ G := G_in (List.mem_of_getElem? (i := 335) rfl) rfl
set_option maxRecDepth 20000 in
theorem g_319 : (Jvm.Cond.laysFinal "BlockCodeModel" "BlockCodeModel" "before" "[I") ∈ G := G_in (List.mem_of_getElem? (i := 336) rfl) rfl
set_option maxRecDepth 20000 in
theorem g_320 : (Jvm.Cond.soleField "BlockCodeModel" "before") ∈ G := G_in (List.mem_of_getElem? (i := 337) rfl) rfl
set_option maxRecDepth 20000 in
theorem g_321 : (Jvm.Cond.laysFinal "BlockCodeModel" "BlockCodeModel" "s" "[I") ∈ G := G_in (List.mem_of_getElem? (i := 338) rfl) rfl
set_option maxRecDepth 20000 in
theorem g_322 : (Jvm.Cond.soleField "BlockCodeModel" "s") ∈ G := G_in (List.mem_of_getElem? (i := 339) rfl) rfl
set_option maxRecDepth 20000 in
theorem g_323 : (Jvm.Cond.laysFinal "BlockCodeModel" "BlockCodeModel" "unS" "[I") ∈ G := G_in (List.mem_of_getElem? (i := 340) rfl) rfl
set_option maxRecDepth 20000 in
theorem g_324 : (Jvm.Cond.soleField "BlockCodeModel" "unS") ∈ G := G_in (List.mem_of_getElem? (i := 341) rfl) rfl
set_option maxRecDepth 20000 in
theorem g_325 : (Jvm.Cond.laysFinal "BlockCodeModel" "BlockCodeModel" "words" "[I") ∈ G := G_in (List.mem_of_getElem? (i := 342) rfl) rfl
set_option maxRecDepth 20000 in
theorem g_326 : (Jvm.Cond.soleField "BlockCodeModel" "words") ∈ G := G_in (List.mem_of_getElem? (i := 343) rfl) rfl
set_option maxRecDepth 20000 in
theorem g_327 : (Jvm.Cond.laysFinal "BlockCodeModel" "BlockCodeModel" "halves" "[I") ∈ G := G_in (List.mem_of_getElem? (i := 344) rfl) rfl
set_option maxRecDepth 20000 in
theorem g_328 : (Jvm.Cond.soleField "BlockCodeModel" "halves") ∈ G := G_in (List.mem_of_getElem? (i := 345) rfl) rfl
set_option maxRecDepth 20000 in
theorem g_329 : (Jvm.Cond.laysFinal "BlockCodeModel" "BlockCodeModel" "state" "[I") ∈ G := G_in (List.mem_of_getElem? (i := 346) rfl) rfl
set_option maxRecDepth 20000 in
theorem g_330 : (Jvm.Cond.soleField "BlockCodeModel" "state") ∈ G := G_in (List.mem_of_getElem? (i := 347) rfl) rfl
set_option maxRecDepth 20000 in
theorem g_331 : (Jvm.Cond.laysFinal "BlockCodeModel" "BlockCodeModel" "moved" "[I") ∈ G := G_in (List.mem_of_getElem? (i := 348) rfl) rfl
set_option maxRecDepth 20000 in
theorem g_332 : (Jvm.Cond.soleField "BlockCodeModel" "moved") ∈ G := G_in (List.mem_of_getElem? (i := 349) rfl) rfl
set_option maxRecDepth 20000 in
theorem g_333 : (Jvm.Cond.laysFinal "BlockCodeModel" "BlockCodeModel" "code" "[I") ∈ G := G_in (List.mem_of_getElem? (i := 350) rfl) rfl
set_option maxRecDepth 20000 in
theorem g_334 : (Jvm.Cond.soleField "BlockCodeModel" "code") ∈ G := G_in (List.mem_of_getElem? (i := 351) rfl) rfl
set_option maxRecDepth 20000 in
theorem g_335 : (Jvm.Cond.laysFinal "BlockCodeModel" "BlockCodeModel" "last" "[I") ∈ G := G_in (List.mem_of_getElem? (i := 352) rfl) rfl
set_option maxRecDepth 20000 in
theorem g_336 : (Jvm.Cond.soleField "BlockCodeModel" "last") ∈ G := G_in (List.mem_of_getElem? (i := 353) rfl) rfl
set_option maxRecDepth 20000 in
theorem g_337 : (Jvm.Cond.lays "BlockCodeModel" "BlockCodeModel" "lastCount" "I") ∈ G := G_in (List.mem_of_getElem? (i := 354) rfl) rfl
set_option maxRecDepth 20000 in
theorem g_338 : (Jvm.Cond.soleField "BlockCodeModel" "lastCount") ∈ G := G_in (List.mem_of_getElem? (i := 355) rfl) rfl
set_option maxRecDepth 20000 in
theorem g_339 : (Jvm.Cond.laysFinal "BlockCodeModel" "BlockCodeModel" "compared" "[Z") ∈ G := G_in (List.mem_of_getElem? (i := 356) rfl) rfl
set_option maxRecDepth 20000 in
theorem g_340 : (Jvm.Cond.soleField "BlockCodeModel" "compared") ∈ G := G_in (List.mem_of_getElem? (i := 357) rfl) rfl
set_option maxRecDepth 20000 in
theorem g_341 : (Jvm.Cond.lays "BlockCodeModel" "BlockCodeModel" "wrong" "Z") ∈ G := G_in (List.mem_of_getElem? (i := 358) rfl) rfl
set_option maxRecDepth 20000 in
theorem g_342 : (Jvm.Cond.soleField "BlockCodeModel" "wrong") ∈ G := G_in (List.mem_of_getElem? (i := 359) rfl) rfl
set_option maxRecDepth 20000 in
theorem g_343 : (Jvm.Cond.superclass "BlockCodeModel" "java/lang/Object") ∈ G := G_in (List.mem_of_getElem? (i := 360) rfl) rfl
set_option maxRecDepth 20000 in
theorem g_344 : (Jvm.Cond.arrayClass Jvm.ClassFile.FieldType.boolean) ∈ G := G_in (List.mem_of_getElem? (i := 361) rfl) rfl
set_option maxRecDepth 20000 in
theorem g_345 : (Jvm.Cond.methodLink "BlockCodeLaw" (16 : Nat) ({ cls := "BlockCodeModel", name := "init", desc := "()V" } : Jvm.MethodName)) ∈ G := G_in (List.mem_of_getElem? (i := 362) rfl) rfl
set_option maxRecDepth 20000 in
theorem g_346 : (Jvm.Cond.instanceMethod ({ cls := "BlockCodeModel", name := "init", desc := "()V" } : Jvm.MethodName)) ∈ G := G_in (List.mem_of_getElem? (i := 363) rfl) rfl
set_option maxRecDepth 20000 in
theorem g_347 : (Jvm.Cond.selects "BlockCodeModel" ({ cls := "BlockCodeModel", name := "init", desc := "()V" } : Jvm.MethodName) ({ cls := "BlockCodeModel", name := "init", desc := "()V" } : Jvm.MethodName)) ∈ G := G_in (List.mem_of_getElem? (i := 364) rfl) rfl
set_option maxRecDepth 20000 in
theorem g_348 : (Jvm.Cond.code ({ cls := "BlockCodeModel", name := "init", desc := "()V" } : Jvm.MethodName) prog_5_method_5_code (2 : Nat) (Option.none : Option Jvm.ClassFile.FieldType)) ∈ G := G_in (List.mem_of_getElem? (i := 365) rfl) rfl
set_option maxRecDepth 20000 in
theorem g_349 : (Jvm.Cond.methodLink "BlockCodeLaw" (21 : Nat) ({ cls := "BlockCodeModel", name := "setKeyByte", desc := "(II)Z" } : Jvm.MethodName)) ∈ G := G_in (List.mem_of_getElem? (i := 366) rfl) rfl
set_option maxRecDepth 20000 in
theorem g_350 : (Jvm.Cond.instanceMethod ({ cls := "BlockCodeModel", name := "setKeyByte", desc := "(II)Z" } : Jvm.MethodName)) ∈ G := G_in (List.mem_of_getElem? (i := 367) rfl) rfl
set_option maxRecDepth 20000 in
theorem g_351 : (Jvm.Cond.selects "BlockCodeModel" ({ cls := "BlockCodeModel", name := "setKeyByte", desc := "(II)Z" } : Jvm.MethodName) ({ cls := "BlockCodeModel", name := "setKeyByte", desc := "(II)Z" } : Jvm.MethodName)) ∈ G := G_in (List.mem_of_getElem? (i := 368) rfl) rfl
set_option maxRecDepth 20000 in
theorem g_352 : (Jvm.Cond.code ({ cls := "BlockCodeModel", name := "setKeyByte", desc := "(II)Z" } : Jvm.MethodName) prog_5_method_6_code (3 : Nat) (Option.some Jvm.ClassFile.FieldType.boolean)) ∈ G := G_in (List.mem_of_getElem? (i := 369) rfl) rfl
set_option maxRecDepth 20000 in
theorem g_353 : (Jvm.Cond.methodLink "BlockCodeModel" (65 : Nat) ({ cls := "BlockCodeModel", name := "isIn", desc := "(II)Z" } : Jvm.MethodName)) ∈ G := G_in (List.mem_of_getElem? (i := 370) rfl) rfl
set_option maxRecDepth 20000 in
theorem g_354 : (Jvm.Cond.static ({ cls := "BlockCodeModel", name := "isIn", desc := "(II)Z" } : Jvm.MethodName)) ∈ G := G_in (List.mem_of_getElem? (i := 371) rfl) rfl
set_option maxRecDepth 20000 in
theorem g_355 : (Jvm.Cond.code ({ cls := "BlockCodeModel", name := "isIn", desc := "(II)Z" } : Jvm.MethodName) prog_5_method_4_code (2 : Nat) (Option.some Jvm.ClassFile.FieldType.boolean)) ∈ G := G_in (List.mem_of_getElem? (i := 372) rfl) rfl
set_option maxRecDepth 20000 in
theorem g_356 : (Jvm.Cond.methodLink "BlockCodeLaw" (26 : Nat) ({ cls := "BlockCodeModel", name := "expand", desc := "()Z" } : Jvm.MethodName)) ∈ G := G_in (List.mem_of_getElem? (i := 373) rfl) rfl
set_option maxRecDepth 20000 in
theorem g_357 : (Jvm.Cond.instanceMethod ({ cls := "BlockCodeModel", name := "expand", desc := "()Z" } : Jvm.MethodName)) ∈ G := G_in (List.mem_of_getElem? (i := 374) rfl) rfl
set_option maxRecDepth 20000 in
theorem g_358 : (Jvm.Cond.selects "BlockCodeModel" ({ cls := "BlockCodeModel", name := "expand", desc := "()Z" } : Jvm.MethodName) ({ cls := "BlockCodeModel", name := "expand", desc := "()Z" } : Jvm.MethodName)) ∈ G := G_in (List.mem_of_getElem? (i := 375) rfl) rfl
set_option maxRecDepth 20000 in
theorem g_359 : (Jvm.Cond.code ({ cls := "BlockCodeModel", name := "expand", desc := "()Z" } : Jvm.MethodName) prog_5_method_13_code (2 : Nat) (Option.some Jvm.ClassFile.FieldType.boolean)) ∈ G := G_in (List.mem_of_getElem? (i := 376) rfl) rfl
set_option maxRecDepth 20000 in
theorem g_360 : (Jvm.Cond.methodLink "BlockCodeModel" (77 : Nat) ({ cls := "BlockCodeModel", name := "makeWords", desc := "()V" } : Jvm.MethodName)) ∈ G := G_in (List.mem_of_getElem? (i := 377) rfl) rfl
set_option maxRecDepth 20000 in
theorem g_362 : (Jvm.Cond.instanceMethod ({ cls := "BlockCodeModel", name := "makeWords", desc := "()V" } : Jvm.MethodName)) ∈ G := G_in (List.mem_of_getElem? (i := 379) rfl) rfl
set_option maxRecDepth 20000 in
theorem g_363 : (Jvm.Cond.code ({ cls := "BlockCodeModel", name := "makeWords", desc := "()V" } : Jvm.MethodName) prog_5_method_7_code (4 : Nat) (Option.none : Option Jvm.ClassFile.FieldType)) ∈ G := G_in (List.mem_of_getElem? (i := 380) rfl) rfl
set_option maxRecDepth 20000 in
theorem g_364 : (Jvm.Cond.methodLink "BlockCodeModel" (80 : Nat) ({ cls := "BlockCodeModel", name := "forth", desc := "()V" } : Jvm.MethodName)) ∈ G := G_in (List.mem_of_getElem? (i := 381) rfl) rfl
set_option maxRecDepth 20000 in
theorem g_366 : (Jvm.Cond.instanceMethod ({ cls := "BlockCodeModel", name := "forth", desc := "()V" } : Jvm.MethodName)) ∈ G := G_in (List.mem_of_getElem? (i := 383) rfl) rfl
set_option maxRecDepth 20000 in
theorem g_367 : (Jvm.Cond.code ({ cls := "BlockCodeModel", name := "forth", desc := "()V" } : Jvm.MethodName) prog_5_method_10_code (3 : Nat) (Option.none : Option Jvm.ClassFile.FieldType)) ∈ G := G_in (List.mem_of_getElem? (i := 384) rfl) rfl
set_option maxRecDepth 20000 in
theorem g_368 : (Jvm.Cond.methodLink "BlockCodeModel" (69 : Nat) ({ cls := "BlockCodeModel", name := "add", desc := "(I)V" } : Jvm.MethodName)) ∈ G := G_in (List.mem_of_getElem? (i := 385) rfl) rfl
set_option maxRecDepth 20000 in
theorem g_370 : (Jvm.Cond.instanceMethod ({ cls := "BlockCodeModel", name := "add", desc := "(I)V" } : Jvm.MethodName)) ∈ G := G_in (List.mem_of_getElem? (i := 387) rfl) rfl
set_option maxRecDepth 20000 in
theorem g_371 : (Jvm.Cond.code ({ cls := "BlockCodeModel", name := "add", desc := "(I)V" } : Jvm.MethodName) prog_5_method_8_code (3 : Nat) (Option.none : Option Jvm.ClassFile.FieldType)) ∈ G := G_in (List.mem_of_getElem? (i := 388) rfl) rfl
set_option maxRecDepth 20000 in
theorem g_372 : (Jvm.Cond.methodLink "BlockCodeModel" (73 : Nat) ({ cls := "BlockCodeModel", name := "columns", desc := "(IIII)V" } : Jvm.MethodName)) ∈ G := G_in (List.mem_of_getElem? (i := 389) rfl) rfl
set_option maxRecDepth 20000 in
theorem g_374 : (Jvm.Cond.instanceMethod ({ cls := "BlockCodeModel", name := "columns", desc := "(IIII)V" } : Jvm.MethodName)) ∈ G := G_in (List.mem_of_getElem? (i := 391) rfl) rfl
set_option maxRecDepth 20000 in
theorem g_375 : (Jvm.Cond.code ({ cls := "BlockCodeModel", name := "columns", desc := "(IIII)V" } : Jvm.MethodName) prog_5_method_9_code (7 : Nat) (Option.none : Option Jvm.ClassFile.FieldType)) ∈ G := G_in (List.mem_of_getElem? (i := 392) rfl) rfl
set_option maxRecDepth 20000 in
theorem g_376 : (Jvm.Cond.methodLink "BlockCodeModel" (83 : Nat) ({ cls := "BlockCodeModel", name := "twice", desc := "(I)V" } : Jvm.MethodName)) ∈ G := G_in (List.mem_of_getElem? (i := 393) rfl) rfl
set_option maxRecDepth 20000 in
theorem g_378 : (Jvm.Cond.instanceMethod ({ cls := "BlockCodeModel", name := "twice", desc := "(I)V" } : Jvm.MethodName)) ∈ G := G_in (List.mem_of_getElem? (i := 395) rfl) rfl
set_option maxRecDepth 20000 in
theorem g_379 : (Jvm.Cond.code ({ cls := "BlockCodeModel", name := "twice", desc := "(I)V" } : Jvm.MethodName) prog_5_method_12_code (5 : Nat) (Option.none : Option Jvm.ClassFile.FieldType)) ∈ G := G_in (List.mem_of_getElem? (i := 396) rfl) rfl
set_option maxRecDepth 20000 in
theorem g_380 : (Jvm.Cond.methodLink "BlockCodeLaw" (30 : Nat) ({ cls := "BlockCodeModel", name := "macStart", desc := "()Z" } : Jvm.MethodName)) ∈ G := G_in (List.mem_of_getElem? (i := 397) rfl) rfl
set_option maxRecDepth 20000 in
theorem g_381 : (Jvm.Cond.instanceMethod ({ cls := "BlockCodeModel", name := "macStart", desc := "()Z" } : Jvm.MethodName)) ∈ G := G_in (List.mem_of_getElem? (i := 398) rfl) rfl
set_option maxRecDepth 20000 in
theorem g_382 : (Jvm.Cond.selects "BlockCodeModel" ({ cls := "BlockCodeModel", name := "macStart", desc := "()Z" } : Jvm.MethodName) ({ cls := "BlockCodeModel", name := "macStart", desc := "()Z" } : Jvm.MethodName)) ∈ G := G_in (List.mem_of_getElem? (i := 399) rfl) rfl
set_option maxRecDepth 20000 in
theorem g_383 : (Jvm.Cond.code ({ cls := "BlockCodeModel", name := "macStart", desc := "()Z" } : Jvm.MethodName) prog_5_method_14_code (2 : Nat) (Option.some Jvm.ClassFile.FieldType.boolean)) ∈ G := G_in (List.mem_of_getElem? (i := 400) rfl) rfl
set_option maxRecDepth 20000 in
theorem g_384 : (Jvm.Cond.methodLink "BlockCodeLaw" (35 : Nat) ({ cls := "BlockCodeModel", name := "macUpdate", desc := "(I)Z" } : Jvm.MethodName)) ∈ G := G_in (List.mem_of_getElem? (i := 401) rfl) rfl
set_option maxRecDepth 20000 in
theorem g_385 : (Jvm.Cond.instanceMethod ({ cls := "BlockCodeModel", name := "macUpdate", desc := "(I)Z" } : Jvm.MethodName)) ∈ G := G_in (List.mem_of_getElem? (i := 402) rfl) rfl
set_option maxRecDepth 20000 in
theorem g_386 : (Jvm.Cond.selects "BlockCodeModel" ({ cls := "BlockCodeModel", name := "macUpdate", desc := "(I)Z" } : Jvm.MethodName) ({ cls := "BlockCodeModel", name := "macUpdate", desc := "(I)Z" } : Jvm.MethodName)) ∈ G := G_in (List.mem_of_getElem? (i := 403) rfl) rfl
set_option maxRecDepth 20000 in
theorem g_387 : (Jvm.Cond.code ({ cls := "BlockCodeModel", name := "macUpdate", desc := "(I)Z" } : Jvm.MethodName) prog_5_method_17_code (2 : Nat) (Option.some Jvm.ClassFile.FieldType.boolean)) ∈ G := G_in (List.mem_of_getElem? (i := 404) rfl) rfl
set_option maxRecDepth 20000 in
theorem g_388 : (Jvm.Cond.methodLink "BlockCodeModel" (92 : Nat) ({ cls := "BlockCodeModel", name := "feed", desc := "(I)V" } : Jvm.MethodName)) ∈ G := G_in (List.mem_of_getElem? (i := 405) rfl) rfl
set_option maxRecDepth 20000 in
theorem g_390 : (Jvm.Cond.instanceMethod ({ cls := "BlockCodeModel", name := "feed", desc := "(I)V" } : Jvm.MethodName)) ∈ G := G_in (List.mem_of_getElem? (i := 407) rfl) rfl
set_option maxRecDepth 20000 in
theorem g_391 : (Jvm.Cond.code ({ cls := "BlockCodeModel", name := "feed", desc := "(I)V" } : Jvm.MethodName) prog_5_method_16_code (2 : Nat) (Option.none : Option Jvm.ClassFile.FieldType)) ∈ G := G_in (List.mem_of_getElem? (i := 408) rfl) rfl
set_option maxRecDepth 20000 in
theorem g_392 : (Jvm.Cond.methodLink "BlockCodeModel" (89 : Nat) ({ cls := "BlockCodeModel", name := "take", desc := "()V" } : Jvm.MethodName)) ∈ G := G_in (List.mem_of_getElem? (i := 409) rfl) rfl
set_option maxRecDepth 20000 in
theorem g_394 : (Jvm.Cond.instanceMethod ({ cls := "BlockCodeModel", name := "take", desc := "()V" } : Jvm.MethodName)) ∈ G := G_in (List.mem_of_getElem? (i := 411) rfl) rfl
set_option maxRecDepth 20000 in
theorem g_395 : (Jvm.Cond.code ({ cls := "BlockCodeModel", name := "take", desc := "()V" } : Jvm.MethodName) prog_5_method_15_code (2 : Nat) (Option.none : Option Jvm.ClassFile.FieldType)) ∈ G := G_in (List.mem_of_getElem? (i := 412) rfl) rfl
set_option maxRecDepth 20000 in
theorem g_396 : (Jvm.Cond.methodLink "BlockCodeLaw" (40 : Nat) ({ cls := "BlockCodeModel", name := "macFill", desc := "(III)Z" } : Jvm.MethodName)) ∈ G := G_in (List.mem_of_getElem? (i := 413) rfl) rfl
set_option maxRecDepth 20000 in
theorem g_397 : (Jvm.Cond.instanceMethod ({ cls := "BlockCodeModel", name := "macFill", desc := "(III)Z" } : Jvm.MethodName)) ∈ G := G_in (List.mem_of_getElem? (i := 414) rfl) rfl
set_option maxRecDepth 20000 in
theorem g_398 : (Jvm.Cond.selects "BlockCodeModel" ({ cls := "BlockCodeModel", name := "macFill", desc := "(III)Z" } : Jvm.MethodName) ({ cls := "BlockCodeModel", name := "macFill", desc := "(III)Z" } : Jvm.MethodName)) ∈ G := G_in (List.mem_of_getElem? (i := 415) rfl) rfl
set_option maxRecDepth 20000 in
theorem g_399 : (Jvm.Cond.code ({ cls := "BlockCodeModel", name := "macFill", desc := "(III)Z" } : Jvm.MethodName) prog_5_method_18_code (6 : Nat) (Option.some Jvm.ClassFile.FieldType.boolean)) ∈ G := G_in (List.mem_of_getElem? (i := 416) rfl) rfl
set_option maxRecDepth 20000 in
theorem g_400 : (Jvm.Cond.methodLink "BlockCodeLaw" (44 : Nat) ({ cls := "BlockCodeModel", name := "macFinish", desc := "()Z" } : Jvm.MethodName)) ∈ G := G_in (List.mem_of_getElem? (i := 417) rfl) rfl
set_option maxRecDepth 20000 in
theorem g_401 : (Jvm.Cond.instanceMethod ({ cls := "BlockCodeModel", name := "macFinish", desc := "()Z" } : Jvm.MethodName)) ∈ G := G_in (List.mem_of_getElem? (i := 418) rfl) rfl
set_option maxRecDepth 20000 in
theorem g_402 : (Jvm.Cond.selects "BlockCodeModel" ({ cls := "BlockCodeModel", name := "macFinish", desc := "()Z" } : Jvm.MethodName) ({ cls := "BlockCodeModel", name := "macFinish", desc := "()Z" } : Jvm.MethodName)) ∈ G := G_in (List.mem_of_getElem? (i := 419) rfl) rfl
set_option maxRecDepth 20000 in
theorem g_403 : (Jvm.Cond.code ({ cls := "BlockCodeModel", name := "macFinish", desc := "()Z" } : Jvm.MethodName) prog_5_method_19_code (3 : Nat) (Option.some Jvm.ClassFile.FieldType.boolean)) ∈ G := G_in (List.mem_of_getElem? (i := 420) rfl) rfl
set_option maxRecDepth 20000 in
theorem g_404 : (Jvm.Cond.methodLink "BlockCodeLaw" (49 : Nat) ({ cls := "BlockCodeModel", name := "tagByte", desc := "(I)I" } : Jvm.MethodName)) ∈ G := G_in (List.mem_of_getElem? (i := 421) rfl) rfl
set_option maxRecDepth 20000 in
theorem g_405 : (Jvm.Cond.instanceMethod ({ cls := "BlockCodeModel", name := "tagByte", desc := "(I)I" } : Jvm.MethodName)) ∈ G := G_in (List.mem_of_getElem? (i := 422) rfl) rfl
set_option maxRecDepth 20000 in
theorem g_406 : (Jvm.Cond.selects "BlockCodeModel" ({ cls := "BlockCodeModel", name := "tagByte", desc := "(I)I" } : Jvm.MethodName) ({ cls := "BlockCodeModel", name := "tagByte", desc := "(I)I" } : Jvm.MethodName)) ∈ G := G_in (List.mem_of_getElem? (i := 423) rfl) rfl
set_option maxRecDepth 20000 in
theorem g_407 : (Jvm.Cond.code ({ cls := "BlockCodeModel", name := "tagByte", desc := "(I)I" } : Jvm.MethodName) prog_5_method_20_code (2 : Nat) (Option.some Jvm.ClassFile.FieldType.int)) ∈ G := G_in (List.mem_of_getElem? (i := 424) rfl) rfl
set_option maxRecDepth 20000 in
theorem g_408 : (Jvm.Cond.methodLink "BlockCodeLaw" (53 : Nat) ({ cls := "BlockCodeModel", name := "macCheck", desc := "(II)Z" } : Jvm.MethodName)) ∈ G := G_in (List.mem_of_getElem? (i := 425) rfl) rfl
set_option maxRecDepth 20000 in
theorem g_409 : (Jvm.Cond.instanceMethod ({ cls := "BlockCodeModel", name := "macCheck", desc := "(II)Z" } : Jvm.MethodName)) ∈ G := G_in (List.mem_of_getElem? (i := 426) rfl) rfl
set_option maxRecDepth 20000 in
theorem g_410 : (Jvm.Cond.selects "BlockCodeModel" ({ cls := "BlockCodeModel", name := "macCheck", desc := "(II)Z" } : Jvm.MethodName) ({ cls := "BlockCodeModel", name := "macCheck", desc := "(II)Z" } : Jvm.MethodName)) ∈ G := G_in (List.mem_of_getElem? (i := 427) rfl) rfl
set_option maxRecDepth 20000 in
theorem g_411 : (Jvm.Cond.code ({ cls := "BlockCodeModel", name := "macCheck", desc := "(II)Z" } : Jvm.MethodName) prog_5_method_21_code (3 : Nat) (Option.some Jvm.ClassFile.FieldType.boolean)) ∈ G := G_in (List.mem_of_getElem? (i := 428) rfl) rfl
set_option maxRecDepth 20000 in
theorem g_412 : (Jvm.Cond.methodLink "BlockCodeLaw" (57 : Nat) ({ cls := "BlockCodeModel", name := "macVerdict", desc := "()Z" } : Jvm.MethodName)) ∈ G := G_in (List.mem_of_getElem? (i := 429) rfl) rfl
set_option maxRecDepth 20000 in
theorem g_413 : (Jvm.Cond.instanceMethod ({ cls := "BlockCodeModel", name := "macVerdict", desc := "()Z" } : Jvm.MethodName)) ∈ G := G_in (List.mem_of_getElem? (i := 430) rfl) rfl
set_option maxRecDepth 20000 in
theorem g_414 : (Jvm.Cond.selects "BlockCodeModel" ({ cls := "BlockCodeModel", name := "macVerdict", desc := "()Z" } : Jvm.MethodName) ({ cls := "BlockCodeModel", name := "macVerdict", desc := "()Z" } : Jvm.MethodName)) ∈ G := G_in (List.mem_of_getElem? (i := 431) rfl) rfl
set_option maxRecDepth 20000 in
theorem g_415 : (Jvm.Cond.code ({ cls := "BlockCodeModel", name := "macVerdict", desc := "()Z" } : Jvm.MethodName) prog_5_method_22_code (3 : Nat) (Option.some Jvm.ClassFile.FieldType.boolean)) ∈ G := G_in (List.mem_of_getElem? (i := 432) rfl) rfl
set_option maxRecDepth 20000 in
theorem g_416 : (Jvm.Cond.methodLink "BlockCodeLaw" (61 : Nat) ({ cls := "BlockCodeModel", name := "setBlockByte", desc := "(II)Z" } : Jvm.MethodName)) ∈ G := G_in (List.mem_of_getElem? (i := 433) rfl) rfl
set_option maxRecDepth 20000 in
theorem g_417 : (Jvm.Cond.instanceMethod ({ cls := "BlockCodeModel", name := "setBlockByte", desc := "(II)Z" } : Jvm.MethodName)) ∈ G := G_in (List.mem_of_getElem? (i := 434) rfl) rfl
set_option maxRecDepth 20000 in
theorem g_418 : (Jvm.Cond.selects "BlockCodeModel" ({ cls := "BlockCodeModel", name := "setBlockByte", desc := "(II)Z" } : Jvm.MethodName) ({ cls := "BlockCodeModel", name := "setBlockByte", desc := "(II)Z" } : Jvm.MethodName)) ∈ G := G_in (List.mem_of_getElem? (i := 435) rfl) rfl
set_option maxRecDepth 20000 in
theorem g_419 : (Jvm.Cond.code ({ cls := "BlockCodeModel", name := "setBlockByte", desc := "(II)Z" } : Jvm.MethodName) prog_5_method_23_code (3 : Nat) (Option.some Jvm.ClassFile.FieldType.boolean)) ∈ G := G_in (List.mem_of_getElem? (i := 436) rfl) rfl
set_option maxRecDepth 20000 in
theorem g_420 : (Jvm.Cond.methodLink "BlockCodeLaw" (65 : Nat) ({ cls := "BlockCodeModel", name := "encryptBlock", desc := "()Z" } : Jvm.MethodName)) ∈ G := G_in (List.mem_of_getElem? (i := 437) rfl) rfl
set_option maxRecDepth 20000 in
theorem g_421 : (Jvm.Cond.instanceMethod ({ cls := "BlockCodeModel", name := "encryptBlock", desc := "()Z" } : Jvm.MethodName)) ∈ G := G_in (List.mem_of_getElem? (i := 438) rfl) rfl
set_option maxRecDepth 20000 in
theorem g_422 : (Jvm.Cond.selects "BlockCodeModel" ({ cls := "BlockCodeModel", name := "encryptBlock", desc := "()Z" } : Jvm.MethodName) ({ cls := "BlockCodeModel", name := "encryptBlock", desc := "()Z" } : Jvm.MethodName)) ∈ G := G_in (List.mem_of_getElem? (i := 439) rfl) rfl
set_option maxRecDepth 20000 in
theorem g_423 : (Jvm.Cond.code ({ cls := "BlockCodeModel", name := "encryptBlock", desc := "()Z" } : Jvm.MethodName) prog_5_method_25_code (2 : Nat) (Option.some Jvm.ClassFile.FieldType.boolean)) ∈ G := G_in (List.mem_of_getElem? (i := 440) rfl) rfl
set_option maxRecDepth 20000 in
theorem g_424 : (Jvm.Cond.methodLink "BlockCodeModel" (98 : Nat) ({ cls := "BlockCodeModel", name := "load", desc := "(Z)V" } : Jvm.MethodName)) ∈ G := G_in (List.mem_of_getElem? (i := 441) rfl) rfl
set_option maxRecDepth 20000 in
theorem g_426 : (Jvm.Cond.instanceMethod ({ cls := "BlockCodeModel", name := "load", desc := "(Z)V" } : Jvm.MethodName)) ∈ G := G_in (List.mem_of_getElem? (i := 443) rfl) rfl
set_option maxRecDepth 20000 in
theorem g_427 : (Jvm.Cond.code ({ cls := "BlockCodeModel", name := "load", desc := "(Z)V" } : Jvm.MethodName) prog_5_method_24_code (3 : Nat) (Option.none : Option Jvm.ClassFile.FieldType)) ∈ G := G_in (List.mem_of_getElem? (i := 444) rfl) rfl
set_option maxRecDepth 20000 in
theorem g_428 : (Jvm.Cond.methodLink "BlockCodeLaw" (69 : Nat) ({ cls := "BlockCodeModel", name := "decryptBlock", desc := "()Z" } : Jvm.MethodName)) ∈ G := G_in (List.mem_of_getElem? (i := 445) rfl) rfl
set_option maxRecDepth 20000 in
theorem g_429 : (Jvm.Cond.instanceMethod ({ cls := "BlockCodeModel", name := "decryptBlock", desc := "()Z" } : Jvm.MethodName)) ∈ G := G_in (List.mem_of_getElem? (i := 446) rfl) rfl
set_option maxRecDepth 20000 in
theorem g_430 : (Jvm.Cond.selects "BlockCodeModel" ({ cls := "BlockCodeModel", name := "decryptBlock", desc := "()Z" } : Jvm.MethodName) ({ cls := "BlockCodeModel", name := "decryptBlock", desc := "()Z" } : Jvm.MethodName)) ∈ G := G_in (List.mem_of_getElem? (i := 447) rfl) rfl
set_option maxRecDepth 20000 in
theorem g_431 : (Jvm.Cond.code ({ cls := "BlockCodeModel", name := "decryptBlock", desc := "()Z" } : Jvm.MethodName) prog_5_method_26_code (2 : Nat) (Option.some Jvm.ClassFile.FieldType.boolean)) ∈ G := G_in (List.mem_of_getElem? (i := 448) rfl) rfl
set_option maxRecDepth 20000 in
theorem g_432 : (Jvm.Cond.methodLink "BlockCodeModel" (102 : Nat) ({ cls := "BlockCodeModel", name := "back", desc := "()V" } : Jvm.MethodName)) ∈ G := G_in (List.mem_of_getElem? (i := 449) rfl) rfl
set_option maxRecDepth 20000 in
theorem g_434 : (Jvm.Cond.instanceMethod ({ cls := "BlockCodeModel", name := "back", desc := "()V" } : Jvm.MethodName)) ∈ G := G_in (List.mem_of_getElem? (i := 451) rfl) rfl
set_option maxRecDepth 20000 in
theorem g_435 : (Jvm.Cond.code ({ cls := "BlockCodeModel", name := "back", desc := "()V" } : Jvm.MethodName) prog_5_method_11_code (3 : Nat) (Option.none : Option Jvm.ClassFile.FieldType)) ∈ G := G_in (List.mem_of_getElem? (i := 452) rfl) rfl
set_option maxRecDepth 20000 in
theorem g_436 : (Jvm.Cond.methodLink "BlockCodeLaw" (74 : Nat) ({ cls := "BlockCodeModel", name := "chain", desc := "(Z)Z" } : Jvm.MethodName)) ∈ G := G_in (List.mem_of_getElem? (i := 453) rfl) rfl
set_option maxRecDepth 20000 in
theorem g_437 : (Jvm.Cond.instanceMethod ({ cls := "BlockCodeModel", name := "chain", desc := "(Z)Z" } : Jvm.MethodName)) ∈ G := G_in (List.mem_of_getElem? (i := 454) rfl) rfl
set_option maxRecDepth 20000 in
theorem g_438 : (Jvm.Cond.selects "BlockCodeModel" ({ cls := "BlockCodeModel", name := "chain", desc := "(Z)Z" } : Jvm.MethodName) ({ cls := "BlockCodeModel", name := "chain", desc := "(Z)Z" } : Jvm.MethodName)) ∈ G := G_in (List.mem_of_getElem? (i := 455) rfl) rfl
set_option maxRecDepth 20000 in
theorem g_439 : (Jvm.Cond.code ({ cls := "BlockCodeModel", name := "chain", desc := "(Z)Z" } : Jvm.MethodName) prog_5_method_27_code (4 : Nat) (Option.some Jvm.ClassFile.FieldType.boolean)) ∈ G := G_in (List.mem_of_getElem? (i := 456) rfl) rfl
set_option maxRecDepth 20000 in
theorem g_440 : (Jvm.Cond.methodLink "BlockCodeLaw" (78 : Nat) ({ cls := "BlockCodeModel", name := "unchain", desc := "()Z" } : Jvm.MethodName)) ∈ G := G_in (List.mem_of_getElem? (i := 457) rfl) rfl
set_option maxRecDepth 20000 in
theorem g_441 : (Jvm.Cond.instanceMethod ({ cls := "BlockCodeModel", name := "unchain", desc := "()Z" } : Jvm.MethodName)) ∈ G := G_in (List.mem_of_getElem? (i := 458) rfl) rfl
set_option maxRecDepth 20000 in
theorem g_442 : (Jvm.Cond.selects "BlockCodeModel" ({ cls := "BlockCodeModel", name := "unchain", desc := "()Z" } : Jvm.MethodName) ({ cls := "BlockCodeModel", name := "unchain", desc := "()Z" } : Jvm.MethodName)) ∈ G := G_in (List.mem_of_getElem? (i := 459) rfl) rfl
set_option maxRecDepth 20000 in
theorem g_443 : (Jvm.Cond.code ({ cls := "BlockCodeModel", name := "unchain", desc := "()Z" } : Jvm.MethodName) prog_5_method_28_code (2 : Nat) (Option.some Jvm.ClassFile.FieldType.boolean)) ∈ G := G_in (List.mem_of_getElem? (i := 460) rfl) rfl
set_option maxRecDepth 20000 in
theorem g_444 : (Jvm.Cond.methodLink "BlockCodeLaw" (82 : Nat) ({ cls := "BlockCodeModel", name := "blockByte", desc := "(I)I" } : Jvm.MethodName)) ∈ G := G_in (List.mem_of_getElem? (i := 461) rfl) rfl
set_option maxRecDepth 20000 in
theorem g_445 : (Jvm.Cond.instanceMethod ({ cls := "BlockCodeModel", name := "blockByte", desc := "(I)I" } : Jvm.MethodName)) ∈ G := G_in (List.mem_of_getElem? (i := 462) rfl) rfl
set_option maxRecDepth 20000 in
theorem g_446 : (Jvm.Cond.selects "BlockCodeModel" ({ cls := "BlockCodeModel", name := "blockByte", desc := "(I)I" } : Jvm.MethodName) ({ cls := "BlockCodeModel", name := "blockByte", desc := "(I)I" } : Jvm.MethodName)) ∈ G := G_in (List.mem_of_getElem? (i := 463) rfl) rfl
set_option maxRecDepth 20000 in
theorem g_447 : (Jvm.Cond.code ({ cls := "BlockCodeModel", name := "blockByte", desc := "(I)I" } : Jvm.MethodName) prog_5_method_29_code (2 : Nat) (Option.some Jvm.ClassFile.FieldType.int)) ∈ G := G_in (List.mem_of_getElem? (i := 464) rfl) rfl
set_option maxRecDepth 20000 in
theorem g_448 : (Jvm.Cond.methodLink "BlockCodeLaw" (87 : Nat) ({ cls := "BlockCodeModel", name := "half", desc := "(II)I" } : Jvm.MethodName)) ∈ G := G_in (List.mem_of_getElem? (i := 465) rfl) rfl
set_option maxRecDepth 20000 in
theorem g_449 : (Jvm.Cond.instanceMethod ({ cls := "BlockCodeModel", name := "half", desc := "(II)I" } : Jvm.MethodName)) ∈ G := G_in (List.mem_of_getElem? (i := 466) rfl) rfl
set_option maxRecDepth 20000 in
theorem g_450 : (Jvm.Cond.selects "BlockCodeModel" ({ cls := "BlockCodeModel", name := "half", desc := "(II)I" } : Jvm.MethodName) ({ cls := "BlockCodeModel", name := "half", desc := "(II)I" } : Jvm.MethodName)) ∈ G := G_in (List.mem_of_getElem? (i := 467) rfl) rfl
set_option maxRecDepth 20000 in
theorem g_451 : (Jvm.Cond.code ({ cls := "BlockCodeModel", name := "half", desc := "(II)I" } : Jvm.MethodName) prog_5_method_30_code (3 : Nat) (Option.some Jvm.ClassFile.FieldType.int)) ∈ G := G_in (List.mem_of_getElem? (i := 468) rfl) rfl
set_option maxRecDepth 20000 in
theorem g_s0 : Cond.selects yX0_makeWords.cls yX0_makeWords yX0_makeWords ∈ G := G_in (List.mem_of_getElem? (i := 0) rfl) rfl
set_option maxRecDepth 20000 in
theorem g_s1 : Cond.selects yX0_makeTurnedWord.cls yX0_makeTurnedWord yX0_makeTurnedWord ∈ G := G_in (List.mem_of_getElem? (i := 1) rfl) rfl
set_option maxRecDepth 20000 in
theorem g_s2 : Cond.selects yX0_makePlainWord.cls yX0_makePlainWord yX0_makePlainWord ∈ G := G_in (List.mem_of_getElem? (i := 2) rfl) rfl
set_option maxRecDepth 20000 in
theorem g_s3 : Cond.selects yX0_makeHalves.cls yX0_makeHalves yX0_makeHalves ∈ G := G_in (List.mem_of_getElem? (i := 3) rfl) rfl
set_option maxRecDepth 20000 in
theorem g_s4 : Cond.selects yX0_replaceAndMove.cls yX0_replaceAndMove yX0_replaceAndMove ∈ G := G_in (List.mem_of_getElem? (i := 4) rfl) rfl
set_option maxRecDepth 20000 in
theorem g_s5 : Cond.selects yX0_moveAndReplaceBack.cls yX0_moveAndReplaceBack yX0_moveAndReplaceBack ∈ G := G_in (List.mem_of_getElem? (i := 5) rfl) rfl
set_option maxRecDepth 20000 in
theorem g_s6 : Cond.selects yX2_chainBack.cls yX2_chainBack yX2_chainBack ∈ G := G_in (List.mem_of_getElem? (i := 6) rfl) rfl
set_option maxRecDepth 20000 in
theorem g_s7 : Cond.selects yX2_chainForth.cls yX2_chainForth yX2_chainForth ∈ G := G_in (List.mem_of_getElem? (i := 7) rfl) rfl
set_option maxRecDepth 20000 in
theorem g_s8 : Cond.selects yX3_makeWords.cls yX3_makeWords yX3_makeWords ∈ G := G_in (List.mem_of_getElem? (i := 8) rfl) rfl
set_option maxRecDepth 20000 in
theorem g_s9 : Cond.selects yX3_forth.cls yX3_forth yX3_forth ∈ G := G_in (List.mem_of_getElem? (i := 9) rfl) rfl
set_option maxRecDepth 20000 in
theorem g_s10 : Cond.selects yX3_add.cls yX3_add yX3_add ∈ G := G_in (List.mem_of_getElem? (i := 10) rfl) rfl
set_option maxRecDepth 20000 in
theorem g_s11 : Cond.selects yX3_columns.cls yX3_columns yX3_columns ∈ G := G_in (List.mem_of_getElem? (i := 11) rfl) rfl
set_option maxRecDepth 20000 in
theorem g_s12 : Cond.selects yX3_twice.cls yX3_twice yX3_twice ∈ G := G_in (List.mem_of_getElem? (i := 12) rfl) rfl
set_option maxRecDepth 20000 in
theorem g_s13 : Cond.selects yX3_feed.cls yX3_feed yX3_feed ∈ G := G_in (List.mem_of_getElem? (i := 13) rfl) rfl
set_option maxRecDepth 20000 in
theorem g_s14 : Cond.selects yX3_take.cls yX3_take yX3_take ∈ G := G_in (List.mem_of_getElem? (i := 14) rfl) rfl
set_option maxRecDepth 20000 in
theorem g_s15 : Cond.selects yX3_load.cls yX3_load yX3_load ∈ G := G_in (List.mem_of_getElem? (i := 15) rfl) rfl
set_option maxRecDepth 20000 in
theorem g_s16 : Cond.selects yX3_back.cls yX3_back yX3_back ∈ G := G_in (List.mem_of_getElem? (i := 16) rfl) rfl
set_option maxRecDepth 20000 in
theorem i_X0 : ∀ w ∈ u_ws RX0 TX0 6, w ∈ G := fun w hw => G_in ((by decide +kernel : ∀ w ∈ u_ws RX0 TX0 6, w ∈ lw_tbl) w hw) ((by decide +kernel : ∀ w ∈ u_ws RX0 TX0 6, goodWord w = true) w hw)
set_option maxRecDepth 20000 in
theorem i_X1 : ∀ w ∈ u_ws RX1 TX1 6, w ∈ G := fun w hw => G_in ((by decide +kernel : ∀ w ∈ u_ws RX1 TX1 6, w ∈ lw_tbl) w hw) ((by decide +kernel : ∀ w ∈ u_ws RX1 TX1 6, goodWord w = true) w hw)
set_option maxRecDepth 20000 in
theorem i_X2 : ∀ w ∈ u_ws RX2 TX2 6, w ∈ G := fun w hw => G_in ((by decide +kernel : ∀ w ∈ u_ws RX2 TX2 6, w ∈ lw_tbl) w hw) ((by decide +kernel : ∀ w ∈ u_ws RX2 TX2 6, goodWord w = true) w hw)
set_option maxRecDepth 20000 in
theorem i_X3 : ∀ w ∈ u_ws RX3 TX3 18, w ∈ G := fun w hw => G_in ((by decide +kernel : ∀ w ∈ u_ws RX3 TX3 18, w ∈ lw_tbl) w hw) ((by decide +kernel : ∀ w ∈ u_ws RX3 TX3 18, goodWord w = true) w hw)
set_option maxRecDepth 20000 in
theorem k_X0_init : Kd yX0_init cX0_init 1 none 0 := ⟨g_19, g_2, by decide, by decide, by decide +kernel⟩
set_option maxRecDepth 20000 in
theorem s_X0_init : yX0_init.name = "<init>" ∧ Cond.instanceMethod yX0_init ∈ G := ⟨rfl, g_18⟩
set_option maxRecDepth 20000 in
theorem k_X0_clear : Kd yX0_clear cX0_clear 1 none 0 := ⟨g_102, g_2, by decide, by decide, by decide +kernel⟩
set_option maxRecDepth 20000 in
theorem s_X0_clear : Cond.instanceMethod yX0_clear ∈ G ∧ Cond.selects RX0 yX0_clear yX0_clear ∈ G := ⟨g_100, g_101⟩
set_option maxRecDepth 20000 in
theorem k_X0_put : Kd yX0_put cX0_put 3 none 2 := ⟨g_123, g_2, by decide, by decide, by decide +kernel⟩
set_option maxRecDepth 20000 in
theorem s_X0_put : Cond.instanceMethod yX0_put ∈ G ∧ Cond.selects RX0 yX0_put yX0_put ∈ G := ⟨g_121, g_122⟩
set_option maxRecDepth 20000 in
theorem k_X0_make : Kd yX0_make cX0_make 1 none 0 := ⟨g_131, g_2, by decide, by decide, by decide +kernel⟩
set_option maxRecDepth 20000 in
theorem s_X0_make : Cond.instanceMethod yX0_make ∈ G ∧ Cond.selects RX0 yX0_make yX0_make ∈ G := ⟨g_129, g_130⟩
set_option maxRecDepth 20000 in
theorem k_X0_makeWords : Kd yX0_makeWords cX0_makeWords 3 none 0 := ⟨g_135, g_2, by decide, by decide, by decide +kernel⟩
set_option maxRecDepth 20000 in
theorem s_X0_makeWords : Cond.instanceMethod yX0_makeWords ∈ G ∧ Cond.selects RX0 yX0_makeWords yX0_makeWords ∈ G := ⟨g_134, g_s0⟩
set_option maxRecDepth 20000 in
theorem k_X0_makePlainWord : Kd yX0_makePlainWord cX0_makePlainWord 3 none 1 := ⟨g_151, g_2, by decide, by decide, by decide +kernel⟩
set_option maxRecDepth 20000 in
theorem s_X0_makePlainWord : Cond.instanceMethod yX0_makePlainWord ∈ G ∧ Cond.selects RX0 yX0_makePlainWord yX0_makePlainWord ∈ G := ⟨g_150, g_s2⟩
set_option maxRecDepth 20000 in
theorem k_X0_makeTurnedWord : Kd yX0_makeTurnedWord cX0_makeTurnedWord 4 none 2 := ⟨g_142, g_2, by decide, by decide, by decide +kernel⟩
set_option maxRecDepth 20000 in
theorem s_X0_makeTurnedWord : Cond.instanceMethod yX0_makeTurnedWord ∈ G ∧ Cond.selects RX0 yX0_makeTurnedWord yX0_makeTurnedWord ∈ G := ⟨g_141, g_s1⟩
set_option maxRecDepth 20000 in
theorem k_X0_makeHalves : Kd yX0_makeHalves cX0_makeHalves 1 none 0 := ⟨g_155, g_2, by decide, by decide, by decide +kernel⟩
set_option maxRecDepth 20000 in
theorem s_X0_makeHalves : Cond.instanceMethod yX0_makeHalves ∈ G ∧ Cond.selects RX0 yX0_makeHalves yX0_makeHalves ∈ G := ⟨g_154, g_s3⟩
set_option maxRecDepth 20000 in
theorem k_X0_putDoubled : Kd yX0_putDoubled cX0_putDoubled 4 none 2 := ⟨g_178, g_2, by decide, by decide, by decide +kernel⟩
set_option maxRecDepth 20000 in
theorem s_X0_putDoubled : Cond.static yX0_putDoubled ∈ G := g_177
set_option maxRecDepth 20000 in
theorem k_X0_goForth : Kd yX0_goForth cX0_goForth 3 none 1 := ⟨g_159, g_2, by decide, by decide, by decide +kernel⟩
set_option maxRecDepth 20000 in
theorem s_X0_goForth : Cond.instanceMethod yX0_goForth ∈ G ∧ Cond.selects RX0 yX0_goForth yX0_goForth ∈ G := ⟨g_157, g_158⟩
set_option maxRecDepth 20000 in
theorem k_X0_goBack : Kd yX0_goBack cX0_goBack 3 none 1 := ⟨g_243, g_2, by decide, by decide, by decide +kernel⟩
set_option maxRecDepth 20000 in
theorem s_X0_goBack : Cond.instanceMethod yX0_goBack ∈ G ∧ Cond.selects RX0 yX0_goBack yX0_goBack ∈ G := ⟨g_241, g_242⟩
set_option maxRecDepth 20000 in
theorem k_X0_replaceAndMove : Kd yX0_replaceAndMove cX0_replaceAndMove 3 none 1 := ⟨g_166, g_2, by decide, by decide, by decide +kernel⟩
set_option maxRecDepth 20000 in
theorem s_X0_replaceAndMove : Cond.instanceMethod yX0_replaceAndMove ∈ G ∧ Cond.selects RX0 yX0_replaceAndMove yX0_replaceAndMove ∈ G := ⟨g_165, g_s4⟩
set_option maxRecDepth 20000 in
theorem k_X0_moveAndReplaceBack : Kd yX0_moveAndReplaceBack cX0_moveAndReplaceBack 3 none 1 := ⟨g_250, g_2, by decide, by decide, by decide +kernel⟩
set_option maxRecDepth 20000 in
theorem s_X0_moveAndReplaceBack : Cond.instanceMethod yX0_moveAndReplaceBack ∈ G ∧ Cond.selects RX0 yX0_moveAndReplaceBack yX0_moveAndReplaceBack ∈ G := ⟨g_249, g_s5⟩
set_option maxRecDepth 20000 in
theorem k_X0_source : Kd yX0_source cX0_source 1 (some .int) 1 := ⟨g_169, g_2, by decide, by decide, by decide +kernel⟩
set_option maxRecDepth 20000 in
theorem s_X0_source : Cond.static yX0_source ∈ G := g_168
set_option maxRecDepth 20000 in
theorem k_X0_mix : Kd yX0_mix cX0_mix 6 none 1 := ⟨g_172, g_2, by decide, by decide, by decide +kernel⟩
set_option maxRecDepth 20000 in
theorem s_X0_mix : Cond.static yX0_mix ∈ G := g_171
set_option maxRecDepth 20000 in
theorem k_X0_unmix : Kd yX0_unmix cX0_unmix 1 none 1 := ⟨g_246, g_2, by decide, by decide, by decide +kernel⟩
set_option maxRecDepth 20000 in
theorem s_X0_unmix : Cond.static yX0_unmix ∈ G := g_245
set_option maxRecDepth 20000 in
theorem k_X0_mixed : Kd yX0_mixed cX0_mixed 4 (some .int) 4 := ⟨g_175, g_2, by decide, by decide, by decide +kernel⟩
set_option maxRecDepth 20000 in
theorem s_X0_mixed : Cond.static yX0_mixed ∈ G := g_174
set_option maxRecDepth 20000 in
theorem k_X0_twice : Kd yX0_twice cX0_twice 1 (some .int) 1 := ⟨g_147, g_2, by decide, by decide, by decide +kernel⟩
set_option maxRecDepth 20000 in
theorem s_X0_twice : Cond.static yX0_twice ∈ G := g_146
set_option maxRecDepth 20000 in
theorem k_X1_init : Kd yX1_init cX1_init 1 none 0 := ⟨g_50, g_3, by decide, by decide, by decide +kernel⟩
set_option maxRecDepth 20000 in
theorem s_X1_init : yX1_init.name = "<init>" ∧ Cond.instanceMethod yX1_init ∈ G := ⟨rfl, g_49⟩
set_option maxRecDepth 20000 in
theorem k_X1_drop : Kd yX1_drop cX1_drop 1 none 0 := ⟨g_109, g_3, by decide, by decide, by decide +kernel⟩
set_option maxRecDepth 20000 in
theorem s_X1_drop : Cond.instanceMethod yX1_drop ∈ G ∧ Cond.selects RX1 yX1_drop yX1_drop ∈ G := ⟨g_107, g_108⟩
set_option maxRecDepth 20000 in
theorem k_X1_begin : Kd yX1_begin cX1_begin 1 none 0 := ⟨g_186, g_3, by decide, by decide, by decide +kernel⟩
set_option maxRecDepth 20000 in
theorem s_X1_begin : Cond.instanceMethod yX1_begin ∈ G ∧ Cond.selects RX1 yX1_begin yX1_begin ∈ G := ⟨g_184, g_185⟩
set_option maxRecDepth 20000 in
theorem k_X1_take : Kd yX1_take cX1_take 3 none 2 := ⟨g_195, g_3, by decide, by decide, by decide +kernel⟩
set_option maxRecDepth 20000 in
theorem s_X1_take : Cond.instanceMethod yX1_take ∈ G ∧ Cond.selects RX1 yX1_take yX1_take ∈ G := ⟨g_193, g_194⟩
set_option maxRecDepth 20000 in
theorem k_X1_end : Kd yX1_end cX1_end 2 none 1 := ⟨g_208, g_3, by decide, by decide, by decide +kernel⟩
set_option maxRecDepth 20000 in
theorem s_X1_end : Cond.instanceMethod yX1_end ∈ G ∧ Cond.selects RX1 yX1_end yX1_end ∈ G := ⟨g_206, g_207⟩
set_option maxRecDepth 20000 in
theorem k_X1_compare : Kd yX1_compare cX1_compare 3 none 2 := ⟨g_221, g_3, by decide, by decide, by decide +kernel⟩
set_option maxRecDepth 20000 in
theorem s_X1_compare : Cond.instanceMethod yX1_compare ∈ G ∧ Cond.selects RX1 yX1_compare yX1_compare ∈ G := ⟨g_219, g_220⟩
set_option maxRecDepth 20000 in
theorem k_X2_init : Kd yX2_init cX2_init 1 none 0 := ⟨g_11, g_1, by decide, by decide, by decide +kernel⟩
set_option maxRecDepth 20000 in
theorem s_X2_init : yX2_init.name = "<init>" ∧ Cond.instanceMethod yX2_init ∈ G := ⟨rfl, g_10⟩
set_option maxRecDepth 20000 in
theorem k_X2_init_ : Kd yX2_init_ cX2_init_ 1 none 0 := ⟨g_98, g_1, by decide, by decide, by decide +kernel⟩
set_option maxRecDepth 20000 in
theorem s_X2_init_ : Cond.instanceMethod yX2_init_ ∈ G ∧ Cond.selects RX2 yX2_init_ yX2_init_ ∈ G := ⟨g_96, g_97⟩
set_option maxRecDepth 20000 in
theorem k_X2_setKeyByte : Kd yX2_setKeyByte cX2_setKeyByte 3 (some .boolean) 2 := ⟨g_113, g_1, by decide, by decide, by decide +kernel⟩
set_option maxRecDepth 20000 in
theorem s_X2_setKeyByte : Cond.instanceMethod yX2_setKeyByte ∈ G ∧ Cond.selects RX2 yX2_setKeyByte yX2_setKeyByte ∈ G := ⟨g_111, g_112⟩
set_option maxRecDepth 20000 in
theorem k_X2_expand : Kd yX2_expand cX2_expand 1 (some .boolean) 0 := ⟨g_127, g_1, by decide, by decide, by decide +kernel⟩
set_option maxRecDepth 20000 in
theorem s_X2_expand : Cond.instanceMethod yX2_expand ∈ G ∧ Cond.selects RX2 yX2_expand yX2_expand ∈ G := ⟨g_125, g_126⟩
set_option maxRecDepth 20000 in
theorem k_X2_macStart : Kd yX2_macStart cX2_macStart 1 (some .boolean) 0 := ⟨g_182, g_1, by decide, by decide, by decide +kernel⟩
set_option maxRecDepth 20000 in
theorem s_X2_macStart : Cond.instanceMethod yX2_macStart ∈ G ∧ Cond.selects RX2 yX2_macStart yX2_macStart ∈ G := ⟨g_180, g_181⟩
set_option maxRecDepth 20000 in
theorem k_X2_macUpdate : Kd yX2_macUpdate cX2_macUpdate 2 (some .boolean) 1 := ⟨g_191, g_1, by decide, by decide, by decide +kernel⟩
set_option maxRecDepth 20000 in
theorem s_X2_macUpdate : Cond.instanceMethod yX2_macUpdate ∈ G ∧ Cond.selects RX2 yX2_macUpdate yX2_macUpdate ∈ G := ⟨g_189, g_190⟩
set_option maxRecDepth 20000 in
theorem k_X2_macFill : Kd yX2_macFill cX2_macFill 6 (some .boolean) 3 := ⟨g_200, g_1, by decide, by decide, by decide +kernel⟩
set_option maxRecDepth 20000 in
theorem s_X2_macFill : Cond.instanceMethod yX2_macFill ∈ G ∧ Cond.selects RX2 yX2_macFill yX2_macFill ∈ G := ⟨g_198, g_199⟩
set_option maxRecDepth 20000 in
theorem k_X2_macFinish : Kd yX2_macFinish cX2_macFinish 1 (some .boolean) 0 := ⟨g_204, g_1, by decide, by decide, by decide +kernel⟩
set_option maxRecDepth 20000 in
theorem s_X2_macFinish : Cond.instanceMethod yX2_macFinish ∈ G ∧ Cond.selects RX2 yX2_macFinish yX2_macFinish ∈ G := ⟨g_202, g_203⟩
set_option maxRecDepth 20000 in
theorem k_X2_tagByte : Kd yX2_tagByte cX2_tagByte 2 (some .int) 1 := ⟨g_213, g_1, by decide, by decide, by decide +kernel⟩
set_option maxRecDepth 20000 in
theorem s_X2_tagByte : Cond.instanceMethod yX2_tagByte ∈ G ∧ Cond.selects RX2 yX2_tagByte yX2_tagByte ∈ G := ⟨g_211, g_212⟩
set_option maxRecDepth 20000 in
theorem k_X2_macCheck : Kd yX2_macCheck cX2_macCheck 3 (some .boolean) 2 := ⟨g_217, g_1, by decide, by decide, by decide +kernel⟩
set_option maxRecDepth 20000 in
theorem s_X2_macCheck : Cond.instanceMethod yX2_macCheck ∈ G ∧ Cond.selects RX2 yX2_macCheck yX2_macCheck ∈ G := ⟨g_215, g_216⟩
set_option maxRecDepth 20000 in
theorem k_X2_macVerdict : Kd yX2_macVerdict cX2_macVerdict 1 (some .boolean) 0 := ⟨g_225, g_1, by decide, by decide, by decide +kernel⟩
set_option maxRecDepth 20000 in
theorem s_X2_macVerdict : Cond.instanceMethod yX2_macVerdict ∈ G ∧ Cond.selects RX2 yX2_macVerdict yX2_macVerdict ∈ G := ⟨g_223, g_224⟩
set_option maxRecDepth 20000 in
theorem k_X2_setBlockByte : Kd yX2_setBlockByte cX2_setBlockByte 3 (some .boolean) 2 := ⟨g_230, g_1, by decide, by decide, by decide +kernel⟩
set_option maxRecDepth 20000 in
theorem s_X2_setBlockByte : Cond.instanceMethod yX2_setBlockByte ∈ G ∧ Cond.selects RX2 yX2_setBlockByte yX2_setBlockByte ∈ G := ⟨g_228, g_229⟩
set_option maxRecDepth 20000 in
theorem k_X2_encryptBlock : Kd yX2_encryptBlock cX2_encryptBlock 1 (some .boolean) 0 := ⟨g_234, g_1, by decide, by decide, by decide +kernel⟩
set_option maxRecDepth 20000 in
theorem s_X2_encryptBlock : Cond.instanceMethod yX2_encryptBlock ∈ G ∧ Cond.selects RX2 yX2_encryptBlock yX2_encryptBlock ∈ G := ⟨g_232, g_233⟩
set_option maxRecDepth 20000 in
theorem k_X2_decryptBlock : Kd yX2_decryptBlock cX2_decryptBlock 1 (some .boolean) 0 := ⟨g_239, g_1, by decide, by decide, by decide +kernel⟩
set_option maxRecDepth 20000 in
theorem s_X2_decryptBlock : Cond.instanceMethod yX2_decryptBlock ∈ G ∧ Cond.selects RX2 yX2_decryptBlock yX2_decryptBlock ∈ G := ⟨g_237, g_238⟩
set_option maxRecDepth 20000 in
theorem k_X2_chain : Kd yX2_chain cX2_chain 2 (some .boolean) 1 := ⟨g_256, g_1, by decide, by decide, by decide +kernel⟩
set_option maxRecDepth 20000 in
theorem s_X2_chain : Cond.instanceMethod yX2_chain ∈ G ∧ Cond.selects RX2 yX2_chain yX2_chain ∈ G := ⟨g_254, g_255⟩
set_option maxRecDepth 20000 in
theorem k_X2_unchain : Kd yX2_unchain cX2_unchain 1 (some .boolean) 0 := ⟨g_270, g_1, by decide, by decide, by decide +kernel⟩
set_option maxRecDepth 20000 in
theorem s_X2_unchain : Cond.instanceMethod yX2_unchain ∈ G ∧ Cond.selects RX2 yX2_unchain yX2_unchain ∈ G := ⟨g_268, g_269⟩
set_option maxRecDepth 20000 in
theorem k_X2_blockByte : Kd yX2_blockByte cX2_blockByte 2 (some .int) 1 := ⟨g_275, g_1, by decide, by decide, by decide +kernel⟩
set_option maxRecDepth 20000 in
theorem s_X2_blockByte : Cond.instanceMethod yX2_blockByte ∈ G ∧ Cond.selects RX2 yX2_blockByte yX2_blockByte ∈ G := ⟨g_273, g_274⟩
set_option maxRecDepth 20000 in
theorem k_X2_half : Kd yX2_half cX2_half 3 (some .int) 2 := ⟨g_279, g_1, by decide, by decide, by decide +kernel⟩
set_option maxRecDepth 20000 in
theorem s_X2_half : Cond.instanceMethod yX2_half ∈ G ∧ Cond.selects RX2 yX2_half yX2_half ∈ G := ⟨g_277, g_278⟩
set_option maxRecDepth 20000 in
theorem k_X2_chainForth : Kd yX2_chainForth cX2_chainForth 1 none 0 := ⟨g_266, g_1, by decide, by decide, by decide +kernel⟩
set_option maxRecDepth 20000 in
theorem s_X2_chainForth : Cond.instanceMethod yX2_chainForth ∈ G ∧ Cond.selects RX2 yX2_chainForth yX2_chainForth ∈ G := ⟨g_265, g_s7⟩
set_option maxRecDepth 20000 in
theorem k_X2_chainBack : Kd yX2_chainBack cX2_chainBack 1 none 0 := ⟨g_260, g_1, by decide, by decide, by decide +kernel⟩
set_option maxRecDepth 20000 in
theorem s_X2_chainBack : Cond.instanceMethod yX2_chainBack ∈ G ∧ Cond.selects RX2 yX2_chainBack yX2_chainBack ∈ G := ⟨g_259, g_s6⟩
set_option maxRecDepth 20000 in
theorem k_X2_isPlace : Kd yX2_isPlace cX2_isPlace 1 (some .boolean) 1 := ⟨g_116, g_1, by decide, by decide, by decide +kernel⟩
set_option maxRecDepth 20000 in
theorem s_X2_isPlace : Cond.static yX2_isPlace ∈ G := g_115
set_option maxRecDepth 20000 in
theorem k_X2_isByte : Kd yX2_isByte cX2_isByte 1 (some .boolean) 1 := ⟨g_119, g_1, by decide, by decide, by decide +kernel⟩
set_option maxRecDepth 20000 in
theorem s_X2_isByte : Cond.static yX2_isByte ∈ G := g_118
set_option maxRecDepth 20000 in
theorem k_X2_xor : Kd yX2_xor cX2_xor 4 none 3 := ⟨g_162, g_1, by decide, by decide, by decide +kernel⟩
set_option maxRecDepth 20000 in
theorem s_X2_xor : Cond.static yX2_xor ∈ G := g_161
set_option maxRecDepth 20000 in
theorem k_X3_init : Kd yX3_init cX3_init 6 none 0 := ⟨g_284, g_4, by decide, by decide, by decide +kernel⟩
set_option maxRecDepth 20000 in
theorem s_X3_init : yX3_init.name = "<init>" ∧ Cond.instanceMethod yX3_init ∈ G := ⟨rfl, g_283⟩
set_option maxRecDepth 20000 in
theorem k_X3_times : Kd yX3_times cX3_times 5 (some .int) 2 := ⟨g_288, g_4, by decide, by decide, by decide +kernel⟩
set_option maxRecDepth 20000 in
theorem s_X3_times : Cond.static yX3_times ∈ G := g_287
set_option maxRecDepth 20000 in
theorem k_X3_isIn : Kd yX3_isIn cX3_isIn 2 (some .boolean) 2 := ⟨g_355, g_4, by decide, by decide, by decide +kernel⟩
set_option maxRecDepth 20000 in
theorem s_X3_isIn : Cond.static yX3_isIn ∈ G := g_354
set_option maxRecDepth 20000 in
theorem k_X3_init_ : Kd yX3_init_ cX3_init_ 2 none 0 := ⟨g_348, g_4, by decide, by decide, by decide +kernel⟩
set_option maxRecDepth 20000 in
theorem s_X3_init_ : Cond.instanceMethod yX3_init_ ∈ G ∧ Cond.selects RX3 yX3_init_ yX3_init_ ∈ G := ⟨g_346, g_347⟩
set_option maxRecDepth 20000 in
theorem k_X3_setKeyByte : Kd yX3_setKeyByte cX3_setKeyByte 3 (some .boolean) 2 := ⟨g_352, g_4, by decide, by decide, by decide +kernel⟩
set_option maxRecDepth 20000 in
theorem s_X3_setKeyByte : Cond.instanceMethod yX3_setKeyByte ∈ G ∧ Cond.selects RX3 yX3_setKeyByte yX3_setKeyByte ∈ G := ⟨g_350, g_351⟩
set_option maxRecDepth 20000 in
theorem k_X3_makeWords : Kd yX3_makeWords cX3_makeWords 4 none 0 := ⟨g_363, g_4, by decide, by decide, by decide +kernel⟩
set_option maxRecDepth 20000 in
theorem s_X3_makeWords : Cond.instanceMethod yX3_makeWords ∈ G ∧ Cond.selects RX3 yX3_makeWords yX3_makeWords ∈ G := ⟨g_362, g_s8⟩
set_option maxRecDepth 20000 in
theorem k_X3_add : Kd yX3_add cX3_add 3 none 1 := ⟨g_371, g_4, by decide, by decide, by decide +kernel⟩
set_option maxRecDepth 20000 in
theorem s_X3_add : Cond.instanceMethod yX3_add ∈ G ∧ Cond.selects RX3 yX3_add yX3_add ∈ G := ⟨g_370, g_s10⟩
set_option maxRecDepth 20000 in
theorem k_X3_columns : Kd yX3_columns cX3_columns 7 none 4 := ⟨g_375, g_4, by decide, by decide, by decide +kernel⟩
set_option maxRecDepth 20000 in
theorem s_X3_columns : Cond.instanceMethod yX3_columns ∈ G ∧ Cond.selects RX3 yX3_columns yX3_columns ∈ G := ⟨g_374, g_s11⟩
set_option maxRecDepth 20000 in
theorem k_X3_forth : Kd yX3_forth cX3_forth 3 none 0 := ⟨g_367, g_4, by decide, by decide, by decide +kernel⟩
set_option maxRecDepth 20000 in
theorem s_X3_forth : Cond.instanceMethod yX3_forth ∈ G ∧ Cond.selects RX3 yX3_forth yX3_forth ∈ G := ⟨g_366, g_s9⟩
set_option maxRecDepth 20000 in
theorem k_X3_back : Kd yX3_back cX3_back 3 none 0 := ⟨g_435, g_4, by decide, by decide, by decide +kernel⟩
set_option maxRecDepth 20000 in
theorem s_X3_back : Cond.instanceMethod yX3_back ∈ G ∧ Cond.selects RX3 yX3_back yX3_back ∈ G := ⟨g_434, g_s16⟩
set_option maxRecDepth 20000 in
theorem k_X3_twice : Kd yX3_twice cX3_twice 5 none 1 := ⟨g_379, g_4, by decide, by decide, by decide +kernel⟩
set_option maxRecDepth 20000 in
theorem s_X3_twice : Cond.instanceMethod yX3_twice ∈ G ∧ Cond.selects RX3 yX3_twice yX3_twice ∈ G := ⟨g_378, g_s12⟩
set_option maxRecDepth 20000 in
theorem k_X3_expand : Kd yX3_expand cX3_expand 2 (some .boolean) 0 := ⟨g_359, g_4, by decide, by decide, by decide +kernel⟩
set_option maxRecDepth 20000 in
theorem s_X3_expand : Cond.instanceMethod yX3_expand ∈ G ∧ Cond.selects RX3 yX3_expand yX3_expand ∈ G := ⟨g_357, g_358⟩
set_option maxRecDepth 20000 in
theorem k_X3_macStart : Kd yX3_macStart cX3_macStart 2 (some .boolean) 0 := ⟨g_383, g_4, by decide, by decide, by decide +kernel⟩
set_option maxRecDepth 20000 in
theorem s_X3_macStart : Cond.instanceMethod yX3_macStart ∈ G ∧ Cond.selects RX3 yX3_macStart yX3_macStart ∈ G := ⟨g_381, g_382⟩
set_option maxRecDepth 20000 in
theorem k_X3_take : Kd yX3_take cX3_take 2 none 0 := ⟨g_395, g_4, by decide, by decide, by decide +kernel⟩
set_option maxRecDepth 20000 in
theorem s_X3_take : Cond.instanceMethod yX3_take ∈ G ∧ Cond.selects RX3 yX3_take yX3_take ∈ G := ⟨g_394, g_s14⟩
set_option maxRecDepth 20000 in
theorem k_X3_feed : Kd yX3_feed cX3_feed 2 none 1 := ⟨g_391, g_4, by decide, by decide, by decide +kernel⟩
set_option maxRecDepth 20000 in
theorem s_X3_feed : Cond.instanceMethod yX3_feed ∈ G ∧ Cond.selects RX3 yX3_feed yX3_feed ∈ G := ⟨g_390, g_s13⟩
set_option maxRecDepth 20000 in
theorem k_X3_macUpdate : Kd yX3_macUpdate cX3_macUpdate 2 (some .boolean) 1 := ⟨g_387, g_4, by decide, by decide, by decide +kernel⟩
set_option maxRecDepth 20000 in
theorem s_X3_macUpdate : Cond.instanceMethod yX3_macUpdate ∈ G ∧ Cond.selects RX3 yX3_macUpdate yX3_macUpdate ∈ G := ⟨g_385, g_386⟩
set_option maxRecDepth 20000 in
theorem k_X3_macFill : Kd yX3_macFill cX3_macFill 6 (some .boolean) 3 := ⟨g_399, g_4, by decide, by decide, by decide +kernel⟩
set_option maxRecDepth 20000 in
theorem s_X3_macFill : Cond.instanceMethod yX3_macFill ∈ G ∧ Cond.selects RX3 yX3_macFill yX3_macFill ∈ G := ⟨g_397, g_398⟩
set_option maxRecDepth 20000 in
theorem k_X3_macFinish : Kd yX3_macFinish cX3_macFinish 3 (some .boolean) 0 := ⟨g_403, g_4, by decide, by decide, by decide +kernel⟩
set_option maxRecDepth 20000 in
theorem s_X3_macFinish : Cond.instanceMethod yX3_macFinish ∈ G ∧ Cond.selects RX3 yX3_macFinish yX3_macFinish ∈ G := ⟨g_401, g_402⟩
set_option maxRecDepth 20000 in
theorem k_X3_tagByte : Kd yX3_tagByte cX3_tagByte 2 (some .int) 1 := ⟨g_407, g_4, by decide, by decide, by decide +kernel⟩
set_option maxRecDepth 20000 in
theorem s_X3_tagByte : Cond.instanceMethod yX3_tagByte ∈ G ∧ Cond.selects RX3 yX3_tagByte yX3_tagByte ∈ G := ⟨g_405, g_406⟩
set_option maxRecDepth 20000 in
theorem k_X3_macCheck : Kd yX3_macCheck cX3_macCheck 3 (some .boolean) 2 := ⟨g_411, g_4, by decide, by decide, by decide +kernel⟩
set_option maxRecDepth 20000 in
theorem s_X3_macCheck : Cond.instanceMethod yX3_macCheck ∈ G ∧ Cond.selects RX3 yX3_macCheck yX3_macCheck ∈ G := ⟨g_409, g_410⟩
set_option maxRecDepth 20000 in
theorem k_X3_macVerdict : Kd yX3_macVerdict cX3_macVerdict 3 (some .boolean) 0 := ⟨g_415, g_4, by decide, by decide, by decide +kernel⟩
set_option maxRecDepth 20000 in
theorem s_X3_macVerdict : Cond.instanceMethod yX3_macVerdict ∈ G ∧ Cond.selects RX3 yX3_macVerdict yX3_macVerdict ∈ G := ⟨g_413, g_414⟩
set_option maxRecDepth 20000 in
theorem k_X3_setBlockByte : Kd yX3_setBlockByte cX3_setBlockByte 3 (some .boolean) 2 := ⟨g_419, g_4, by decide, by decide, by decide +kernel⟩
set_option maxRecDepth 20000 in
theorem s_X3_setBlockByte : Cond.instanceMethod yX3_setBlockByte ∈ G ∧ Cond.selects RX3 yX3_setBlockByte yX3_setBlockByte ∈ G := ⟨g_417, g_418⟩
set_option maxRecDepth 20000 in
theorem k_X3_load : Kd yX3_load cX3_load 3 none 1 := ⟨g_427, g_4, by decide, by decide, by decide +kernel⟩
set_option maxRecDepth 20000 in
theorem s_X3_load : Cond.instanceMethod yX3_load ∈ G ∧ Cond.selects RX3 yX3_load yX3_load ∈ G := ⟨g_426, g_s15⟩
set_option maxRecDepth 20000 in
theorem k_X3_encryptBlock : Kd yX3_encryptBlock cX3_encryptBlock 2 (some .boolean) 0 := ⟨g_423, g_4, by decide, by decide, by decide +kernel⟩
set_option maxRecDepth 20000 in
theorem s_X3_encryptBlock : Cond.instanceMethod yX3_encryptBlock ∈ G ∧ Cond.selects RX3 yX3_encryptBlock yX3_encryptBlock ∈ G := ⟨g_421, g_422⟩
set_option maxRecDepth 20000 in
theorem k_X3_decryptBlock : Kd yX3_decryptBlock cX3_decryptBlock 2 (some .boolean) 0 := ⟨g_431, g_4, by decide, by decide, by decide +kernel⟩
set_option maxRecDepth 20000 in
theorem s_X3_decryptBlock : Cond.instanceMethod yX3_decryptBlock ∈ G ∧ Cond.selects RX3 yX3_decryptBlock yX3_decryptBlock ∈ G := ⟨g_429, g_430⟩
set_option maxRecDepth 20000 in
theorem k_X3_chain : Kd yX3_chain cX3_chain 4 (some .boolean) 1 := ⟨g_439, g_4, by decide, by decide, by decide +kernel⟩
set_option maxRecDepth 20000 in
theorem s_X3_chain : Cond.instanceMethod yX3_chain ∈ G ∧ Cond.selects RX3 yX3_chain yX3_chain ∈ G := ⟨g_437, g_438⟩
set_option maxRecDepth 20000 in
theorem k_X3_unchain : Kd yX3_unchain cX3_unchain 2 (some .boolean) 0 := ⟨g_443, g_4, by decide, by decide, by decide +kernel⟩
set_option maxRecDepth 20000 in
theorem s_X3_unchain : Cond.instanceMethod yX3_unchain ∈ G ∧ Cond.selects RX3 yX3_unchain yX3_unchain ∈ G := ⟨g_441, g_442⟩
set_option maxRecDepth 20000 in
theorem k_X3_blockByte : Kd yX3_blockByte cX3_blockByte 2 (some .int) 1 := ⟨g_447, g_4, by decide, by decide, by decide +kernel⟩
set_option maxRecDepth 20000 in
theorem s_X3_blockByte : Cond.instanceMethod yX3_blockByte ∈ G ∧ Cond.selects RX3 yX3_blockByte yX3_blockByte ∈ G := ⟨g_445, g_446⟩
set_option maxRecDepth 20000 in
theorem k_X3_half : Kd yX3_half cX3_half 3 (some .int) 2 := ⟨g_451, g_4, by decide, by decide, by decide +kernel⟩
set_option maxRecDepth 20000 in
theorem s_X3_half : Cond.instanceMethod yX3_half ∈ G ∧ Cond.selects RX3 yX3_half yX3_half ∈ G := ⟨g_449, g_450⟩
set_option maxRecDepth 20000 in
theorem k_J7_fill_53178 : Kd yJ7_fill_53178 cJ7_fill_53178 4 none 2 := ⟨g_105, g_5, by decide, by decide, by decide +kernel⟩
set_option maxRecDepth 20000 in
theorem s_J7_fill_53178 : Cond.static yJ7_fill_53178 ∈ G := g_104
set_option maxRecDepth 20000 in
theorem w_obj : Cond.instanceMethod objectInit ∈ G ∧ Cond.code objectInit ⟨#[0xb1]⟩ 1 none ∈ G := ⟨g_13, g_14⟩
set_option maxRecDepth 20000 in
theorem w_copy : Cond.native arraycopyName ∈ G ∧ Cond.static arraycopyName ∈ G ∧ Cond.initialized "java/lang/System" ∈ G := ⟨g_138, g_137, g_6⟩
end
section
/-- where the objects' fields lie, the int array's class, the tables' addresses, the first address of the law's own cells, the boolean array's class -/
abbrev EE : Type := va_G × ClassId × (Nat → Nat) × Nat × ClassId
abbrev Eb (E : EE) : Nat → Prop := fun q => E.2.2.2.1 ≤ q
def Tb (E : EE) (U : State) (H : Heap) : Prop := ∀ (k : Nat) (t : String × String × Nat × (Nat → Int32)), tabs[k]? = some t → va_Z t.1 t.2.1 "[I" (.ref (E.2.2.1 k)) (Eb E) U H ∧ va_T .int (E.2.2.1 k) t.2.2.1 (fun j => .int (t.2.2.2 j)) (Eb E) U H
theorem Tb.moved {E : EE} {u U : State} {H : Heap} (hvm : u.vm.Alike U.vm) (h : Tb E u H) : Tb E U H := fun k t hk => ⟨(h k t hk).1.moved hvm, (h k t hk).2.moved hvm⟩
theorem Tb.kept {E : EE} {U : State} {H H1 : Heap} (h : Tb E U H) (hq : ∀ a : Nat, a < H.size → ¬ Eb E a → H1[a]? = H[a]?) : Tb E U H1 := fun k t hk => ⟨(h k t hk).1.kept hq, (h k t hk).2.kept hq⟩
def Cx (E : EE) (U : State) : Prop := va_K E.1 classes [(E.2.1, .int), (E.2.2.2.2, .boolean)] U ∧ NW U ∧ E.2.2.2.1 ≤ U.heap.size ∧ Tb E U U.heap
theorem Cx.move {E : EE} {A : Nat → Prop} {s U : State} {H : Heap} {locs : List Loc} (h : Cx E s) (hAB : ∀ q, A q → E.2.2.2.1 ≤ q) (hS : va_S A s.heap H locs) (hU : U.heap = H) (hW : s.WarmedH U.vm) : Cx E U :=
  ⟨va_K.moved hW.alike h.1, NW.warm hW h.2.1, by rw [hU]; exact Nat.le_trans h.2.2.1 hS.1, by rw [hU]; exact (h.2.2.2.moved hW.alike).kept (fun a h1 h2 => hS.2.1 a h1 (fun z => h2 (hAB a z)))⟩
theorem Cx.calling {E : EE} {U : State} {g : JFrame} {mk : MethodId} {a : Array Value} (h : Cx E U) : Cx E (U.calling g mk a) :=
  ⟨va_K.moved (u := U) (U := U.calling g mk a) (Vm.Alike.refl U.vm) h.1, NW.same (u := U) rfl h.2.1, h.2.2.1, Tb.moved (u := U) (U := U.calling g mk a) (Vm.Alike.refl U.vm) h.2.2.2⟩
def Pre (E : EE) (ws : va_W) (sz : Nat) (U : State) : Prop := U.heap.size = sz ∧ va_P E.1 classes ws U.heap ∧ va_D (Eb E) ws ∧ Cx E U
theorem Pre.blind {E : EE} {as : List Value} {ws : va_W} {sz : Nat} : FrameBlind (va_Pc as (Pre E ws sz)) := by
  intro a U g mk h
  obtain ⟨h0, h1, h2, h3, h4⟩ := h
  exact ⟨h0, h1, h2, h3, h4.calling⟩
abbrev Wv (E : EE) (A : Nat → Prop) (ws' : va_W) : Array Value → State → Outcome → State → Prop := va_Qv (fun _ : Unit => True) (fun _ t => va_P E.1 classes ws' t.heap ∧ va_D A ws') A
abbrev Wi (E : EE) (A : Nat → Prop) (r : Int32) (ws' : va_W) : Array Value → State → Outcome → State → Prop := va_Qi (fun (r' : Int32) (_ : Unit) => r' = r) (fun _ t => va_P E.1 classes ws' t.heap ∧ va_D A ws') A
abbrev Wn (E : EE) (A : Nat → Prop) (post : va_W → Prop) : Array Value → State → Outcome → State → Prop := va_Qv post (fun ws' t => va_P E.1 classes ws' t.heap ∧ va_D A ws') A
/-- a void method that makes no cell: the world ws becomes ws' -/
def Cv (l : Launch) (y : MethodName) (cd : Cond) (rm : Room) (E : EE) (as : List Value) (ws ws' : va_W) : Prop := ∀ sz : Nat, Met l y (cd :: G) rm (va_Pc as (Pre E ws sz)) (Wv E (va_A ws sz) ws') 0 0 (va_A ws sz)
/-- a method that answers the int r -/
def Ci (l : Launch) (y : MethodName) (cd : Cond) (rm : Room) (E : EE) (as : List Value) (r : Int32) (ws ws' : va_W) : Prop := ∀ sz : Nat, Met l y (cd :: G) rm (va_Pc as (Pre E ws sz)) (Wi E (va_A ws sz) r ws') 0 0 (va_A ws sz)
/-- a void method that makes mc cells of ms slots: its new world is one of post -/
def Cn (l : Launch) (y : MethodName) (cd : Cond) (rm : Room) (E : EE) (as : List Value) (ws : va_W) (post : va_W → Prop) : Prop := ∀ sz : Nat, Met l y (cd :: G) rm (va_Pc as (Pre E ws sz)) (Wn E (va_A ws sz) post) rm.cells rm.slots (va_A ws sz)
/-- what stands in a body -/
def Bd (p : Program) (s : State) (m : MethodId) (args : Array Value) (meth : Method) (c : Code) (cc : ByteArray) (nL : Nat) (ret : Option FieldType) (own : String) (E : EE) (A : Nat → Prop) : Prop :=
  p.tables.exec = Jvm.exec ∧ c.code = cc ∧ meth.sig.returnType = ret ∧ c.maxLocals = nL ∧ s.vm.findClass own = some m.cls ∧ (∀ w ∈ G, w.before args s = true) ∧ meth.locks = false ∧ Cx E s ∧ (∀ q, A q → E.2.2.2.1 ≤ q) ∧ (∀ q, s.heap.size ≤ q → A q)
section BD
variable {p : Program} {l : Launch} {e : Env} {R : Room} {s : State} {m : MethodId} {args : Array Value} {below : List Frame} {meth : Method} {c : Code} {H : Heap} {locs : List Loc} {cells slots : Nat} {Q : State → Prop}
variable {cc : ByteArray} {nL : Nat} {ret : Option FieldType} {own : String} {E : EE} {A : Nat → Prop} {ws wc wc' wr : va_W} {pc : Nat} {ls : Array Slot} {rest : List Value}
theorem Bd.rt0 (B : Bd p s m args meth c cc nL ret own E A) : meth.sig.returnType = ret := B.2.2.1
theorem Bd.ml (B : Bd p s m args meth c cc nL ret own E A) : c.maxLocals = nL := B.2.2.2.1
theorem Bd.ow (B : Bd p s m args meth c cc nL ret own E A) : s.vm.findClass own = some m.cls := B.2.2.2.2.1
theorem Bd.ts (B : Bd p s m args meth c cc nL ret own E A) : ∀ w ∈ G, w.before args s = true := B.2.2.2.2.2.1
theorem Bd.lk (B : Bd p s m args meth c cc nL ret own E A) : meth.locks = false := B.2.2.2.2.2.2.1
theorem Bd.cx (B : Bd p s m args meth c cc nL ret own E A) : Cx E s := B.2.2.2.2.2.2.2.1
theorem Bd.ab (B : Bd p s m args meth c cc nL ret own E A) : ∀ q, A q → E.2.2.2.1 ≤ q := B.2.2.2.2.2.2.2.2.1
theorem Bd.ha (B : Bd p s m args meth c cc nL ret own E A) : ∀ q, s.heap.size ≤ q → A q := B.2.2.2.2.2.2.2.2.2
theorem Bd.pre (B : Bd p s m args meth c cc nL ret own E A) (hP : va_P E.1 classes wc H) (hD : va_D A wc) (hS : va_S A s.heap H locs) {As : List Value} : ∀ U : State, U.heap = H → s.WarmedH U.vm → va_Pc As (Pre E wc H.size) As.toArray U :=
  fun U hU hW => ⟨rfl, by rw [hU], by rw [hU]; exact hP, hD.weaken (fun _ q _ h => B.ab q.1 h), B.cx.move B.ab hS hU hW⟩
/-- reads of fields -/
theorem x_get (B : Bd p s m args meth c cc nL ret own E A) (hP : va_P E.1 classes ws H) {C : String} {T : u_T} {N ci index a : Nat} (q0 : Nat) {fs : List Value} (he : ws[q0]? = some (a, .inr (ci, fs))) (hc : classes[ci]? = some (C, T, N)) (hin : ∀ w ∈ u_ws C T N, w ∈ G) (k : Nat) (hk : k < N) (hl : Cond.fieldLink own index (T k).1 (T k).2.1 (T k).2.2.1 ∈ G) {v : Value} (hv : fs[k]? = some v) (hdg : decode cc pc = .ok (.getfield index, 3))
    (kk : W p l e R s m args below meth c H locs cells slots Q (F0 m (pc + 3) ls (v :: rest))) : W p l e R s m args below meth c H locs cells slots Q (F0 m pc ls (.ref a :: rest)) :=
  va_get (D := E.1) B.1 B.2.1 B.ts hin B.ow B.cx.1 hP q0 he hc k hk (B.ts _ hl) (fun _ h9 => h9) hv hdg kk
theorem x_getN (B : Bd p s m args meth c cc nL ret own E A) (hP : va_P E.1 classes ws H) {C host : String} {T : u_T} {N ci index a : Nat} (q0 : Nat) {fs : List Value} (he : ws[q0]? = some (a, .inr (ci, fs))) (hc : classes[ci]? = some (C, T, N)) (hin : ∀ w ∈ u_ws C T N, w ∈ G) (k : Nat) (hk : k < N) (hl : Cond.fieldLinkNest own index (T k).1 (T k).2.1 (T k).2.2.1 host ∈ nests) {v : Value} (hv : fs[k]? = some v) (hdg : decode cc pc = .ok (.getfield index, 3))
    (kk : W p l e R s m args below meth c H locs cells slots Q (F0 m (pc + 3) ls (v :: rest))) : W p l e R s m args below meth c H locs cells slots Q (F0 m pc ls (.ref a :: rest)) :=
  va_getN (D := E.1) B.1 B.2.1 B.ts hin B.ow B.cx.1 hP q0 he hc k hk (va_Nw.use rfl (B.cx.2.1 _ hl)) (fun _ h9 => h9) hv hdg kk
/-- writes of fields -/
theorem x_put (B : Bd p s m args meth c cc nL ret own E A) (hP : va_P E.1 classes ws H) (hD : va_D A ws) (hS : va_S A s.heap H locs) {C : String} {T : u_T} {N ci index a : Nat} (q0 : Nat) {fs : List Value} (he : ws[q0]? = some (a, .inr (ci, fs))) (hc : classes[ci]? = some (C, T, N)) (hin : ∀ w ∈ u_ws C T N, w ∈ G) (ty0 : Nat → FieldType) (hty : ∀ k, k < N → parseFieldDescriptor (T k).2.2.1 = some (ty0 k)) (hnm : ∀ a, a < N → ∀ b, b < N → a ≠ b → (T a).2.1 ≠ (T b).2.1) (k : Nat) (hk : k < N) (hl : Cond.fieldLink own index (T k).1 (T k).2.1 (T k).2.2.1 ∈ G) (hfin : (T k).2.2.2 = false) {v : Value} (hn : narrow (ty0 k) v = v) (hfit : fits (ty0 k) v = true) (hlen : k < fs.length) (hdg : decode cc pc = .ok (.putfield index, 3))
    (kk : ∀ (H1 : Heap) (locs1 : List Loc), va_P E.1 classes (ws.set q0 (a, .inr (ci, fs.set k v))) H1 → va_D A (ws.set q0 (a, .inr (ci, fs.set k v))) → va_S A s.heap H1 locs1 → W p l e R s m args below meth c H1 locs1 cells slots Q (F0 m (pc + 3) ls rest)) : W p l e R s m args below meth c H locs cells slots Q (F0 m pc ls (v :: .ref a :: rest)) :=
  va_put (D := E.1) B.1 B.2.1 B.ts hin ty0 hty hnm B.ow B.cx.1 hP hD hS q0 he hc k hk (B.ts _ hl) (fun _ h9 => h9) hfin (hty k hk) hn hfit hlen hdg kk
theorem x_putF (B : Bd p s m args meth c cc nL ret own E A) (hP : va_P E.1 classes ws H) (hD : va_D A ws) (hS : va_S A s.heap H locs) {C : String} {T : u_T} {N ci index a : Nat} (q0 : Nat) {fs : List Value} (he : ws[q0]? = some (a, .inr (ci, fs))) (hc : classes[ci]? = some (C, T, N)) (hin : ∀ w ∈ u_ws C T N, w ∈ G) (ty0 : Nat → FieldType) (hty : ∀ k, k < N → parseFieldDescriptor (T k).2.2.1 = some (ty0 k)) (hnm : ∀ a, a < N → ∀ b, b < N → a ≠ b → (T a).2.1 ≠ (T b).2.1) (k : Nat) (hk : k < N) (hl : Cond.fieldLink own index (T k).1 (T k).2.1 (T k).2.2.1 ∈ G) (hfin : (T k).2.2.2 = true) (hmn : meth.name = "<init>") (hdecl : (T k).1 = own) {v : Value} (hn : narrow (ty0 k) v = v) (hfit : fits (ty0 k) v = true) (hlen : k < fs.length) (hdg : decode cc pc = .ok (.putfield index, 3))
    (kk : ∀ (H1 : Heap) (locs1 : List Loc), va_P E.1 classes (ws.set q0 (a, .inr (ci, fs.set k v))) H1 → va_D A (ws.set q0 (a, .inr (ci, fs.set k v))) → va_S A s.heap H1 locs1 → W p l e R s m args below meth c H1 locs1 cells slots Q (F0 m (pc + 3) ls rest)) : W p l e R s m args below meth c H locs cells slots Q (F0 m pc ls (v :: .ref a :: rest)) :=
  va_putF (D := E.1) B.1 B.2.1 B.ts hin ty0 hty hnm B.ow B.cx.1 hP hD hS q0 he hc k hk (B.ts _ hl) (fun _ h9 => h9) hfin hmn hdecl (hty k hk) hn hfit hlen hdg kk
/-- arrays of ints: the place is the number k -/
theorem x_ald (B : Bd p s m args meth c cc nL ret own E A) (hP : va_P E.1 classes ws H) (q0 : Nat) {a n : Nat} {f : Nat → Int32} (he : ws[q0]? = some (a, .inl (E.2.1, n, .inl f))) {i : Int32} (k : Nat) (hi : i = nI k) (hk : k < n) (hn : n < 2 ^ 31) (hdg : decode cc pc = .ok (.iaload, 1))
    (kk : W p l e R s m args below meth c H locs cells slots Q (F0 m (pc + 1) ls (.int (f k) :: rest))) : W p l e R s m args below meth c H locs cells slots Q (F0 m pc ls (.int i :: .ref a :: rest)) := by
  subst hi
  refine va_iald (D := E.1) B.1 B.2.1 B.cx.1 hP q0 0 he rfl (vp_in_nI hk hn) hdg ?_
  rw [nI_clamp (Nat.lt_trans hk hn)]
  exact kk
theorem x_ast (B : Bd p s m args meth c cc nL ret own E A) (hP : va_P E.1 classes ws H) (hD : va_D A ws) (hS : va_S A s.heap H locs) (q0 : Nat) {a n : Nat} {f : Nat → Int32} (he : ws[q0]? = some (a, .inl (E.2.1, n, .inl f))) {i x : Int32} (k : Nat) (hi : i = nI k) (hk : k < n) (hn : n < 2 ^ 31) (hdg : decode cc pc = .ok (.iastore, 1))
    (kk : ∀ (H1 : Heap) (locs1 : List Loc), va_P E.1 classes (ws.set q0 (a, .inl (E.2.1, n, .inl (upd f k x)))) H1 → va_D A (ws.set q0 (a, .inl (E.2.1, n, .inl (upd f k x)))) → va_S A s.heap H1 locs1 → W p l e R s m args below meth c H1 locs1 cells slots Q (F0 m (pc + 1) ls rest)) : W p l e R s m args below meth c H locs cells slots Q (F0 m pc ls (.int x :: .int i :: .ref a :: rest)) := by
  subst hi
  refine va_iast (D := E.1) B.1 B.2.1 B.cx.1 hP hD hS q0 0 he rfl (vp_in_nI hk hn) hdg ?_
  rw [nI_clamp (Nat.lt_trans hk hn)]
  exact kk
theorem x_alen (B : Bd p s m args meth c cc nL ret own E A) (hP : va_P E.1 classes ws H) (q0 : Nat) {a n : Nat} {f : Nat → Int32} (he : ws[q0]? = some (a, .inl (E.2.1, n, .inl f))) (hdg : decode cc pc = .ok (.arraylength, 1))
    (kk : W p l e R s m args below meth c H locs cells slots Q (F0 m (pc + 1) ls (.int (nI n) :: rest))) : W p l e R s m args below meth c H locs cells slots Q (F0 m pc ls (.ref a :: rest)) :=
  va_alen (D := E.1) B.1 B.2.1 B.cx.1 hP q0 0 he rfl rfl hdg kk
/-- static tables -/
theorem x_gs (B : Bd p s m args meth c cc nL ret own E A) (hS : va_S A s.heap H locs) {index : Nat} (k : Nat) {t : String × String × Nat × (Nat → Int32)} (ht : tabs[k]? = some t) (hl : Cond.fieldLink own index t.1 t.2.1 "[I" ∈ G) (hdg : decode cc pc = .ok (.getstatic index, 3))
    (kk : W p l e R s m args below meth c H locs cells slots Q (F0 m (pc + 3) ls (.ref (E.2.2.1 k) :: rest))) : W p l e R s m args below meth c H locs cells slots Q (F0 m pc ls rest) :=
  va_gets B.1 B.2.1 ((B.cx.2.2.2 k t ht).1.narrow B.ab) hS B.ow (B.ts _ hl) (fun _ h9 => h9) hdg kk
theorem x_gsN (B : Bd p s m args meth c cc nL ret own E A) (hS : va_S A s.heap H locs) {index : Nat} {host : String} (k : Nat) {t : String × String × Nat × (Nat → Int32)} (ht : tabs[k]? = some t) (hl : Cond.fieldLinkNest own index t.1 t.2.1 "[I" host ∈ nests) (hdg : decode cc pc = .ok (.getstatic index, 3))
    (kk : W p l e R s m args below meth c H locs cells slots Q (F0 m (pc + 3) ls (.ref (E.2.2.1 k) :: rest))) : W p l e R s m args below meth c H locs cells slots Q (F0 m pc ls rest) :=
  va_getsN B.1 B.2.1 ((B.cx.2.2.2 k t ht).1.narrow B.ab) hS B.ow (va_Nw.use rfl (B.cx.2.1 _ hl)) (fun _ h9 => h9) hdg kk
theorem x_tld (B : Bd p s m args meth c cc nL ret own E A) (hS : va_S A s.heap H locs) (k : Nat) {t : String × String × Nat × (Nat → Int32)} (ht : tabs[k]? = some t) {i : Int32} (j : Nat) (hi : i = nI j) (hj : j < t.2.2.1) (hn : t.2.2.1 < 2 ^ 31) (hdg : decode cc pc = .ok (.iaload, 1))
    (kk : W p l e R s m args below meth c H locs cells slots Q (F0 m (pc + 1) ls (.int (t.2.2.2 j) :: rest))) : W p l e R s m args below meth c H locs cells slots Q (F0 m pc ls (.int i :: .ref (E.2.2.1 k) :: rest)) := by
  subst hi
  exact va_ti B.1 B.2.1 ((B.cx.2.2.2 k t ht).2.narrow B.ab) hS (vp_in_nI hj hn) (by rw [nI_clamp (Nat.lt_trans hj hn)]) hdg kk
/-- ends -/
theorem x_vret (B : Bd p s m args meth c cc nL none own E A) (hP : va_P E.1 classes ws H) (hD : va_D A ws) (hS : va_S A s.heap H locs) (hdg : decode cc pc = .ok (.return_, 1)) : W p l e R s m args below meth c H locs 0 0 (MQ below (Wv E A ws) args s 0 0 A) (F0 m pc ls []) :=
  W.vret B.1 B.2.1 B.rt0 (fun t ht _ => ⟨⟨(), rfl, trivial, by rw [ht]; exact hP, hD⟩, hS.F ht⟩) hS.2.2 hdg B.lk
theorem x_nret {post : va_W → Prop} (B : Bd p s m args meth c cc nL none own E A) (hP : va_P E.1 classes ws H) (hD : va_D A ws) (hS : va_S A s.heap H locs) (hdg : decode cc pc = .ok (.return_, 1)) (hw : post ws) : W p l e R s m args below meth c H locs cells slots (MQ below (Wn E A post) args s cells slots A) (F0 m pc ls []) :=
  W.vret B.1 B.2.1 B.rt0 (fun t ht _ => ⟨⟨ws, rfl, hw, by rw [ht]; exact hP, hD⟩, hS.F ht⟩) hS.2.2 hdg B.lk
theorem x_iret {ty : FieldType} {r v : Int32} (B : Bd p s m args meth c cc nL (some ty) own E A) (hP : va_P E.1 classes ws H) (hD : va_D A ws) (hS : va_S A s.heap H locs) (hn : narrow ty (.int v) = .int v) (hv : v = r) (hdg : decode cc pc = .ok (.ireturn, 1)) : W p l e R s m args below meth c H locs 0 0 (MQ below (Wi E A r ws) args s 0 0 A) (F0 m pc ls [.int v]) :=
  W.zret B.1 B.2.1 B.rt0 hn (fun t ht _ => ⟨⟨v, (), rfl, hv, by rw [ht]; exact hP, hD⟩, hS.F ht⟩) hS.2.2 hdg B.lk
def Rm (rm R : Room) (maxL mc ms : Nat) : Prop := rm.frames + 1 ≤ R.frames ∧ 8 + (maxL + 11) + rm.locals ≤ R.locals ∧ rm.cells = mc ∧ rm.slots = ms
theorem fm_of_map {α β : Type} {f : α → Option β} : ∀ {is : List α} {w : List β}, is.map f = w.map some → is.filterMap f = w
  | [], [], _ => rfl
  | [], _ :: _, h => by cases h
  | i :: is, [], h => by cases h
  | i :: is, b :: w, h => by
    rw [List.map_cons, List.map_cons] at h
    have h1 := List.cons.inj h
    rw [List.filterMap_cons, h1.1, fm_of_map h1.2]
/-- the callee's cells wc and the rest wr, by their places -/
def Sp (ws wc wr : va_W) (isC isR : List Nat) : Prop := isC.map (fun i => ws[i]?) = wc.map some ∧ isR.map (fun i => ws[i]?) = wr.map some ∧ va_nd isC = true ∧ va_nd isR = true ∧ ∀ i ∈ isR, i ∉ isC
variable {y : MethodName} {bytes : ByteArray} {maxL n index mc ms : Nat} {rt : Option FieldType} {rm : Room} {As : List Value} {st0 : List Value} {host : String} {b : Nat} {args' : Array Value} {isC isR : List Nat}
theorem x_cb (B : Bd p s m args meth c cc nL ret own E A) (hk : Kd y bytes maxL rt n) (hl : Cond.methodLink own index y ∈ G) (hR : Rm rm R maxL mc ms) : CallB R s args own index y bytes maxL rt (.code y bytes maxL rt :: G) rm mc ms n :=
  callB_of n B.ts (G_goodG hk.1) rfl hR.2.2.1 hR.2.2.2 (B.ts _ hk.2.1) (B.ts _ hl) hk.2.2 ⟨hR.1, hR.2.1⟩
theorem x_cn (B : Bd p s m args meth c cc nL ret own E A) (hk : Kd y bytes maxL rt n) (hl : Cond.methodLinkNest own index y host ∈ nests) (hR : Rm rm R maxL mc ms) : va_CN R s args own index y host bytes maxL rt (.code y bytes maxL rt :: G) rm mc ms n :=
  va_cnB n B.ts (G_goodG hk.1) rfl hR.2.2.1 hR.2.2.2 (B.cx.2.1 _ hl) (B.ts _ hk.2.1) hk.2.2 ⟨hR.1, hR.2.1⟩
/-- how a call goes on: a void one, one that answers, one that makes cells -/
theorem x_gov (B : Bd p s m args meth c cc nL ret own E A) (hr : va_Run p l e R s m args below meth c H locs cells slots 0 0 (F0 m pc ls st0) rest (Wv E (va_A wc H.size) wc' args') (va_A wc H.size)) (hP : va_P E.1 classes ws H) (hD : va_D A ws) (hS : va_S A s.heap H locs) (hp : Sp ws wc wr isC isR)
    (kk : ∀ (H1 : Heap) (locs1 : List Loc), va_P E.1 classes (wr ++ wc') H1 → va_D A (wr ++ wc') → va_S A s.heap H1 locs1 → W p l e R s m args below meth c H1 locs1 cells slots Q (F0 m (pc + 3) ls rest)) : W p l e R s m args below meth c H locs cells slots Q (F0 m pc ls st0) := by
  obtain ⟨hC, hRr, -, hnd, hdis⟩ := hp
  have hF := va_free (wc := wc) hD hS B.ha isC hC
  refine va_callv hr hS (fun q _ h => hF q h) hF (fun u t H1 locs1 ht hvm hw hB hz1 hk1 hS1 => ?_)
  obtain ⟨hP1, hD1⟩ := hB
  rw [ht] at hP1
  obtain ⟨hP2, hD2⟩ := va_join hP hD isC isR hC hRr hnd hdis hk1 hF hP1 hD1
  exact kk H1 locs1 hP2 hD2 hS1
theorem x_goi {r : Int32} (B : Bd p s m args meth c cc nL ret own E A) (hr : va_Run p l e R s m args below meth c H locs cells slots 0 0 (F0 m pc ls st0) rest (Wi E (va_A wc H.size) r wc' args') (va_A wc H.size)) (hP : va_P E.1 classes ws H) (hD : va_D A ws) (hS : va_S A s.heap H locs) (hp : Sp ws wc wr isC isR)
    (kk : ∀ (H1 : Heap) (locs1 : List Loc), va_P E.1 classes (wr ++ wc') H1 → va_D A (wr ++ wc') → va_S A s.heap H1 locs1 → W p l e R s m args below meth c H1 locs1 cells slots Q (F0 m (pc + 3) ls (.int r :: rest))) : W p l e R s m args below meth c H locs cells slots Q (F0 m pc ls st0) := by
  obtain ⟨hC, hRr, -, hnd, hdis⟩ := hp
  have hF := va_free (wc := wc) hD hS B.ha isC hC
  refine va_calli hr hS (fun q _ h => hF q h) hF (fun r' u t H1 locs1 ht hvm hw hB hz1 hk1 hS1 => ?_)
  obtain ⟨hP1, hD1⟩ := hB
  rw [ht] at hP1
  obtain ⟨hP2, hD2⟩ := va_join hP hD isC isR hC hRr hnd hdis hk1 hF hP1 hD1
  rw [show r' = r from hw]
  exact kk H1 locs1 hP2 hD2 hS1
theorem x_gon {post : va_W → Prop} (B : Bd p s m args meth c cc nL ret own E A) (hr : va_Run p l e R s m args below meth c H locs cells slots mc ms (F0 m pc ls st0) rest (Wn E (va_A wc H.size) post args') (va_A wc H.size)) (hP : va_P E.1 classes ws H) (hD : va_D A ws) (hS : va_S A s.heap H locs) (hp : Sp ws wc wr isC isR)
    (kk : ∀ (wc' : va_W) (H1 : Heap) (locs1 : List Loc), post wc' → va_P E.1 classes (wr ++ wc') H1 → va_D A (wr ++ wc') → va_S A s.heap H1 locs1 → W p l e R s m args below meth c H1 locs1 (cells + mc) (slots + ms) Q (F0 m (pc + 3) ls rest)) : W p l e R s m args below meth c H locs cells slots Q (F0 m pc ls st0) := by
  obtain ⟨hC, hRr, -, hnd, hdis⟩ := hp
  have hF := va_free (wc := wc) hD hS B.ha isC hC
  refine va_callv hr hS (fun q _ h => hF q h) hF (fun wc' t H1 locs1 ht hvm hw hB hz1 hk1 hS1 => ?_)
  obtain ⟨hP1, hD1⟩ := hB
  rw [ht] at hP1
  obtain ⟨hP2, hD2⟩ := va_join hP hD isC isR hC hRr hnd hdis hk1 hF hP1 hD1
  exact kk wc' H1 locs1 hw hP2 hD2 hS1
theorem x_Sv (B : Bd p s m args meth c cc nL ret own E A) (hM : Cv l y (.code y bytes maxL none) rm E As wc wc') (hk : Kd y bytes maxL none n) (hl : Cond.methodLink own index y ∈ G) (hs : Cond.static y ∈ G) (hR : Rm rm R maxL 0 0) (hP : va_P E.1 classes ws H) (hD : va_D A ws) (hS : va_S A s.heap H locs) (hp : Sp ws wc wr isC isR) (hlen : As.length = n) (hls : ls.size = nL) (hst : st0 = As.reverse ++ rest) (hcat : (rest.map fun v => v.category).sum ≤ 8) (hdg : decode cc pc = .ok (.invokestatic index, 3)) (hf : cells ≤ R.cells ∧ slots ≤ R.slots)
    (kk : ∀ (H1 : Heap) (locs1 : List Loc), va_P E.1 classes (wr ++ wc') H1 → va_D A (wr ++ wc') → va_S A s.heap H1 locs1 → W p l e R s m args below meth c H1 locs1 cells slots Q (F0 m (pc + 3) ls rest)) : W p l e R s m args below meth c H locs cells slots Q (F0 m pc ls st0) :=
  x_gov B (va_runS ⟨B.1, B.2.1, B.ml, B.ow, B.ts⟩ (hM H.size) ⟨x_cb B hk hl hR, B.ts _ hs⟩ ⟨Pre.blind, B.pre (hP.sub isC (fm_of_map hp.1)) (hD.sub isC hp.2.2.1 hp.1) hS⟩ rfl hlen hls hst (lv_room hcat) hdg hf) hP hD hS hp kk
theorem x_Si {ty : FieldType} {r : Int32} (B : Bd p s m args meth c cc nL ret own E A) (hM : Ci l y (.code y bytes maxL (some ty)) rm E As r wc wc') (hk : Kd y bytes maxL (some ty) n) (hl : Cond.methodLink own index y ∈ G) (hs : Cond.static y ∈ G) (hR : Rm rm R maxL 0 0) (hP : va_P E.1 classes ws H) (hD : va_D A ws) (hS : va_S A s.heap H locs) (hp : Sp ws wc wr isC isR) (hlen : As.length = n) (hls : ls.size = nL) (hst : st0 = As.reverse ++ rest) (hcat : (rest.map fun v => v.category).sum ≤ 8) (hdg : decode cc pc = .ok (.invokestatic index, 3)) (hf : cells ≤ R.cells ∧ slots ≤ R.slots)
    (kk : ∀ (H1 : Heap) (locs1 : List Loc), va_P E.1 classes (wr ++ wc') H1 → va_D A (wr ++ wc') → va_S A s.heap H1 locs1 → W p l e R s m args below meth c H1 locs1 cells slots Q (F0 m (pc + 3) ls (.int r :: rest))) : W p l e R s m args below meth c H locs cells slots Q (F0 m pc ls st0) :=
  x_goi B (va_runS ⟨B.1, B.2.1, B.ml, B.ow, B.ts⟩ (hM H.size) ⟨x_cb B hk hl hR, B.ts _ hs⟩ ⟨Pre.blind, B.pre (hP.sub isC (fm_of_map hp.1)) (hD.sub isC hp.2.2.1 hp.1) hS⟩ rfl hlen hls hst (lv_room hcat) hdg hf) hP hD hS hp kk
theorem x_SNv (B : Bd p s m args meth c cc nL ret own E A) (hM : Cv l y (.code y bytes maxL none) rm E As wc wc') (hk : Kd y bytes maxL none n) (hl : Cond.methodLinkNest own index y host ∈ nests) (hs : Cond.static y ∈ G) (hR : Rm rm R maxL 0 0) (hP : va_P E.1 classes ws H) (hD : va_D A ws) (hS : va_S A s.heap H locs) (hp : Sp ws wc wr isC isR) (hlen : As.length = n) (hls : ls.size = nL) (hst : st0 = As.reverse ++ rest) (hcat : (rest.map fun v => v.category).sum ≤ 8) (hdg : decode cc pc = .ok (.invokestatic index, 3)) (hf : cells ≤ R.cells ∧ slots ≤ R.slots)
    (kk : ∀ (H1 : Heap) (locs1 : List Loc), va_P E.1 classes (wr ++ wc') H1 → va_D A (wr ++ wc') → va_S A s.heap H1 locs1 → W p l e R s m args below meth c H1 locs1 cells slots Q (F0 m (pc + 3) ls rest)) : W p l e R s m args below meth c H locs cells slots Q (F0 m pc ls st0) :=
  x_gov B (va_runSN ⟨B.1, B.2.1, B.ml, B.ow, B.ts⟩ (hM H.size) ⟨x_cn B hk hl hR, B.ts _ hs, trivial⟩ ⟨Pre.blind, B.pre (hP.sub isC (fm_of_map hp.1)) (hD.sub isC hp.2.2.1 hp.1) hS⟩ rfl hlen hls hst (lv_room hcat) hdg hf) hP hD hS hp kk
theorem x_SNi {ty : FieldType} {r : Int32} (B : Bd p s m args meth c cc nL ret own E A) (hM : Ci l y (.code y bytes maxL (some ty)) rm E As r wc wc') (hk : Kd y bytes maxL (some ty) n) (hl : Cond.methodLinkNest own index y host ∈ nests) (hs : Cond.static y ∈ G) (hR : Rm rm R maxL 0 0) (hP : va_P E.1 classes ws H) (hD : va_D A ws) (hS : va_S A s.heap H locs) (hp : Sp ws wc wr isC isR) (hlen : As.length = n) (hls : ls.size = nL) (hst : st0 = As.reverse ++ rest) (hcat : (rest.map fun v => v.category).sum ≤ 8) (hdg : decode cc pc = .ok (.invokestatic index, 3)) (hf : cells ≤ R.cells ∧ slots ≤ R.slots)
    (kk : ∀ (H1 : Heap) (locs1 : List Loc), va_P E.1 classes (wr ++ wc') H1 → va_D A (wr ++ wc') → va_S A s.heap H1 locs1 → W p l e R s m args below meth c H1 locs1 cells slots Q (F0 m (pc + 3) ls (.int r :: rest))) : W p l e R s m args below meth c H locs cells slots Q (F0 m pc ls st0) :=
  x_goi B (va_runSN ⟨B.1, B.2.1, B.ml, B.ow, B.ts⟩ (hM H.size) ⟨x_cn B hk hl hR, B.ts _ hs, trivial⟩ ⟨Pre.blind, B.pre (hP.sub isC (fm_of_map hp.1)) (hD.sub isC hp.2.2.1 hp.1) hS⟩ rfl hlen hls hst (lv_room hcat) hdg hf) hP hD hS hp kk
theorem x_Vv {C : String} {T : u_T} {N ci : Nat} {fs : List Value} (B : Bd p s m args meth c cc nL ret own E A) (hM : Cv l y (.code y bytes maxL none) rm E (.ref b :: As) wc wc') (hk : Kd y bytes maxL none n) (hl : Cond.methodLink own index y ∈ G) (hs : Cond.instanceMethod y ∈ G ∧ Cond.selects C y y ∈ G) (hR : Rm rm R maxL 0 0) (hcl : classes[ci]? = some (C, T, N)) (q0 : Nat) (hrec : ws[q0]? = some (b, .inr (ci, fs))) (hP : va_P E.1 classes ws H) (hD : va_D A ws) (hS : va_S A s.heap H locs) (hp : Sp ws wc wr isC isR) (hlen : As.length = n) (hls : ls.size = nL) (hst : st0 = As.reverse ++ .ref b :: rest) (hcat : (rest.map fun v => v.category).sum ≤ 8) (hdg : decode cc pc = .ok (.invokevirtual index, 3)) (hf : cells ≤ R.cells ∧ slots ≤ R.slots)
    (kk : ∀ (H1 : Heap) (locs1 : List Loc), va_P E.1 classes (wr ++ wc') H1 → va_D A (wr ++ wc') → va_S A s.heap H1 locs1 → W p l e R s m args below meth c H1 locs1 cells slots Q (F0 m (pc + 3) ls rest)) : W p l e R s m args below meth c H locs cells slots Q (F0 m pc ls st0) :=
  x_gov B (va_runV ⟨B.1, B.2.1, B.ml, B.ow, B.ts⟩ (hM H.size) ⟨x_cb B hk hl hR, B.ts _ hs.1, B.ts _ hs.2⟩ ⟨Pre.blind, va_recv B.cx.1 hP hcl hrec, B.pre (hP.sub isC (fm_of_map hp.1)) (hD.sub isC hp.2.2.1 hp.1) hS⟩ rfl hlen hls hst (lv_room hcat) hdg hf) hP hD hS hp kk
theorem x_Vi {ty : FieldType} {r : Int32} {C : String} {T : u_T} {N ci : Nat} {fs : List Value} (B : Bd p s m args meth c cc nL ret own E A) (hM : Ci l y (.code y bytes maxL (some ty)) rm E (.ref b :: As) r wc wc') (hk : Kd y bytes maxL (some ty) n) (hl : Cond.methodLink own index y ∈ G) (hs : Cond.instanceMethod y ∈ G ∧ Cond.selects C y y ∈ G) (hR : Rm rm R maxL 0 0) (hcl : classes[ci]? = some (C, T, N)) (q0 : Nat) (hrec : ws[q0]? = some (b, .inr (ci, fs))) (hP : va_P E.1 classes ws H) (hD : va_D A ws) (hS : va_S A s.heap H locs) (hp : Sp ws wc wr isC isR) (hlen : As.length = n) (hls : ls.size = nL) (hst : st0 = As.reverse ++ .ref b :: rest) (hcat : (rest.map fun v => v.category).sum ≤ 8) (hdg : decode cc pc = .ok (.invokevirtual index, 3)) (hf : cells ≤ R.cells ∧ slots ≤ R.slots)
    (kk : ∀ (H1 : Heap) (locs1 : List Loc), va_P E.1 classes (wr ++ wc') H1 → va_D A (wr ++ wc') → va_S A s.heap H1 locs1 → W p l e R s m args below meth c H1 locs1 cells slots Q (F0 m (pc + 3) ls (.int r :: rest))) : W p l e R s m args below meth c H locs cells slots Q (F0 m pc ls st0) :=
  x_goi B (va_runV ⟨B.1, B.2.1, B.ml, B.ow, B.ts⟩ (hM H.size) ⟨x_cb B hk hl hR, B.ts _ hs.1, B.ts _ hs.2⟩ ⟨Pre.blind, va_recv B.cx.1 hP hcl hrec, B.pre (hP.sub isC (fm_of_map hp.1)) (hD.sub isC hp.2.2.1 hp.1) hS⟩ rfl hlen hls hst (lv_room hcat) hdg hf) hP hD hS hp kk
theorem x_VNv {C : String} {T : u_T} {N ci : Nat} {fs : List Value} (B : Bd p s m args meth c cc nL ret own E A) (hM : Cv l y (.code y bytes maxL none) rm E (.ref b :: As) wc wc') (hk : Kd y bytes maxL none n) (hl : Cond.methodLinkNest own index y host ∈ nests) (hs : Cond.instanceMethod y ∈ G ∧ Cond.selects C y y ∈ G) (hR : Rm rm R maxL 0 0) (hcl : classes[ci]? = some (C, T, N)) (q0 : Nat) (hrec : ws[q0]? = some (b, .inr (ci, fs))) (hP : va_P E.1 classes ws H) (hD : va_D A ws) (hS : va_S A s.heap H locs) (hp : Sp ws wc wr isC isR) (hlen : As.length = n) (hls : ls.size = nL) (hst : st0 = As.reverse ++ .ref b :: rest) (hcat : (rest.map fun v => v.category).sum ≤ 8) (hdg : decode cc pc = .ok (.invokevirtual index, 3)) (hf : cells ≤ R.cells ∧ slots ≤ R.slots)
    (kk : ∀ (H1 : Heap) (locs1 : List Loc), va_P E.1 classes (wr ++ wc') H1 → va_D A (wr ++ wc') → va_S A s.heap H1 locs1 → W p l e R s m args below meth c H1 locs1 cells slots Q (F0 m (pc + 3) ls rest)) : W p l e R s m args below meth c H locs cells slots Q (F0 m pc ls st0) :=
  x_gov B (va_runVN ⟨B.1, B.2.1, B.ml, B.ow, B.ts⟩ (hM H.size) ⟨x_cn B hk hl hR, B.ts _ hs.1, B.ts _ hs.2⟩ ⟨Pre.blind, va_recv B.cx.1 hP hcl hrec, B.pre (hP.sub isC (fm_of_map hp.1)) (hD.sub isC hp.2.2.1 hp.1) hS⟩ rfl hlen hls hst (lv_room hcat) hdg hf) hP hD hS hp kk
theorem x_VNi {ty : FieldType} {r : Int32} {C : String} {T : u_T} {N ci : Nat} {fs : List Value} (B : Bd p s m args meth c cc nL ret own E A) (hM : Ci l y (.code y bytes maxL (some ty)) rm E (.ref b :: As) r wc wc') (hk : Kd y bytes maxL (some ty) n) (hl : Cond.methodLinkNest own index y host ∈ nests) (hs : Cond.instanceMethod y ∈ G ∧ Cond.selects C y y ∈ G) (hR : Rm rm R maxL 0 0) (hcl : classes[ci]? = some (C, T, N)) (q0 : Nat) (hrec : ws[q0]? = some (b, .inr (ci, fs))) (hP : va_P E.1 classes ws H) (hD : va_D A ws) (hS : va_S A s.heap H locs) (hp : Sp ws wc wr isC isR) (hlen : As.length = n) (hls : ls.size = nL) (hst : st0 = As.reverse ++ .ref b :: rest) (hcat : (rest.map fun v => v.category).sum ≤ 8) (hdg : decode cc pc = .ok (.invokevirtual index, 3)) (hf : cells ≤ R.cells ∧ slots ≤ R.slots)
    (kk : ∀ (H1 : Heap) (locs1 : List Loc), va_P E.1 classes (wr ++ wc') H1 → va_D A (wr ++ wc') → va_S A s.heap H1 locs1 → W p l e R s m args below meth c H1 locs1 cells slots Q (F0 m (pc + 3) ls (.int r :: rest))) : W p l e R s m args below meth c H locs cells slots Q (F0 m pc ls st0) :=
  x_goi B (va_runVN ⟨B.1, B.2.1, B.ml, B.ow, B.ts⟩ (hM H.size) ⟨x_cn B hk hl hR, B.ts _ hs.1, B.ts _ hs.2⟩ ⟨Pre.blind, va_recv B.cx.1 hP hcl hrec, B.pre (hP.sub isC (fm_of_map hp.1)) (hD.sub isC hp.2.2.1 hp.1) hS⟩ rfl hlen hls hst (lv_room hcat) hdg hf) hP hD hS hp kk
theorem x_In {post : va_W → Prop} (B : Bd p s m args meth c cc nL ret own E A) (hM : Cn l y (.code y bytes maxL none) rm E (.ref b :: As) wc post) (hk : Kd y bytes maxL none n) (hl : Cond.methodLink own index y ∈ G) (hs : y.name = "<init>" ∧ Cond.instanceMethod y ∈ G) (hR : Rm rm R maxL mc ms) (hP : va_P E.1 classes ws H) (hD : va_D A ws) (hS : va_S A s.heap H locs) (hp : Sp ws wc wr isC isR) (hlen : As.length = n) (hls : ls.size = nL) (hst : st0 = As.reverse ++ .ref b :: rest) (hcat : (rest.map fun v => v.category).sum ≤ 8) (hdg : decode cc pc = .ok (.invokespecial index, 3)) (hf : cells + mc ≤ R.cells ∧ slots + ms ≤ R.slots)
    (kk : ∀ (wc' : va_W) (H1 : Heap) (locs1 : List Loc), post wc' → va_P E.1 classes (wr ++ wc') H1 → va_D A (wr ++ wc') → va_S A s.heap H1 locs1 → W p l e R s m args below meth c H1 locs1 (cells + mc) (slots + ms) Q (F0 m (pc + 3) ls rest)) : W p l e R s m args below meth c H locs cells slots Q (F0 m pc ls st0) :=
by
  obtain ⟨hR1, hR2, rfl, rfl⟩ := hR
  have hR : Rm rm R maxL rm.cells rm.slots := ⟨hR1, hR2, rfl, rfl⟩
  exact x_gon B (va_runI ⟨B.1, B.2.1, B.ml, B.ow, B.ts⟩ (hM H.size) ⟨x_cb B hk hl hR, hs.1, B.ts _ hs.2⟩ ⟨Pre.blind, B.pre (hP.sub isC (fm_of_map hp.1)) (hD.sub isC hp.2.2.1 hp.1) hS⟩ rfl hlen hls hst (lv_room hcat) hdg hf) hP hD hS hp kk
theorem x_INn {post : va_W → Prop} (B : Bd p s m args meth c cc nL ret own E A) (hM : Cn l y (.code y bytes maxL none) rm E (.ref b :: As) wc post) (hk : Kd y bytes maxL none n) (hl : Cond.methodLinkNest own index y host ∈ nests) (hs : y.name = "<init>" ∧ Cond.instanceMethod y ∈ G) (hR : Rm rm R maxL mc ms) (hP : va_P E.1 classes ws H) (hD : va_D A ws) (hS : va_S A s.heap H locs) (hp : Sp ws wc wr isC isR) (hlen : As.length = n) (hls : ls.size = nL) (hst : st0 = As.reverse ++ .ref b :: rest) (hcat : (rest.map fun v => v.category).sum ≤ 8) (hdg : decode cc pc = .ok (.invokespecial index, 3)) (hf : cells + mc ≤ R.cells ∧ slots + ms ≤ R.slots)
    (kk : ∀ (wc' : va_W) (H1 : Heap) (locs1 : List Loc), post wc' → va_P E.1 classes (wr ++ wc') H1 → va_D A (wr ++ wc') → va_S A s.heap H1 locs1 → W p l e R s m args below meth c H1 locs1 (cells + mc) (slots + ms) Q (F0 m (pc + 3) ls rest)) : W p l e R s m args below meth c H locs cells slots Q (F0 m pc ls st0) :=
by
  obtain ⟨hR1, hR2, rfl, rfl⟩ := hR
  have hR : Rm rm R maxL rm.cells rm.slots := ⟨hR1, hR2, rfl, rfl⟩
  exact x_gon B (va_runIN ⟨B.1, B.2.1, B.ml, B.ow, B.ts⟩ (hM H.size) ⟨x_cn B hk hl hR, hs.1, B.ts _ hs.2⟩ ⟨Pre.blind, B.pre (hP.sub isC (fm_of_map hp.1)) (hD.sub isC hp.2.2.1 hp.1) hS⟩ rfl hlen hls hst (lv_room hcat) hdg hf) hP hD hS hp kk
theorem x_Iv (B : Bd p s m args meth c cc nL ret own E A) (hM : Cv l y (.code y bytes maxL none) rm E (.ref b :: As) wc wc') (hk : Kd y bytes maxL none n) (hl : Cond.methodLink own index y ∈ G) (hs : y.name = "<init>" ∧ Cond.instanceMethod y ∈ G) (hR : Rm rm R maxL 0 0) (hP : va_P E.1 classes ws H) (hD : va_D A ws) (hS : va_S A s.heap H locs) (hp : Sp ws wc wr isC isR) (hlen : As.length = n) (hls : ls.size = nL) (hst : st0 = As.reverse ++ .ref b :: rest) (hcat : (rest.map fun v => v.category).sum ≤ 8) (hdg : decode cc pc = .ok (.invokespecial index, 3)) (hf : cells ≤ R.cells ∧ slots ≤ R.slots)
    (kk : ∀ (H1 : Heap) (locs1 : List Loc), va_P E.1 classes (wr ++ wc') H1 → va_D A (wr ++ wc') → va_S A s.heap H1 locs1 → W p l e R s m args below meth c H1 locs1 cells slots Q (F0 m (pc + 3) ls rest)) : W p l e R s m args below meth c H locs cells slots Q (F0 m pc ls st0) :=
  x_gov B (va_runI ⟨B.1, B.2.1, B.ml, B.ow, B.ts⟩ (hM H.size) ⟨x_cb B hk hl hR, hs.1, B.ts _ hs.2⟩ ⟨Pre.blind, B.pre (hP.sub isC (fm_of_map hp.1)) (hD.sub isC hp.2.2.1 hp.1) hS⟩ rfl hlen hls hst (lv_room hcat) hdg hf) hP hD hS hp kk
end BD
/-- a contract out of a walk of the body -/
theorem Cv.of {l : Launch} {y : MethodName} {cc : ByteArray} {nL : Nat} {rm : Room} {E : EE} {as : List Value} {ws ws' : va_W} (hy : plainName y.cls = true) (hn : (lg_sl as).length ≤ nL)
    (body : ∀ (p : Program) (e : Env) (s : State) (m : MethodId) (below : List Frame) (meth : Method) (c : Code) (A : Nat → Prop) (ls : Array Slot), Bd p s m as.toArray meth c cc nL none y.cls E A → va_P E.1 classes ws s.heap → va_D A ws → va_S A s.heap s.heap [] → lv_has ls nL (lv_args 0 as) →
      W p l e rm s m as.toArray below meth c s.heap [] 0 0 (MQ below (Wv E A ws') as.toArray s 0 0 A) (F0 m 0 ls [])) : Cv l y (.code y cc nL none) rm E as ws ws' := by
  intro sz
  refine Met.ofW (cc := cc) (maxL := nL) (ret := none) hy rfl ?_
  intro p e s m args below meth c s₁ B hml hv
  obtain ⟨rfl, hsz, hP, hD, hC⟩ := hv
  subst hsz
  have hts := atoms_spec (ws := .code y cc nL none :: G) B.pre
  rw [lg_entry_eq]
  exact body p e s m below meth c _ _ ⟨B.exec, B.bytes, B.returns, hml, findClass_of_methodNamed B.named, fun w h => hts w (List.mem_cons_of_mem _ h), B.notSynchronized, hC, fun q h => by
    rcases h with ⟨k, e, h⟩ | h
    · exact hD.2 k _ h
    · exact Nat.le_trans hC.2.2.1 h, fun q h => Or.inr h⟩ hP hD.self va_S.rf (lv_entry as hn)
theorem Ci.of {l : Launch} {y : MethodName} {cc : ByteArray} {nL : Nat} {ty : FieldType} {r : Int32} {rm : Room} {E : EE} {as : List Value} {ws ws' : va_W} (hy : plainName y.cls = true) (hn : (lg_sl as).length ≤ nL)
    (body : ∀ (p : Program) (e : Env) (s : State) (m : MethodId) (below : List Frame) (meth : Method) (c : Code) (A : Nat → Prop) (ls : Array Slot), Bd p s m as.toArray meth c cc nL (some ty) y.cls E A → va_P E.1 classes ws s.heap → va_D A ws → va_S A s.heap s.heap [] → lv_has ls nL (lv_args 0 as) →
      W p l e rm s m as.toArray below meth c s.heap [] 0 0 (MQ below (Wi E A r ws') as.toArray s 0 0 A) (F0 m 0 ls [])) : Ci l y (.code y cc nL (some ty)) rm E as r ws ws' := by
  intro sz
  refine Met.ofW (cc := cc) (maxL := nL) (ret := some ty) hy rfl ?_
  intro p e s m args below meth c s₁ B hml hv
  obtain ⟨rfl, hsz, hP, hD, hC⟩ := hv
  subst hsz
  have hts := atoms_spec (ws := .code y cc nL (some ty) :: G) B.pre
  rw [lg_entry_eq]
  exact body p e s m below meth c _ _ ⟨B.exec, B.bytes, B.returns, hml, findClass_of_methodNamed B.named, fun w h => hts w (List.mem_cons_of_mem _ h), B.notSynchronized, hC, fun q h => by
    rcases h with ⟨k, e, h⟩ | h
    · exact hD.2 k _ h
    · exact Nat.le_trans hC.2.2.1 h, fun q h => Or.inr h⟩ hP hD.self va_S.rf (lv_entry as hn)
theorem Cn.of {l : Launch} {y : MethodName} {cc : ByteArray} {nL : Nat} {post : va_W → Prop} {rm : Room} {E : EE} {as : List Value} {ws : va_W} (hy : plainName y.cls = true) (hn : (lg_sl as).length ≤ nL)
    (body : ∀ (p : Program) (e : Env) (s : State) (m : MethodId) (below : List Frame) (meth : Method) (c : Code) (A : Nat → Prop) (ls : Array Slot), Bd p s m as.toArray meth c cc nL none y.cls E A → meth.name = y.name → va_P E.1 classes ws s.heap → va_D A ws → va_S A s.heap s.heap [] → lv_has ls nL (lv_args 0 as) →
      W p l e rm s m as.toArray below meth c s.heap [] 0 0 (MQ below (Wn E A post) as.toArray s rm.cells rm.slots A) (F0 m 0 ls [])) : Cn l y (.code y cc nL none) rm E as ws post := by
  intro sz
  refine Met.ofW (cc := cc) (maxL := nL) (ret := none) hy rfl ?_
  intro p e s m args below meth c s₁ B hml hv
  obtain ⟨rfl, hsz, hP, hD, hC⟩ := hv
  subst hsz
  have hts := atoms_spec (ws := .code y cc nL none :: G) B.pre
  rw [lg_entry_eq]
  exact body p e s m below meth c _ _ ⟨B.exec, B.bytes, B.returns, hml, findClass_of_methodNamed B.named, fun w h => hts w (List.mem_cons_of_mem _ h), B.notSynchronized, hC, fun q h => by
    rcases h with ⟨k, e, h⟩ | h
    · exact hD.2 k _ h
    · exact Nat.le_trans hC.2.2.1 h, fun q h => Or.inr h⟩ (name_of_methodNamed B.named B.method).1 hP hD.self va_S.rf (lv_entry as hn)
section BN
variable {p : Program} {l : Launch} {e : Env} {R : Room} {s : State} {m : MethodId} {args : Array Value} {below : List Frame} {meth : Method} {c : Code} {H : Heap} {locs : List Loc} {cells slots : Nat} {Q : State → Prop}
variable {cc : ByteArray} {nL : Nat} {ret : Option FieldType} {own : String} {E : EE} {A : Nat → Prop} {ws : va_W} {pc : Nat} {ls : Array Slot} {rest : List Value}
/-- a new array of N ints, all 0 -/
theorem x_newa (B : Bd p s m args meth c cc nL ret own E A) (hP : va_P E.1 classes ws H) (hD : va_D A ws) (hS : va_S A s.heap H locs) (harr : Cond.arrayClass .int ∈ G) {n : Int32} (N : Nat) (hn : n = nI N) (hN : N ≤ 1000) (hcells : cells + 1 ≤ R.cells) (hslots : slots + N ≤ R.slots) (hdg : decode cc pc = .ok (.newarray .int, 2))
    (kk : ∀ (q : Nat) (H1 : Heap), va_P E.1 classes (ws ++ [(q, .inl (E.2.1, N, .inl (fun _ => 0)))]) H1 → va_D A (ws ++ [(q, .inl (E.2.1, N, .inl (fun _ => 0)))]) → va_S A s.heap H1 locs → W p l e R s m args below meth c H1 locs (cells + 1) (slots + N) Q (F0 m (pc + 2) ls (.ref q :: rest))) : W p l e R s m args below meth c H locs cells slots Q (F0 m pc ls (.int n :: rest)) := by
  subst hn
  refine va_newa (D := E.1) (atype := .int) (ty := .int) (N' := N) (a0 := (N, .inl (fun _ => 0))) B.1 B.2.1 (B.ts _ harr) rfl B.cx.1 hP hD hS B.ha (fun _ => rfl) (nI_pos (by omega)) (nI_clamp (by omega)) (by rw [show componentBytes .int = 4 from rfl]; omega) hcells hslots hdg (fun q cA H1 hK hP hD hS => ?_)
  have h0 := va_nm_int (hK.2 0 _ rfl).2
  have h1 := va_nm_int (hK.2 2 (cA, .int) rfl).2
  have e : cA = E.2.1 := Option.some.inj (h1.symm.trans h0)
  subst e
  exact kk q H1 hP hD hS
/-- a new array of N booleans, all false -/
theorem x_newz (B : Bd p s m args meth c cc nL ret own E A) (hP : va_P E.1 classes ws H) (hD : va_D A ws) (hS : va_S A s.heap H locs) (harr : Cond.arrayClass .boolean ∈ G) {n : Int32} (N : Nat) (hn : n = nI N) (hN : N ≤ 1000) (hcells : cells + 1 ≤ R.cells) (hslots : slots + N ≤ R.slots) (hdg : decode cc pc = .ok (.newarray .boolean, 2))
    (kk : ∀ (q : Nat) (H1 : Heap), va_P E.1 classes (ws ++ [(q, .inl (E.2.2.2.2, N, .inl (fun _ => 0)))]) H1 → va_D A (ws ++ [(q, .inl (E.2.2.2.2, N, .inl (fun _ => 0)))]) → va_S A s.heap H1 locs → W p l e R s m args below meth c H1 locs (cells + 1) (slots + N) Q (F0 m (pc + 2) ls (.ref q :: rest))) : W p l e R s m args below meth c H locs cells slots Q (F0 m pc ls (.int n :: rest)) := by
  subst hn
  refine va_newa (D := E.1) (atype := .boolean) (ty := .boolean) (N' := N) (a0 := (N, .inl (fun _ => 0))) B.1 B.2.1 (B.ts _ harr) rfl B.cx.1 hP hD hS B.ha (fun _ => rfl) (nI_pos (by omega)) (nI_clamp (by omega)) (by rw [show componentBytes .boolean = 1 from rfl]; omega) hcells hslots hdg (fun q cA H1 hK hP hD hS => ?_)
  have h0 := va_nm_boolean (hK.2 1 _ rfl).2
  have h1 := va_nm_boolean (hK.2 2 (cA, .boolean) rfl).2
  have e : cA = E.2.2.2.2 := Option.some.inj (h1.symm.trans h0)
  subst e
  exact kk q H1 hP hD hS
/-- arrays of booleans -/
theorem x_zld (B : Bd p s m args meth c cc nL ret own E A) (hP : va_P E.1 classes ws H) (q0 : Nat) {a n : Nat} {f : Nat → Int32} (he : ws[q0]? = some (a, .inl (E.2.2.2.2, n, .inl f))) {i : Int32} (k : Nat) (hi : i = nI k) (hk : k < n) (hn : n < 2 ^ 31) (hdg : decode cc pc = .ok (.baload, 1))
    (kk : W p l e R s m args below meth c H locs cells slots Q (F0 m (pc + 1) ls (.int (f k) :: rest))) : W p l e R s m args below meth c H locs cells slots Q (F0 m pc ls (.int i :: .ref a :: rest)) := by
  subst hi
  refine va_zald (D := E.1) B.1 B.2.1 B.cx.1 hP q0 1 he rfl (vp_in_nI hk hn) hdg ?_
  rw [nI_clamp (Nat.lt_trans hk hn)]
  exact kk
theorem x_zst (B : Bd p s m args meth c cc nL ret own E A) (hP : va_P E.1 classes ws H) (hD : va_D A ws) (hS : va_S A s.heap H locs) (q0 : Nat) {a n : Nat} {f : Nat → Int32} (he : ws[q0]? = some (a, .inl (E.2.2.2.2, n, .inl f))) {i x : Int32} (k : Nat) (hi : i = nI k) (hk : k < n) (hn : n < 2 ^ 31) (hx : vp_nar .boolean x = x) (hdg : decode cc pc = .ok (.bastore, 1))
    (kk : ∀ (H1 : Heap) (locs1 : List Loc), va_P E.1 classes (ws.set q0 (a, .inl (E.2.2.2.2, n, .inl (upd f k x)))) H1 → va_D A (ws.set q0 (a, .inl (E.2.2.2.2, n, .inl (upd f k x)))) → va_S A s.heap H1 locs1 → W p l e R s m args below meth c H1 locs1 cells slots Q (F0 m (pc + 1) ls rest)) : W p l e R s m args below meth c H locs cells slots Q (F0 m pc ls (.int x :: .int i :: .ref a :: rest)) := by
  subst hi
  refine va_zast (D := E.1) B.1 B.2.1 B.cx.1 hP hD hS q0 1 he rfl (vp_in_nI hk hn) hdg ?_
  rw [nI_clamp (Nat.lt_trans hk hn), hx]
  exact kk
/-- a new object -/
theorem x_new (B : Bd p s m args meth c cc nL ret own E A) (hP : va_P E.1 classes ws H) (hD : va_D A ws) (hS : va_S A s.heap H locs) {C : String} {T : u_T} {N ci index : Nat} (hc : classes[ci]? = some (C, T, N)) (hin : ∀ w ∈ u_ws C T N, w ∈ G) (ty : Nat → FieldType) (hty : ∀ k, k < N → parseFieldDescriptor (T k).2.2.1 = some (ty k)) (hl : Cond.classLink own index C ∈ G ∧ Cond.instantiable C N ∈ G ∧ Cond.initialized C ∈ G) (fs : List Value) (hfs : ∀ j, j < N → defaultValue (ty j) = vp_V fs j) (hcells : cells + 1 ≤ R.cells) (hslots : slots + N ≤ R.slots) (hdg : decode cc pc = .ok (.new index, 3))
    (kk : ∀ (q : Nat) (H1 : Heap), va_P E.1 classes (ws ++ [(q, .inr (ci, fs))]) H1 → va_D A (ws ++ [(q, .inr (ci, fs))]) → va_S A s.heap H1 locs → W p l e R s m args below meth c H1 locs (cells + 1) (slots + N) Q (F0 m (pc + 3) ls (.ref q :: rest))) : W p l e R s m args below meth c H locs cells slots Q (F0 m pc ls rest) :=
  va_new (D := E.1) B.1 B.2.1 B.ts hin ty hty B.ow (B.ts _ hl.1) (B.ts _ hl.2.1) (B.ts _ hl.2.2) B.cx.1 hP hD hS B.ha hc hfs hcells hslots hdg kk
/-- the constructor of Object -/
theorem x_obj (B : Bd p s m args meth c cc nL ret own E A) {index a : Nat} (hl : Cond.methodLink own index objectInit ∈ G) (ho : Cond.instanceMethod objectInit ∈ G ∧ Cond.code objectInit ⟨#[0xb1]⟩ 1 none ∈ G) (hls : ls.size = nL) (hcat : (rest.map fun v => v.category).sum ≤ 8) (hR : 1 ≤ R.frames ∧ 20 ≤ R.locals) (hdg : decode cc pc = .ok (.invokespecial index, 3))
    (kk : W p l e R s m args below meth c H locs cells slots Q (F0 m (pc + 3) ls rest)) : W p l e R s m args below meth c H locs cells slots Q (F0 m pc ls (.ref a :: rest)) :=
  W.objInit B.1 B.2.1 B.ow (B.ts _ hl) (B.ts _ ho.1) (B.ts _ ho.2) rfl (by rw [B.ml]; exact hls) rfl hdg hR.1 (Nat.le_trans (Nat.add_le_add_right (lv_room hcat) 12) hR.2) kk
/-- System.arraycopy(a, 0, b, 0, n) between two arrays of ints -/
theorem x_copy (B : Bd p s m args meth c cc nL ret own E A) (hP : va_P E.1 classes ws H) (hD : va_D A ws) (hS : va_S A s.heap H locs) {index : Nat} (hl : Cond.methodLink own index arraycopyName ∈ G) (hw : Cond.native arraycopyName ∈ G ∧ Cond.static arraycopyName ∈ G ∧ Cond.initialized "java/lang/System" ∈ G) (hls : ls.size = nL) (q0 q1 : Nat) {a0 a1 n0 n1 : Nat} {f g : Nat → Int32} (h0 : ws[q0]? = some (a0, .inl (E.2.1, n0, .inl f))) (h1 : ws[q1]? = some (a1, .inl (E.2.1, n1, .inl g))) {n : Int32} (N : Nat) (hn : n = nI N) (hN : N < 2 ^ 31) (hn0 : N ≤ n0) (hn1 : N ≤ n1) (hfr : 1 ≤ R.frames) (hlo : (rest.map fun v => v.category).sum + (nativeFrameWords "java/lang/System" "arraycopy" 5 + 11) ≤ R.locals) (hdg : decode cc pc = .ok (.invokestatic index, 3))
    (kk : ∀ (H1 : Heap) (locs1 : List Loc), va_P E.1 classes (ws.set q1 (a1, .inl (E.2.1, n1, .inl (va_cpy f g 0 0 N)))) H1 → va_D A (ws.set q1 (a1, .inl (E.2.1, n1, .inl (va_cpy f g 0 0 N)))) → va_S A s.heap H1 locs1 → W p l e R s m args below meth c H1 locs1 cells slots Q (F0 m (pc + 3) ls rest)) : W p l e R s m args below meth c H locs cells slots Q (F0 m pc ls (.int n :: .int 0 :: .ref a1 :: .int 0 :: .ref a0 :: rest)) := by
  subst hn
  have z0 : (0 : Int32).toNatClampNeg = 0 := rfl
  refine va_copyi (D := E.1) B.1 B.2.1 (by rw [B.ml]; exact hls.symm) B.ow (B.ts _ hl) (B.ts _ hw.1) (B.ts _ hw.2.1) (B.ts _ hw.2.2) B.cx.1 hP hD hS q0 q1 0 0 h0 h1 rfl rfl rfl (by decide) (by decide) (nI_pos hN) (by rw [z0, nI_clamp hN]; omega) (by rw [z0, nI_clamp hN]; omega) (fun i _ => rfl) hfr hlo hdg ?_
  rw [z0, nI_clamp hN]
  exact kk
end BN
end
section
/-! Bytes and small numbers. -/
def By (x : Int32) : Prop := x = nI x.toNatClampNeg ∧ x.toNatClampNeg < 256
theorem By.of {j : Nat} (h : j < 256) : By (nI j) := by
  unfold By
  rw [nI_clamp (by omega)]
  exact ⟨rfl, h⟩
theorem By.ex {x : Int32} (h : By x) : ∃ j : Nat, j < 256 ∧ x = nI j := ⟨_, h.2, h.1⟩
theorem by_all {P : Int32 → Prop} (h : ∀ j : Nat, j < 256 → P (nI j)) {x : Int32} (hx : By x) : P x := by
  rw [hx.1]
  exact h _ hx.2
theorem nI_xor (a b : Nat) : nI a ^^^ nI b = nI (a ^^^ b) := by
  apply Int32.toBitVec_inj.mp
  show BitVec.ofNat 32 a ^^^ BitVec.ofNat 32 b = BitVec.ofNat 32 (a ^^^ b)
  rw [BitVec.ofNat_xor]
theorem By.xor {x y : Int32} (hx : By x) (hy : By y) : By (x ^^^ y) := by
  rw [hx.1, hy.1, nI_xor]
  exact By.of (Nat.xor_lt_two_pow (n := 8) hx.2 hy.2)
theorem By.upd {f : Nat → Int32} {n k : Nat} {x : Int32} (hf : ∀ i, i < n → By (f i)) (hx : By x) : ∀ i, i < n → By (upd f k x i) := by
  intro i hi
  by_cases h : i = k
  · rw [h, pk_us]; exact hx
  · rw [pk_un h]; exact hf i hi
theorem By.cpy {f g : Nat → Int32} {n0 n1 N : Nat} (hN : N ≤ n0) (hf : ∀ i, i < n0 → By (f i)) (hg : ∀ i, i < n1 → By (g i)) : ∀ i, i < n1 → By (va_cpy f g 0 0 N i) := by
  intro i hi
  by_cases h : i < N
  · rw [pk_cpy_in (Nat.zero_le _) (by omega)]; exact hf _ (by omega)
  · rw [pk_cpy_out (by omega)]; exact hg i hi
theorem by0 {n : Nat} : ∀ i, i < n → By ((fun _ : Nat => (0 : Int32)) i) := fun _ _ => By.of (j := 0) (by decide)
theorem na_add {x y : Int32} {a b : Nat} (hx : x = nI a) (hy : y = nI b) : x + y = nI (a + b) := by rw [hx, hy, nI_add]
theorem na_sub {x y : Int32} {a b : Nat} (hx : x = nI a) (hy : y = nI b) (h : b ≤ a) : x - y = nI (a - b) := by rw [hx, hy, pk_sub h]
theorem na_mul {x y : Int32} {a b : Nat} (hx : x = nI a) (hy : y = nI b) : x * y = nI (a * b) := by rw [hx, hy, pk_mul]
theorem na_rem {x y : Int32} {a b : Nat} (hx : x = nI a) (hy : y = nI b) (ha : a < 2 ^ 31) (h0 : 0 < b) (hb : b < 2 ^ 31) : x - x / y * y = nI (a % b) := by rw [hx, hy, pk_rem ha h0 hb]
theorem ii_1 (i : Nat) : nI i + Int32.ofInt 1 = nI (i + 1) := nI_1 i
theorem ii_n (d i : Nat) (hd : Int32.ofInt (d : Int) = nI d) : nI i + Int32.ofInt (d : Int) = nI (i + d) := by rw [hd, nI_add]
theorem ge_t {a b : Nat} (h : nI b ≤ nI a) (ha : a < 2 ^ 31) (hb : b < 2 ^ 31) : b ≤ a := (nI_leI hb ha).mp h
theorem ge_f {a b : Nat} (h : ¬ nI b ≤ nI a) (ha : a < 2 ^ 31) (hb : b < 2 ^ 31) : a < b := Nat.not_le.mp (fun q => h ((nI_leI hb ha).mpr q))
theorem lt_t {a b : Nat} (h : nI a < nI b) (ha : a < 2 ^ 31) (hb : b < 2 ^ 31) : a < b := (nI_ltI ha hb).mp h
theorem lt_f {a b : Nat} (h : ¬ nI a < nI b) (ha : a < 2 ^ 31) (hb : b < 2 ^ 31) : b ≤ a := Nat.not_lt.mp (fun q => h ((nI_ltI ha hb).mpr q))
theorem fS_by : ∀ j, j < 256 → By (fS j) := by
  have h : ∀ j : Nat, j < 256 → (fS j = nI (fS j).toNatClampNeg ∧ (fS j).toNatClampNeg < 256) := by decide +kernel
  exact h
theorem fU_by : ∀ j, j < 256 → By (fU j) := by
  have h : ∀ j : Nat, j < 256 → (fU j = nI (fU j).toNatClampNeg ∧ (fU j).toNatClampNeg < 256) := by decide +kernel
  exact h
/-! What the class's methods do to their arrays, place by place as the code does it. -/
/-- xor: sixteen places of f with those of g from fr on -/
def xorM (g : Nat → Int32) (fr : Nat) (f : Nat → Int32) : Nat → Nat → Int32
  | 0 => f
  | i + 1 => upd (xorM g fr f i) i (xorM g fr f i i ^^^ g (fr + i))
theorem xorM_by {g f : Nat → Int32} {fr n : Nat} (hg : ∀ i, i < n → By (g i)) (hf : ∀ i, i < 16 → By (f i)) : ∀ k, k ≤ 16 → fr + k ≤ n → ∀ i, i < 16 → By (xorM g fr f k i)
  | 0, _, _ => hf
  | k + 1, h1, h2 => By.upd (xorM_by hg hf k (by omega) (by omega)) ((xorM_by hg hf k (by omega) (by omega) k (by omega)).xor (hg _ (by omega)))
def plainM (a : Nat) (f : Nat → Int32) : Nat → Nat → Int32
  | 0 => f
  | r + 1 => upd (plainM a f r) (a + r) (plainM a f r (a - 16 + r) ^^^ plainM a f r (a - 4 + r))
theorem plainM_by {a : Nat} {f : Nat → Int32} {n : Nat} (ha : a + 4 ≤ n) (hf : ∀ i, i < n → By (f i)) : ∀ k, k ≤ 4 → ∀ i, i < n → By (plainM a f k i)
  | 0, _ => hf
  | k + 1, h => By.upd (plainM_by ha hf k (by omega)) ((plainM_by ha hf k (by omega) _ (by omega)).xor (plainM_by ha hf k (by omega) _ (by omega)))
def turnM (a : Nat) (f : Nat → Int32) : Nat → Nat → Int32
  | 0 => f
  | r + 1 => upd (turnM a f r) (a + r) (turnM a f r (a - 16 + r) ^^^ fS (turnM a f r (a - 4 + (r + 1) % 4)).toNatClampNeg)
theorem turnM_by {a : Nat} {f : Nat → Int32} {n : Nat} (ha : a + 4 ≤ n) (ha4 : 4 ≤ a) (hf : ∀ i, i < n → By (f i)) : ∀ k, k ≤ 4 → ∀ i, i < n → By (turnM a f k i)
  | 0, _ => hf
  | k + 1, h => By.upd (turnM_by ha ha4 hf k (by omega)) ((turnM_by ha ha4 hf k (by omega) _ (by omega)).xor (fS_by _ (turnM_by ha ha4 hf k (by omega) _ (by omega)).2))
def turnW (a : Nat) (pw : Int32) (f : Nat → Int32) : Nat → Int32 := upd (turnM a f 4) a (turnM a f 4 a ^^^ pw)
def twM (a : Int32) : Int32 := if a < 128 then a <<< ((1 : Int32) &&& 31) else (a <<< ((1 : Int32) &&& 31)) ^^^ 283
theorem twM_by {x : Int32} (h : By x) : By (twM x) := by
  have k : ∀ j : Nat, j < 256 → (twM (nI j) = nI (twM (nI j)).toNatClampNeg ∧ (twM (nI j)).toNatClampNeg < 256) := by decide +kernel
  exact by_all (P := fun z => By (twM z)) k h
/-- the words: 4 j places more, and the next power -/
def wordM (f : Nat → Int32) : Nat → (Nat → Int32) × Int32
  | 0 => (f, 1)
  | j + 1 => if (16 + 4 * j) % 16 = 0 then (turnW (16 + 4 * j) (wordM f j).2 (wordM f j).1, twM (wordM f j).2) else (plainM (16 + 4 * j) (wordM f j).1 4, (wordM f j).2)
theorem wordM_by {f : Nat → Int32} (hf : ∀ i, i < 176 → By (f i)) : ∀ j, j ≤ 40 → (∀ i, i < 176 → By ((wordM f j).1 i)) ∧ By (wordM f j).2
  | 0, _ => ⟨hf, By.of (j := 1) (by decide)⟩
  | j + 1, h => by
    obtain ⟨h1, h2⟩ := wordM_by hf j (by omega)
    unfold wordM
    split
    · exact ⟨By.upd (turnM_by (by omega) (by omega) h1 4 (by decide)) ((turnM_by (by omega) (by omega) h1 4 (by decide) _ (by omega)).xor h2), twM_by h2⟩
    · exact ⟨plainM_by (by omega) h1 4 (by decide), h2⟩
def foldM (f : Nat → Int32) : Int32 := if f 0 < 128 then 0 else 135
def dblE (x y : Int32) : Int32 := (x <<< ((1 : Int32) &&& 31) &&& 255) ||| y >>> ((7 : Int32) &&& 31)
theorem and255_by (x : Int32) : By (x &&& 255) := by
  obtain ⟨j, hj, e⟩ := pk_andE x (m := 255) 8 (by decide)
  rw [e]
  exact By.of hj
theorem nI_or (a b : Nat) : nI a ||| nI b = nI (a ||| b) := by
  apply Int32.toBitVec_inj.mp
  show BitVec.ofNat 32 a ||| BitVec.ofNat 32 b = BitVec.ofNat 32 (a ||| b)
  rw [BitVec.ofNat_or]
theorem By.or {x y : Int32} (hx : By x) (hy : By y) : By (x ||| y) := by
  rw [hx.1, hy.1, nI_or]
  exact By.of (Nat.or_lt_two_pow (n := 8) hx.2 hy.2)
theorem dblE_by {x y : Int32} (hy : By y) : By (dblE x y) := by
  refine (and255_by _).or ?_
  have k : ∀ j : Nat, j < 256 → ((nI j >>> ((7 : Int32) &&& 31)) = nI (nI j >>> ((7 : Int32) &&& 31)).toNatClampNeg ∧ (nI j >>> ((7 : Int32) &&& 31)).toNatClampNeg < 256) := by decide +kernel
  exact by_all (P := fun z => By (z >>> ((7 : Int32) &&& 31))) k hy
/-- doubled into another row -/
def dblM (f : Nat → Int32) (g : Nat → Int32) : Nat → Nat → Int32
  | 0 => g
  | i + 1 => upd (dblM f g i) i (dblE (f i) (f (i + 1)))
def dblW (f g : Nat → Int32) : Nat → Int32 := upd (dblM f g 15) 15 ((f 15 <<< ((1 : Int32) &&& 31) &&& 255) ^^^ foldM f)
/-- doubled into itself -/
def dblS (f : Nat → Int32) : Nat → Nat → Int32
  | 0 => f
  | i + 1 => upd (dblS f i) i (dblE (dblS f i i) (dblS f i (i + 1)))
def dblA (f : Nat → Int32) : Nat → Int32 := upd (dblS f 15) 15 ((dblS f 15 15 <<< ((1 : Int32) &&& 31) &&& 255) ^^^ foldM f)
theorem foldM_by (f : Nat → Int32) : By (foldM f) := by
  unfold foldM
  split
  · exact By.of (j := 0) (by decide)
  · exact By.of (j := 135) (by decide)
theorem dblM_by {f g : Nat → Int32} (hf : ∀ i, i < 16 → By (f i)) (hg : ∀ i, i < 16 → By (g i)) : ∀ k, k ≤ 15 → ∀ i, i < 16 → By (dblM f g k i)
  | 0, _ => hg
  | k + 1, h => By.upd (dblM_by hf hg k (by omega)) (dblE_by (hf _ (by omega)))
theorem dblW_by {f g : Nat → Int32} (hf : ∀ i, i < 16 → By (f i)) (hg : ∀ i, i < 16 → By (g i)) : ∀ i, i < 16 → By (dblW f g i) := By.upd (dblM_by hf hg 15 (by decide)) ((and255_by _).xor (foldM_by f))
theorem dblS_by {f : Nat → Int32} (hf : ∀ i, i < 16 → By (f i)) : ∀ k, k ≤ 15 → ∀ i, i < 16 → By (dblS f k i)
  | 0, _ => hf
  | k + 1, h => By.upd (dblS_by hf k (by omega)) (dblE_by (dblS_by hf k (by omega) _ (by omega)))
theorem dblA_by {f : Nat → Int32} (hf : ∀ i, i < 16 → By (f i)) : ∀ i, i < 16 → By (dblA f i) := By.upd (dblS_by hf 15 (by decide)) ((and255_by _).xor (foldM_by f))
def srcM (i : Nat) : Nat := (i + 4 * (i % 4)) % 16
/-- replaceAndMove's row of moved bytes -/
def subM (f g : Nat → Int32) : Nat → Nat → Int32
  | 0 => g
  | i + 1 => upd (subM f g i) i (fS (f (srcM i)).toNatClampNeg)
theorem subM_by {f g : Nat → Int32} (hf : ∀ i, i < 16 → By (f i)) (hg : ∀ i, i < 16 → By (g i)) : ∀ k, k ≤ 16 → ∀ i, i < 16 → By (subM f g k i)
  | 0, _ => hg
  | k + 1, h => By.upd (subM_by hf hg k (by omega)) (fS_by _ (hf _ (Nat.mod_lt _ (by decide))).2)
def unsM (f g : Nat → Int32) : Nat → Nat → Int32
  | 0 => g
  | i + 1 => upd (unsM f g i) (srcM i) (fU (f i).toNatClampNeg)
theorem unsM_by {f g : Nat → Int32} (hf : ∀ i, i < 16 → By (f i)) (hg : ∀ i, i < 16 → By (g i)) : ∀ k, k ≤ 16 → ∀ i, i < 16 → By (unsM f g k i)
  | 0, _ => hg
  | k + 1, h => By.upd (unsM_by hf hg k (by omega)) (fU_by _ (hf _ (by omega)).2)
def mxE (a b c d : Int32) : Int32 := twM (a ^^^ b) ^^^ b ^^^ c ^^^ d
theorem mxE_by {a b c d : Int32} (ha : By a) (hb : By b) (hc : By c) (hd : By d) : By (mxE a b c d) := ((twM_by (ha.xor hb)).xor hb |>.xor hc).xor hd
/-- mix: four places at a time -/
def mixM (f : Nat → Int32) : Nat → Nat → Int32
  | 0 => f
  | q + 1 => upd (upd (upd (upd (mixM f q) (4 * q) (mxE (mixM f q (4 * q)) (mixM f q (4 * q + 1)) (mixM f q (4 * q + 2)) (mixM f q (4 * q + 3)))) (4 * q + 1) (mxE (mixM f q (4 * q + 1)) (mixM f q (4 * q + 2)) (mixM f q (4 * q + 3)) (mixM f q (4 * q)))) (4 * q + 2) (mxE (mixM f q (4 * q + 2)) (mixM f q (4 * q + 3)) (mixM f q (4 * q)) (mixM f q (4 * q + 1)))) (4 * q + 3) (mxE (mixM f q (4 * q + 3)) (mixM f q (4 * q)) (mixM f q (4 * q + 1)) (mixM f q (4 * q + 2)))
theorem mixM_by {f : Nat → Int32} (hf : ∀ i, i < 16 → By (f i)) : ∀ k, k ≤ 4 → ∀ i, i < 16 → By (mixM f k i)
  | 0, _ => hf
  | k + 1, h => by
    have h0 := mixM_by hf k (by omega)
    have a0 := h0 (4 * k) (by omega)
    have a1 := h0 (4 * k + 1) (by omega)
    have a2 := h0 (4 * k + 2) (by omega)
    have a3 := h0 (4 * k + 3) (by omega)
    exact By.upd (By.upd (By.upd (By.upd h0 (mxE_by a0 a1 a2 a3)) (mxE_by a1 a2 a3 a0)) (mxE_by a2 a3 a0 a1)) (mxE_by a3 a0 a1 a2)
abbrev mixW (f : Nat → Int32) : Nat → Int32 := mixM f 4
/-- forth: (the block, the moved row) after k rounds -/
def forM (w : Nat → Int32) (f g : Nat → Int32) : Nat → (Nat → Int32) × (Nat → Int32)
  | 0 => (xorM w 0 f 16, g)
  | k + 1 => (xorM w (16 * (k + 1)) (if k + 1 < 10 then mixW (va_cpy (subM (forM w f g k).1 (forM w f g k).2 16) (forM w f g k).1 0 0 16) else va_cpy (subM (forM w f g k).1 (forM w f g k).2 16) (forM w f g k).1 0 0 16) 16, subM (forM w f g k).1 (forM w f g k).2 16)
theorem forM_by {w f g : Nat → Int32} (hw : ∀ i, i < 176 → By (w i)) (hf : ∀ i, i < 16 → By (f i)) (hg : ∀ i, i < 16 → By (g i)) : ∀ k, k ≤ 10 → (∀ i, i < 16 → By ((forM w f g k).1 i)) ∧ ∀ i, i < 16 → By ((forM w f g k).2 i)
  | 0, _ => ⟨xorM_by hw hf 16 (by decide) (by decide), hg⟩
  | k + 1, h => by
    obtain ⟨h1, h2⟩ := forM_by hw hf hg k (by omega)
    have h3 := subM_by h1 h2 16 (by decide)
    have h4 := By.cpy (N := 16) (by decide) h3 h1
    unfold forM
    refine ⟨xorM_by hw ?_ 16 (by decide) (by omega), h3⟩
    split
    · exact mixM_by h4 4 (by decide)
    · exact h4
/-- back: after j rounds from the last -/
def bckM (w : Nat → Int32) (f g : Nat → Int32) : Nat → (Nat → Int32) × (Nat → Int32)
  | 0 => (f, g)
  | j + 1 => (va_cpy (unsM (if 10 - j < 10 then mixW (mixW (mixW (xorM w (16 * (10 - j)) (bckM w f g j).1 16))) else xorM w (16 * (10 - j)) (bckM w f g j).1 16) (bckM w f g j).2 16) (if 10 - j < 10 then mixW (mixW (mixW (xorM w (16 * (10 - j)) (bckM w f g j).1 16))) else xorM w (16 * (10 - j)) (bckM w f g j).1 16) 0 0 16, unsM (if 10 - j < 10 then mixW (mixW (mixW (xorM w (16 * (10 - j)) (bckM w f g j).1 16))) else xorM w (16 * (10 - j)) (bckM w f g j).1 16) (bckM w f g j).2 16)
def bckW (w f g : Nat → Int32) : Nat → Int32 := xorM w 0 (bckM w f g 10).1 16
theorem bckM_by {w f g : Nat → Int32} (hw : ∀ i, i < 176 → By (w i)) (hf : ∀ i, i < 16 → By (f i)) (hg : ∀ i, i < 16 → By (g i)) : ∀ k, k ≤ 10 → (∀ i, i < 16 → By ((bckM w f g k).1 i)) ∧ ∀ i, i < 16 → By ((bckM w f g k).2 i)
  | 0, _ => ⟨hf, hg⟩
  | k + 1, h => by
    obtain ⟨h1, h2⟩ := bckM_by hw hf hg k (by omega)
    have h3 := xorM_by (fr := 16 * (10 - k)) hw h1 16 (by decide) (by omega)
    have h4 : ∀ i, i < 16 → By ((if 10 - k < 10 then mixW (mixW (mixW (xorM w (16 * (10 - k)) (bckM w f g k).1 16))) else xorM w (16 * (10 - k)) (bckM w f g k).1 16) i) := by
      split
      · exact mixM_by (mixM_by (mixM_by h3 4 (by decide)) 4 (by decide)) 4 (by decide)
      · exact h3
    have h5 := unsM_by h4 h2 16 (by decide)
    unfold bckM
    exact ⟨By.cpy (N := 16) (by decide) h5 h4, h5⟩
theorem bckW_by {w f g : Nat → Int32} (hw : ∀ i, i < 176 → By (w i)) (hf : ∀ i, i < 16 → By (f i)) (hg : ∀ i, i < 16 → By (g i)) : ∀ i, i < 16 → By (bckW w f g i) := xorM_by hw (bckM_by hw hf hg 10 (by decide)).1 16 (by decide) (by decide)
end
section
/-- Arrays.fill -/
def fillM (x : Int32) (f : Nat → Int32) : Nat → Nat → Int32
  | 0 => f
  | i + 1 => upd (fillM x f i) i x
set_option maxHeartbeats 4000000 in
set_option maxRecDepth 100000 in
theorem lp_fill {p : Program} {l : Launch} {e : Env} {R : Room} {s : State} {m : MethodId} {args : Array Value} {below : List Frame} {meth : Method} {c : Code} {cells slots : Nat} {Q : State → Prop} {E : EE} {A : Nat → Prop} {a n : Nat} {f : Nat → Int32} {x : Int32} (B : Bd p s m args meth c cJ7_fill_53178 4 none RJ7 E A) (hf : cells ≤ R.cells ∧ slots ≤ R.slots) (hn : n < 2 ^ 31)
    (kk : ∀ (H : Heap) (locs : List Loc) (ls : Array Slot), va_P E.1 classes [(a, .inl (E.2.1, n, .inl (fillM x f n)))] H → va_D A [(a, .inl (E.2.1, n, .inl (fillM x f n)))] → va_S A s.heap H locs → lv_has ls 4 [(2, .int (nI n)), (0, .ref a), (1, .int x), (3, .int (nI n))] → W p l e R s m args below meth c H locs cells slots Q (F0 m 20 ls [])) :
    ∀ (fu i : Nat), i ≤ n → n < i + fu → ∀ (H : Heap) (locs : List Loc) (ls : Array Slot), va_P E.1 classes [(a, .inl (E.2.1, n, .inl (fillM x f i)))] H → va_D A [(a, .inl (E.2.1, n, .inl (fillM x f i)))] → va_S A s.heap H locs → lv_has ls 4 [(2, .int (nI i)), (0, .ref a), (1, .int x), (3, .int (nI n))] → W p l e R s m args below meth c H locs cells slots Q (F0 m 5 ls []) := by
  have hx := B.1
  have hb := B.2.1
  intro fu
  induction fu with
  | zero =>
    intro i h1 h2
    exact absurd h2 (by omega)
  | succ fu ih =>
    intro i hi hin H locs ls hP hD hS hl
    refine lv_iload_n hx hb dJ7_fill_53178_5 rfl (lv_at hl 0 rfl) ?_
    refine lv_iload_n hx hb dJ7_fill_53178_6 rfl (lv_at hl 3 rfl) ?_
    refine lv_icmp_ge (tgt := 20) hx hb dJ7_fill_53178_7 (by decide) (fun c_7 => ?_) (fun c_7 => ?_)
    · have hj : i = n := by have := ge_t c_7 (by omega) (by omega); omega
      subst hj
      exact kk _ _ _ hP hD hS hl
    · have hj : i < n := ge_f c_7 (by omega) (by omega)
      refine lv_aload_n hx hb dJ7_fill_53178_10 rfl (lv_at hl 1 rfl) ?_
      refine lv_iload_n hx hb dJ7_fill_53178_11 rfl (lv_at hl 0 rfl) ?_
      refine lv_iload_n hx hb dJ7_fill_53178_12 rfl (lv_at hl 2 rfl) ?_
      refine x_ast B hP hD hS 0 rfl i rfl (by omega) (by omega) dJ7_fill_53178_13 (fun H locs hP hD hS => ?_)
      have hP : va_P E.1 classes [(a, .inl (E.2.1, n, .inl (upd (fillM x f i) i x)))] _ := hP
      have hD : va_D A [(a, .inl (E.2.1, n, .inl (upd (fillM x f i) i x)))] := hD
      refine lv_iinc (v := (nI (i + 1))) (lv' := [(2, .int (nI (i + 1))), (0, .ref a), (1, .int x), (3, .int (nI n))]) hx hb dJ7_fill_53178_14 hl (k := 0) rfl (ii_1 i) (by decide) rfl (fun ls hl => ?_)
      refine lv_goto (tgt := 5) hx hb dJ7_fill_53178_17 (by decide) ?_
      have hP : va_P E.1 classes [(a, .inl (E.2.1, n, .inl (fillM x f (i + 1))))] _ := hP
      have hD : va_D A [(a, .inl (E.2.1, n, .inl (fillM x f (i + 1))))] := hD
      exact ih (i + 1) (by omega) (by omega) _ _ _ hP hD hS (lv_sub hl [0, 1, 2, 3] rfl)
set_option maxHeartbeats 4000000 in
set_option maxRecDepth 100000 in
/-- Arrays.fill -/
theorem c_J7_fill_53178 (l : Launch) (E : EE) (a n : Nat) (f : Nat → Int32) (x : Int32) (hn : n < 2 ^ 31) : Cv l yJ7_fill_53178 (.code yJ7_fill_53178 cJ7_fill_53178 4 none) ({ frames := 0, cells := 0, slots := 0, locals := 0 }) E [.ref a, .int x] [(a, .inl (E.2.1, n, .inl f))] [(a, .inl (E.2.1, n, .inl (fillM x f n)))] := by
  refine Cv.of (by decide) (Nat.le_of_ble_eq_true rfl) ?_
  intro p e s m below meth c A ls B hP hD hS hl
  have hl : lv_has ls 4 [(0, .ref a), (1, .int x)] := hl
  have B : Bd p s m _ meth c cJ7_fill_53178 4 none RJ7 E A := B
  have hx := B.1
  have hb := B.2.1
  have hP : va_P E.1 classes [(a, .inl (E.2.1, n, .inl f))] _ := hP
  have hD : va_D A [(a, .inl (E.2.1, n, .inl f))] := hD
  refine lv_iconst (v := 0) hx hb dJ7_fill_53178_0 (by decide) ?_
  refine lv_istore_n (lv' := [(2, .int 0), (0, .ref a), (1, .int x)]) hx hb dJ7_fill_53178_1 rfl hl (by decide) rfl (fun ls hl => ?_)
  refine lv_aload_n hx hb dJ7_fill_53178_2 rfl (lv_at hl 1 rfl) ?_
  refine x_alen B hP 0 rfl dJ7_fill_53178_3 ?_
  refine lv_istore_n (lv' := [(3, .int (nI n)), (2, .int 0), (0, .ref a), (1, .int x)]) hx hb dJ7_fill_53178_4 rfl hl (by decide) rfl (fun ls hl => ?_)
  refine lp_fill B ⟨by decide, by decide⟩ hn (fun H locs ls hP hD hS hl => ?_) (n + 1) 0 (by omega) (by omega) _ _ _ hP hD hS (lv_sub hl [1, 2, 3, 0] rfl)
  have hP : va_P E.1 classes [(a, .inl (E.2.1, n, .inl (fillM x f n)))] _ := hP
  have hD : va_D A [(a, .inl (E.2.1, n, .inl (fillM x f n)))] := hD
  exact x_vret B hP hD hS dJ7_fill_53178_20
def inM (i h : Int32) : Int32 := if i < 0 then 0 else if h < i then 0 else 1
def plM (i : Int32) : Int32 := if i < 0 then 0 else if 16 ≤ i then 0 else 1
def byM (i : Int32) : Int32 := if i < 0 then 0 else if 255 < i then 0 else 1
set_option maxHeartbeats 4000000 in
set_option maxRecDepth 100000 in
/-- isPlace -/
theorem c_X2_isPlace (l : Launch) (E : EE) (i : Int32) : Ci l yX2_isPlace (.code yX2_isPlace cX2_isPlace 1 (some .boolean)) ({ frames := 0, cells := 0, slots := 0, locals := 0 }) E [.int i] (plM i) [] [] := by
  refine Ci.of (by decide) (Nat.le_of_ble_eq_true rfl) ?_
  intro p e s m below meth c A ls B hP hD hS hl
  have hl : lv_has ls 1 [(0, .int i)] := hl
  have B : Bd p s m _ meth c cX2_isPlace 1 (some .boolean) RX2 E A := B
  have hx := B.1
  have hb := B.2.1
  have hP : va_P E.1 classes [] _ := hP
  have hD : va_D A [] := hD
  refine lv_iload_n hx hb dX2_isPlace_0 rfl (lv_at hl 0 rfl) ?_
  refine lv_if_lt (tgt := 14) hx hb dX2_isPlace_1 (by decide) (fun c_1 => ?_) (fun c_1 => ?_)
  · refine lv_iconst (v := 0) hx hb dX2_isPlace_14 (by decide) ?_
    have hP : va_P E.1 classes [] _ := hP
    have hD : va_D A [] := hD
    exact x_iret B hP hD hS rfl (by unfold plM; simp [*]) dX2_isPlace_15
  · refine lv_iload_n hx hb dX2_isPlace_4 rfl (lv_at hl 0 rfl) ?_
    refine lv_bipush (v := 16) hx hb dX2_isPlace_5 (by decide) ?_
    refine lv_icmp_ge (tgt := 14) hx hb dX2_isPlace_7 (by decide) (fun c_7 => ?_) (fun c_7 => ?_)
    · refine lv_iconst (v := 0) hx hb dX2_isPlace_14 (by decide) ?_
      have hP : va_P E.1 classes [] _ := hP
      have hD : va_D A [] := hD
      exact x_iret B hP hD hS rfl (by unfold plM; simp [*]) dX2_isPlace_15
    · refine lv_iconst (v := 1) hx hb dX2_isPlace_10 (by decide) ?_
      refine lv_goto (tgt := 15) hx hb dX2_isPlace_11 (by decide) ?_
      have hP : va_P E.1 classes [] _ := hP
      have hD : va_D A [] := hD
      exact x_iret B hP hD hS rfl (by unfold plM; simp [*]) dX2_isPlace_15
set_option maxHeartbeats 4000000 in
set_option maxRecDepth 100000 in
/-- isByte -/
theorem c_X2_isByte (l : Launch) (E : EE) (i : Int32) : Ci l yX2_isByte (.code yX2_isByte cX2_isByte 1 (some .boolean)) ({ frames := 0, cells := 0, slots := 0, locals := 0 }) E [.int i] (byM i) [] [] := by
  refine Ci.of (by decide) (Nat.le_of_ble_eq_true rfl) ?_
  intro p e s m below meth c A ls B hP hD hS hl
  have hl : lv_has ls 1 [(0, .int i)] := hl
  have B : Bd p s m _ meth c cX2_isByte 1 (some .boolean) RX2 E A := B
  have hx := B.1
  have hb := B.2.1
  have hP : va_P E.1 classes [] _ := hP
  have hD : va_D A [] := hD
  refine lv_iload_n hx hb dX2_isByte_0 rfl (lv_at hl 0 rfl) ?_
  refine lv_if_lt (tgt := 15) hx hb dX2_isByte_1 (by decide) (fun c_1 => ?_) (fun c_1 => ?_)
  · refine lv_iconst (v := 0) hx hb dX2_isByte_15 (by decide) ?_
    have hP : va_P E.1 classes [] _ := hP
    have hD : va_D A [] := hD
    exact x_iret B hP hD hS rfl (by unfold byM; simp [*]) dX2_isByte_16
  · refine lv_iload_n hx hb dX2_isByte_4 rfl (lv_at hl 0 rfl) ?_
    refine lv_sipush (v := 255) hx hb dX2_isByte_5 (by decide) ?_
    refine lv_icmp_gt (tgt := 15) hx hb dX2_isByte_8 (by decide) (fun c_8 => ?_) (fun c_8 => ?_)
    · refine lv_iconst (v := 0) hx hb dX2_isByte_15 (by decide) ?_
      have hP : va_P E.1 classes [] _ := hP
      have hD : va_D A [] := hD
      exact x_iret B hP hD hS rfl (by unfold byM; simp [*]) dX2_isByte_16
    · refine lv_iconst (v := 1) hx hb dX2_isByte_11 (by decide) ?_
      refine lv_goto (tgt := 16) hx hb dX2_isByte_12 (by decide) ?_
      have hP : va_P E.1 classes [] _ := hP
      have hD : va_D A [] := hD
      exact x_iret B hP hD hS rfl (by unfold byM; simp [*]) dX2_isByte_16
set_option maxHeartbeats 4000000 in
set_option maxRecDepth 100000 in
/-- isIn -/
theorem c_X3_isIn (l : Launch) (E : EE) (i h : Int32) : Ci l yX3_isIn (.code yX3_isIn cX3_isIn 2 (some .boolean)) ({ frames := 0, cells := 0, slots := 0, locals := 0 }) E [.int i, .int h] (inM i h) [] [] := by
  refine Ci.of (by decide) (Nat.le_of_ble_eq_true rfl) ?_
  intro p e s m below meth c A ls B hP hD hS hl
  have hl : lv_has ls 2 [(0, .int i), (1, .int h)] := hl
  have B : Bd p s m _ meth c cX3_isIn 2 (some .boolean) RX3 E A := B
  have hx := B.1
  have hb := B.2.1
  have hP : va_P E.1 classes [] _ := hP
  have hD : va_D A [] := hD
  refine lv_iload_n hx hb dX3_isIn_0 rfl (lv_at hl 0 rfl) ?_
  refine lv_if_lt (tgt := 13) hx hb dX3_isIn_1 (by decide) (fun c_1 => ?_) (fun c_1 => ?_)
  · refine lv_iconst (v := 0) hx hb dX3_isIn_13 (by decide) ?_
    have hP : va_P E.1 classes [] _ := hP
    have hD : va_D A [] := hD
    exact x_iret B hP hD hS rfl (by unfold inM; simp [*]) dX3_isIn_14
  · refine lv_iload_n hx hb dX3_isIn_4 rfl (lv_at hl 0 rfl) ?_
    refine lv_iload_n hx hb dX3_isIn_5 rfl (lv_at hl 1 rfl) ?_
    refine lv_icmp_gt (tgt := 13) hx hb dX3_isIn_6 (by decide) (fun c_6 => ?_) (fun c_6 => ?_)
    · refine lv_iconst (v := 0) hx hb dX3_isIn_13 (by decide) ?_
      have hP : va_P E.1 classes [] _ := hP
      have hD : va_D A [] := hD
      exact x_iret B hP hD hS rfl (by unfold inM; simp [*]) dX3_isIn_14
    · refine lv_iconst (v := 1) hx hb dX3_isIn_9 (by decide) ?_
      refine lv_goto (tgt := 14) hx hb dX3_isIn_10 (by decide) ?_
      have hP : va_P E.1 classes [] _ := hP
      have hD : va_D A [] := hD
      exact x_iret B hP hD hS rfl (by unfold inM; simp [*]) dX3_isIn_14
end
section
set_option maxHeartbeats 4000000 in
set_option maxRecDepth 100000 in
/-- Key() -/
theorem c_X0_init (l : Launch) (E : EE) (oK : Nat) : Cn l yX0_init (.code yX0_init cX0_init 1 none) ({ frames := 1, cells := 5, slots := 240, locals := 20 }) E [.ref oK] [(oK, .inr (0, [.null, .null, .null, .null, .null, .int 0]))] (fun ws' => ∃ aB aW aF aG aV : Nat, ws' = [(oK, .inr (0, [.ref aB, .ref aW, .ref aF, .ref aG, .ref aV, .int 0])), (aB, .inl (E.2.1, 16, .inl (fun _ => 0))), (aW, .inl (E.2.1, 176, .inl (fun _ => 0))), (aF, .inl (E.2.1, 16, .inl (fun _ => 0))), (aG, .inl (E.2.1, 16, .inl (fun _ => 0))), (aV, .inl (E.2.1, 16, .inl (fun _ => 0)))]) := by
  refine Cn.of (by decide) (Nat.le_of_ble_eq_true rfl) ?_
  intro p e s m below meth c A ls B hmn hP hD hS hl
  have hl : lv_has ls 1 [(0, .ref oK)] := hl
  have B : Bd p s m _ meth c cX0_init 1 none RX0 E A := B
  have hx := B.1
  have hb := B.2.1
  have hP : va_P E.1 classes [(oK, .inr (0, [.null, .null, .null, .null, .null, .int 0]))] _ := hP
  have hD : va_D A [(oK, .inr (0, [.null, .null, .null, .null, .null, .int 0]))] := hD
  refine lv_aload_n hx hb dX0_init_0 rfl (lv_at hl 0 rfl) ?_
  refine x_obj B g_20 w_obj hl.1 (Nat.le_of_ble_eq_true rfl) (by decide) dX0_init_1 ?_
  refine lv_aload_n hx hb dX0_init_4 rfl (lv_at hl 0 rfl) ?_
  refine lv_bipush (v := 16) hx hb dX0_init_5 (by decide) ?_
  refine x_newa B hP hD hS g_45 16 rfl (by decide) (by decide) (by decide) dX0_init_7 (fun q1 H hP hD hS => ?_)
  have hP : va_P E.1 classes [(oK, .inr (0, [.null, .null, .null, .null, .null, .int 0])), (q1, .inl (E.2.1, 16, .inl (fun _ => 0)))] _ := hP
  have hD : va_D A [(oK, .inr (0, [.null, .null, .null, .null, .null, .int 0])), (q1, .inl (E.2.1, 16, .inl (fun _ => 0)))] := hD
  refine W.widen (k := 1) (n := 16) (by decide) (by decide) ?_
  refine x_putF B hP hD hS 0 rfl rfl i_X0 tyX0 tyX0_ok nmX0 0 (by decide) g_21 rfl hmn rfl rfl rfl (Nat.le_of_ble_eq_true rfl) dX0_init_9 (fun H locs hP hD hS => ?_)
  have hP : va_P E.1 classes [(oK, .inr (0, [.ref q1, .null, .null, .null, .null, .int 0])), (q1, .inl (E.2.1, 16, .inl (fun _ => 0)))] _ := hP
  have hD : va_D A [(oK, .inr (0, [.ref q1, .null, .null, .null, .null, .int 0])), (q1, .inl (E.2.1, 16, .inl (fun _ => 0)))] := hD
  refine lv_aload_n hx hb dX0_init_12 rfl (lv_at hl 0 rfl) ?_
  refine lv_sipush (v := 176) hx hb dX0_init_13 (by decide) ?_
  refine x_newa B hP hD hS g_45 176 rfl (by decide) (by decide) (by decide) dX0_init_16 (fun q2 H hP hD hS => ?_)
  have hP : va_P E.1 classes [(oK, .inr (0, [.ref q1, .null, .null, .null, .null, .int 0])), (q1, .inl (E.2.1, 16, .inl (fun _ => 0))), (q2, .inl (E.2.1, 176, .inl (fun _ => 0)))] _ := hP
  have hD : va_D A [(oK, .inr (0, [.ref q1, .null, .null, .null, .null, .int 0])), (q1, .inl (E.2.1, 16, .inl (fun _ => 0))), (q2, .inl (E.2.1, 176, .inl (fun _ => 0)))] := hD
  refine W.widen (k := 2) (n := 192) (by decide) (by decide) ?_
  refine x_putF B hP hD hS 0 rfl rfl i_X0 tyX0 tyX0_ok nmX0 1 (by decide) g_22 rfl hmn rfl rfl rfl (Nat.le_of_ble_eq_true rfl) dX0_init_18 (fun H locs hP hD hS => ?_)
  have hP : va_P E.1 classes [(oK, .inr (0, [.ref q1, .ref q2, .null, .null, .null, .int 0])), (q1, .inl (E.2.1, 16, .inl (fun _ => 0))), (q2, .inl (E.2.1, 176, .inl (fun _ => 0)))] _ := hP
  have hD : va_D A [(oK, .inr (0, [.ref q1, .ref q2, .null, .null, .null, .int 0])), (q1, .inl (E.2.1, 16, .inl (fun _ => 0))), (q2, .inl (E.2.1, 176, .inl (fun _ => 0)))] := hD
  refine lv_aload_n hx hb dX0_init_21 rfl (lv_at hl 0 rfl) ?_
  refine lv_bipush (v := 16) hx hb dX0_init_22 (by decide) ?_
  refine x_newa B hP hD hS g_45 16 rfl (by decide) (by decide) (by decide) dX0_init_24 (fun q3 H hP hD hS => ?_)
  have hP : va_P E.1 classes [(oK, .inr (0, [.ref q1, .ref q2, .null, .null, .null, .int 0])), (q1, .inl (E.2.1, 16, .inl (fun _ => 0))), (q2, .inl (E.2.1, 176, .inl (fun _ => 0))), (q3, .inl (E.2.1, 16, .inl (fun _ => 0)))] _ := hP
  have hD : va_D A [(oK, .inr (0, [.ref q1, .ref q2, .null, .null, .null, .int 0])), (q1, .inl (E.2.1, 16, .inl (fun _ => 0))), (q2, .inl (E.2.1, 176, .inl (fun _ => 0))), (q3, .inl (E.2.1, 16, .inl (fun _ => 0)))] := hD
  refine W.widen (k := 3) (n := 208) (by decide) (by decide) ?_
  refine x_putF B hP hD hS 0 rfl rfl i_X0 tyX0 tyX0_ok nmX0 2 (by decide) g_23 rfl hmn rfl rfl rfl (Nat.le_of_ble_eq_true rfl) dX0_init_26 (fun H locs hP hD hS => ?_)
  have hP : va_P E.1 classes [(oK, .inr (0, [.ref q1, .ref q2, .ref q3, .null, .null, .int 0])), (q1, .inl (E.2.1, 16, .inl (fun _ => 0))), (q2, .inl (E.2.1, 176, .inl (fun _ => 0))), (q3, .inl (E.2.1, 16, .inl (fun _ => 0)))] _ := hP
  have hD : va_D A [(oK, .inr (0, [.ref q1, .ref q2, .ref q3, .null, .null, .int 0])), (q1, .inl (E.2.1, 16, .inl (fun _ => 0))), (q2, .inl (E.2.1, 176, .inl (fun _ => 0))), (q3, .inl (E.2.1, 16, .inl (fun _ => 0)))] := hD
  refine lv_aload_n hx hb dX0_init_29 rfl (lv_at hl 0 rfl) ?_
  refine lv_bipush (v := 16) hx hb dX0_init_30 (by decide) ?_
  refine x_newa B hP hD hS g_45 16 rfl (by decide) (by decide) (by decide) dX0_init_32 (fun q4 H hP hD hS => ?_)
  have hP : va_P E.1 classes [(oK, .inr (0, [.ref q1, .ref q2, .ref q3, .null, .null, .int 0])), (q1, .inl (E.2.1, 16, .inl (fun _ => 0))), (q2, .inl (E.2.1, 176, .inl (fun _ => 0))), (q3, .inl (E.2.1, 16, .inl (fun _ => 0))), (q4, .inl (E.2.1, 16, .inl (fun _ => 0)))] _ := hP
  have hD : va_D A [(oK, .inr (0, [.ref q1, .ref q2, .ref q3, .null, .null, .int 0])), (q1, .inl (E.2.1, 16, .inl (fun _ => 0))), (q2, .inl (E.2.1, 176, .inl (fun _ => 0))), (q3, .inl (E.2.1, 16, .inl (fun _ => 0))), (q4, .inl (E.2.1, 16, .inl (fun _ => 0)))] := hD
  refine W.widen (k := 4) (n := 224) (by decide) (by decide) ?_
  refine x_putF B hP hD hS 0 rfl rfl i_X0 tyX0 tyX0_ok nmX0 3 (by decide) g_26 rfl hmn rfl rfl rfl (Nat.le_of_ble_eq_true rfl) dX0_init_34 (fun H locs hP hD hS => ?_)
  have hP : va_P E.1 classes [(oK, .inr (0, [.ref q1, .ref q2, .ref q3, .ref q4, .null, .int 0])), (q1, .inl (E.2.1, 16, .inl (fun _ => 0))), (q2, .inl (E.2.1, 176, .inl (fun _ => 0))), (q3, .inl (E.2.1, 16, .inl (fun _ => 0))), (q4, .inl (E.2.1, 16, .inl (fun _ => 0)))] _ := hP
  have hD : va_D A [(oK, .inr (0, [.ref q1, .ref q2, .ref q3, .ref q4, .null, .int 0])), (q1, .inl (E.2.1, 16, .inl (fun _ => 0))), (q2, .inl (E.2.1, 176, .inl (fun _ => 0))), (q3, .inl (E.2.1, 16, .inl (fun _ => 0))), (q4, .inl (E.2.1, 16, .inl (fun _ => 0)))] := hD
  refine lv_aload_n hx hb dX0_init_37 rfl (lv_at hl 0 rfl) ?_
  refine lv_bipush (v := 16) hx hb dX0_init_38 (by decide) ?_
  refine x_newa B hP hD hS g_45 16 rfl (by decide) (by decide) (by decide) dX0_init_40 (fun q5 H hP hD hS => ?_)
  have hP : va_P E.1 classes [(oK, .inr (0, [.ref q1, .ref q2, .ref q3, .ref q4, .null, .int 0])), (q1, .inl (E.2.1, 16, .inl (fun _ => 0))), (q2, .inl (E.2.1, 176, .inl (fun _ => 0))), (q3, .inl (E.2.1, 16, .inl (fun _ => 0))), (q4, .inl (E.2.1, 16, .inl (fun _ => 0))), (q5, .inl (E.2.1, 16, .inl (fun _ => 0)))] _ := hP
  have hD : va_D A [(oK, .inr (0, [.ref q1, .ref q2, .ref q3, .ref q4, .null, .int 0])), (q1, .inl (E.2.1, 16, .inl (fun _ => 0))), (q2, .inl (E.2.1, 176, .inl (fun _ => 0))), (q3, .inl (E.2.1, 16, .inl (fun _ => 0))), (q4, .inl (E.2.1, 16, .inl (fun _ => 0))), (q5, .inl (E.2.1, 16, .inl (fun _ => 0)))] := hD
  refine W.widen (k := 5) (n := 240) (by decide) (by decide) ?_
  refine x_putF B hP hD hS 0 rfl rfl i_X0 tyX0 tyX0_ok nmX0 4 (by decide) g_29 rfl hmn rfl rfl rfl (Nat.le_of_ble_eq_true rfl) dX0_init_42 (fun H locs hP hD hS => ?_)
  have hP : va_P E.1 classes [(oK, .inr (0, [.ref q1, .ref q2, .ref q3, .ref q4, .ref q5, .int 0])), (q1, .inl (E.2.1, 16, .inl (fun _ => 0))), (q2, .inl (E.2.1, 176, .inl (fun _ => 0))), (q3, .inl (E.2.1, 16, .inl (fun _ => 0))), (q4, .inl (E.2.1, 16, .inl (fun _ => 0))), (q5, .inl (E.2.1, 16, .inl (fun _ => 0)))] _ := hP
  have hD : va_D A [(oK, .inr (0, [.ref q1, .ref q2, .ref q3, .ref q4, .ref q5, .int 0])), (q1, .inl (E.2.1, 16, .inl (fun _ => 0))), (q2, .inl (E.2.1, 176, .inl (fun _ => 0))), (q3, .inl (E.2.1, 16, .inl (fun _ => 0))), (q4, .inl (E.2.1, 16, .inl (fun _ => 0))), (q5, .inl (E.2.1, 16, .inl (fun _ => 0)))] := hD
  refine lv_aload_n hx hb dX0_init_45 rfl (lv_at hl 0 rfl) ?_
  refine lv_iconst (v := 0) hx hb dX0_init_46 (by decide) ?_
  refine x_put B hP hD hS 0 rfl rfl i_X0 tyX0 tyX0_ok nmX0 5 (by decide) g_30 rfl rfl rfl (Nat.le_of_ble_eq_true rfl) dX0_init_47 (fun H locs hP hD hS => ?_)
  have hP : va_P E.1 classes [(oK, .inr (0, [.ref q1, .ref q2, .ref q3, .ref q4, .ref q5, .int 0])), (q1, .inl (E.2.1, 16, .inl (fun _ => 0))), (q2, .inl (E.2.1, 176, .inl (fun _ => 0))), (q3, .inl (E.2.1, 16, .inl (fun _ => 0))), (q4, .inl (E.2.1, 16, .inl (fun _ => 0))), (q5, .inl (E.2.1, 16, .inl (fun _ => 0)))] _ := hP
  have hD : va_D A [(oK, .inr (0, [.ref q1, .ref q2, .ref q3, .ref q4, .ref q5, .int 0])), (q1, .inl (E.2.1, 16, .inl (fun _ => 0))), (q2, .inl (E.2.1, 176, .inl (fun _ => 0))), (q3, .inl (E.2.1, 16, .inl (fun _ => 0))), (q4, .inl (E.2.1, 16, .inl (fun _ => 0))), (q5, .inl (E.2.1, 16, .inl (fun _ => 0)))] := hD
  exact x_nret B hP hD hS dX0_init_50 ⟨q1, q2, q3, q4, q5, rfl⟩
set_option maxHeartbeats 4000000 in
set_option maxRecDepth 100000 in
/-- Message() -/
theorem c_X1_init (l : Launch) (E : EE) (oM : Nat) : Cn l yX1_init (.code yX1_init cX1_init 1 none) ({ frames := 1, cells := 1, slots := 16, locals := 20 }) E [.ref oM] [(oM, .inr (1, [.null, .int 0, .int 0, .int 0, .int 0, .int 0]))] (fun ws' => ∃ aS : Nat, ws' = [(oM, .inr (1, [.ref aS, .int 0, .int 0, .int 0, .int 0, .int 0])), (aS, .inl (E.2.1, 16, .inl (fun _ => 0)))]) := by
  refine Cn.of (by decide) (Nat.le_of_ble_eq_true rfl) ?_
  intro p e s m below meth c A ls B hmn hP hD hS hl
  have hl : lv_has ls 1 [(0, .ref oM)] := hl
  have B : Bd p s m _ meth c cX1_init 1 none RX1 E A := B
  have hx := B.1
  have hb := B.2.1
  have hP : va_P E.1 classes [(oM, .inr (1, [.null, .int 0, .int 0, .int 0, .int 0, .int 0]))] _ := hP
  have hD : va_D A [(oM, .inr (1, [.null, .int 0, .int 0, .int 0, .int 0, .int 0]))] := hD
  refine lv_aload_n hx hb dX1_init_0 rfl (lv_at hl 0 rfl) ?_
  refine x_obj B g_51 w_obj hl.1 (Nat.le_of_ble_eq_true rfl) (by decide) dX1_init_1 ?_
  refine lv_aload_n hx hb dX1_init_4 rfl (lv_at hl 0 rfl) ?_
  refine lv_bipush (v := 16) hx hb dX1_init_5 (by decide) ?_
  refine x_newa B hP hD hS g_45 16 rfl (by decide) (by decide) (by decide) dX1_init_7 (fun q6 H hP hD hS => ?_)
  have hP : va_P E.1 classes [(oM, .inr (1, [.null, .int 0, .int 0, .int 0, .int 0, .int 0])), (q6, .inl (E.2.1, 16, .inl (fun _ => 0)))] _ := hP
  have hD : va_D A [(oM, .inr (1, [.null, .int 0, .int 0, .int 0, .int 0, .int 0])), (q6, .inl (E.2.1, 16, .inl (fun _ => 0)))] := hD
  refine W.widen (k := 1) (n := 16) (by decide) (by decide) ?_
  refine x_putF B hP hD hS 0 rfl rfl i_X1 tyX1 tyX1_ok nmX1 0 (by decide) g_52 rfl hmn rfl rfl rfl (Nat.le_of_ble_eq_true rfl) dX1_init_9 (fun H locs hP hD hS => ?_)
  have hP : va_P E.1 classes [(oM, .inr (1, [.ref q6, .int 0, .int 0, .int 0, .int 0, .int 0])), (q6, .inl (E.2.1, 16, .inl (fun _ => 0)))] _ := hP
  have hD : va_D A [(oM, .inr (1, [.ref q6, .int 0, .int 0, .int 0, .int 0, .int 0])), (q6, .inl (E.2.1, 16, .inl (fun _ => 0)))] := hD
  refine lv_aload_n hx hb dX1_init_12 rfl (lv_at hl 0 rfl) ?_
  refine lv_iconst (v := 0) hx hb dX1_init_13 (by decide) ?_
  refine x_put B hP hD hS 0 rfl rfl i_X1 tyX1 tyX1_ok nmX1 1 (by decide) g_54 rfl rfl rfl (Nat.le_of_ble_eq_true rfl) dX1_init_14 (fun H locs hP hD hS => ?_)
  have hP : va_P E.1 classes [(oM, .inr (1, [.ref q6, .int 0, .int 0, .int 0, .int 0, .int 0])), (q6, .inl (E.2.1, 16, .inl (fun _ => 0)))] _ := hP
  have hD : va_D A [(oM, .inr (1, [.ref q6, .int 0, .int 0, .int 0, .int 0, .int 0])), (q6, .inl (E.2.1, 16, .inl (fun _ => 0)))] := hD
  refine lv_aload_n hx hb dX1_init_17 rfl (lv_at hl 0 rfl) ?_
  refine lv_iconst (v := 0) hx hb dX1_init_18 (by decide) ?_
  refine x_put B hP hD hS 0 rfl rfl i_X1 tyX1 tyX1_ok nmX1 2 (by decide) g_55 rfl rfl rfl (Nat.le_of_ble_eq_true rfl) dX1_init_19 (fun H locs hP hD hS => ?_)
  have hP : va_P E.1 classes [(oM, .inr (1, [.ref q6, .int 0, .int 0, .int 0, .int 0, .int 0])), (q6, .inl (E.2.1, 16, .inl (fun _ => 0)))] _ := hP
  have hD : va_D A [(oM, .inr (1, [.ref q6, .int 0, .int 0, .int 0, .int 0, .int 0])), (q6, .inl (E.2.1, 16, .inl (fun _ => 0)))] := hD
  refine lv_aload_n hx hb dX1_init_22 rfl (lv_at hl 0 rfl) ?_
  refine lv_iconst (v := 0) hx hb dX1_init_23 (by decide) ?_
  refine x_put B hP hD hS 0 rfl rfl i_X1 tyX1 tyX1_ok nmX1 3 (by decide) g_57 rfl rfl rfl (Nat.le_of_ble_eq_true rfl) dX1_init_24 (fun H locs hP hD hS => ?_)
  have hP : va_P E.1 classes [(oM, .inr (1, [.ref q6, .int 0, .int 0, .int 0, .int 0, .int 0])), (q6, .inl (E.2.1, 16, .inl (fun _ => 0)))] _ := hP
  have hD : va_D A [(oM, .inr (1, [.ref q6, .int 0, .int 0, .int 0, .int 0, .int 0])), (q6, .inl (E.2.1, 16, .inl (fun _ => 0)))] := hD
  refine lv_aload_n hx hb dX1_init_27 rfl (lv_at hl 0 rfl) ?_
  refine lv_iconst (v := 0) hx hb dX1_init_28 (by decide) ?_
  refine x_put B hP hD hS 0 rfl rfl i_X1 tyX1 tyX1_ok nmX1 4 (by decide) g_59 rfl rfl rfl (Nat.le_of_ble_eq_true rfl) dX1_init_29 (fun H locs hP hD hS => ?_)
  have hP : va_P E.1 classes [(oM, .inr (1, [.ref q6, .int 0, .int 0, .int 0, .int 0, .int 0])), (q6, .inl (E.2.1, 16, .inl (fun _ => 0)))] _ := hP
  have hD : va_D A [(oM, .inr (1, [.ref q6, .int 0, .int 0, .int 0, .int 0, .int 0])), (q6, .inl (E.2.1, 16, .inl (fun _ => 0)))] := hD
  refine lv_aload_n hx hb dX1_init_32 rfl (lv_at hl 0 rfl) ?_
  refine lv_iconst (v := 0) hx hb dX1_init_33 (by decide) ?_
  refine x_put B hP hD hS 0 rfl rfl i_X1 tyX1 tyX1_ok nmX1 5 (by decide) g_61 rfl rfl rfl (Nat.le_of_ble_eq_true rfl) dX1_init_34 (fun H locs hP hD hS => ?_)
  have hP : va_P E.1 classes [(oM, .inr (1, [.ref q6, .int 0, .int 0, .int 0, .int 0, .int 0])), (q6, .inl (E.2.1, 16, .inl (fun _ => 0)))] _ := hP
  have hD : va_D A [(oM, .inr (1, [.ref q6, .int 0, .int 0, .int 0, .int 0, .int 0])), (q6, .inl (E.2.1, 16, .inl (fun _ => 0)))] := hD
  exact x_nret B hP hD hS dX1_init_37 ⟨q6, rfl⟩
set_option maxHeartbeats 4000000 in
set_option maxRecDepth 100000 in
/-- BlockCode() -/
theorem c_X2_init (l : Launch) (E : EE) (o : Nat) : Cn l yX2_init (.code yX2_init cX2_init 1 none) ({ frames := 2, cells := 11, slots := 316, locals := 40 }) E [.ref o] [(o, .inr (2, [.null, .null, .null, .null, .null, .int 0]))] (fun ws' => ∃ oK oM aB aW aF aG aV aS aO aP aQ : Nat, ws' = [(o, .inr (2, [.ref oK, .ref oM, .ref aO, .ref aP, .ref aQ, .int 0])), (oK, .inr (0, [.ref aB, .ref aW, .ref aF, .ref aG, .ref aV, .int 0])), (oM, .inr (1, [.ref aS, .int 0, .int 0, .int 0, .int 0, .int 0])), (aB, .inl (E.2.1, 16, .inl (fun _ => 0))), (aW, .inl (E.2.1, 176, .inl (fun _ => 0))), (aF, .inl (E.2.1, 16, .inl (fun _ => 0))), (aG, .inl (E.2.1, 16, .inl (fun _ => 0))), (aV, .inl (E.2.1, 16, .inl (fun _ => 0))), (aS, .inl (E.2.1, 16, .inl (fun _ => 0))), (aO, .inl (E.2.1, 16, .inl (fun _ => 0))), (aP, .inl (E.2.1, 16, .inl (fun _ => 0))), (aQ, .inl (E.2.1, 16, .inl (fun _ => 0)))]) := by
  refine Cn.of (by decide) (Nat.le_of_ble_eq_true rfl) ?_
  intro p e s m below meth c A ls B hmn hP hD hS hl
  have hl : lv_has ls 1 [(0, .ref o)] := hl
  have B : Bd p s m _ meth c cX2_init 1 none RX2 E A := B
  have hx := B.1
  have hb := B.2.1
  have hP : va_P E.1 classes [(o, .inr (2, [.null, .null, .null, .null, .null, .int 0]))] _ := hP
  have hD : va_D A [(o, .inr (2, [.null, .null, .null, .null, .null, .int 0]))] := hD
  refine lv_aload_n hx hb dX2_init_0 rfl (lv_at hl 0 rfl) ?_
  refine x_obj B g_12 w_obj hl.1 (Nat.le_of_ble_eq_true rfl) (by decide) dX2_init_1 ?_
  refine lv_aload_n hx hb dX2_init_4 rfl (lv_at hl 0 rfl) ?_
  refine x_new (ci := 0) B hP hD hS rfl i_X0 tyX0 tyX0_ok ⟨g_15, g_16, g_2⟩ [.null, .null, .null, .null, .null, .int 0] (by decide) (by decide) (by decide) dX2_init_5 (fun q7 H hP hD hS => ?_)
  have hP : va_P E.1 classes [(o, .inr (2, [.null, .null, .null, .null, .null, .int 0])), (q7, .inr (0, [.null, .null, .null, .null, .null, .int 0]))] _ := hP
  have hD : va_D A [(o, .inr (2, [.null, .null, .null, .null, .null, .int 0])), (q7, .inr (0, [.null, .null, .null, .null, .null, .int 0]))] := hD
  refine W.widen (k := 1) (n := 6) (by decide) (by decide) ?_
  refine lv_dup hx hb dX2_init_8 rfl ?_
  refine x_In (wr := [(o, .inr (2, [.null, .null, .null, .null, .null, .int 0]))]) (isC := [1]) (isR := [0]) (As := []) B (c_X0_init l E q7) k_X0_init g_17 s_X0_init ⟨by decide, by decide, rfl, rfl⟩ hP hD hS ⟨rfl, rfl, rfl, rfl, by decide⟩ rfl hl.1 rfl (Nat.le_of_ble_eq_true rfl) dX2_init_9 ⟨by decide, by decide⟩ (fun w8 H locs hw hP hD hS => ?_)
  obtain ⟨q9, q10, q11, q12, q13, rfl⟩ := hw
  have hP : va_P E.1 classes [(o, .inr (2, [.null, .null, .null, .null, .null, .int 0])), (q7, .inr (0, [.ref q9, .ref q10, .ref q11, .ref q12, .ref q13, .int 0])), (q9, .inl (E.2.1, 16, .inl (fun _ => 0))), (q10, .inl (E.2.1, 176, .inl (fun _ => 0))), (q11, .inl (E.2.1, 16, .inl (fun _ => 0))), (q12, .inl (E.2.1, 16, .inl (fun _ => 0))), (q13, .inl (E.2.1, 16, .inl (fun _ => 0)))] _ := hP
  have hD : va_D A [(o, .inr (2, [.null, .null, .null, .null, .null, .int 0])), (q7, .inr (0, [.ref q9, .ref q10, .ref q11, .ref q12, .ref q13, .int 0])), (q9, .inl (E.2.1, 16, .inl (fun _ => 0))), (q10, .inl (E.2.1, 176, .inl (fun _ => 0))), (q11, .inl (E.2.1, 16, .inl (fun _ => 0))), (q12, .inl (E.2.1, 16, .inl (fun _ => 0))), (q13, .inl (E.2.1, 16, .inl (fun _ => 0)))] := hD
  refine W.widen (k := 6) (n := 246) (by decide) (by decide) ?_
  refine x_putF B hP hD hS 0 rfl rfl i_X2 tyX2 tyX2_ok nmX2 0 (by decide) g_76 rfl hmn rfl rfl rfl (Nat.le_of_ble_eq_true rfl) dX2_init_12 (fun H locs hP hD hS => ?_)
  have hP : va_P E.1 classes [(o, .inr (2, [.ref q7, .null, .null, .null, .null, .int 0])), (q7, .inr (0, [.ref q9, .ref q10, .ref q11, .ref q12, .ref q13, .int 0])), (q9, .inl (E.2.1, 16, .inl (fun _ => 0))), (q10, .inl (E.2.1, 176, .inl (fun _ => 0))), (q11, .inl (E.2.1, 16, .inl (fun _ => 0))), (q12, .inl (E.2.1, 16, .inl (fun _ => 0))), (q13, .inl (E.2.1, 16, .inl (fun _ => 0)))] _ := hP
  have hD : va_D A [(o, .inr (2, [.ref q7, .null, .null, .null, .null, .int 0])), (q7, .inr (0, [.ref q9, .ref q10, .ref q11, .ref q12, .ref q13, .int 0])), (q9, .inl (E.2.1, 16, .inl (fun _ => 0))), (q10, .inl (E.2.1, 176, .inl (fun _ => 0))), (q11, .inl (E.2.1, 16, .inl (fun _ => 0))), (q12, .inl (E.2.1, 16, .inl (fun _ => 0))), (q13, .inl (E.2.1, 16, .inl (fun _ => 0)))] := hD
  refine lv_aload_n hx hb dX2_init_15 rfl (lv_at hl 0 rfl) ?_
  refine x_new (ci := 1) B hP hD hS rfl i_X1 tyX1 tyX1_ok ⟨g_46, g_47, g_3⟩ [.null, .int 0, .int 0, .int 0, .int 0, .int 0] (by decide) (by decide) (by decide) dX2_init_16 (fun q14 H hP hD hS => ?_)
  have hP : va_P E.1 classes [(o, .inr (2, [.ref q7, .null, .null, .null, .null, .int 0])), (q7, .inr (0, [.ref q9, .ref q10, .ref q11, .ref q12, .ref q13, .int 0])), (q9, .inl (E.2.1, 16, .inl (fun _ => 0))), (q10, .inl (E.2.1, 176, .inl (fun _ => 0))), (q11, .inl (E.2.1, 16, .inl (fun _ => 0))), (q12, .inl (E.2.1, 16, .inl (fun _ => 0))), (q13, .inl (E.2.1, 16, .inl (fun _ => 0))), (q14, .inr (1, [.null, .int 0, .int 0, .int 0, .int 0, .int 0]))] _ := hP
  have hD : va_D A [(o, .inr (2, [.ref q7, .null, .null, .null, .null, .int 0])), (q7, .inr (0, [.ref q9, .ref q10, .ref q11, .ref q12, .ref q13, .int 0])), (q9, .inl (E.2.1, 16, .inl (fun _ => 0))), (q10, .inl (E.2.1, 176, .inl (fun _ => 0))), (q11, .inl (E.2.1, 16, .inl (fun _ => 0))), (q12, .inl (E.2.1, 16, .inl (fun _ => 0))), (q13, .inl (E.2.1, 16, .inl (fun _ => 0))), (q14, .inr (1, [.null, .int 0, .int 0, .int 0, .int 0, .int 0]))] := hD
  refine W.widen (k := 7) (n := 252) (by decide) (by decide) ?_
  refine lv_dup hx hb dX2_init_19 rfl ?_
  refine x_In (wr := [(o, .inr (2, [.ref q7, .null, .null, .null, .null, .int 0])), (q7, .inr (0, [.ref q9, .ref q10, .ref q11, .ref q12, .ref q13, .int 0])), (q9, .inl (E.2.1, 16, .inl (fun _ => 0))), (q10, .inl (E.2.1, 176, .inl (fun _ => 0))), (q11, .inl (E.2.1, 16, .inl (fun _ => 0))), (q12, .inl (E.2.1, 16, .inl (fun _ => 0))), (q13, .inl (E.2.1, 16, .inl (fun _ => 0)))]) (isC := [7]) (isR := [0, 1, 2, 3, 4, 5, 6]) (As := []) B (c_X1_init l E q14) k_X1_init g_48 s_X1_init ⟨by decide, by decide, rfl, rfl⟩ hP hD hS ⟨rfl, rfl, rfl, rfl, by decide⟩ rfl hl.1 rfl (Nat.le_of_ble_eq_true rfl) dX2_init_20 ⟨by decide, by decide⟩ (fun w15 H locs hw hP hD hS => ?_)
  obtain ⟨q16, rfl⟩ := hw
  have hP : va_P E.1 classes [(o, .inr (2, [.ref q7, .null, .null, .null, .null, .int 0])), (q7, .inr (0, [.ref q9, .ref q10, .ref q11, .ref q12, .ref q13, .int 0])), (q9, .inl (E.2.1, 16, .inl (fun _ => 0))), (q10, .inl (E.2.1, 176, .inl (fun _ => 0))), (q11, .inl (E.2.1, 16, .inl (fun _ => 0))), (q12, .inl (E.2.1, 16, .inl (fun _ => 0))), (q13, .inl (E.2.1, 16, .inl (fun _ => 0))), (q14, .inr (1, [.ref q16, .int 0, .int 0, .int 0, .int 0, .int 0])), (q16, .inl (E.2.1, 16, .inl (fun _ => 0)))] _ := hP
  have hD : va_D A [(o, .inr (2, [.ref q7, .null, .null, .null, .null, .int 0])), (q7, .inr (0, [.ref q9, .ref q10, .ref q11, .ref q12, .ref q13, .int 0])), (q9, .inl (E.2.1, 16, .inl (fun _ => 0))), (q10, .inl (E.2.1, 176, .inl (fun _ => 0))), (q11, .inl (E.2.1, 16, .inl (fun _ => 0))), (q12, .inl (E.2.1, 16, .inl (fun _ => 0))), (q13, .inl (E.2.1, 16, .inl (fun _ => 0))), (q14, .inr (1, [.ref q16, .int 0, .int 0, .int 0, .int 0, .int 0])), (q16, .inl (E.2.1, 16, .inl (fun _ => 0)))] := hD
  refine W.widen (k := 8) (n := 268) (by decide) (by decide) ?_
  refine x_putF B hP hD hS 0 rfl rfl i_X2 tyX2 tyX2_ok nmX2 1 (by decide) g_77 rfl hmn rfl rfl rfl (Nat.le_of_ble_eq_true rfl) dX2_init_23 (fun H locs hP hD hS => ?_)
  have hP : va_P E.1 classes [(o, .inr (2, [.ref q7, .ref q14, .null, .null, .null, .int 0])), (q7, .inr (0, [.ref q9, .ref q10, .ref q11, .ref q12, .ref q13, .int 0])), (q9, .inl (E.2.1, 16, .inl (fun _ => 0))), (q10, .inl (E.2.1, 176, .inl (fun _ => 0))), (q11, .inl (E.2.1, 16, .inl (fun _ => 0))), (q12, .inl (E.2.1, 16, .inl (fun _ => 0))), (q13, .inl (E.2.1, 16, .inl (fun _ => 0))), (q14, .inr (1, [.ref q16, .int 0, .int 0, .int 0, .int 0, .int 0])), (q16, .inl (E.2.1, 16, .inl (fun _ => 0)))] _ := hP
  have hD : va_D A [(o, .inr (2, [.ref q7, .ref q14, .null, .null, .null, .int 0])), (q7, .inr (0, [.ref q9, .ref q10, .ref q11, .ref q12, .ref q13, .int 0])), (q9, .inl (E.2.1, 16, .inl (fun _ => 0))), (q10, .inl (E.2.1, 176, .inl (fun _ => 0))), (q11, .inl (E.2.1, 16, .inl (fun _ => 0))), (q12, .inl (E.2.1, 16, .inl (fun _ => 0))), (q13, .inl (E.2.1, 16, .inl (fun _ => 0))), (q14, .inr (1, [.ref q16, .int 0, .int 0, .int 0, .int 0, .int 0])), (q16, .inl (E.2.1, 16, .inl (fun _ => 0)))] := hD
  refine lv_aload_n hx hb dX2_init_26 rfl (lv_at hl 0 rfl) ?_
  refine lv_bipush (v := 16) hx hb dX2_init_27 (by decide) ?_
  refine x_newa B hP hD hS g_45 16 rfl (by decide) (by decide) (by decide) dX2_init_29 (fun q17 H hP hD hS => ?_)
  have hP : va_P E.1 classes [(o, .inr (2, [.ref q7, .ref q14, .null, .null, .null, .int 0])), (q7, .inr (0, [.ref q9, .ref q10, .ref q11, .ref q12, .ref q13, .int 0])), (q9, .inl (E.2.1, 16, .inl (fun _ => 0))), (q10, .inl (E.2.1, 176, .inl (fun _ => 0))), (q11, .inl (E.2.1, 16, .inl (fun _ => 0))), (q12, .inl (E.2.1, 16, .inl (fun _ => 0))), (q13, .inl (E.2.1, 16, .inl (fun _ => 0))), (q14, .inr (1, [.ref q16, .int 0, .int 0, .int 0, .int 0, .int 0])), (q16, .inl (E.2.1, 16, .inl (fun _ => 0))), (q17, .inl (E.2.1, 16, .inl (fun _ => 0)))] _ := hP
  have hD : va_D A [(o, .inr (2, [.ref q7, .ref q14, .null, .null, .null, .int 0])), (q7, .inr (0, [.ref q9, .ref q10, .ref q11, .ref q12, .ref q13, .int 0])), (q9, .inl (E.2.1, 16, .inl (fun _ => 0))), (q10, .inl (E.2.1, 176, .inl (fun _ => 0))), (q11, .inl (E.2.1, 16, .inl (fun _ => 0))), (q12, .inl (E.2.1, 16, .inl (fun _ => 0))), (q13, .inl (E.2.1, 16, .inl (fun _ => 0))), (q14, .inr (1, [.ref q16, .int 0, .int 0, .int 0, .int 0, .int 0])), (q16, .inl (E.2.1, 16, .inl (fun _ => 0))), (q17, .inl (E.2.1, 16, .inl (fun _ => 0)))] := hD
  refine W.widen (k := 9) (n := 284) (by decide) (by decide) ?_
  refine x_putF B hP hD hS 0 rfl rfl i_X2 tyX2 tyX2_ok nmX2 2 (by decide) g_78 rfl hmn rfl rfl rfl (Nat.le_of_ble_eq_true rfl) dX2_init_31 (fun H locs hP hD hS => ?_)
  have hP : va_P E.1 classes [(o, .inr (2, [.ref q7, .ref q14, .ref q17, .null, .null, .int 0])), (q7, .inr (0, [.ref q9, .ref q10, .ref q11, .ref q12, .ref q13, .int 0])), (q9, .inl (E.2.1, 16, .inl (fun _ => 0))), (q10, .inl (E.2.1, 176, .inl (fun _ => 0))), (q11, .inl (E.2.1, 16, .inl (fun _ => 0))), (q12, .inl (E.2.1, 16, .inl (fun _ => 0))), (q13, .inl (E.2.1, 16, .inl (fun _ => 0))), (q14, .inr (1, [.ref q16, .int 0, .int 0, .int 0, .int 0, .int 0])), (q16, .inl (E.2.1, 16, .inl (fun _ => 0))), (q17, .inl (E.2.1, 16, .inl (fun _ => 0)))] _ := hP
  have hD : va_D A [(o, .inr (2, [.ref q7, .ref q14, .ref q17, .null, .null, .int 0])), (q7, .inr (0, [.ref q9, .ref q10, .ref q11, .ref q12, .ref q13, .int 0])), (q9, .inl (E.2.1, 16, .inl (fun _ => 0))), (q10, .inl (E.2.1, 176, .inl (fun _ => 0))), (q11, .inl (E.2.1, 16, .inl (fun _ => 0))), (q12, .inl (E.2.1, 16, .inl (fun _ => 0))), (q13, .inl (E.2.1, 16, .inl (fun _ => 0))), (q14, .inr (1, [.ref q16, .int 0, .int 0, .int 0, .int 0, .int 0])), (q16, .inl (E.2.1, 16, .inl (fun _ => 0))), (q17, .inl (E.2.1, 16, .inl (fun _ => 0)))] := hD
  refine lv_aload_n hx hb dX2_init_34 rfl (lv_at hl 0 rfl) ?_
  refine lv_bipush (v := 16) hx hb dX2_init_35 (by decide) ?_
  refine x_newa B hP hD hS g_45 16 rfl (by decide) (by decide) (by decide) dX2_init_37 (fun q18 H hP hD hS => ?_)
  have hP : va_P E.1 classes [(o, .inr (2, [.ref q7, .ref q14, .ref q17, .null, .null, .int 0])), (q7, .inr (0, [.ref q9, .ref q10, .ref q11, .ref q12, .ref q13, .int 0])), (q9, .inl (E.2.1, 16, .inl (fun _ => 0))), (q10, .inl (E.2.1, 176, .inl (fun _ => 0))), (q11, .inl (E.2.1, 16, .inl (fun _ => 0))), (q12, .inl (E.2.1, 16, .inl (fun _ => 0))), (q13, .inl (E.2.1, 16, .inl (fun _ => 0))), (q14, .inr (1, [.ref q16, .int 0, .int 0, .int 0, .int 0, .int 0])), (q16, .inl (E.2.1, 16, .inl (fun _ => 0))), (q17, .inl (E.2.1, 16, .inl (fun _ => 0))), (q18, .inl (E.2.1, 16, .inl (fun _ => 0)))] _ := hP
  have hD : va_D A [(o, .inr (2, [.ref q7, .ref q14, .ref q17, .null, .null, .int 0])), (q7, .inr (0, [.ref q9, .ref q10, .ref q11, .ref q12, .ref q13, .int 0])), (q9, .inl (E.2.1, 16, .inl (fun _ => 0))), (q10, .inl (E.2.1, 176, .inl (fun _ => 0))), (q11, .inl (E.2.1, 16, .inl (fun _ => 0))), (q12, .inl (E.2.1, 16, .inl (fun _ => 0))), (q13, .inl (E.2.1, 16, .inl (fun _ => 0))), (q14, .inr (1, [.ref q16, .int 0, .int 0, .int 0, .int 0, .int 0])), (q16, .inl (E.2.1, 16, .inl (fun _ => 0))), (q17, .inl (E.2.1, 16, .inl (fun _ => 0))), (q18, .inl (E.2.1, 16, .inl (fun _ => 0)))] := hD
  refine W.widen (k := 10) (n := 300) (by decide) (by decide) ?_
  refine x_putF B hP hD hS 0 rfl rfl i_X2 tyX2 tyX2_ok nmX2 3 (by decide) g_79 rfl hmn rfl rfl rfl (Nat.le_of_ble_eq_true rfl) dX2_init_39 (fun H locs hP hD hS => ?_)
  have hP : va_P E.1 classes [(o, .inr (2, [.ref q7, .ref q14, .ref q17, .ref q18, .null, .int 0])), (q7, .inr (0, [.ref q9, .ref q10, .ref q11, .ref q12, .ref q13, .int 0])), (q9, .inl (E.2.1, 16, .inl (fun _ => 0))), (q10, .inl (E.2.1, 176, .inl (fun _ => 0))), (q11, .inl (E.2.1, 16, .inl (fun _ => 0))), (q12, .inl (E.2.1, 16, .inl (fun _ => 0))), (q13, .inl (E.2.1, 16, .inl (fun _ => 0))), (q14, .inr (1, [.ref q16, .int 0, .int 0, .int 0, .int 0, .int 0])), (q16, .inl (E.2.1, 16, .inl (fun _ => 0))), (q17, .inl (E.2.1, 16, .inl (fun _ => 0))), (q18, .inl (E.2.1, 16, .inl (fun _ => 0)))] _ := hP
  have hD : va_D A [(o, .inr (2, [.ref q7, .ref q14, .ref q17, .ref q18, .null, .int 0])), (q7, .inr (0, [.ref q9, .ref q10, .ref q11, .ref q12, .ref q13, .int 0])), (q9, .inl (E.2.1, 16, .inl (fun _ => 0))), (q10, .inl (E.2.1, 176, .inl (fun _ => 0))), (q11, .inl (E.2.1, 16, .inl (fun _ => 0))), (q12, .inl (E.2.1, 16, .inl (fun _ => 0))), (q13, .inl (E.2.1, 16, .inl (fun _ => 0))), (q14, .inr (1, [.ref q16, .int 0, .int 0, .int 0, .int 0, .int 0])), (q16, .inl (E.2.1, 16, .inl (fun _ => 0))), (q17, .inl (E.2.1, 16, .inl (fun _ => 0))), (q18, .inl (E.2.1, 16, .inl (fun _ => 0)))] := hD
  refine lv_aload_n hx hb dX2_init_42 rfl (lv_at hl 0 rfl) ?_
  refine lv_bipush (v := 16) hx hb dX2_init_43 (by decide) ?_
  refine x_newa B hP hD hS g_45 16 rfl (by decide) (by decide) (by decide) dX2_init_45 (fun q19 H hP hD hS => ?_)
  have hP : va_P E.1 classes [(o, .inr (2, [.ref q7, .ref q14, .ref q17, .ref q18, .null, .int 0])), (q7, .inr (0, [.ref q9, .ref q10, .ref q11, .ref q12, .ref q13, .int 0])), (q9, .inl (E.2.1, 16, .inl (fun _ => 0))), (q10, .inl (E.2.1, 176, .inl (fun _ => 0))), (q11, .inl (E.2.1, 16, .inl (fun _ => 0))), (q12, .inl (E.2.1, 16, .inl (fun _ => 0))), (q13, .inl (E.2.1, 16, .inl (fun _ => 0))), (q14, .inr (1, [.ref q16, .int 0, .int 0, .int 0, .int 0, .int 0])), (q16, .inl (E.2.1, 16, .inl (fun _ => 0))), (q17, .inl (E.2.1, 16, .inl (fun _ => 0))), (q18, .inl (E.2.1, 16, .inl (fun _ => 0))), (q19, .inl (E.2.1, 16, .inl (fun _ => 0)))] _ := hP
  have hD : va_D A [(o, .inr (2, [.ref q7, .ref q14, .ref q17, .ref q18, .null, .int 0])), (q7, .inr (0, [.ref q9, .ref q10, .ref q11, .ref q12, .ref q13, .int 0])), (q9, .inl (E.2.1, 16, .inl (fun _ => 0))), (q10, .inl (E.2.1, 176, .inl (fun _ => 0))), (q11, .inl (E.2.1, 16, .inl (fun _ => 0))), (q12, .inl (E.2.1, 16, .inl (fun _ => 0))), (q13, .inl (E.2.1, 16, .inl (fun _ => 0))), (q14, .inr (1, [.ref q16, .int 0, .int 0, .int 0, .int 0, .int 0])), (q16, .inl (E.2.1, 16, .inl (fun _ => 0))), (q17, .inl (E.2.1, 16, .inl (fun _ => 0))), (q18, .inl (E.2.1, 16, .inl (fun _ => 0))), (q19, .inl (E.2.1, 16, .inl (fun _ => 0)))] := hD
  refine W.widen (k := 11) (n := 316) (by decide) (by decide) ?_
  refine x_putF B hP hD hS 0 rfl rfl i_X2 tyX2 tyX2_ok nmX2 4 (by decide) g_80 rfl hmn rfl rfl rfl (Nat.le_of_ble_eq_true rfl) dX2_init_47 (fun H locs hP hD hS => ?_)
  have hP : va_P E.1 classes [(o, .inr (2, [.ref q7, .ref q14, .ref q17, .ref q18, .ref q19, .int 0])), (q7, .inr (0, [.ref q9, .ref q10, .ref q11, .ref q12, .ref q13, .int 0])), (q9, .inl (E.2.1, 16, .inl (fun _ => 0))), (q10, .inl (E.2.1, 176, .inl (fun _ => 0))), (q11, .inl (E.2.1, 16, .inl (fun _ => 0))), (q12, .inl (E.2.1, 16, .inl (fun _ => 0))), (q13, .inl (E.2.1, 16, .inl (fun _ => 0))), (q14, .inr (1, [.ref q16, .int 0, .int 0, .int 0, .int 0, .int 0])), (q16, .inl (E.2.1, 16, .inl (fun _ => 0))), (q17, .inl (E.2.1, 16, .inl (fun _ => 0))), (q18, .inl (E.2.1, 16, .inl (fun _ => 0))), (q19, .inl (E.2.1, 16, .inl (fun _ => 0)))] _ := hP
  have hD : va_D A [(o, .inr (2, [.ref q7, .ref q14, .ref q17, .ref q18, .ref q19, .int 0])), (q7, .inr (0, [.ref q9, .ref q10, .ref q11, .ref q12, .ref q13, .int 0])), (q9, .inl (E.2.1, 16, .inl (fun _ => 0))), (q10, .inl (E.2.1, 176, .inl (fun _ => 0))), (q11, .inl (E.2.1, 16, .inl (fun _ => 0))), (q12, .inl (E.2.1, 16, .inl (fun _ => 0))), (q13, .inl (E.2.1, 16, .inl (fun _ => 0))), (q14, .inr (1, [.ref q16, .int 0, .int 0, .int 0, .int 0, .int 0])), (q16, .inl (E.2.1, 16, .inl (fun _ => 0))), (q17, .inl (E.2.1, 16, .inl (fun _ => 0))), (q18, .inl (E.2.1, 16, .inl (fun _ => 0))), (q19, .inl (E.2.1, 16, .inl (fun _ => 0)))] := hD
  refine lv_aload_n hx hb dX2_init_50 rfl (lv_at hl 0 rfl) ?_
  refine lv_iconst (v := 0) hx hb dX2_init_51 (by decide) ?_
  refine x_put B hP hD hS 0 rfl rfl i_X2 tyX2 tyX2_ok nmX2 5 (by decide) g_81 rfl rfl rfl (Nat.le_of_ble_eq_true rfl) dX2_init_52 (fun H locs hP hD hS => ?_)
  have hP : va_P E.1 classes [(o, .inr (2, [.ref q7, .ref q14, .ref q17, .ref q18, .ref q19, .int 0])), (q7, .inr (0, [.ref q9, .ref q10, .ref q11, .ref q12, .ref q13, .int 0])), (q9, .inl (E.2.1, 16, .inl (fun _ => 0))), (q10, .inl (E.2.1, 176, .inl (fun _ => 0))), (q11, .inl (E.2.1, 16, .inl (fun _ => 0))), (q12, .inl (E.2.1, 16, .inl (fun _ => 0))), (q13, .inl (E.2.1, 16, .inl (fun _ => 0))), (q14, .inr (1, [.ref q16, .int 0, .int 0, .int 0, .int 0, .int 0])), (q16, .inl (E.2.1, 16, .inl (fun _ => 0))), (q17, .inl (E.2.1, 16, .inl (fun _ => 0))), (q18, .inl (E.2.1, 16, .inl (fun _ => 0))), (q19, .inl (E.2.1, 16, .inl (fun _ => 0)))] _ := hP
  have hD : va_D A [(o, .inr (2, [.ref q7, .ref q14, .ref q17, .ref q18, .ref q19, .int 0])), (q7, .inr (0, [.ref q9, .ref q10, .ref q11, .ref q12, .ref q13, .int 0])), (q9, .inl (E.2.1, 16, .inl (fun _ => 0))), (q10, .inl (E.2.1, 176, .inl (fun _ => 0))), (q11, .inl (E.2.1, 16, .inl (fun _ => 0))), (q12, .inl (E.2.1, 16, .inl (fun _ => 0))), (q13, .inl (E.2.1, 16, .inl (fun _ => 0))), (q14, .inr (1, [.ref q16, .int 0, .int 0, .int 0, .int 0, .int 0])), (q16, .inl (E.2.1, 16, .inl (fun _ => 0))), (q17, .inl (E.2.1, 16, .inl (fun _ => 0))), (q18, .inl (E.2.1, 16, .inl (fun _ => 0))), (q19, .inl (E.2.1, 16, .inl (fun _ => 0)))] := hD
  have hP := hP.sub (ws' := [(o, .inr (2, [.ref q7, .ref q14, .ref q17, .ref q18, .ref q19, .int 0])), (q7, .inr (0, [.ref q9, .ref q10, .ref q11, .ref q12, .ref q13, .int 0])), (q14, .inr (1, [.ref q16, .int 0, .int 0, .int 0, .int 0, .int 0])), (q9, .inl (E.2.1, 16, .inl (fun _ => 0))), (q10, .inl (E.2.1, 176, .inl (fun _ => 0))), (q11, .inl (E.2.1, 16, .inl (fun _ => 0))), (q12, .inl (E.2.1, 16, .inl (fun _ => 0))), (q13, .inl (E.2.1, 16, .inl (fun _ => 0))), (q16, .inl (E.2.1, 16, .inl (fun _ => 0))), (q17, .inl (E.2.1, 16, .inl (fun _ => 0))), (q18, .inl (E.2.1, 16, .inl (fun _ => 0))), (q19, .inl (E.2.1, 16, .inl (fun _ => 0)))]) [0, 1, 7, 2, 3, 4, 5, 6, 8, 9, 10, 11] rfl
  have hD := hD.sub (ws' := [(o, .inr (2, [.ref q7, .ref q14, .ref q17, .ref q18, .ref q19, .int 0])), (q7, .inr (0, [.ref q9, .ref q10, .ref q11, .ref q12, .ref q13, .int 0])), (q14, .inr (1, [.ref q16, .int 0, .int 0, .int 0, .int 0, .int 0])), (q9, .inl (E.2.1, 16, .inl (fun _ => 0))), (q10, .inl (E.2.1, 176, .inl (fun _ => 0))), (q11, .inl (E.2.1, 16, .inl (fun _ => 0))), (q12, .inl (E.2.1, 16, .inl (fun _ => 0))), (q13, .inl (E.2.1, 16, .inl (fun _ => 0))), (q16, .inl (E.2.1, 16, .inl (fun _ => 0))), (q17, .inl (E.2.1, 16, .inl (fun _ => 0))), (q18, .inl (E.2.1, 16, .inl (fun _ => 0))), (q19, .inl (E.2.1, 16, .inl (fun _ => 0)))]) [0, 1, 7, 2, 3, 4, 5, 6, 8, 9, 10, 11] (by decide) rfl
  exact x_nret B hP hD hS dX2_init_55 ⟨q7, q14, q9, q10, q11, q12, q13, q16, q17, q18, q19, rfl⟩
set_option maxHeartbeats 4000000 in
set_option maxRecDepth 100000 in
/-- clear -/
theorem c_X0_clear (l : Launch) (E : EE) (oK aB aW aF aG aV : Nat) (fB : Nat → Int32) (mde : Int32) : Cv l yX0_clear (.code yX0_clear cX0_clear 1 none) ({ frames := 1, cells := 0, slots := 0, locals := 23 }) E [.ref oK] [(oK, .inr (0, [.ref aB, .ref aW, .ref aF, .ref aG, .ref aV, .int mde])), (aB, .inl (E.2.1, 16, .inl fB))] [(oK, .inr (0, [.ref aB, .ref aW, .ref aF, .ref aG, .ref aV, .int 0])), (aB, .inl (E.2.1, 16, .inl (fillM 0 fB 16)))] := by
  refine Cv.of (by decide) (Nat.le_of_ble_eq_true rfl) ?_
  intro p e s m below meth c A ls B hP hD hS hl
  have hl : lv_has ls 1 [(0, .ref oK)] := hl
  have B : Bd p s m _ meth c cX0_clear 1 none RX0 E A := B
  have hx := B.1
  have hb := B.2.1
  have hP : va_P E.1 classes [(oK, .inr (0, [.ref aB, .ref aW, .ref aF, .ref aG, .ref aV, .int mde])), (aB, .inl (E.2.1, 16, .inl fB))] _ := hP
  have hD : va_D A [(oK, .inr (0, [.ref aB, .ref aW, .ref aF, .ref aG, .ref aV, .int mde])), (aB, .inl (E.2.1, 16, .inl fB))] := hD
  refine lv_aload_n hx hb dX0_clear_0 rfl (lv_at hl 0 rfl) ?_
  refine x_get B hP 0 rfl rfl i_X0 0 (by decide) g_21 rfl dX0_clear_1 ?_
  refine lv_iconst (v := 0) hx hb dX0_clear_4 (by decide) ?_
  refine x_Sv (wr := [(oK, .inr (0, [.ref aB, .ref aW, .ref aF, .ref aG, .ref aV, .int mde]))]) (isC := [1]) (isR := [0]) (As := [.ref aB, .int 0]) B (c_J7_fill_53178 l E aB 16 fB 0 (by decide)) k_J7_fill_53178 g_103 s_J7_fill_53178 ⟨by decide, by decide, rfl, rfl⟩ hP hD hS ⟨rfl, rfl, rfl, rfl, by decide⟩ rfl hl.1 rfl (Nat.le_of_ble_eq_true rfl) dX0_clear_5 ⟨by decide, by decide⟩ (fun H locs hP hD hS => ?_)
  have hP : va_P E.1 classes [(oK, .inr (0, [.ref aB, .ref aW, .ref aF, .ref aG, .ref aV, .int mde])), (aB, .inl (E.2.1, 16, .inl (fillM 0 fB 16)))] _ := hP
  have hD : va_D A [(oK, .inr (0, [.ref aB, .ref aW, .ref aF, .ref aG, .ref aV, .int mde])), (aB, .inl (E.2.1, 16, .inl (fillM 0 fB 16)))] := hD
  refine lv_aload_n hx hb dX0_clear_8 rfl (lv_at hl 0 rfl) ?_
  refine lv_iconst (v := 0) hx hb dX0_clear_9 (by decide) ?_
  refine x_put B hP hD hS 0 rfl rfl i_X0 tyX0 tyX0_ok nmX0 5 (by decide) g_30 rfl rfl rfl (Nat.le_of_ble_eq_true rfl) dX0_clear_10 (fun H locs hP hD hS => ?_)
  have hP : va_P E.1 classes [(oK, .inr (0, [.ref aB, .ref aW, .ref aF, .ref aG, .ref aV, .int 0])), (aB, .inl (E.2.1, 16, .inl (fillM 0 fB 16)))] _ := hP
  have hD : va_D A [(oK, .inr (0, [.ref aB, .ref aW, .ref aF, .ref aG, .ref aV, .int 0])), (aB, .inl (E.2.1, 16, .inl (fillM 0 fB 16)))] := hD
  have hP : va_P E.1 classes [(oK, .inr (0, [.ref aB, .ref aW, .ref aF, .ref aG, .ref aV, .int 0])), (aB, .inl (E.2.1, 16, .inl (fillM 0 fB 16)))] _ := hP
  have hD : va_D A [(oK, .inr (0, [.ref aB, .ref aW, .ref aF, .ref aG, .ref aV, .int 0])), (aB, .inl (E.2.1, 16, .inl (fillM 0 fB 16)))] := hD
  exact x_vret B hP hD hS dX0_clear_13
set_option maxHeartbeats 4000000 in
set_option maxRecDepth 100000 in
/-- drop -/
theorem c_X1_drop (l : Launch) (E : EE) (oM aS : Nat) (fil opn end_ cmp_ dif : Int32) : Cv l yX1_drop (.code yX1_drop cX1_drop 1 none) ({ frames := 0, cells := 0, slots := 0, locals := 0 }) E [.ref oM] [(oM, .inr (1, [.ref aS, .int fil, .int opn, .int end_, .int cmp_, .int dif]))] [(oM, .inr (1, [.ref aS, .int fil, .int 0, .int 0, .int cmp_, .int dif]))] := by
  refine Cv.of (by decide) (Nat.le_of_ble_eq_true rfl) ?_
  intro p e s m below meth c A ls B hP hD hS hl
  have hl : lv_has ls 1 [(0, .ref oM)] := hl
  have B : Bd p s m _ meth c cX1_drop 1 none RX1 E A := B
  have hx := B.1
  have hb := B.2.1
  have hP : va_P E.1 classes [(oM, .inr (1, [.ref aS, .int fil, .int opn, .int end_, .int cmp_, .int dif]))] _ := hP
  have hD : va_D A [(oM, .inr (1, [.ref aS, .int fil, .int opn, .int end_, .int cmp_, .int dif]))] := hD
  refine lv_aload_n hx hb dX1_drop_0 rfl (lv_at hl 0 rfl) ?_
  refine lv_iconst (v := 0) hx hb dX1_drop_1 (by decide) ?_
  refine x_put B hP hD hS 0 rfl rfl i_X1 tyX1 tyX1_ok nmX1 2 (by decide) g_55 rfl rfl rfl (Nat.le_of_ble_eq_true rfl) dX1_drop_2 (fun H locs hP hD hS => ?_)
  have hP : va_P E.1 classes [(oM, .inr (1, [.ref aS, .int fil, .int 0, .int end_, .int cmp_, .int dif]))] _ := hP
  have hD : va_D A [(oM, .inr (1, [.ref aS, .int fil, .int 0, .int end_, .int cmp_, .int dif]))] := hD
  refine lv_aload_n hx hb dX1_drop_5 rfl (lv_at hl 0 rfl) ?_
  refine lv_iconst (v := 0) hx hb dX1_drop_6 (by decide) ?_
  refine x_put B hP hD hS 0 rfl rfl i_X1 tyX1 tyX1_ok nmX1 3 (by decide) g_57 rfl rfl rfl (Nat.le_of_ble_eq_true rfl) dX1_drop_7 (fun H locs hP hD hS => ?_)
  have hP : va_P E.1 classes [(oM, .inr (1, [.ref aS, .int fil, .int 0, .int 0, .int cmp_, .int dif]))] _ := hP
  have hD : va_D A [(oM, .inr (1, [.ref aS, .int fil, .int 0, .int 0, .int cmp_, .int dif]))] := hD
  have hP : va_P E.1 classes [(oM, .inr (1, [.ref aS, .int fil, .int 0, .int 0, .int cmp_, .int dif]))] _ := hP
  have hD : va_D A [(oM, .inr (1, [.ref aS, .int fil, .int 0, .int 0, .int cmp_, .int dif]))] := hD
  exact x_vret B hP hD hS dX1_drop_10
set_option maxHeartbeats 4000000 in
set_option maxRecDepth 100000 in
/-- init -/
theorem c_X2_init_ (l : Launch) (E : EE) (o oK oM aB aW aF aG aV aS aO aP aQ : Nat) (fB fW fF fG fV fE fO fP fQ : Nat → Int32) (mde fil opn end_ cmp_ dif rdy : Int32) : Cv l yX2_init_ (.code yX2_init_ cX2_init_ 1 none) ({ frames := 2, cells := 0, slots := 0, locals := 43 }) E [.ref o] [(o, .inr (2, [.ref oK, .ref oM, .ref aO, .ref aP, .ref aQ, .int rdy])), (oK, .inr (0, [.ref aB, .ref aW, .ref aF, .ref aG, .ref aV, .int mde])), (oM, .inr (1, [.ref aS, .int fil, .int opn, .int end_, .int cmp_, .int dif])), (aB, .inl (E.2.1, 16, .inl fB)), (aW, .inl (E.2.1, 176, .inl fW)), (aF, .inl (E.2.1, 16, .inl fF)), (aG, .inl (E.2.1, 16, .inl fG)), (aV, .inl (E.2.1, 16, .inl fV)), (aS, .inl (E.2.1, 16, .inl fE)), (aO, .inl (E.2.1, 16, .inl fO)), (aP, .inl (E.2.1, 16, .inl fP)), (aQ, .inl (E.2.1, 16, .inl fQ))] [(o, .inr (2, [.ref oK, .ref oM, .ref aO, .ref aP, .ref aQ, .int 1])), (oK, .inr (0, [.ref aB, .ref aW, .ref aF, .ref aG, .ref aV, .int 0])), (oM, .inr (1, [.ref aS, .int fil, .int 0, .int 0, .int cmp_, .int dif])), (aB, .inl (E.2.1, 16, .inl (fillM 0 fB 16))), (aW, .inl (E.2.1, 176, .inl fW)), (aF, .inl (E.2.1, 16, .inl fF)), (aG, .inl (E.2.1, 16, .inl fG)), (aV, .inl (E.2.1, 16, .inl fV)), (aS, .inl (E.2.1, 16, .inl fE)), (aO, .inl (E.2.1, 16, .inl fO)), (aP, .inl (E.2.1, 16, .inl fP)), (aQ, .inl (E.2.1, 16, .inl fQ))] := by
  refine Cv.of (by decide) (Nat.le_of_ble_eq_true rfl) ?_
  intro p e s m below meth c A ls B hP hD hS hl
  have hl : lv_has ls 1 [(0, .ref o)] := hl
  have B : Bd p s m _ meth c cX2_init_ 1 none RX2 E A := B
  have hx := B.1
  have hb := B.2.1
  have hP : va_P E.1 classes [(o, .inr (2, [.ref oK, .ref oM, .ref aO, .ref aP, .ref aQ, .int rdy])), (oK, .inr (0, [.ref aB, .ref aW, .ref aF, .ref aG, .ref aV, .int mde])), (oM, .inr (1, [.ref aS, .int fil, .int opn, .int end_, .int cmp_, .int dif])), (aB, .inl (E.2.1, 16, .inl fB)), (aW, .inl (E.2.1, 176, .inl fW)), (aF, .inl (E.2.1, 16, .inl fF)), (aG, .inl (E.2.1, 16, .inl fG)), (aV, .inl (E.2.1, 16, .inl fV)), (aS, .inl (E.2.1, 16, .inl fE)), (aO, .inl (E.2.1, 16, .inl fO)), (aP, .inl (E.2.1, 16, .inl fP)), (aQ, .inl (E.2.1, 16, .inl fQ))] _ := hP
  have hD : va_D A [(o, .inr (2, [.ref oK, .ref oM, .ref aO, .ref aP, .ref aQ, .int rdy])), (oK, .inr (0, [.ref aB, .ref aW, .ref aF, .ref aG, .ref aV, .int mde])), (oM, .inr (1, [.ref aS, .int fil, .int opn, .int end_, .int cmp_, .int dif])), (aB, .inl (E.2.1, 16, .inl fB)), (aW, .inl (E.2.1, 176, .inl fW)), (aF, .inl (E.2.1, 16, .inl fF)), (aG, .inl (E.2.1, 16, .inl fG)), (aV, .inl (E.2.1, 16, .inl fV)), (aS, .inl (E.2.1, 16, .inl fE)), (aO, .inl (E.2.1, 16, .inl fO)), (aP, .inl (E.2.1, 16, .inl fP)), (aQ, .inl (E.2.1, 16, .inl fQ))] := hD
  refine lv_aload_n hx hb dX2_init__0 rfl (lv_at hl 0 rfl) ?_
  refine lv_iconst (v := 1) hx hb dX2_init__1 (by decide) ?_
  refine x_put B hP hD hS 0 rfl rfl i_X2 tyX2 tyX2_ok nmX2 5 (by decide) g_81 rfl rfl rfl (Nat.le_of_ble_eq_true rfl) dX2_init__2 (fun H locs hP hD hS => ?_)
  have hP : va_P E.1 classes [(o, .inr (2, [.ref oK, .ref oM, .ref aO, .ref aP, .ref aQ, .int 1])), (oK, .inr (0, [.ref aB, .ref aW, .ref aF, .ref aG, .ref aV, .int mde])), (oM, .inr (1, [.ref aS, .int fil, .int opn, .int end_, .int cmp_, .int dif])), (aB, .inl (E.2.1, 16, .inl fB)), (aW, .inl (E.2.1, 176, .inl fW)), (aF, .inl (E.2.1, 16, .inl fF)), (aG, .inl (E.2.1, 16, .inl fG)), (aV, .inl (E.2.1, 16, .inl fV)), (aS, .inl (E.2.1, 16, .inl fE)), (aO, .inl (E.2.1, 16, .inl fO)), (aP, .inl (E.2.1, 16, .inl fP)), (aQ, .inl (E.2.1, 16, .inl fQ))] _ := hP
  have hD : va_D A [(o, .inr (2, [.ref oK, .ref oM, .ref aO, .ref aP, .ref aQ, .int 1])), (oK, .inr (0, [.ref aB, .ref aW, .ref aF, .ref aG, .ref aV, .int mde])), (oM, .inr (1, [.ref aS, .int fil, .int opn, .int end_, .int cmp_, .int dif])), (aB, .inl (E.2.1, 16, .inl fB)), (aW, .inl (E.2.1, 176, .inl fW)), (aF, .inl (E.2.1, 16, .inl fF)), (aG, .inl (E.2.1, 16, .inl fG)), (aV, .inl (E.2.1, 16, .inl fV)), (aS, .inl (E.2.1, 16, .inl fE)), (aO, .inl (E.2.1, 16, .inl fO)), (aP, .inl (E.2.1, 16, .inl fP)), (aQ, .inl (E.2.1, 16, .inl fQ))] := hD
  refine lv_aload_n hx hb dX2_init__5 rfl (lv_at hl 0 rfl) ?_
  refine x_get B hP 0 rfl rfl i_X2 0 (by decide) g_76 rfl dX2_init__6 ?_
  refine x_Vv (wr := [(o, .inr (2, [.ref oK, .ref oM, .ref aO, .ref aP, .ref aQ, .int 1])), (oM, .inr (1, [.ref aS, .int fil, .int opn, .int end_, .int cmp_, .int dif])), (aW, .inl (E.2.1, 176, .inl fW)), (aF, .inl (E.2.1, 16, .inl fF)), (aG, .inl (E.2.1, 16, .inl fG)), (aV, .inl (E.2.1, 16, .inl fV)), (aS, .inl (E.2.1, 16, .inl fE)), (aO, .inl (E.2.1, 16, .inl fO)), (aP, .inl (E.2.1, 16, .inl fP)), (aQ, .inl (E.2.1, 16, .inl fQ))]) (isC := [1, 3]) (isR := [0, 2, 4, 5, 6, 7, 8, 9, 10, 11]) (As := []) B (c_X0_clear l E oK aB aW aF aG aV fB mde) k_X0_clear g_99 s_X0_clear ⟨by decide, by decide, rfl, rfl⟩ rfl 1 rfl hP hD hS ⟨rfl, rfl, rfl, rfl, by decide⟩ rfl hl.1 rfl (Nat.le_of_ble_eq_true rfl) dX2_init__9 ⟨by decide, by decide⟩ (fun H locs hP hD hS => ?_)
  have hP : va_P E.1 classes [(o, .inr (2, [.ref oK, .ref oM, .ref aO, .ref aP, .ref aQ, .int 1])), (oM, .inr (1, [.ref aS, .int fil, .int opn, .int end_, .int cmp_, .int dif])), (aW, .inl (E.2.1, 176, .inl fW)), (aF, .inl (E.2.1, 16, .inl fF)), (aG, .inl (E.2.1, 16, .inl fG)), (aV, .inl (E.2.1, 16, .inl fV)), (aS, .inl (E.2.1, 16, .inl fE)), (aO, .inl (E.2.1, 16, .inl fO)), (aP, .inl (E.2.1, 16, .inl fP)), (aQ, .inl (E.2.1, 16, .inl fQ)), (oK, .inr (0, [.ref aB, .ref aW, .ref aF, .ref aG, .ref aV, .int 0])), (aB, .inl (E.2.1, 16, .inl (fillM 0 fB 16)))] _ := hP
  have hD : va_D A [(o, .inr (2, [.ref oK, .ref oM, .ref aO, .ref aP, .ref aQ, .int 1])), (oM, .inr (1, [.ref aS, .int fil, .int opn, .int end_, .int cmp_, .int dif])), (aW, .inl (E.2.1, 176, .inl fW)), (aF, .inl (E.2.1, 16, .inl fF)), (aG, .inl (E.2.1, 16, .inl fG)), (aV, .inl (E.2.1, 16, .inl fV)), (aS, .inl (E.2.1, 16, .inl fE)), (aO, .inl (E.2.1, 16, .inl fO)), (aP, .inl (E.2.1, 16, .inl fP)), (aQ, .inl (E.2.1, 16, .inl fQ)), (oK, .inr (0, [.ref aB, .ref aW, .ref aF, .ref aG, .ref aV, .int 0])), (aB, .inl (E.2.1, 16, .inl (fillM 0 fB 16)))] := hD
  refine lv_aload_n hx hb dX2_init__12 rfl (lv_at hl 0 rfl) ?_
  refine x_get B hP 0 rfl rfl i_X2 1 (by decide) g_77 rfl dX2_init__13 ?_
  refine x_Vv (wr := [(o, .inr (2, [.ref oK, .ref oM, .ref aO, .ref aP, .ref aQ, .int 1])), (aW, .inl (E.2.1, 176, .inl fW)), (aF, .inl (E.2.1, 16, .inl fF)), (aG, .inl (E.2.1, 16, .inl fG)), (aV, .inl (E.2.1, 16, .inl fV)), (aS, .inl (E.2.1, 16, .inl fE)), (aO, .inl (E.2.1, 16, .inl fO)), (aP, .inl (E.2.1, 16, .inl fP)), (aQ, .inl (E.2.1, 16, .inl fQ)), (oK, .inr (0, [.ref aB, .ref aW, .ref aF, .ref aG, .ref aV, .int 0])), (aB, .inl (E.2.1, 16, .inl (fillM 0 fB 16)))]) (isC := [1]) (isR := [0, 2, 3, 4, 5, 6, 7, 8, 9, 10, 11]) (As := []) B (c_X1_drop l E oM aS fil opn end_ cmp_ dif) k_X1_drop g_106 s_X1_drop ⟨by decide, by decide, rfl, rfl⟩ rfl 1 rfl hP hD hS ⟨rfl, rfl, rfl, rfl, by decide⟩ rfl hl.1 rfl (Nat.le_of_ble_eq_true rfl) dX2_init__16 ⟨by decide, by decide⟩ (fun H locs hP hD hS => ?_)
  have hP : va_P E.1 classes [(o, .inr (2, [.ref oK, .ref oM, .ref aO, .ref aP, .ref aQ, .int 1])), (aW, .inl (E.2.1, 176, .inl fW)), (aF, .inl (E.2.1, 16, .inl fF)), (aG, .inl (E.2.1, 16, .inl fG)), (aV, .inl (E.2.1, 16, .inl fV)), (aS, .inl (E.2.1, 16, .inl fE)), (aO, .inl (E.2.1, 16, .inl fO)), (aP, .inl (E.2.1, 16, .inl fP)), (aQ, .inl (E.2.1, 16, .inl fQ)), (oK, .inr (0, [.ref aB, .ref aW, .ref aF, .ref aG, .ref aV, .int 0])), (aB, .inl (E.2.1, 16, .inl (fillM 0 fB 16))), (oM, .inr (1, [.ref aS, .int fil, .int 0, .int 0, .int cmp_, .int dif]))] _ := hP
  have hD : va_D A [(o, .inr (2, [.ref oK, .ref oM, .ref aO, .ref aP, .ref aQ, .int 1])), (aW, .inl (E.2.1, 176, .inl fW)), (aF, .inl (E.2.1, 16, .inl fF)), (aG, .inl (E.2.1, 16, .inl fG)), (aV, .inl (E.2.1, 16, .inl fV)), (aS, .inl (E.2.1, 16, .inl fE)), (aO, .inl (E.2.1, 16, .inl fO)), (aP, .inl (E.2.1, 16, .inl fP)), (aQ, .inl (E.2.1, 16, .inl fQ)), (oK, .inr (0, [.ref aB, .ref aW, .ref aF, .ref aG, .ref aV, .int 0])), (aB, .inl (E.2.1, 16, .inl (fillM 0 fB 16))), (oM, .inr (1, [.ref aS, .int fil, .int 0, .int 0, .int cmp_, .int dif]))] := hD
  have hP := hP.sub (ws' := [(o, .inr (2, [.ref oK, .ref oM, .ref aO, .ref aP, .ref aQ, .int 1])), (oK, .inr (0, [.ref aB, .ref aW, .ref aF, .ref aG, .ref aV, .int 0])), (oM, .inr (1, [.ref aS, .int fil, .int 0, .int 0, .int cmp_, .int dif])), (aB, .inl (E.2.1, 16, .inl (fillM 0 fB 16))), (aW, .inl (E.2.1, 176, .inl fW)), (aF, .inl (E.2.1, 16, .inl fF)), (aG, .inl (E.2.1, 16, .inl fG)), (aV, .inl (E.2.1, 16, .inl fV)), (aS, .inl (E.2.1, 16, .inl fE)), (aO, .inl (E.2.1, 16, .inl fO)), (aP, .inl (E.2.1, 16, .inl fP)), (aQ, .inl (E.2.1, 16, .inl fQ))]) [0, 9, 11, 10, 1, 2, 3, 4, 5, 6, 7, 8] rfl
  have hD := hD.sub (ws' := [(o, .inr (2, [.ref oK, .ref oM, .ref aO, .ref aP, .ref aQ, .int 1])), (oK, .inr (0, [.ref aB, .ref aW, .ref aF, .ref aG, .ref aV, .int 0])), (oM, .inr (1, [.ref aS, .int fil, .int 0, .int 0, .int cmp_, .int dif])), (aB, .inl (E.2.1, 16, .inl (fillM 0 fB 16))), (aW, .inl (E.2.1, 176, .inl fW)), (aF, .inl (E.2.1, 16, .inl fF)), (aG, .inl (E.2.1, 16, .inl fG)), (aV, .inl (E.2.1, 16, .inl fV)), (aS, .inl (E.2.1, 16, .inl fE)), (aO, .inl (E.2.1, 16, .inl fO)), (aP, .inl (E.2.1, 16, .inl fP)), (aQ, .inl (E.2.1, 16, .inl fQ))]) [0, 9, 11, 10, 1, 2, 3, 4, 5, 6, 7, 8] (by decide) rfl
  have hP : va_P E.1 classes [(o, .inr (2, [.ref oK, .ref oM, .ref aO, .ref aP, .ref aQ, .int 1])), (oK, .inr (0, [.ref aB, .ref aW, .ref aF, .ref aG, .ref aV, .int 0])), (oM, .inr (1, [.ref aS, .int fil, .int 0, .int 0, .int cmp_, .int dif])), (aB, .inl (E.2.1, 16, .inl (fillM 0 fB 16))), (aW, .inl (E.2.1, 176, .inl fW)), (aF, .inl (E.2.1, 16, .inl fF)), (aG, .inl (E.2.1, 16, .inl fG)), (aV, .inl (E.2.1, 16, .inl fV)), (aS, .inl (E.2.1, 16, .inl fE)), (aO, .inl (E.2.1, 16, .inl fO)), (aP, .inl (E.2.1, 16, .inl fP)), (aQ, .inl (E.2.1, 16, .inl fQ))] _ := hP
  have hD : va_D A [(o, .inr (2, [.ref oK, .ref oM, .ref aO, .ref aP, .ref aQ, .int 1])), (oK, .inr (0, [.ref aB, .ref aW, .ref aF, .ref aG, .ref aV, .int 0])), (oM, .inr (1, [.ref aS, .int fil, .int 0, .int 0, .int cmp_, .int dif])), (aB, .inl (E.2.1, 16, .inl (fillM 0 fB 16))), (aW, .inl (E.2.1, 176, .inl fW)), (aF, .inl (E.2.1, 16, .inl fF)), (aG, .inl (E.2.1, 16, .inl fG)), (aV, .inl (E.2.1, 16, .inl fV)), (aS, .inl (E.2.1, 16, .inl fE)), (aO, .inl (E.2.1, 16, .inl fO)), (aP, .inl (E.2.1, 16, .inl fP)), (aQ, .inl (E.2.1, 16, .inl fQ))] := hD
  exact x_vret B hP hD hS dX2_init__19
set_option maxHeartbeats 4000000 in
set_option maxRecDepth 100000 in
/-- setKeyByte: not as it wants it -/
theorem c_X2_setKeyByte_no (l : Launch) (E : EE) (o oK oM aB aW aF aG aV aS aO aP aQ : Nat) (fB fW fF fG fV fE fO fP fQ : Nat → Int32) (mde fil opn end_ cmp_ dif rdy : Int32) (p0 : Int32) (p1 : Int32) (h0 : rdy = 0 ∨ plM p0 = 0 ∨ byM p1 = 0) : Ci l yX2_setKeyByte (.code yX2_setKeyByte cX2_setKeyByte 3 (some .boolean)) ({ frames := 1, cells := 0, slots := 0, locals := 22 }) E [.ref o, .int p0, .int p1] 0 [(o, .inr (2, [.ref oK, .ref oM, .ref aO, .ref aP, .ref aQ, .int rdy])), (oK, .inr (0, [.ref aB, .ref aW, .ref aF, .ref aG, .ref aV, .int mde])), (oM, .inr (1, [.ref aS, .int fil, .int opn, .int end_, .int cmp_, .int dif])), (aB, .inl (E.2.1, 16, .inl fB)), (aW, .inl (E.2.1, 176, .inl fW)), (aF, .inl (E.2.1, 16, .inl fF)), (aG, .inl (E.2.1, 16, .inl fG)), (aV, .inl (E.2.1, 16, .inl fV)), (aS, .inl (E.2.1, 16, .inl fE)), (aO, .inl (E.2.1, 16, .inl fO)), (aP, .inl (E.2.1, 16, .inl fP)), (aQ, .inl (E.2.1, 16, .inl fQ))] [(o, .inr (2, [.ref oK, .ref oM, .ref aO, .ref aP, .ref aQ, .int rdy])), (oK, .inr (0, [.ref aB, .ref aW, .ref aF, .ref aG, .ref aV, .int mde])), (oM, .inr (1, [.ref aS, .int fil, .int opn, .int end_, .int cmp_, .int dif])), (aB, .inl (E.2.1, 16, .inl fB)), (aW, .inl (E.2.1, 176, .inl fW)), (aF, .inl (E.2.1, 16, .inl fF)), (aG, .inl (E.2.1, 16, .inl fG)), (aV, .inl (E.2.1, 16, .inl fV)), (aS, .inl (E.2.1, 16, .inl fE)), (aO, .inl (E.2.1, 16, .inl fO)), (aP, .inl (E.2.1, 16, .inl fP)), (aQ, .inl (E.2.1, 16, .inl fQ))] := by
  refine Ci.of (by decide) (Nat.le_of_ble_eq_true rfl) ?_
  intro p e s m below meth c A ls B hP hD hS hl
  have hl : lv_has ls 3 [(0, .ref o), (1, .int p0), (2, .int p1)] := hl
  have B : Bd p s m _ meth c cX2_setKeyByte 3 (some .boolean) RX2 E A := B
  have hx := B.1
  have hb := B.2.1
  have hP : va_P E.1 classes [(o, .inr (2, [.ref oK, .ref oM, .ref aO, .ref aP, .ref aQ, .int rdy])), (oK, .inr (0, [.ref aB, .ref aW, .ref aF, .ref aG, .ref aV, .int mde])), (oM, .inr (1, [.ref aS, .int fil, .int opn, .int end_, .int cmp_, .int dif])), (aB, .inl (E.2.1, 16, .inl fB)), (aW, .inl (E.2.1, 176, .inl fW)), (aF, .inl (E.2.1, 16, .inl fF)), (aG, .inl (E.2.1, 16, .inl fG)), (aV, .inl (E.2.1, 16, .inl fV)), (aS, .inl (E.2.1, 16, .inl fE)), (aO, .inl (E.2.1, 16, .inl fO)), (aP, .inl (E.2.1, 16, .inl fP)), (aQ, .inl (E.2.1, 16, .inl fQ))] _ := hP
  have hD : va_D A [(o, .inr (2, [.ref oK, .ref oM, .ref aO, .ref aP, .ref aQ, .int rdy])), (oK, .inr (0, [.ref aB, .ref aW, .ref aF, .ref aG, .ref aV, .int mde])), (oM, .inr (1, [.ref aS, .int fil, .int opn, .int end_, .int cmp_, .int dif])), (aB, .inl (E.2.1, 16, .inl fB)), (aW, .inl (E.2.1, 176, .inl fW)), (aF, .inl (E.2.1, 16, .inl fF)), (aG, .inl (E.2.1, 16, .inl fG)), (aV, .inl (E.2.1, 16, .inl fV)), (aS, .inl (E.2.1, 16, .inl fE)), (aO, .inl (E.2.1, 16, .inl fO)), (aP, .inl (E.2.1, 16, .inl fP)), (aQ, .inl (E.2.1, 16, .inl fQ))] := hD
  refine lv_aload_n hx hb dX2_setKeyByte_0 rfl (lv_at hl 0 rfl) ?_
  refine x_get B hP 0 rfl rfl i_X2 5 (by decide) g_81 rfl dX2_setKeyByte_1 ?_
  refine lv_if_eq (tgt := 21) hx hb dX2_setKeyByte_4 (by decide) (fun c_4 => ?_) (fun c_4 => ?_)
  · refine lv_iconst (v := 0) hx hb dX2_setKeyByte_21 (by decide) ?_
    have hP : va_P E.1 classes [(o, .inr (2, [.ref oK, .ref oM, .ref aO, .ref aP, .ref aQ, .int rdy])), (oK, .inr (0, [.ref aB, .ref aW, .ref aF, .ref aG, .ref aV, .int mde])), (oM, .inr (1, [.ref aS, .int fil, .int opn, .int end_, .int cmp_, .int dif])), (aB, .inl (E.2.1, 16, .inl fB)), (aW, .inl (E.2.1, 176, .inl fW)), (aF, .inl (E.2.1, 16, .inl fF)), (aG, .inl (E.2.1, 16, .inl fG)), (aV, .inl (E.2.1, 16, .inl fV)), (aS, .inl (E.2.1, 16, .inl fE)), (aO, .inl (E.2.1, 16, .inl fO)), (aP, .inl (E.2.1, 16, .inl fP)), (aQ, .inl (E.2.1, 16, .inl fQ))] _ := hP
    have hD : va_D A [(o, .inr (2, [.ref oK, .ref oM, .ref aO, .ref aP, .ref aQ, .int rdy])), (oK, .inr (0, [.ref aB, .ref aW, .ref aF, .ref aG, .ref aV, .int mde])), (oM, .inr (1, [.ref aS, .int fil, .int opn, .int end_, .int cmp_, .int dif])), (aB, .inl (E.2.1, 16, .inl fB)), (aW, .inl (E.2.1, 176, .inl fW)), (aF, .inl (E.2.1, 16, .inl fF)), (aG, .inl (E.2.1, 16, .inl fG)), (aV, .inl (E.2.1, 16, .inl fV)), (aS, .inl (E.2.1, 16, .inl fE)), (aO, .inl (E.2.1, 16, .inl fO)), (aP, .inl (E.2.1, 16, .inl fP)), (aQ, .inl (E.2.1, 16, .inl fQ))] := hD
    exact x_iret B hP hD hS rfl rfl dX2_setKeyByte_22
  · refine lv_iload_n hx hb dX2_setKeyByte_7 rfl (lv_at hl 1 rfl) ?_
    refine x_Si (wr := [(o, .inr (2, [.ref oK, .ref oM, .ref aO, .ref aP, .ref aQ, .int rdy])), (oK, .inr (0, [.ref aB, .ref aW, .ref aF, .ref aG, .ref aV, .int mde])), (oM, .inr (1, [.ref aS, .int fil, .int opn, .int end_, .int cmp_, .int dif])), (aB, .inl (E.2.1, 16, .inl fB)), (aW, .inl (E.2.1, 176, .inl fW)), (aF, .inl (E.2.1, 16, .inl fF)), (aG, .inl (E.2.1, 16, .inl fG)), (aV, .inl (E.2.1, 16, .inl fV)), (aS, .inl (E.2.1, 16, .inl fE)), (aO, .inl (E.2.1, 16, .inl fO)), (aP, .inl (E.2.1, 16, .inl fP)), (aQ, .inl (E.2.1, 16, .inl fQ))]) (isC := []) (isR := [0, 1, 2, 3, 4, 5, 6, 7, 8, 9, 10, 11]) (As := [.int p0]) B (c_X2_isPlace l E p0) k_X2_isPlace g_114 s_X2_isPlace ⟨by decide, by decide, rfl, rfl⟩ hP hD hS ⟨rfl, rfl, rfl, rfl, by decide⟩ rfl hl.1 rfl (Nat.le_of_ble_eq_true rfl) dX2_setKeyByte_8 ⟨by decide, by decide⟩ (fun H locs hP hD hS => ?_)
    have hP : va_P E.1 classes [(o, .inr (2, [.ref oK, .ref oM, .ref aO, .ref aP, .ref aQ, .int rdy])), (oK, .inr (0, [.ref aB, .ref aW, .ref aF, .ref aG, .ref aV, .int mde])), (oM, .inr (1, [.ref aS, .int fil, .int opn, .int end_, .int cmp_, .int dif])), (aB, .inl (E.2.1, 16, .inl fB)), (aW, .inl (E.2.1, 176, .inl fW)), (aF, .inl (E.2.1, 16, .inl fF)), (aG, .inl (E.2.1, 16, .inl fG)), (aV, .inl (E.2.1, 16, .inl fV)), (aS, .inl (E.2.1, 16, .inl fE)), (aO, .inl (E.2.1, 16, .inl fO)), (aP, .inl (E.2.1, 16, .inl fP)), (aQ, .inl (E.2.1, 16, .inl fQ))] _ := hP
    have hD : va_D A [(o, .inr (2, [.ref oK, .ref oM, .ref aO, .ref aP, .ref aQ, .int rdy])), (oK, .inr (0, [.ref aB, .ref aW, .ref aF, .ref aG, .ref aV, .int mde])), (oM, .inr (1, [.ref aS, .int fil, .int opn, .int end_, .int cmp_, .int dif])), (aB, .inl (E.2.1, 16, .inl fB)), (aW, .inl (E.2.1, 176, .inl fW)), (aF, .inl (E.2.1, 16, .inl fF)), (aG, .inl (E.2.1, 16, .inl fG)), (aV, .inl (E.2.1, 16, .inl fV)), (aS, .inl (E.2.1, 16, .inl fE)), (aO, .inl (E.2.1, 16, .inl fO)), (aP, .inl (E.2.1, 16, .inl fP)), (aQ, .inl (E.2.1, 16, .inl fQ))] := hD
    refine lv_if_eq (tgt := 21) hx hb dX2_setKeyByte_11 (by decide) (fun c_11 => ?_) (fun c_11 => ?_)
    · refine lv_iconst (v := 0) hx hb dX2_setKeyByte_21 (by decide) ?_
      have hP : va_P E.1 classes [(o, .inr (2, [.ref oK, .ref oM, .ref aO, .ref aP, .ref aQ, .int rdy])), (oK, .inr (0, [.ref aB, .ref aW, .ref aF, .ref aG, .ref aV, .int mde])), (oM, .inr (1, [.ref aS, .int fil, .int opn, .int end_, .int cmp_, .int dif])), (aB, .inl (E.2.1, 16, .inl fB)), (aW, .inl (E.2.1, 176, .inl fW)), (aF, .inl (E.2.1, 16, .inl fF)), (aG, .inl (E.2.1, 16, .inl fG)), (aV, .inl (E.2.1, 16, .inl fV)), (aS, .inl (E.2.1, 16, .inl fE)), (aO, .inl (E.2.1, 16, .inl fO)), (aP, .inl (E.2.1, 16, .inl fP)), (aQ, .inl (E.2.1, 16, .inl fQ))] _ := hP
      have hD : va_D A [(o, .inr (2, [.ref oK, .ref oM, .ref aO, .ref aP, .ref aQ, .int rdy])), (oK, .inr (0, [.ref aB, .ref aW, .ref aF, .ref aG, .ref aV, .int mde])), (oM, .inr (1, [.ref aS, .int fil, .int opn, .int end_, .int cmp_, .int dif])), (aB, .inl (E.2.1, 16, .inl fB)), (aW, .inl (E.2.1, 176, .inl fW)), (aF, .inl (E.2.1, 16, .inl fF)), (aG, .inl (E.2.1, 16, .inl fG)), (aV, .inl (E.2.1, 16, .inl fV)), (aS, .inl (E.2.1, 16, .inl fE)), (aO, .inl (E.2.1, 16, .inl fO)), (aP, .inl (E.2.1, 16, .inl fP)), (aQ, .inl (E.2.1, 16, .inl fQ))] := hD
      exact x_iret B hP hD hS rfl rfl dX2_setKeyByte_22
    · refine lv_iload_n hx hb dX2_setKeyByte_14 rfl (lv_at hl 2 rfl) ?_
      refine x_Si (wr := [(o, .inr (2, [.ref oK, .ref oM, .ref aO, .ref aP, .ref aQ, .int rdy])), (oK, .inr (0, [.ref aB, .ref aW, .ref aF, .ref aG, .ref aV, .int mde])), (oM, .inr (1, [.ref aS, .int fil, .int opn, .int end_, .int cmp_, .int dif])), (aB, .inl (E.2.1, 16, .inl fB)), (aW, .inl (E.2.1, 176, .inl fW)), (aF, .inl (E.2.1, 16, .inl fF)), (aG, .inl (E.2.1, 16, .inl fG)), (aV, .inl (E.2.1, 16, .inl fV)), (aS, .inl (E.2.1, 16, .inl fE)), (aO, .inl (E.2.1, 16, .inl fO)), (aP, .inl (E.2.1, 16, .inl fP)), (aQ, .inl (E.2.1, 16, .inl fQ))]) (isC := []) (isR := [0, 1, 2, 3, 4, 5, 6, 7, 8, 9, 10, 11]) (As := [.int p1]) B (c_X2_isByte l E p1) k_X2_isByte g_117 s_X2_isByte ⟨by decide, by decide, rfl, rfl⟩ hP hD hS ⟨rfl, rfl, rfl, rfl, by decide⟩ rfl hl.1 rfl (Nat.le_of_ble_eq_true rfl) dX2_setKeyByte_15 ⟨by decide, by decide⟩ (fun H locs hP hD hS => ?_)
      have hP : va_P E.1 classes [(o, .inr (2, [.ref oK, .ref oM, .ref aO, .ref aP, .ref aQ, .int rdy])), (oK, .inr (0, [.ref aB, .ref aW, .ref aF, .ref aG, .ref aV, .int mde])), (oM, .inr (1, [.ref aS, .int fil, .int opn, .int end_, .int cmp_, .int dif])), (aB, .inl (E.2.1, 16, .inl fB)), (aW, .inl (E.2.1, 176, .inl fW)), (aF, .inl (E.2.1, 16, .inl fF)), (aG, .inl (E.2.1, 16, .inl fG)), (aV, .inl (E.2.1, 16, .inl fV)), (aS, .inl (E.2.1, 16, .inl fE)), (aO, .inl (E.2.1, 16, .inl fO)), (aP, .inl (E.2.1, 16, .inl fP)), (aQ, .inl (E.2.1, 16, .inl fQ))] _ := hP
      have hD : va_D A [(o, .inr (2, [.ref oK, .ref oM, .ref aO, .ref aP, .ref aQ, .int rdy])), (oK, .inr (0, [.ref aB, .ref aW, .ref aF, .ref aG, .ref aV, .int mde])), (oM, .inr (1, [.ref aS, .int fil, .int opn, .int end_, .int cmp_, .int dif])), (aB, .inl (E.2.1, 16, .inl fB)), (aW, .inl (E.2.1, 176, .inl fW)), (aF, .inl (E.2.1, 16, .inl fF)), (aG, .inl (E.2.1, 16, .inl fG)), (aV, .inl (E.2.1, 16, .inl fV)), (aS, .inl (E.2.1, 16, .inl fE)), (aO, .inl (E.2.1, 16, .inl fO)), (aP, .inl (E.2.1, 16, .inl fP)), (aQ, .inl (E.2.1, 16, .inl fQ))] := hD
      refine lv_if_ne (tgt := 23) hx hb dX2_setKeyByte_18 (by decide) (fun c_18 => ?_) (fun c_18 => ?_)
      · exact absurd h0 (fun h => by rcases h with h | h | h <;> contradiction)
      · refine lv_iconst (v := 0) hx hb dX2_setKeyByte_21 (by decide) ?_
        have hP : va_P E.1 classes [(o, .inr (2, [.ref oK, .ref oM, .ref aO, .ref aP, .ref aQ, .int rdy])), (oK, .inr (0, [.ref aB, .ref aW, .ref aF, .ref aG, .ref aV, .int mde])), (oM, .inr (1, [.ref aS, .int fil, .int opn, .int end_, .int cmp_, .int dif])), (aB, .inl (E.2.1, 16, .inl fB)), (aW, .inl (E.2.1, 176, .inl fW)), (aF, .inl (E.2.1, 16, .inl fF)), (aG, .inl (E.2.1, 16, .inl fG)), (aV, .inl (E.2.1, 16, .inl fV)), (aS, .inl (E.2.1, 16, .inl fE)), (aO, .inl (E.2.1, 16, .inl fO)), (aP, .inl (E.2.1, 16, .inl fP)), (aQ, .inl (E.2.1, 16, .inl fQ))] _ := hP
        have hD : va_D A [(o, .inr (2, [.ref oK, .ref oM, .ref aO, .ref aP, .ref aQ, .int rdy])), (oK, .inr (0, [.ref aB, .ref aW, .ref aF, .ref aG, .ref aV, .int mde])), (oM, .inr (1, [.ref aS, .int fil, .int opn, .int end_, .int cmp_, .int dif])), (aB, .inl (E.2.1, 16, .inl fB)), (aW, .inl (E.2.1, 176, .inl fW)), (aF, .inl (E.2.1, 16, .inl fF)), (aG, .inl (E.2.1, 16, .inl fG)), (aV, .inl (E.2.1, 16, .inl fV)), (aS, .inl (E.2.1, 16, .inl fE)), (aO, .inl (E.2.1, 16, .inl fO)), (aP, .inl (E.2.1, 16, .inl fP)), (aQ, .inl (E.2.1, 16, .inl fQ))] := hD
        exact x_iret B hP hD hS rfl rfl dX2_setKeyByte_22
set_option maxHeartbeats 4000000 in
set_option maxRecDepth 100000 in
/-- expand: not as it wants it -/
theorem c_X2_expand_no (l : Launch) (E : EE) (o oK oM aB aW aF aG aV aS aO aP aQ : Nat) (fB fW fF fG fV fE fO fP fQ : Nat → Int32) (mde fil opn end_ cmp_ dif rdy : Int32) (h0 : rdy = 0) : Ci l yX2_expand (.code yX2_expand cX2_expand 1 (some .boolean)) ({ frames := 6, cells := 0, slots := 0, locals := 144 }) E [.ref o] 0 [(o, .inr (2, [.ref oK, .ref oM, .ref aO, .ref aP, .ref aQ, .int rdy])), (oK, .inr (0, [.ref aB, .ref aW, .ref aF, .ref aG, .ref aV, .int mde])), (oM, .inr (1, [.ref aS, .int fil, .int opn, .int end_, .int cmp_, .int dif])), (aB, .inl (E.2.1, 16, .inl fB)), (aW, .inl (E.2.1, 176, .inl fW)), (aF, .inl (E.2.1, 16, .inl fF)), (aG, .inl (E.2.1, 16, .inl fG)), (aV, .inl (E.2.1, 16, .inl fV)), (aS, .inl (E.2.1, 16, .inl fE)), (aO, .inl (E.2.1, 16, .inl fO)), (aP, .inl (E.2.1, 16, .inl fP)), (aQ, .inl (E.2.1, 16, .inl fQ))] [(o, .inr (2, [.ref oK, .ref oM, .ref aO, .ref aP, .ref aQ, .int rdy])), (oK, .inr (0, [.ref aB, .ref aW, .ref aF, .ref aG, .ref aV, .int mde])), (oM, .inr (1, [.ref aS, .int fil, .int opn, .int end_, .int cmp_, .int dif])), (aB, .inl (E.2.1, 16, .inl fB)), (aW, .inl (E.2.1, 176, .inl fW)), (aF, .inl (E.2.1, 16, .inl fF)), (aG, .inl (E.2.1, 16, .inl fG)), (aV, .inl (E.2.1, 16, .inl fV)), (aS, .inl (E.2.1, 16, .inl fE)), (aO, .inl (E.2.1, 16, .inl fO)), (aP, .inl (E.2.1, 16, .inl fP)), (aQ, .inl (E.2.1, 16, .inl fQ))] := by
  refine Ci.of (by decide) (Nat.le_of_ble_eq_true rfl) ?_
  intro p e s m below meth c A ls B hP hD hS hl
  have hl : lv_has ls 1 [(0, .ref o)] := hl
  have B : Bd p s m _ meth c cX2_expand 1 (some .boolean) RX2 E A := B
  have hx := B.1
  have hb := B.2.1
  have hP : va_P E.1 classes [(o, .inr (2, [.ref oK, .ref oM, .ref aO, .ref aP, .ref aQ, .int rdy])), (oK, .inr (0, [.ref aB, .ref aW, .ref aF, .ref aG, .ref aV, .int mde])), (oM, .inr (1, [.ref aS, .int fil, .int opn, .int end_, .int cmp_, .int dif])), (aB, .inl (E.2.1, 16, .inl fB)), (aW, .inl (E.2.1, 176, .inl fW)), (aF, .inl (E.2.1, 16, .inl fF)), (aG, .inl (E.2.1, 16, .inl fG)), (aV, .inl (E.2.1, 16, .inl fV)), (aS, .inl (E.2.1, 16, .inl fE)), (aO, .inl (E.2.1, 16, .inl fO)), (aP, .inl (E.2.1, 16, .inl fP)), (aQ, .inl (E.2.1, 16, .inl fQ))] _ := hP
  have hD : va_D A [(o, .inr (2, [.ref oK, .ref oM, .ref aO, .ref aP, .ref aQ, .int rdy])), (oK, .inr (0, [.ref aB, .ref aW, .ref aF, .ref aG, .ref aV, .int mde])), (oM, .inr (1, [.ref aS, .int fil, .int opn, .int end_, .int cmp_, .int dif])), (aB, .inl (E.2.1, 16, .inl fB)), (aW, .inl (E.2.1, 176, .inl fW)), (aF, .inl (E.2.1, 16, .inl fF)), (aG, .inl (E.2.1, 16, .inl fG)), (aV, .inl (E.2.1, 16, .inl fV)), (aS, .inl (E.2.1, 16, .inl fE)), (aO, .inl (E.2.1, 16, .inl fO)), (aP, .inl (E.2.1, 16, .inl fP)), (aQ, .inl (E.2.1, 16, .inl fQ))] := hD
  refine lv_aload_n hx hb dX2_expand_0 rfl (lv_at hl 0 rfl) ?_
  refine x_get B hP 0 rfl rfl i_X2 5 (by decide) g_81 rfl dX2_expand_1 ?_
  refine lv_if_ne (tgt := 9) hx hb dX2_expand_4 (by decide) (fun c_4 => ?_) (fun c_4 => ?_)
  · exact absurd h0 c_4
  · refine lv_iconst (v := 0) hx hb dX2_expand_7 (by decide) ?_
    have hP : va_P E.1 classes [(o, .inr (2, [.ref oK, .ref oM, .ref aO, .ref aP, .ref aQ, .int rdy])), (oK, .inr (0, [.ref aB, .ref aW, .ref aF, .ref aG, .ref aV, .int mde])), (oM, .inr (1, [.ref aS, .int fil, .int opn, .int end_, .int cmp_, .int dif])), (aB, .inl (E.2.1, 16, .inl fB)), (aW, .inl (E.2.1, 176, .inl fW)), (aF, .inl (E.2.1, 16, .inl fF)), (aG, .inl (E.2.1, 16, .inl fG)), (aV, .inl (E.2.1, 16, .inl fV)), (aS, .inl (E.2.1, 16, .inl fE)), (aO, .inl (E.2.1, 16, .inl fO)), (aP, .inl (E.2.1, 16, .inl fP)), (aQ, .inl (E.2.1, 16, .inl fQ))] _ := hP
    have hD : va_D A [(o, .inr (2, [.ref oK, .ref oM, .ref aO, .ref aP, .ref aQ, .int rdy])), (oK, .inr (0, [.ref aB, .ref aW, .ref aF, .ref aG, .ref aV, .int mde])), (oM, .inr (1, [.ref aS, .int fil, .int opn, .int end_, .int cmp_, .int dif])), (aB, .inl (E.2.1, 16, .inl fB)), (aW, .inl (E.2.1, 176, .inl fW)), (aF, .inl (E.2.1, 16, .inl fF)), (aG, .inl (E.2.1, 16, .inl fG)), (aV, .inl (E.2.1, 16, .inl fV)), (aS, .inl (E.2.1, 16, .inl fE)), (aO, .inl (E.2.1, 16, .inl fO)), (aP, .inl (E.2.1, 16, .inl fP)), (aQ, .inl (E.2.1, 16, .inl fQ))] := hD
    exact x_iret B hP hD hS rfl rfl dX2_expand_8
set_option maxHeartbeats 4000000 in
set_option maxRecDepth 100000 in
/-- macStart: not as it wants it -/
theorem c_X2_macStart_no (l : Launch) (E : EE) (o oK oM aB aW aF aG aV aS aO aP aQ : Nat) (fB fW fF fG fV fE fO fP fQ : Nat → Int32) (mde fil opn end_ cmp_ dif rdy : Int32) (h0 : mde = 0) : Ci l yX2_macStart (.code yX2_macStart cX2_macStart 1 (some .boolean)) ({ frames := 2, cells := 0, slots := 0, locals := 43 }) E [.ref o] 0 [(o, .inr (2, [.ref oK, .ref oM, .ref aO, .ref aP, .ref aQ, .int rdy])), (oK, .inr (0, [.ref aB, .ref aW, .ref aF, .ref aG, .ref aV, .int mde])), (oM, .inr (1, [.ref aS, .int fil, .int opn, .int end_, .int cmp_, .int dif])), (aB, .inl (E.2.1, 16, .inl fB)), (aW, .inl (E.2.1, 176, .inl fW)), (aF, .inl (E.2.1, 16, .inl fF)), (aG, .inl (E.2.1, 16, .inl fG)), (aV, .inl (E.2.1, 16, .inl fV)), (aS, .inl (E.2.1, 16, .inl fE)), (aO, .inl (E.2.1, 16, .inl fO)), (aP, .inl (E.2.1, 16, .inl fP)), (aQ, .inl (E.2.1, 16, .inl fQ))] [(o, .inr (2, [.ref oK, .ref oM, .ref aO, .ref aP, .ref aQ, .int rdy])), (oK, .inr (0, [.ref aB, .ref aW, .ref aF, .ref aG, .ref aV, .int mde])), (oM, .inr (1, [.ref aS, .int fil, .int opn, .int end_, .int cmp_, .int dif])), (aB, .inl (E.2.1, 16, .inl fB)), (aW, .inl (E.2.1, 176, .inl fW)), (aF, .inl (E.2.1, 16, .inl fF)), (aG, .inl (E.2.1, 16, .inl fG)), (aV, .inl (E.2.1, 16, .inl fV)), (aS, .inl (E.2.1, 16, .inl fE)), (aO, .inl (E.2.1, 16, .inl fO)), (aP, .inl (E.2.1, 16, .inl fP)), (aQ, .inl (E.2.1, 16, .inl fQ))] := by
  refine Ci.of (by decide) (Nat.le_of_ble_eq_true rfl) ?_
  intro p e s m below meth c A ls B hP hD hS hl
  have hl : lv_has ls 1 [(0, .ref o)] := hl
  have B : Bd p s m _ meth c cX2_macStart 1 (some .boolean) RX2 E A := B
  have hx := B.1
  have hb := B.2.1
  have hP : va_P E.1 classes [(o, .inr (2, [.ref oK, .ref oM, .ref aO, .ref aP, .ref aQ, .int rdy])), (oK, .inr (0, [.ref aB, .ref aW, .ref aF, .ref aG, .ref aV, .int mde])), (oM, .inr (1, [.ref aS, .int fil, .int opn, .int end_, .int cmp_, .int dif])), (aB, .inl (E.2.1, 16, .inl fB)), (aW, .inl (E.2.1, 176, .inl fW)), (aF, .inl (E.2.1, 16, .inl fF)), (aG, .inl (E.2.1, 16, .inl fG)), (aV, .inl (E.2.1, 16, .inl fV)), (aS, .inl (E.2.1, 16, .inl fE)), (aO, .inl (E.2.1, 16, .inl fO)), (aP, .inl (E.2.1, 16, .inl fP)), (aQ, .inl (E.2.1, 16, .inl fQ))] _ := hP
  have hD : va_D A [(o, .inr (2, [.ref oK, .ref oM, .ref aO, .ref aP, .ref aQ, .int rdy])), (oK, .inr (0, [.ref aB, .ref aW, .ref aF, .ref aG, .ref aV, .int mde])), (oM, .inr (1, [.ref aS, .int fil, .int opn, .int end_, .int cmp_, .int dif])), (aB, .inl (E.2.1, 16, .inl fB)), (aW, .inl (E.2.1, 176, .inl fW)), (aF, .inl (E.2.1, 16, .inl fF)), (aG, .inl (E.2.1, 16, .inl fG)), (aV, .inl (E.2.1, 16, .inl fV)), (aS, .inl (E.2.1, 16, .inl fE)), (aO, .inl (E.2.1, 16, .inl fO)), (aP, .inl (E.2.1, 16, .inl fP)), (aQ, .inl (E.2.1, 16, .inl fQ))] := hD
  refine lv_aload_n hx hb dX2_macStart_0 rfl (lv_at hl 0 rfl) ?_
  refine x_get B hP 0 rfl rfl i_X2 0 (by decide) g_76 rfl dX2_macStart_1 ?_
  refine x_getN B hP 1 rfl rfl i_X0 5 (by decide) n_31 rfl dX2_macStart_4 ?_
  refine lv_if_ne (tgt := 12) hx hb dX2_macStart_7 (by decide) (fun c_7 => ?_) (fun c_7 => ?_)
  · exact absurd h0 c_7
  · refine lv_iconst (v := 0) hx hb dX2_macStart_10 (by decide) ?_
    have hP : va_P E.1 classes [(o, .inr (2, [.ref oK, .ref oM, .ref aO, .ref aP, .ref aQ, .int rdy])), (oK, .inr (0, [.ref aB, .ref aW, .ref aF, .ref aG, .ref aV, .int mde])), (oM, .inr (1, [.ref aS, .int fil, .int opn, .int end_, .int cmp_, .int dif])), (aB, .inl (E.2.1, 16, .inl fB)), (aW, .inl (E.2.1, 176, .inl fW)), (aF, .inl (E.2.1, 16, .inl fF)), (aG, .inl (E.2.1, 16, .inl fG)), (aV, .inl (E.2.1, 16, .inl fV)), (aS, .inl (E.2.1, 16, .inl fE)), (aO, .inl (E.2.1, 16, .inl fO)), (aP, .inl (E.2.1, 16, .inl fP)), (aQ, .inl (E.2.1, 16, .inl fQ))] _ := hP
    have hD : va_D A [(o, .inr (2, [.ref oK, .ref oM, .ref aO, .ref aP, .ref aQ, .int rdy])), (oK, .inr (0, [.ref aB, .ref aW, .ref aF, .ref aG, .ref aV, .int mde])), (oM, .inr (1, [.ref aS, .int fil, .int opn, .int end_, .int cmp_, .int dif])), (aB, .inl (E.2.1, 16, .inl fB)), (aW, .inl (E.2.1, 176, .inl fW)), (aF, .inl (E.2.1, 16, .inl fF)), (aG, .inl (E.2.1, 16, .inl fG)), (aV, .inl (E.2.1, 16, .inl fV)), (aS, .inl (E.2.1, 16, .inl fE)), (aO, .inl (E.2.1, 16, .inl fO)), (aP, .inl (E.2.1, 16, .inl fP)), (aQ, .inl (E.2.1, 16, .inl fQ))] := hD
    exact x_iret B hP hD hS rfl rfl dX2_macStart_11
set_option maxHeartbeats 4000000 in
set_option maxRecDepth 100000 in
/-- macUpdate: not as it wants it -/
theorem c_X2_macUpdate_no (l : Launch) (E : EE) (o oK oM aB aW aF aG aV aS aO aP aQ : Nat) (fB fW fF fG fV fE fO fP fQ : Nat → Int32) (mde fil opn end_ cmp_ dif rdy : Int32) (p0 : Int32) (h0 : opn = 0 ∨ byM p0 = 0) : Ci l yX2_macUpdate (.code yX2_macUpdate cX2_macUpdate 2 (some .boolean)) ({ frames := 5, cells := 0, slots := 0, locals := 126 }) E [.ref o, .int p0] 0 [(o, .inr (2, [.ref oK, .ref oM, .ref aO, .ref aP, .ref aQ, .int rdy])), (oK, .inr (0, [.ref aB, .ref aW, .ref aF, .ref aG, .ref aV, .int mde])), (oM, .inr (1, [.ref aS, .int fil, .int opn, .int end_, .int cmp_, .int dif])), (aB, .inl (E.2.1, 16, .inl fB)), (aW, .inl (E.2.1, 176, .inl fW)), (aF, .inl (E.2.1, 16, .inl fF)), (aG, .inl (E.2.1, 16, .inl fG)), (aV, .inl (E.2.1, 16, .inl fV)), (aS, .inl (E.2.1, 16, .inl fE)), (aO, .inl (E.2.1, 16, .inl fO)), (aP, .inl (E.2.1, 16, .inl fP)), (aQ, .inl (E.2.1, 16, .inl fQ))] [(o, .inr (2, [.ref oK, .ref oM, .ref aO, .ref aP, .ref aQ, .int rdy])), (oK, .inr (0, [.ref aB, .ref aW, .ref aF, .ref aG, .ref aV, .int mde])), (oM, .inr (1, [.ref aS, .int fil, .int opn, .int end_, .int cmp_, .int dif])), (aB, .inl (E.2.1, 16, .inl fB)), (aW, .inl (E.2.1, 176, .inl fW)), (aF, .inl (E.2.1, 16, .inl fF)), (aG, .inl (E.2.1, 16, .inl fG)), (aV, .inl (E.2.1, 16, .inl fV)), (aS, .inl (E.2.1, 16, .inl fE)), (aO, .inl (E.2.1, 16, .inl fO)), (aP, .inl (E.2.1, 16, .inl fP)), (aQ, .inl (E.2.1, 16, .inl fQ))] := by
  refine Ci.of (by decide) (Nat.le_of_ble_eq_true rfl) ?_
  intro p e s m below meth c A ls B hP hD hS hl
  have hl : lv_has ls 2 [(0, .ref o), (1, .int p0)] := hl
  have B : Bd p s m _ meth c cX2_macUpdate 2 (some .boolean) RX2 E A := B
  have hx := B.1
  have hb := B.2.1
  have hP : va_P E.1 classes [(o, .inr (2, [.ref oK, .ref oM, .ref aO, .ref aP, .ref aQ, .int rdy])), (oK, .inr (0, [.ref aB, .ref aW, .ref aF, .ref aG, .ref aV, .int mde])), (oM, .inr (1, [.ref aS, .int fil, .int opn, .int end_, .int cmp_, .int dif])), (aB, .inl (E.2.1, 16, .inl fB)), (aW, .inl (E.2.1, 176, .inl fW)), (aF, .inl (E.2.1, 16, .inl fF)), (aG, .inl (E.2.1, 16, .inl fG)), (aV, .inl (E.2.1, 16, .inl fV)), (aS, .inl (E.2.1, 16, .inl fE)), (aO, .inl (E.2.1, 16, .inl fO)), (aP, .inl (E.2.1, 16, .inl fP)), (aQ, .inl (E.2.1, 16, .inl fQ))] _ := hP
  have hD : va_D A [(o, .inr (2, [.ref oK, .ref oM, .ref aO, .ref aP, .ref aQ, .int rdy])), (oK, .inr (0, [.ref aB, .ref aW, .ref aF, .ref aG, .ref aV, .int mde])), (oM, .inr (1, [.ref aS, .int fil, .int opn, .int end_, .int cmp_, .int dif])), (aB, .inl (E.2.1, 16, .inl fB)), (aW, .inl (E.2.1, 176, .inl fW)), (aF, .inl (E.2.1, 16, .inl fF)), (aG, .inl (E.2.1, 16, .inl fG)), (aV, .inl (E.2.1, 16, .inl fV)), (aS, .inl (E.2.1, 16, .inl fE)), (aO, .inl (E.2.1, 16, .inl fO)), (aP, .inl (E.2.1, 16, .inl fP)), (aQ, .inl (E.2.1, 16, .inl fQ))] := hD
  refine lv_aload_n hx hb dX2_macUpdate_0 rfl (lv_at hl 0 rfl) ?_
  refine x_get B hP 0 rfl rfl i_X2 1 (by decide) g_77 rfl dX2_macUpdate_1 ?_
  refine x_getN B hP 2 rfl rfl i_X1 2 (by decide) n_56 rfl dX2_macUpdate_4 ?_
  refine lv_if_eq (tgt := 17) hx hb dX2_macUpdate_7 (by decide) (fun c_7 => ?_) (fun c_7 => ?_)
  · refine lv_iconst (v := 0) hx hb dX2_macUpdate_17 (by decide) ?_
    have hP : va_P E.1 classes [(o, .inr (2, [.ref oK, .ref oM, .ref aO, .ref aP, .ref aQ, .int rdy])), (oK, .inr (0, [.ref aB, .ref aW, .ref aF, .ref aG, .ref aV, .int mde])), (oM, .inr (1, [.ref aS, .int fil, .int opn, .int end_, .int cmp_, .int dif])), (aB, .inl (E.2.1, 16, .inl fB)), (aW, .inl (E.2.1, 176, .inl fW)), (aF, .inl (E.2.1, 16, .inl fF)), (aG, .inl (E.2.1, 16, .inl fG)), (aV, .inl (E.2.1, 16, .inl fV)), (aS, .inl (E.2.1, 16, .inl fE)), (aO, .inl (E.2.1, 16, .inl fO)), (aP, .inl (E.2.1, 16, .inl fP)), (aQ, .inl (E.2.1, 16, .inl fQ))] _ := hP
    have hD : va_D A [(o, .inr (2, [.ref oK, .ref oM, .ref aO, .ref aP, .ref aQ, .int rdy])), (oK, .inr (0, [.ref aB, .ref aW, .ref aF, .ref aG, .ref aV, .int mde])), (oM, .inr (1, [.ref aS, .int fil, .int opn, .int end_, .int cmp_, .int dif])), (aB, .inl (E.2.1, 16, .inl fB)), (aW, .inl (E.2.1, 176, .inl fW)), (aF, .inl (E.2.1, 16, .inl fF)), (aG, .inl (E.2.1, 16, .inl fG)), (aV, .inl (E.2.1, 16, .inl fV)), (aS, .inl (E.2.1, 16, .inl fE)), (aO, .inl (E.2.1, 16, .inl fO)), (aP, .inl (E.2.1, 16, .inl fP)), (aQ, .inl (E.2.1, 16, .inl fQ))] := hD
    exact x_iret B hP hD hS rfl rfl dX2_macUpdate_18
  · refine lv_iload_n hx hb dX2_macUpdate_10 rfl (lv_at hl 1 rfl) ?_
    refine x_Si (wr := [(o, .inr (2, [.ref oK, .ref oM, .ref aO, .ref aP, .ref aQ, .int rdy])), (oK, .inr (0, [.ref aB, .ref aW, .ref aF, .ref aG, .ref aV, .int mde])), (oM, .inr (1, [.ref aS, .int fil, .int opn, .int end_, .int cmp_, .int dif])), (aB, .inl (E.2.1, 16, .inl fB)), (aW, .inl (E.2.1, 176, .inl fW)), (aF, .inl (E.2.1, 16, .inl fF)), (aG, .inl (E.2.1, 16, .inl fG)), (aV, .inl (E.2.1, 16, .inl fV)), (aS, .inl (E.2.1, 16, .inl fE)), (aO, .inl (E.2.1, 16, .inl fO)), (aP, .inl (E.2.1, 16, .inl fP)), (aQ, .inl (E.2.1, 16, .inl fQ))]) (isC := []) (isR := [0, 1, 2, 3, 4, 5, 6, 7, 8, 9, 10, 11]) (As := [.int p0]) B (c_X2_isByte l E p0) k_X2_isByte g_117 s_X2_isByte ⟨by decide, by decide, rfl, rfl⟩ hP hD hS ⟨rfl, rfl, rfl, rfl, by decide⟩ rfl hl.1 rfl (Nat.le_of_ble_eq_true rfl) dX2_macUpdate_11 ⟨by decide, by decide⟩ (fun H locs hP hD hS => ?_)
    have hP : va_P E.1 classes [(o, .inr (2, [.ref oK, .ref oM, .ref aO, .ref aP, .ref aQ, .int rdy])), (oK, .inr (0, [.ref aB, .ref aW, .ref aF, .ref aG, .ref aV, .int mde])), (oM, .inr (1, [.ref aS, .int fil, .int opn, .int end_, .int cmp_, .int dif])), (aB, .inl (E.2.1, 16, .inl fB)), (aW, .inl (E.2.1, 176, .inl fW)), (aF, .inl (E.2.1, 16, .inl fF)), (aG, .inl (E.2.1, 16, .inl fG)), (aV, .inl (E.2.1, 16, .inl fV)), (aS, .inl (E.2.1, 16, .inl fE)), (aO, .inl (E.2.1, 16, .inl fO)), (aP, .inl (E.2.1, 16, .inl fP)), (aQ, .inl (E.2.1, 16, .inl fQ))] _ := hP
    have hD : va_D A [(o, .inr (2, [.ref oK, .ref oM, .ref aO, .ref aP, .ref aQ, .int rdy])), (oK, .inr (0, [.ref aB, .ref aW, .ref aF, .ref aG, .ref aV, .int mde])), (oM, .inr (1, [.ref aS, .int fil, .int opn, .int end_, .int cmp_, .int dif])), (aB, .inl (E.2.1, 16, .inl fB)), (aW, .inl (E.2.1, 176, .inl fW)), (aF, .inl (E.2.1, 16, .inl fF)), (aG, .inl (E.2.1, 16, .inl fG)), (aV, .inl (E.2.1, 16, .inl fV)), (aS, .inl (E.2.1, 16, .inl fE)), (aO, .inl (E.2.1, 16, .inl fO)), (aP, .inl (E.2.1, 16, .inl fP)), (aQ, .inl (E.2.1, 16, .inl fQ))] := hD
    refine lv_if_ne (tgt := 19) hx hb dX2_macUpdate_14 (by decide) (fun c_14 => ?_) (fun c_14 => ?_)
    · exact absurd h0 (fun h => by rcases h with h | h <;> contradiction)
    · refine lv_iconst (v := 0) hx hb dX2_macUpdate_17 (by decide) ?_
      have hP : va_P E.1 classes [(o, .inr (2, [.ref oK, .ref oM, .ref aO, .ref aP, .ref aQ, .int rdy])), (oK, .inr (0, [.ref aB, .ref aW, .ref aF, .ref aG, .ref aV, .int mde])), (oM, .inr (1, [.ref aS, .int fil, .int opn, .int end_, .int cmp_, .int dif])), (aB, .inl (E.2.1, 16, .inl fB)), (aW, .inl (E.2.1, 176, .inl fW)), (aF, .inl (E.2.1, 16, .inl fF)), (aG, .inl (E.2.1, 16, .inl fG)), (aV, .inl (E.2.1, 16, .inl fV)), (aS, .inl (E.2.1, 16, .inl fE)), (aO, .inl (E.2.1, 16, .inl fO)), (aP, .inl (E.2.1, 16, .inl fP)), (aQ, .inl (E.2.1, 16, .inl fQ))] _ := hP
      have hD : va_D A [(o, .inr (2, [.ref oK, .ref oM, .ref aO, .ref aP, .ref aQ, .int rdy])), (oK, .inr (0, [.ref aB, .ref aW, .ref aF, .ref aG, .ref aV, .int mde])), (oM, .inr (1, [.ref aS, .int fil, .int opn, .int end_, .int cmp_, .int dif])), (aB, .inl (E.2.1, 16, .inl fB)), (aW, .inl (E.2.1, 176, .inl fW)), (aF, .inl (E.2.1, 16, .inl fF)), (aG, .inl (E.2.1, 16, .inl fG)), (aV, .inl (E.2.1, 16, .inl fV)), (aS, .inl (E.2.1, 16, .inl fE)), (aO, .inl (E.2.1, 16, .inl fO)), (aP, .inl (E.2.1, 16, .inl fP)), (aQ, .inl (E.2.1, 16, .inl fQ))] := hD
      exact x_iret B hP hD hS rfl rfl dX2_macUpdate_18
set_option maxHeartbeats 4000000 in
set_option maxRecDepth 100000 in
/-- macFill: not as it wants it -/
theorem c_X2_macFill_no (l : Launch) (E : EE) (o oK oM aB aW aF aG aV aS aO aP aQ : Nat) (fB fW fF fG fV fE fO fP fQ : Nat → Int32) (mde fil opn end_ cmp_ dif rdy : Int32) (p0 : Int32) (p1 : Int32) (p2 : Int32) (h0 : opn = 0 ∨ p0 < 0 ∨ ¬ p0 ≤ 10000) : Ci l yX2_macFill (.code yX2_macFill cX2_macFill 6 (some .boolean)) ({ frames := 5, cells := 0, slots := 0, locals := 126 }) E [.ref o, .int p0, .int p1, .int p2] 0 [(o, .inr (2, [.ref oK, .ref oM, .ref aO, .ref aP, .ref aQ, .int rdy])), (oK, .inr (0, [.ref aB, .ref aW, .ref aF, .ref aG, .ref aV, .int mde])), (oM, .inr (1, [.ref aS, .int fil, .int opn, .int end_, .int cmp_, .int dif])), (aB, .inl (E.2.1, 16, .inl fB)), (aW, .inl (E.2.1, 176, .inl fW)), (aF, .inl (E.2.1, 16, .inl fF)), (aG, .inl (E.2.1, 16, .inl fG)), (aV, .inl (E.2.1, 16, .inl fV)), (aS, .inl (E.2.1, 16, .inl fE)), (aO, .inl (E.2.1, 16, .inl fO)), (aP, .inl (E.2.1, 16, .inl fP)), (aQ, .inl (E.2.1, 16, .inl fQ))] [(o, .inr (2, [.ref oK, .ref oM, .ref aO, .ref aP, .ref aQ, .int rdy])), (oK, .inr (0, [.ref aB, .ref aW, .ref aF, .ref aG, .ref aV, .int mde])), (oM, .inr (1, [.ref aS, .int fil, .int opn, .int end_, .int cmp_, .int dif])), (aB, .inl (E.2.1, 16, .inl fB)), (aW, .inl (E.2.1, 176, .inl fW)), (aF, .inl (E.2.1, 16, .inl fF)), (aG, .inl (E.2.1, 16, .inl fG)), (aV, .inl (E.2.1, 16, .inl fV)), (aS, .inl (E.2.1, 16, .inl fE)), (aO, .inl (E.2.1, 16, .inl fO)), (aP, .inl (E.2.1, 16, .inl fP)), (aQ, .inl (E.2.1, 16, .inl fQ))] := by
  refine Ci.of (by decide) (Nat.le_of_ble_eq_true rfl) ?_
  intro p e s m below meth c A ls B hP hD hS hl
  have hl : lv_has ls 6 [(0, .ref o), (1, .int p0), (2, .int p1), (3, .int p2)] := hl
  have B : Bd p s m _ meth c cX2_macFill 6 (some .boolean) RX2 E A := B
  have hx := B.1
  have hb := B.2.1
  have hP : va_P E.1 classes [(o, .inr (2, [.ref oK, .ref oM, .ref aO, .ref aP, .ref aQ, .int rdy])), (oK, .inr (0, [.ref aB, .ref aW, .ref aF, .ref aG, .ref aV, .int mde])), (oM, .inr (1, [.ref aS, .int fil, .int opn, .int end_, .int cmp_, .int dif])), (aB, .inl (E.2.1, 16, .inl fB)), (aW, .inl (E.2.1, 176, .inl fW)), (aF, .inl (E.2.1, 16, .inl fF)), (aG, .inl (E.2.1, 16, .inl fG)), (aV, .inl (E.2.1, 16, .inl fV)), (aS, .inl (E.2.1, 16, .inl fE)), (aO, .inl (E.2.1, 16, .inl fO)), (aP, .inl (E.2.1, 16, .inl fP)), (aQ, .inl (E.2.1, 16, .inl fQ))] _ := hP
  have hD : va_D A [(o, .inr (2, [.ref oK, .ref oM, .ref aO, .ref aP, .ref aQ, .int rdy])), (oK, .inr (0, [.ref aB, .ref aW, .ref aF, .ref aG, .ref aV, .int mde])), (oM, .inr (1, [.ref aS, .int fil, .int opn, .int end_, .int cmp_, .int dif])), (aB, .inl (E.2.1, 16, .inl fB)), (aW, .inl (E.2.1, 176, .inl fW)), (aF, .inl (E.2.1, 16, .inl fF)), (aG, .inl (E.2.1, 16, .inl fG)), (aV, .inl (E.2.1, 16, .inl fV)), (aS, .inl (E.2.1, 16, .inl fE)), (aO, .inl (E.2.1, 16, .inl fO)), (aP, .inl (E.2.1, 16, .inl fP)), (aQ, .inl (E.2.1, 16, .inl fQ))] := hD
  refine lv_aload_n hx hb dX2_macFill_0 rfl (lv_at hl 0 rfl) ?_
  refine x_get B hP 0 rfl rfl i_X2 1 (by decide) g_77 rfl dX2_macFill_1 ?_
  refine x_getN B hP 2 rfl rfl i_X1 2 (by decide) n_56 rfl dX2_macFill_4 ?_
  refine lv_if_eq (tgt := 21) hx hb dX2_macFill_7 (by decide) (fun c_7 => ?_) (fun c_7 => ?_)
  · refine lv_iconst (v := 0) hx hb dX2_macFill_21 (by decide) ?_
    have hP : va_P E.1 classes [(o, .inr (2, [.ref oK, .ref oM, .ref aO, .ref aP, .ref aQ, .int rdy])), (oK, .inr (0, [.ref aB, .ref aW, .ref aF, .ref aG, .ref aV, .int mde])), (oM, .inr (1, [.ref aS, .int fil, .int opn, .int end_, .int cmp_, .int dif])), (aB, .inl (E.2.1, 16, .inl fB)), (aW, .inl (E.2.1, 176, .inl fW)), (aF, .inl (E.2.1, 16, .inl fF)), (aG, .inl (E.2.1, 16, .inl fG)), (aV, .inl (E.2.1, 16, .inl fV)), (aS, .inl (E.2.1, 16, .inl fE)), (aO, .inl (E.2.1, 16, .inl fO)), (aP, .inl (E.2.1, 16, .inl fP)), (aQ, .inl (E.2.1, 16, .inl fQ))] _ := hP
    have hD : va_D A [(o, .inr (2, [.ref oK, .ref oM, .ref aO, .ref aP, .ref aQ, .int rdy])), (oK, .inr (0, [.ref aB, .ref aW, .ref aF, .ref aG, .ref aV, .int mde])), (oM, .inr (1, [.ref aS, .int fil, .int opn, .int end_, .int cmp_, .int dif])), (aB, .inl (E.2.1, 16, .inl fB)), (aW, .inl (E.2.1, 176, .inl fW)), (aF, .inl (E.2.1, 16, .inl fF)), (aG, .inl (E.2.1, 16, .inl fG)), (aV, .inl (E.2.1, 16, .inl fV)), (aS, .inl (E.2.1, 16, .inl fE)), (aO, .inl (E.2.1, 16, .inl fO)), (aP, .inl (E.2.1, 16, .inl fP)), (aQ, .inl (E.2.1, 16, .inl fQ))] := hD
    exact x_iret B hP hD hS rfl rfl dX2_macFill_22
  · refine lv_iload_n hx hb dX2_macFill_10 rfl (lv_at hl 1 rfl) ?_
    refine lv_if_lt (tgt := 21) hx hb dX2_macFill_11 (by decide) (fun c_11 => ?_) (fun c_11 => ?_)
    · refine lv_iconst (v := 0) hx hb dX2_macFill_21 (by decide) ?_
      have hP : va_P E.1 classes [(o, .inr (2, [.ref oK, .ref oM, .ref aO, .ref aP, .ref aQ, .int rdy])), (oK, .inr (0, [.ref aB, .ref aW, .ref aF, .ref aG, .ref aV, .int mde])), (oM, .inr (1, [.ref aS, .int fil, .int opn, .int end_, .int cmp_, .int dif])), (aB, .inl (E.2.1, 16, .inl fB)), (aW, .inl (E.2.1, 176, .inl fW)), (aF, .inl (E.2.1, 16, .inl fF)), (aG, .inl (E.2.1, 16, .inl fG)), (aV, .inl (E.2.1, 16, .inl fV)), (aS, .inl (E.2.1, 16, .inl fE)), (aO, .inl (E.2.1, 16, .inl fO)), (aP, .inl (E.2.1, 16, .inl fP)), (aQ, .inl (E.2.1, 16, .inl fQ))] _ := hP
      have hD : va_D A [(o, .inr (2, [.ref oK, .ref oM, .ref aO, .ref aP, .ref aQ, .int rdy])), (oK, .inr (0, [.ref aB, .ref aW, .ref aF, .ref aG, .ref aV, .int mde])), (oM, .inr (1, [.ref aS, .int fil, .int opn, .int end_, .int cmp_, .int dif])), (aB, .inl (E.2.1, 16, .inl fB)), (aW, .inl (E.2.1, 176, .inl fW)), (aF, .inl (E.2.1, 16, .inl fF)), (aG, .inl (E.2.1, 16, .inl fG)), (aV, .inl (E.2.1, 16, .inl fV)), (aS, .inl (E.2.1, 16, .inl fE)), (aO, .inl (E.2.1, 16, .inl fO)), (aP, .inl (E.2.1, 16, .inl fP)), (aQ, .inl (E.2.1, 16, .inl fQ))] := hD
      exact x_iret B hP hD hS rfl rfl dX2_macFill_22
    · refine lv_iload_n hx hb dX2_macFill_14 rfl (lv_at hl 1 rfl) ?_
      refine lv_sipush (v := 10000) hx hb dX2_macFill_15 (by decide) ?_
      refine lv_icmp_le (tgt := 23) hx hb dX2_macFill_18 (by decide) (fun c_18 => ?_) (fun c_18 => ?_)
      · exact absurd h0 (fun h => by rcases h with h | h | h <;> contradiction)
      · refine lv_iconst (v := 0) hx hb dX2_macFill_21 (by decide) ?_
        have hP : va_P E.1 classes [(o, .inr (2, [.ref oK, .ref oM, .ref aO, .ref aP, .ref aQ, .int rdy])), (oK, .inr (0, [.ref aB, .ref aW, .ref aF, .ref aG, .ref aV, .int mde])), (oM, .inr (1, [.ref aS, .int fil, .int opn, .int end_, .int cmp_, .int dif])), (aB, .inl (E.2.1, 16, .inl fB)), (aW, .inl (E.2.1, 176, .inl fW)), (aF, .inl (E.2.1, 16, .inl fF)), (aG, .inl (E.2.1, 16, .inl fG)), (aV, .inl (E.2.1, 16, .inl fV)), (aS, .inl (E.2.1, 16, .inl fE)), (aO, .inl (E.2.1, 16, .inl fO)), (aP, .inl (E.2.1, 16, .inl fP)), (aQ, .inl (E.2.1, 16, .inl fQ))] _ := hP
        have hD : va_D A [(o, .inr (2, [.ref oK, .ref oM, .ref aO, .ref aP, .ref aQ, .int rdy])), (oK, .inr (0, [.ref aB, .ref aW, .ref aF, .ref aG, .ref aV, .int mde])), (oM, .inr (1, [.ref aS, .int fil, .int opn, .int end_, .int cmp_, .int dif])), (aB, .inl (E.2.1, 16, .inl fB)), (aW, .inl (E.2.1, 176, .inl fW)), (aF, .inl (E.2.1, 16, .inl fF)), (aG, .inl (E.2.1, 16, .inl fG)), (aV, .inl (E.2.1, 16, .inl fV)), (aS, .inl (E.2.1, 16, .inl fE)), (aO, .inl (E.2.1, 16, .inl fO)), (aP, .inl (E.2.1, 16, .inl fP)), (aQ, .inl (E.2.1, 16, .inl fQ))] := hD
        exact x_iret B hP hD hS rfl rfl dX2_macFill_22
set_option maxHeartbeats 4000000 in
set_option maxRecDepth 100000 in
/-- macFinish: not as it wants it -/
theorem c_X2_macFinish_no (l : Launch) (E : EE) (o oK oM aB aW aF aG aV aS aO aP aQ : Nat) (fB fW fF fG fV fE fO fP fQ : Nat → Int32) (mde fil opn end_ cmp_ dif rdy : Int32) (h0 : opn = 0) : Ci l yX2_macFinish (.code yX2_macFinish cX2_macFinish 1 (some .boolean)) ({ frames := 5, cells := 0, slots := 0, locals := 125 }) E [.ref o] 0 [(o, .inr (2, [.ref oK, .ref oM, .ref aO, .ref aP, .ref aQ, .int rdy])), (oK, .inr (0, [.ref aB, .ref aW, .ref aF, .ref aG, .ref aV, .int mde])), (oM, .inr (1, [.ref aS, .int fil, .int opn, .int end_, .int cmp_, .int dif])), (aB, .inl (E.2.1, 16, .inl fB)), (aW, .inl (E.2.1, 176, .inl fW)), (aF, .inl (E.2.1, 16, .inl fF)), (aG, .inl (E.2.1, 16, .inl fG)), (aV, .inl (E.2.1, 16, .inl fV)), (aS, .inl (E.2.1, 16, .inl fE)), (aO, .inl (E.2.1, 16, .inl fO)), (aP, .inl (E.2.1, 16, .inl fP)), (aQ, .inl (E.2.1, 16, .inl fQ))] [(o, .inr (2, [.ref oK, .ref oM, .ref aO, .ref aP, .ref aQ, .int rdy])), (oK, .inr (0, [.ref aB, .ref aW, .ref aF, .ref aG, .ref aV, .int mde])), (oM, .inr (1, [.ref aS, .int fil, .int opn, .int end_, .int cmp_, .int dif])), (aB, .inl (E.2.1, 16, .inl fB)), (aW, .inl (E.2.1, 176, .inl fW)), (aF, .inl (E.2.1, 16, .inl fF)), (aG, .inl (E.2.1, 16, .inl fG)), (aV, .inl (E.2.1, 16, .inl fV)), (aS, .inl (E.2.1, 16, .inl fE)), (aO, .inl (E.2.1, 16, .inl fO)), (aP, .inl (E.2.1, 16, .inl fP)), (aQ, .inl (E.2.1, 16, .inl fQ))] := by
  refine Ci.of (by decide) (Nat.le_of_ble_eq_true rfl) ?_
  intro p e s m below meth c A ls B hP hD hS hl
  have hl : lv_has ls 1 [(0, .ref o)] := hl
  have B : Bd p s m _ meth c cX2_macFinish 1 (some .boolean) RX2 E A := B
  have hx := B.1
  have hb := B.2.1
  have hP : va_P E.1 classes [(o, .inr (2, [.ref oK, .ref oM, .ref aO, .ref aP, .ref aQ, .int rdy])), (oK, .inr (0, [.ref aB, .ref aW, .ref aF, .ref aG, .ref aV, .int mde])), (oM, .inr (1, [.ref aS, .int fil, .int opn, .int end_, .int cmp_, .int dif])), (aB, .inl (E.2.1, 16, .inl fB)), (aW, .inl (E.2.1, 176, .inl fW)), (aF, .inl (E.2.1, 16, .inl fF)), (aG, .inl (E.2.1, 16, .inl fG)), (aV, .inl (E.2.1, 16, .inl fV)), (aS, .inl (E.2.1, 16, .inl fE)), (aO, .inl (E.2.1, 16, .inl fO)), (aP, .inl (E.2.1, 16, .inl fP)), (aQ, .inl (E.2.1, 16, .inl fQ))] _ := hP
  have hD : va_D A [(o, .inr (2, [.ref oK, .ref oM, .ref aO, .ref aP, .ref aQ, .int rdy])), (oK, .inr (0, [.ref aB, .ref aW, .ref aF, .ref aG, .ref aV, .int mde])), (oM, .inr (1, [.ref aS, .int fil, .int opn, .int end_, .int cmp_, .int dif])), (aB, .inl (E.2.1, 16, .inl fB)), (aW, .inl (E.2.1, 176, .inl fW)), (aF, .inl (E.2.1, 16, .inl fF)), (aG, .inl (E.2.1, 16, .inl fG)), (aV, .inl (E.2.1, 16, .inl fV)), (aS, .inl (E.2.1, 16, .inl fE)), (aO, .inl (E.2.1, 16, .inl fO)), (aP, .inl (E.2.1, 16, .inl fP)), (aQ, .inl (E.2.1, 16, .inl fQ))] := hD
  refine lv_aload_n hx hb dX2_macFinish_0 rfl (lv_at hl 0 rfl) ?_
  refine x_get B hP 0 rfl rfl i_X2 1 (by decide) g_77 rfl dX2_macFinish_1 ?_
  refine x_getN B hP 2 rfl rfl i_X1 2 (by decide) n_56 rfl dX2_macFinish_4 ?_
  refine lv_if_ne (tgt := 12) hx hb dX2_macFinish_7 (by decide) (fun c_7 => ?_) (fun c_7 => ?_)
  · exact absurd h0 c_7
  · refine lv_iconst (v := 0) hx hb dX2_macFinish_10 (by decide) ?_
    have hP : va_P E.1 classes [(o, .inr (2, [.ref oK, .ref oM, .ref aO, .ref aP, .ref aQ, .int rdy])), (oK, .inr (0, [.ref aB, .ref aW, .ref aF, .ref aG, .ref aV, .int mde])), (oM, .inr (1, [.ref aS, .int fil, .int opn, .int end_, .int cmp_, .int dif])), (aB, .inl (E.2.1, 16, .inl fB)), (aW, .inl (E.2.1, 176, .inl fW)), (aF, .inl (E.2.1, 16, .inl fF)), (aG, .inl (E.2.1, 16, .inl fG)), (aV, .inl (E.2.1, 16, .inl fV)), (aS, .inl (E.2.1, 16, .inl fE)), (aO, .inl (E.2.1, 16, .inl fO)), (aP, .inl (E.2.1, 16, .inl fP)), (aQ, .inl (E.2.1, 16, .inl fQ))] _ := hP
    have hD : va_D A [(o, .inr (2, [.ref oK, .ref oM, .ref aO, .ref aP, .ref aQ, .int rdy])), (oK, .inr (0, [.ref aB, .ref aW, .ref aF, .ref aG, .ref aV, .int mde])), (oM, .inr (1, [.ref aS, .int fil, .int opn, .int end_, .int cmp_, .int dif])), (aB, .inl (E.2.1, 16, .inl fB)), (aW, .inl (E.2.1, 176, .inl fW)), (aF, .inl (E.2.1, 16, .inl fF)), (aG, .inl (E.2.1, 16, .inl fG)), (aV, .inl (E.2.1, 16, .inl fV)), (aS, .inl (E.2.1, 16, .inl fE)), (aO, .inl (E.2.1, 16, .inl fO)), (aP, .inl (E.2.1, 16, .inl fP)), (aQ, .inl (E.2.1, 16, .inl fQ))] := hD
    exact x_iret B hP hD hS rfl rfl dX2_macFinish_11
set_option maxHeartbeats 4000000 in
set_option maxRecDepth 100000 in
/-- tagByte: not as it wants it -/
theorem c_X2_tagByte_no (l : Launch) (E : EE) (o oK oM aB aW aF aG aV aS aO aP aQ : Nat) (fB fW fF fG fV fE fO fP fQ : Nat → Int32) (mde fil opn end_ cmp_ dif rdy : Int32) (p0 : Int32) (h0 : end_ = 0 ∨ plM p0 = 0) : Ci l yX2_tagByte (.code yX2_tagByte cX2_tagByte 2 (some .int)) ({ frames := 1, cells := 0, slots := 0, locals := 20 }) E [.ref o, .int p0] (-1) [(o, .inr (2, [.ref oK, .ref oM, .ref aO, .ref aP, .ref aQ, .int rdy])), (oK, .inr (0, [.ref aB, .ref aW, .ref aF, .ref aG, .ref aV, .int mde])), (oM, .inr (1, [.ref aS, .int fil, .int opn, .int end_, .int cmp_, .int dif])), (aB, .inl (E.2.1, 16, .inl fB)), (aW, .inl (E.2.1, 176, .inl fW)), (aF, .inl (E.2.1, 16, .inl fF)), (aG, .inl (E.2.1, 16, .inl fG)), (aV, .inl (E.2.1, 16, .inl fV)), (aS, .inl (E.2.1, 16, .inl fE)), (aO, .inl (E.2.1, 16, .inl fO)), (aP, .inl (E.2.1, 16, .inl fP)), (aQ, .inl (E.2.1, 16, .inl fQ))] [(o, .inr (2, [.ref oK, .ref oM, .ref aO, .ref aP, .ref aQ, .int rdy])), (oK, .inr (0, [.ref aB, .ref aW, .ref aF, .ref aG, .ref aV, .int mde])), (oM, .inr (1, [.ref aS, .int fil, .int opn, .int end_, .int cmp_, .int dif])), (aB, .inl (E.2.1, 16, .inl fB)), (aW, .inl (E.2.1, 176, .inl fW)), (aF, .inl (E.2.1, 16, .inl fF)), (aG, .inl (E.2.1, 16, .inl fG)), (aV, .inl (E.2.1, 16, .inl fV)), (aS, .inl (E.2.1, 16, .inl fE)), (aO, .inl (E.2.1, 16, .inl fO)), (aP, .inl (E.2.1, 16, .inl fP)), (aQ, .inl (E.2.1, 16, .inl fQ))] := by
  refine Ci.of (by decide) (Nat.le_of_ble_eq_true rfl) ?_
  intro p e s m below meth c A ls B hP hD hS hl
  have hl : lv_has ls 2 [(0, .ref o), (1, .int p0)] := hl
  have B : Bd p s m _ meth c cX2_tagByte 2 (some .int) RX2 E A := B
  have hx := B.1
  have hb := B.2.1
  have hP : va_P E.1 classes [(o, .inr (2, [.ref oK, .ref oM, .ref aO, .ref aP, .ref aQ, .int rdy])), (oK, .inr (0, [.ref aB, .ref aW, .ref aF, .ref aG, .ref aV, .int mde])), (oM, .inr (1, [.ref aS, .int fil, .int opn, .int end_, .int cmp_, .int dif])), (aB, .inl (E.2.1, 16, .inl fB)), (aW, .inl (E.2.1, 176, .inl fW)), (aF, .inl (E.2.1, 16, .inl fF)), (aG, .inl (E.2.1, 16, .inl fG)), (aV, .inl (E.2.1, 16, .inl fV)), (aS, .inl (E.2.1, 16, .inl fE)), (aO, .inl (E.2.1, 16, .inl fO)), (aP, .inl (E.2.1, 16, .inl fP)), (aQ, .inl (E.2.1, 16, .inl fQ))] _ := hP
  have hD : va_D A [(o, .inr (2, [.ref oK, .ref oM, .ref aO, .ref aP, .ref aQ, .int rdy])), (oK, .inr (0, [.ref aB, .ref aW, .ref aF, .ref aG, .ref aV, .int mde])), (oM, .inr (1, [.ref aS, .int fil, .int opn, .int end_, .int cmp_, .int dif])), (aB, .inl (E.2.1, 16, .inl fB)), (aW, .inl (E.2.1, 176, .inl fW)), (aF, .inl (E.2.1, 16, .inl fF)), (aG, .inl (E.2.1, 16, .inl fG)), (aV, .inl (E.2.1, 16, .inl fV)), (aS, .inl (E.2.1, 16, .inl fE)), (aO, .inl (E.2.1, 16, .inl fO)), (aP, .inl (E.2.1, 16, .inl fP)), (aQ, .inl (E.2.1, 16, .inl fQ))] := hD
  refine lv_aload_n hx hb dX2_tagByte_0 rfl (lv_at hl 0 rfl) ?_
  refine x_get B hP 0 rfl rfl i_X2 1 (by decide) g_77 rfl dX2_tagByte_1 ?_
  refine x_getN B hP 2 rfl rfl i_X1 3 (by decide) n_58 rfl dX2_tagByte_4 ?_
  refine lv_if_eq (tgt := 29) hx hb dX2_tagByte_7 (by decide) (fun c_7 => ?_) (fun c_7 => ?_)
  · refine lv_iconst (v := (-1)) hx hb dX2_tagByte_29 (by decide) ?_
    have hP : va_P E.1 classes [(o, .inr (2, [.ref oK, .ref oM, .ref aO, .ref aP, .ref aQ, .int rdy])), (oK, .inr (0, [.ref aB, .ref aW, .ref aF, .ref aG, .ref aV, .int mde])), (oM, .inr (1, [.ref aS, .int fil, .int opn, .int end_, .int cmp_, .int dif])), (aB, .inl (E.2.1, 16, .inl fB)), (aW, .inl (E.2.1, 176, .inl fW)), (aF, .inl (E.2.1, 16, .inl fF)), (aG, .inl (E.2.1, 16, .inl fG)), (aV, .inl (E.2.1, 16, .inl fV)), (aS, .inl (E.2.1, 16, .inl fE)), (aO, .inl (E.2.1, 16, .inl fO)), (aP, .inl (E.2.1, 16, .inl fP)), (aQ, .inl (E.2.1, 16, .inl fQ))] _ := hP
    have hD : va_D A [(o, .inr (2, [.ref oK, .ref oM, .ref aO, .ref aP, .ref aQ, .int rdy])), (oK, .inr (0, [.ref aB, .ref aW, .ref aF, .ref aG, .ref aV, .int mde])), (oM, .inr (1, [.ref aS, .int fil, .int opn, .int end_, .int cmp_, .int dif])), (aB, .inl (E.2.1, 16, .inl fB)), (aW, .inl (E.2.1, 176, .inl fW)), (aF, .inl (E.2.1, 16, .inl fF)), (aG, .inl (E.2.1, 16, .inl fG)), (aV, .inl (E.2.1, 16, .inl fV)), (aS, .inl (E.2.1, 16, .inl fE)), (aO, .inl (E.2.1, 16, .inl fO)), (aP, .inl (E.2.1, 16, .inl fP)), (aQ, .inl (E.2.1, 16, .inl fQ))] := hD
    exact x_iret B hP hD hS rfl rfl dX2_tagByte_30
  · refine lv_iload_n hx hb dX2_tagByte_10 rfl (lv_at hl 1 rfl) ?_
    refine x_Si (wr := [(o, .inr (2, [.ref oK, .ref oM, .ref aO, .ref aP, .ref aQ, .int rdy])), (oK, .inr (0, [.ref aB, .ref aW, .ref aF, .ref aG, .ref aV, .int mde])), (oM, .inr (1, [.ref aS, .int fil, .int opn, .int end_, .int cmp_, .int dif])), (aB, .inl (E.2.1, 16, .inl fB)), (aW, .inl (E.2.1, 176, .inl fW)), (aF, .inl (E.2.1, 16, .inl fF)), (aG, .inl (E.2.1, 16, .inl fG)), (aV, .inl (E.2.1, 16, .inl fV)), (aS, .inl (E.2.1, 16, .inl fE)), (aO, .inl (E.2.1, 16, .inl fO)), (aP, .inl (E.2.1, 16, .inl fP)), (aQ, .inl (E.2.1, 16, .inl fQ))]) (isC := []) (isR := [0, 1, 2, 3, 4, 5, 6, 7, 8, 9, 10, 11]) (As := [.int p0]) B (c_X2_isPlace l E p0) k_X2_isPlace g_114 s_X2_isPlace ⟨by decide, by decide, rfl, rfl⟩ hP hD hS ⟨rfl, rfl, rfl, rfl, by decide⟩ rfl hl.1 rfl (Nat.le_of_ble_eq_true rfl) dX2_tagByte_11 ⟨by decide, by decide⟩ (fun H locs hP hD hS => ?_)
    have hP : va_P E.1 classes [(o, .inr (2, [.ref oK, .ref oM, .ref aO, .ref aP, .ref aQ, .int rdy])), (oK, .inr (0, [.ref aB, .ref aW, .ref aF, .ref aG, .ref aV, .int mde])), (oM, .inr (1, [.ref aS, .int fil, .int opn, .int end_, .int cmp_, .int dif])), (aB, .inl (E.2.1, 16, .inl fB)), (aW, .inl (E.2.1, 176, .inl fW)), (aF, .inl (E.2.1, 16, .inl fF)), (aG, .inl (E.2.1, 16, .inl fG)), (aV, .inl (E.2.1, 16, .inl fV)), (aS, .inl (E.2.1, 16, .inl fE)), (aO, .inl (E.2.1, 16, .inl fO)), (aP, .inl (E.2.1, 16, .inl fP)), (aQ, .inl (E.2.1, 16, .inl fQ))] _ := hP
    have hD : va_D A [(o, .inr (2, [.ref oK, .ref oM, .ref aO, .ref aP, .ref aQ, .int rdy])), (oK, .inr (0, [.ref aB, .ref aW, .ref aF, .ref aG, .ref aV, .int mde])), (oM, .inr (1, [.ref aS, .int fil, .int opn, .int end_, .int cmp_, .int dif])), (aB, .inl (E.2.1, 16, .inl fB)), (aW, .inl (E.2.1, 176, .inl fW)), (aF, .inl (E.2.1, 16, .inl fF)), (aG, .inl (E.2.1, 16, .inl fG)), (aV, .inl (E.2.1, 16, .inl fV)), (aS, .inl (E.2.1, 16, .inl fE)), (aO, .inl (E.2.1, 16, .inl fO)), (aP, .inl (E.2.1, 16, .inl fP)), (aQ, .inl (E.2.1, 16, .inl fQ))] := hD
    refine lv_if_eq (tgt := 29) hx hb dX2_tagByte_14 (by decide) (fun c_14 => ?_) (fun c_14 => ?_)
    · refine lv_iconst (v := (-1)) hx hb dX2_tagByte_29 (by decide) ?_
      have hP : va_P E.1 classes [(o, .inr (2, [.ref oK, .ref oM, .ref aO, .ref aP, .ref aQ, .int rdy])), (oK, .inr (0, [.ref aB, .ref aW, .ref aF, .ref aG, .ref aV, .int mde])), (oM, .inr (1, [.ref aS, .int fil, .int opn, .int end_, .int cmp_, .int dif])), (aB, .inl (E.2.1, 16, .inl fB)), (aW, .inl (E.2.1, 176, .inl fW)), (aF, .inl (E.2.1, 16, .inl fF)), (aG, .inl (E.2.1, 16, .inl fG)), (aV, .inl (E.2.1, 16, .inl fV)), (aS, .inl (E.2.1, 16, .inl fE)), (aO, .inl (E.2.1, 16, .inl fO)), (aP, .inl (E.2.1, 16, .inl fP)), (aQ, .inl (E.2.1, 16, .inl fQ))] _ := hP
      have hD : va_D A [(o, .inr (2, [.ref oK, .ref oM, .ref aO, .ref aP, .ref aQ, .int rdy])), (oK, .inr (0, [.ref aB, .ref aW, .ref aF, .ref aG, .ref aV, .int mde])), (oM, .inr (1, [.ref aS, .int fil, .int opn, .int end_, .int cmp_, .int dif])), (aB, .inl (E.2.1, 16, .inl fB)), (aW, .inl (E.2.1, 176, .inl fW)), (aF, .inl (E.2.1, 16, .inl fF)), (aG, .inl (E.2.1, 16, .inl fG)), (aV, .inl (E.2.1, 16, .inl fV)), (aS, .inl (E.2.1, 16, .inl fE)), (aO, .inl (E.2.1, 16, .inl fO)), (aP, .inl (E.2.1, 16, .inl fP)), (aQ, .inl (E.2.1, 16, .inl fQ))] := hD
      exact x_iret B hP hD hS rfl rfl dX2_tagByte_30
    · exact absurd h0 (fun h => by rcases h with h | h <;> contradiction)
set_option maxHeartbeats 4000000 in
set_option maxRecDepth 100000 in
/-- macCheck: not as it wants it -/
theorem c_X2_macCheck_no (l : Launch) (E : EE) (o oK oM aB aW aF aG aV aS aO aP aQ : Nat) (fB fW fF fG fV fE fO fP fQ : Nat → Int32) (mde fil opn end_ cmp_ dif rdy : Int32) (p0 : Int32) (p1 : Int32) (h0 : end_ = 0 ∨ plM p0 = 0) : Ci l yX2_macCheck (.code yX2_macCheck cX2_macCheck 3 (some .boolean)) ({ frames := 1, cells := 0, slots := 0, locals := 22 }) E [.ref o, .int p0, .int p1] 0 [(o, .inr (2, [.ref oK, .ref oM, .ref aO, .ref aP, .ref aQ, .int rdy])), (oK, .inr (0, [.ref aB, .ref aW, .ref aF, .ref aG, .ref aV, .int mde])), (oM, .inr (1, [.ref aS, .int fil, .int opn, .int end_, .int cmp_, .int dif])), (aB, .inl (E.2.1, 16, .inl fB)), (aW, .inl (E.2.1, 176, .inl fW)), (aF, .inl (E.2.1, 16, .inl fF)), (aG, .inl (E.2.1, 16, .inl fG)), (aV, .inl (E.2.1, 16, .inl fV)), (aS, .inl (E.2.1, 16, .inl fE)), (aO, .inl (E.2.1, 16, .inl fO)), (aP, .inl (E.2.1, 16, .inl fP)), (aQ, .inl (E.2.1, 16, .inl fQ))] [(o, .inr (2, [.ref oK, .ref oM, .ref aO, .ref aP, .ref aQ, .int rdy])), (oK, .inr (0, [.ref aB, .ref aW, .ref aF, .ref aG, .ref aV, .int mde])), (oM, .inr (1, [.ref aS, .int fil, .int opn, .int end_, .int cmp_, .int dif])), (aB, .inl (E.2.1, 16, .inl fB)), (aW, .inl (E.2.1, 176, .inl fW)), (aF, .inl (E.2.1, 16, .inl fF)), (aG, .inl (E.2.1, 16, .inl fG)), (aV, .inl (E.2.1, 16, .inl fV)), (aS, .inl (E.2.1, 16, .inl fE)), (aO, .inl (E.2.1, 16, .inl fO)), (aP, .inl (E.2.1, 16, .inl fP)), (aQ, .inl (E.2.1, 16, .inl fQ))] := by
  refine Ci.of (by decide) (Nat.le_of_ble_eq_true rfl) ?_
  intro p e s m below meth c A ls B hP hD hS hl
  have hl : lv_has ls 3 [(0, .ref o), (1, .int p0), (2, .int p1)] := hl
  have B : Bd p s m _ meth c cX2_macCheck 3 (some .boolean) RX2 E A := B
  have hx := B.1
  have hb := B.2.1
  have hP : va_P E.1 classes [(o, .inr (2, [.ref oK, .ref oM, .ref aO, .ref aP, .ref aQ, .int rdy])), (oK, .inr (0, [.ref aB, .ref aW, .ref aF, .ref aG, .ref aV, .int mde])), (oM, .inr (1, [.ref aS, .int fil, .int opn, .int end_, .int cmp_, .int dif])), (aB, .inl (E.2.1, 16, .inl fB)), (aW, .inl (E.2.1, 176, .inl fW)), (aF, .inl (E.2.1, 16, .inl fF)), (aG, .inl (E.2.1, 16, .inl fG)), (aV, .inl (E.2.1, 16, .inl fV)), (aS, .inl (E.2.1, 16, .inl fE)), (aO, .inl (E.2.1, 16, .inl fO)), (aP, .inl (E.2.1, 16, .inl fP)), (aQ, .inl (E.2.1, 16, .inl fQ))] _ := hP
  have hD : va_D A [(o, .inr (2, [.ref oK, .ref oM, .ref aO, .ref aP, .ref aQ, .int rdy])), (oK, .inr (0, [.ref aB, .ref aW, .ref aF, .ref aG, .ref aV, .int mde])), (oM, .inr (1, [.ref aS, .int fil, .int opn, .int end_, .int cmp_, .int dif])), (aB, .inl (E.2.1, 16, .inl fB)), (aW, .inl (E.2.1, 176, .inl fW)), (aF, .inl (E.2.1, 16, .inl fF)), (aG, .inl (E.2.1, 16, .inl fG)), (aV, .inl (E.2.1, 16, .inl fV)), (aS, .inl (E.2.1, 16, .inl fE)), (aO, .inl (E.2.1, 16, .inl fO)), (aP, .inl (E.2.1, 16, .inl fP)), (aQ, .inl (E.2.1, 16, .inl fQ))] := hD
  refine lv_aload_n hx hb dX2_macCheck_0 rfl (lv_at hl 0 rfl) ?_
  refine x_get B hP 0 rfl rfl i_X2 1 (by decide) g_77 rfl dX2_macCheck_1 ?_
  refine x_getN B hP 2 rfl rfl i_X1 3 (by decide) n_58 rfl dX2_macCheck_4 ?_
  refine lv_if_eq (tgt := 17) hx hb dX2_macCheck_7 (by decide) (fun c_7 => ?_) (fun c_7 => ?_)
  · refine lv_iconst (v := 0) hx hb dX2_macCheck_17 (by decide) ?_
    have hP : va_P E.1 classes [(o, .inr (2, [.ref oK, .ref oM, .ref aO, .ref aP, .ref aQ, .int rdy])), (oK, .inr (0, [.ref aB, .ref aW, .ref aF, .ref aG, .ref aV, .int mde])), (oM, .inr (1, [.ref aS, .int fil, .int opn, .int end_, .int cmp_, .int dif])), (aB, .inl (E.2.1, 16, .inl fB)), (aW, .inl (E.2.1, 176, .inl fW)), (aF, .inl (E.2.1, 16, .inl fF)), (aG, .inl (E.2.1, 16, .inl fG)), (aV, .inl (E.2.1, 16, .inl fV)), (aS, .inl (E.2.1, 16, .inl fE)), (aO, .inl (E.2.1, 16, .inl fO)), (aP, .inl (E.2.1, 16, .inl fP)), (aQ, .inl (E.2.1, 16, .inl fQ))] _ := hP
    have hD : va_D A [(o, .inr (2, [.ref oK, .ref oM, .ref aO, .ref aP, .ref aQ, .int rdy])), (oK, .inr (0, [.ref aB, .ref aW, .ref aF, .ref aG, .ref aV, .int mde])), (oM, .inr (1, [.ref aS, .int fil, .int opn, .int end_, .int cmp_, .int dif])), (aB, .inl (E.2.1, 16, .inl fB)), (aW, .inl (E.2.1, 176, .inl fW)), (aF, .inl (E.2.1, 16, .inl fF)), (aG, .inl (E.2.1, 16, .inl fG)), (aV, .inl (E.2.1, 16, .inl fV)), (aS, .inl (E.2.1, 16, .inl fE)), (aO, .inl (E.2.1, 16, .inl fO)), (aP, .inl (E.2.1, 16, .inl fP)), (aQ, .inl (E.2.1, 16, .inl fQ))] := hD
    exact x_iret B hP hD hS rfl rfl dX2_macCheck_18
  · refine lv_iload_n hx hb dX2_macCheck_10 rfl (lv_at hl 1 rfl) ?_
    refine x_Si (wr := [(o, .inr (2, [.ref oK, .ref oM, .ref aO, .ref aP, .ref aQ, .int rdy])), (oK, .inr (0, [.ref aB, .ref aW, .ref aF, .ref aG, .ref aV, .int mde])), (oM, .inr (1, [.ref aS, .int fil, .int opn, .int end_, .int cmp_, .int dif])), (aB, .inl (E.2.1, 16, .inl fB)), (aW, .inl (E.2.1, 176, .inl fW)), (aF, .inl (E.2.1, 16, .inl fF)), (aG, .inl (E.2.1, 16, .inl fG)), (aV, .inl (E.2.1, 16, .inl fV)), (aS, .inl (E.2.1, 16, .inl fE)), (aO, .inl (E.2.1, 16, .inl fO)), (aP, .inl (E.2.1, 16, .inl fP)), (aQ, .inl (E.2.1, 16, .inl fQ))]) (isC := []) (isR := [0, 1, 2, 3, 4, 5, 6, 7, 8, 9, 10, 11]) (As := [.int p0]) B (c_X2_isPlace l E p0) k_X2_isPlace g_114 s_X2_isPlace ⟨by decide, by decide, rfl, rfl⟩ hP hD hS ⟨rfl, rfl, rfl, rfl, by decide⟩ rfl hl.1 rfl (Nat.le_of_ble_eq_true rfl) dX2_macCheck_11 ⟨by decide, by decide⟩ (fun H locs hP hD hS => ?_)
    have hP : va_P E.1 classes [(o, .inr (2, [.ref oK, .ref oM, .ref aO, .ref aP, .ref aQ, .int rdy])), (oK, .inr (0, [.ref aB, .ref aW, .ref aF, .ref aG, .ref aV, .int mde])), (oM, .inr (1, [.ref aS, .int fil, .int opn, .int end_, .int cmp_, .int dif])), (aB, .inl (E.2.1, 16, .inl fB)), (aW, .inl (E.2.1, 176, .inl fW)), (aF, .inl (E.2.1, 16, .inl fF)), (aG, .inl (E.2.1, 16, .inl fG)), (aV, .inl (E.2.1, 16, .inl fV)), (aS, .inl (E.2.1, 16, .inl fE)), (aO, .inl (E.2.1, 16, .inl fO)), (aP, .inl (E.2.1, 16, .inl fP)), (aQ, .inl (E.2.1, 16, .inl fQ))] _ := hP
    have hD : va_D A [(o, .inr (2, [.ref oK, .ref oM, .ref aO, .ref aP, .ref aQ, .int rdy])), (oK, .inr (0, [.ref aB, .ref aW, .ref aF, .ref aG, .ref aV, .int mde])), (oM, .inr (1, [.ref aS, .int fil, .int opn, .int end_, .int cmp_, .int dif])), (aB, .inl (E.2.1, 16, .inl fB)), (aW, .inl (E.2.1, 176, .inl fW)), (aF, .inl (E.2.1, 16, .inl fF)), (aG, .inl (E.2.1, 16, .inl fG)), (aV, .inl (E.2.1, 16, .inl fV)), (aS, .inl (E.2.1, 16, .inl fE)), (aO, .inl (E.2.1, 16, .inl fO)), (aP, .inl (E.2.1, 16, .inl fP)), (aQ, .inl (E.2.1, 16, .inl fQ))] := hD
    refine lv_if_ne (tgt := 19) hx hb dX2_macCheck_14 (by decide) (fun c_14 => ?_) (fun c_14 => ?_)
    · exact absurd h0 (fun h => by rcases h with h | h <;> contradiction)
    · refine lv_iconst (v := 0) hx hb dX2_macCheck_17 (by decide) ?_
      have hP : va_P E.1 classes [(o, .inr (2, [.ref oK, .ref oM, .ref aO, .ref aP, .ref aQ, .int rdy])), (oK, .inr (0, [.ref aB, .ref aW, .ref aF, .ref aG, .ref aV, .int mde])), (oM, .inr (1, [.ref aS, .int fil, .int opn, .int end_, .int cmp_, .int dif])), (aB, .inl (E.2.1, 16, .inl fB)), (aW, .inl (E.2.1, 176, .inl fW)), (aF, .inl (E.2.1, 16, .inl fF)), (aG, .inl (E.2.1, 16, .inl fG)), (aV, .inl (E.2.1, 16, .inl fV)), (aS, .inl (E.2.1, 16, .inl fE)), (aO, .inl (E.2.1, 16, .inl fO)), (aP, .inl (E.2.1, 16, .inl fP)), (aQ, .inl (E.2.1, 16, .inl fQ))] _ := hP
      have hD : va_D A [(o, .inr (2, [.ref oK, .ref oM, .ref aO, .ref aP, .ref aQ, .int rdy])), (oK, .inr (0, [.ref aB, .ref aW, .ref aF, .ref aG, .ref aV, .int mde])), (oM, .inr (1, [.ref aS, .int fil, .int opn, .int end_, .int cmp_, .int dif])), (aB, .inl (E.2.1, 16, .inl fB)), (aW, .inl (E.2.1, 176, .inl fW)), (aF, .inl (E.2.1, 16, .inl fF)), (aG, .inl (E.2.1, 16, .inl fG)), (aV, .inl (E.2.1, 16, .inl fV)), (aS, .inl (E.2.1, 16, .inl fE)), (aO, .inl (E.2.1, 16, .inl fO)), (aP, .inl (E.2.1, 16, .inl fP)), (aQ, .inl (E.2.1, 16, .inl fQ))] := hD
      exact x_iret B hP hD hS rfl rfl dX2_macCheck_18
set_option maxHeartbeats 4000000 in
set_option maxRecDepth 100000 in
/-- macVerdict: not as it wants it -/
theorem c_X2_macVerdict_no (l : Launch) (E : EE) (o oK oM aB aW aF aG aV aS aO aP aQ : Nat) (fB fW fF fG fV fE fO fP fQ : Nat → Int32) (mde fil opn end_ cmp_ dif rdy : Int32) (h0 : end_ = 0) : Ci l yX2_macVerdict (.code yX2_macVerdict cX2_macVerdict 1 (some .boolean)) ({ frames := 0, cells := 0, slots := 0, locals := 0 }) E [.ref o] 0 [(o, .inr (2, [.ref oK, .ref oM, .ref aO, .ref aP, .ref aQ, .int rdy])), (oK, .inr (0, [.ref aB, .ref aW, .ref aF, .ref aG, .ref aV, .int mde])), (oM, .inr (1, [.ref aS, .int fil, .int opn, .int end_, .int cmp_, .int dif])), (aB, .inl (E.2.1, 16, .inl fB)), (aW, .inl (E.2.1, 176, .inl fW)), (aF, .inl (E.2.1, 16, .inl fF)), (aG, .inl (E.2.1, 16, .inl fG)), (aV, .inl (E.2.1, 16, .inl fV)), (aS, .inl (E.2.1, 16, .inl fE)), (aO, .inl (E.2.1, 16, .inl fO)), (aP, .inl (E.2.1, 16, .inl fP)), (aQ, .inl (E.2.1, 16, .inl fQ))] [(o, .inr (2, [.ref oK, .ref oM, .ref aO, .ref aP, .ref aQ, .int rdy])), (oK, .inr (0, [.ref aB, .ref aW, .ref aF, .ref aG, .ref aV, .int mde])), (oM, .inr (1, [.ref aS, .int fil, .int opn, .int end_, .int cmp_, .int dif])), (aB, .inl (E.2.1, 16, .inl fB)), (aW, .inl (E.2.1, 176, .inl fW)), (aF, .inl (E.2.1, 16, .inl fF)), (aG, .inl (E.2.1, 16, .inl fG)), (aV, .inl (E.2.1, 16, .inl fV)), (aS, .inl (E.2.1, 16, .inl fE)), (aO, .inl (E.2.1, 16, .inl fO)), (aP, .inl (E.2.1, 16, .inl fP)), (aQ, .inl (E.2.1, 16, .inl fQ))] := by
  refine Ci.of (by decide) (Nat.le_of_ble_eq_true rfl) ?_
  intro p e s m below meth c A ls B hP hD hS hl
  have hl : lv_has ls 1 [(0, .ref o)] := hl
  have B : Bd p s m _ meth c cX2_macVerdict 1 (some .boolean) RX2 E A := B
  have hx := B.1
  have hb := B.2.1
  have hP : va_P E.1 classes [(o, .inr (2, [.ref oK, .ref oM, .ref aO, .ref aP, .ref aQ, .int rdy])), (oK, .inr (0, [.ref aB, .ref aW, .ref aF, .ref aG, .ref aV, .int mde])), (oM, .inr (1, [.ref aS, .int fil, .int opn, .int end_, .int cmp_, .int dif])), (aB, .inl (E.2.1, 16, .inl fB)), (aW, .inl (E.2.1, 176, .inl fW)), (aF, .inl (E.2.1, 16, .inl fF)), (aG, .inl (E.2.1, 16, .inl fG)), (aV, .inl (E.2.1, 16, .inl fV)), (aS, .inl (E.2.1, 16, .inl fE)), (aO, .inl (E.2.1, 16, .inl fO)), (aP, .inl (E.2.1, 16, .inl fP)), (aQ, .inl (E.2.1, 16, .inl fQ))] _ := hP
  have hD : va_D A [(o, .inr (2, [.ref oK, .ref oM, .ref aO, .ref aP, .ref aQ, .int rdy])), (oK, .inr (0, [.ref aB, .ref aW, .ref aF, .ref aG, .ref aV, .int mde])), (oM, .inr (1, [.ref aS, .int fil, .int opn, .int end_, .int cmp_, .int dif])), (aB, .inl (E.2.1, 16, .inl fB)), (aW, .inl (E.2.1, 176, .inl fW)), (aF, .inl (E.2.1, 16, .inl fF)), (aG, .inl (E.2.1, 16, .inl fG)), (aV, .inl (E.2.1, 16, .inl fV)), (aS, .inl (E.2.1, 16, .inl fE)), (aO, .inl (E.2.1, 16, .inl fO)), (aP, .inl (E.2.1, 16, .inl fP)), (aQ, .inl (E.2.1, 16, .inl fQ))] := hD
  refine lv_aload_n hx hb dX2_macVerdict_0 rfl (lv_at hl 0 rfl) ?_
  refine x_get B hP 0 rfl rfl i_X2 1 (by decide) g_77 rfl dX2_macVerdict_1 ?_
  refine x_getN B hP 2 rfl rfl i_X1 3 (by decide) n_58 rfl dX2_macVerdict_4 ?_
  refine lv_if_eq (tgt := 36) hx hb dX2_macVerdict_7 (by decide) (fun c_7 => ?_) (fun c_7 => ?_)
  · refine lv_iconst (v := 0) hx hb dX2_macVerdict_36 (by decide) ?_
    have hP : va_P E.1 classes [(o, .inr (2, [.ref oK, .ref oM, .ref aO, .ref aP, .ref aQ, .int rdy])), (oK, .inr (0, [.ref aB, .ref aW, .ref aF, .ref aG, .ref aV, .int mde])), (oM, .inr (1, [.ref aS, .int fil, .int opn, .int end_, .int cmp_, .int dif])), (aB, .inl (E.2.1, 16, .inl fB)), (aW, .inl (E.2.1, 176, .inl fW)), (aF, .inl (E.2.1, 16, .inl fF)), (aG, .inl (E.2.1, 16, .inl fG)), (aV, .inl (E.2.1, 16, .inl fV)), (aS, .inl (E.2.1, 16, .inl fE)), (aO, .inl (E.2.1, 16, .inl fO)), (aP, .inl (E.2.1, 16, .inl fP)), (aQ, .inl (E.2.1, 16, .inl fQ))] _ := hP
    have hD : va_D A [(o, .inr (2, [.ref oK, .ref oM, .ref aO, .ref aP, .ref aQ, .int rdy])), (oK, .inr (0, [.ref aB, .ref aW, .ref aF, .ref aG, .ref aV, .int mde])), (oM, .inr (1, [.ref aS, .int fil, .int opn, .int end_, .int cmp_, .int dif])), (aB, .inl (E.2.1, 16, .inl fB)), (aW, .inl (E.2.1, 176, .inl fW)), (aF, .inl (E.2.1, 16, .inl fF)), (aG, .inl (E.2.1, 16, .inl fG)), (aV, .inl (E.2.1, 16, .inl fV)), (aS, .inl (E.2.1, 16, .inl fE)), (aO, .inl (E.2.1, 16, .inl fO)), (aP, .inl (E.2.1, 16, .inl fP)), (aQ, .inl (E.2.1, 16, .inl fQ))] := hD
    exact x_iret B hP hD hS rfl rfl dX2_macVerdict_37
  · exact absurd h0 c_7
set_option maxHeartbeats 4000000 in
set_option maxRecDepth 100000 in
/-- setBlockByte: not as it wants it -/
theorem c_X2_setBlockByte_no (l : Launch) (E : EE) (o oK oM aB aW aF aG aV aS aO aP aQ : Nat) (fB fW fF fG fV fE fO fP fQ : Nat → Int32) (mde fil opn end_ cmp_ dif rdy : Int32) (p0 : Int32) (p1 : Int32) (h0 : rdy = 0 ∨ plM p0 = 0 ∨ byM p1 = 0) : Ci l yX2_setBlockByte (.code yX2_setBlockByte cX2_setBlockByte 3 (some .boolean)) ({ frames := 1, cells := 0, slots := 0, locals := 20 }) E [.ref o, .int p0, .int p1] 0 [(o, .inr (2, [.ref oK, .ref oM, .ref aO, .ref aP, .ref aQ, .int rdy])), (oK, .inr (0, [.ref aB, .ref aW, .ref aF, .ref aG, .ref aV, .int mde])), (oM, .inr (1, [.ref aS, .int fil, .int opn, .int end_, .int cmp_, .int dif])), (aB, .inl (E.2.1, 16, .inl fB)), (aW, .inl (E.2.1, 176, .inl fW)), (aF, .inl (E.2.1, 16, .inl fF)), (aG, .inl (E.2.1, 16, .inl fG)), (aV, .inl (E.2.1, 16, .inl fV)), (aS, .inl (E.2.1, 16, .inl fE)), (aO, .inl (E.2.1, 16, .inl fO)), (aP, .inl (E.2.1, 16, .inl fP)), (aQ, .inl (E.2.1, 16, .inl fQ))] [(o, .inr (2, [.ref oK, .ref oM, .ref aO, .ref aP, .ref aQ, .int rdy])), (oK, .inr (0, [.ref aB, .ref aW, .ref aF, .ref aG, .ref aV, .int mde])), (oM, .inr (1, [.ref aS, .int fil, .int opn, .int end_, .int cmp_, .int dif])), (aB, .inl (E.2.1, 16, .inl fB)), (aW, .inl (E.2.1, 176, .inl fW)), (aF, .inl (E.2.1, 16, .inl fF)), (aG, .inl (E.2.1, 16, .inl fG)), (aV, .inl (E.2.1, 16, .inl fV)), (aS, .inl (E.2.1, 16, .inl fE)), (aO, .inl (E.2.1, 16, .inl fO)), (aP, .inl (E.2.1, 16, .inl fP)), (aQ, .inl (E.2.1, 16, .inl fQ))] := by
  refine Ci.of (by decide) (Nat.le_of_ble_eq_true rfl) ?_
  intro p e s m below meth c A ls B hP hD hS hl
  have hl : lv_has ls 3 [(0, .ref o), (1, .int p0), (2, .int p1)] := hl
  have B : Bd p s m _ meth c cX2_setBlockByte 3 (some .boolean) RX2 E A := B
  have hx := B.1
  have hb := B.2.1
  have hP : va_P E.1 classes [(o, .inr (2, [.ref oK, .ref oM, .ref aO, .ref aP, .ref aQ, .int rdy])), (oK, .inr (0, [.ref aB, .ref aW, .ref aF, .ref aG, .ref aV, .int mde])), (oM, .inr (1, [.ref aS, .int fil, .int opn, .int end_, .int cmp_, .int dif])), (aB, .inl (E.2.1, 16, .inl fB)), (aW, .inl (E.2.1, 176, .inl fW)), (aF, .inl (E.2.1, 16, .inl fF)), (aG, .inl (E.2.1, 16, .inl fG)), (aV, .inl (E.2.1, 16, .inl fV)), (aS, .inl (E.2.1, 16, .inl fE)), (aO, .inl (E.2.1, 16, .inl fO)), (aP, .inl (E.2.1, 16, .inl fP)), (aQ, .inl (E.2.1, 16, .inl fQ))] _ := hP
  have hD : va_D A [(o, .inr (2, [.ref oK, .ref oM, .ref aO, .ref aP, .ref aQ, .int rdy])), (oK, .inr (0, [.ref aB, .ref aW, .ref aF, .ref aG, .ref aV, .int mde])), (oM, .inr (1, [.ref aS, .int fil, .int opn, .int end_, .int cmp_, .int dif])), (aB, .inl (E.2.1, 16, .inl fB)), (aW, .inl (E.2.1, 176, .inl fW)), (aF, .inl (E.2.1, 16, .inl fF)), (aG, .inl (E.2.1, 16, .inl fG)), (aV, .inl (E.2.1, 16, .inl fV)), (aS, .inl (E.2.1, 16, .inl fE)), (aO, .inl (E.2.1, 16, .inl fO)), (aP, .inl (E.2.1, 16, .inl fP)), (aQ, .inl (E.2.1, 16, .inl fQ))] := hD
  refine lv_aload_n hx hb dX2_setBlockByte_0 rfl (lv_at hl 0 rfl) ?_
  refine x_get B hP 0 rfl rfl i_X2 5 (by decide) g_81 rfl dX2_setBlockByte_1 ?_
  refine lv_if_eq (tgt := 21) hx hb dX2_setBlockByte_4 (by decide) (fun c_4 => ?_) (fun c_4 => ?_)
  · refine lv_iconst (v := 0) hx hb dX2_setBlockByte_21 (by decide) ?_
    have hP : va_P E.1 classes [(o, .inr (2, [.ref oK, .ref oM, .ref aO, .ref aP, .ref aQ, .int rdy])), (oK, .inr (0, [.ref aB, .ref aW, .ref aF, .ref aG, .ref aV, .int mde])), (oM, .inr (1, [.ref aS, .int fil, .int opn, .int end_, .int cmp_, .int dif])), (aB, .inl (E.2.1, 16, .inl fB)), (aW, .inl (E.2.1, 176, .inl fW)), (aF, .inl (E.2.1, 16, .inl fF)), (aG, .inl (E.2.1, 16, .inl fG)), (aV, .inl (E.2.1, 16, .inl fV)), (aS, .inl (E.2.1, 16, .inl fE)), (aO, .inl (E.2.1, 16, .inl fO)), (aP, .inl (E.2.1, 16, .inl fP)), (aQ, .inl (E.2.1, 16, .inl fQ))] _ := hP
    have hD : va_D A [(o, .inr (2, [.ref oK, .ref oM, .ref aO, .ref aP, .ref aQ, .int rdy])), (oK, .inr (0, [.ref aB, .ref aW, .ref aF, .ref aG, .ref aV, .int mde])), (oM, .inr (1, [.ref aS, .int fil, .int opn, .int end_, .int cmp_, .int dif])), (aB, .inl (E.2.1, 16, .inl fB)), (aW, .inl (E.2.1, 176, .inl fW)), (aF, .inl (E.2.1, 16, .inl fF)), (aG, .inl (E.2.1, 16, .inl fG)), (aV, .inl (E.2.1, 16, .inl fV)), (aS, .inl (E.2.1, 16, .inl fE)), (aO, .inl (E.2.1, 16, .inl fO)), (aP, .inl (E.2.1, 16, .inl fP)), (aQ, .inl (E.2.1, 16, .inl fQ))] := hD
    exact x_iret B hP hD hS rfl rfl dX2_setBlockByte_22
  · refine lv_iload_n hx hb dX2_setBlockByte_7 rfl (lv_at hl 1 rfl) ?_
    refine x_Si (wr := [(o, .inr (2, [.ref oK, .ref oM, .ref aO, .ref aP, .ref aQ, .int rdy])), (oK, .inr (0, [.ref aB, .ref aW, .ref aF, .ref aG, .ref aV, .int mde])), (oM, .inr (1, [.ref aS, .int fil, .int opn, .int end_, .int cmp_, .int dif])), (aB, .inl (E.2.1, 16, .inl fB)), (aW, .inl (E.2.1, 176, .inl fW)), (aF, .inl (E.2.1, 16, .inl fF)), (aG, .inl (E.2.1, 16, .inl fG)), (aV, .inl (E.2.1, 16, .inl fV)), (aS, .inl (E.2.1, 16, .inl fE)), (aO, .inl (E.2.1, 16, .inl fO)), (aP, .inl (E.2.1, 16, .inl fP)), (aQ, .inl (E.2.1, 16, .inl fQ))]) (isC := []) (isR := [0, 1, 2, 3, 4, 5, 6, 7, 8, 9, 10, 11]) (As := [.int p0]) B (c_X2_isPlace l E p0) k_X2_isPlace g_114 s_X2_isPlace ⟨by decide, by decide, rfl, rfl⟩ hP hD hS ⟨rfl, rfl, rfl, rfl, by decide⟩ rfl hl.1 rfl (Nat.le_of_ble_eq_true rfl) dX2_setBlockByte_8 ⟨by decide, by decide⟩ (fun H locs hP hD hS => ?_)
    have hP : va_P E.1 classes [(o, .inr (2, [.ref oK, .ref oM, .ref aO, .ref aP, .ref aQ, .int rdy])), (oK, .inr (0, [.ref aB, .ref aW, .ref aF, .ref aG, .ref aV, .int mde])), (oM, .inr (1, [.ref aS, .int fil, .int opn, .int end_, .int cmp_, .int dif])), (aB, .inl (E.2.1, 16, .inl fB)), (aW, .inl (E.2.1, 176, .inl fW)), (aF, .inl (E.2.1, 16, .inl fF)), (aG, .inl (E.2.1, 16, .inl fG)), (aV, .inl (E.2.1, 16, .inl fV)), (aS, .inl (E.2.1, 16, .inl fE)), (aO, .inl (E.2.1, 16, .inl fO)), (aP, .inl (E.2.1, 16, .inl fP)), (aQ, .inl (E.2.1, 16, .inl fQ))] _ := hP
    have hD : va_D A [(o, .inr (2, [.ref oK, .ref oM, .ref aO, .ref aP, .ref aQ, .int rdy])), (oK, .inr (0, [.ref aB, .ref aW, .ref aF, .ref aG, .ref aV, .int mde])), (oM, .inr (1, [.ref aS, .int fil, .int opn, .int end_, .int cmp_, .int dif])), (aB, .inl (E.2.1, 16, .inl fB)), (aW, .inl (E.2.1, 176, .inl fW)), (aF, .inl (E.2.1, 16, .inl fF)), (aG, .inl (E.2.1, 16, .inl fG)), (aV, .inl (E.2.1, 16, .inl fV)), (aS, .inl (E.2.1, 16, .inl fE)), (aO, .inl (E.2.1, 16, .inl fO)), (aP, .inl (E.2.1, 16, .inl fP)), (aQ, .inl (E.2.1, 16, .inl fQ))] := hD
    refine lv_if_eq (tgt := 21) hx hb dX2_setBlockByte_11 (by decide) (fun c_11 => ?_) (fun c_11 => ?_)
    · refine lv_iconst (v := 0) hx hb dX2_setBlockByte_21 (by decide) ?_
      have hP : va_P E.1 classes [(o, .inr (2, [.ref oK, .ref oM, .ref aO, .ref aP, .ref aQ, .int rdy])), (oK, .inr (0, [.ref aB, .ref aW, .ref aF, .ref aG, .ref aV, .int mde])), (oM, .inr (1, [.ref aS, .int fil, .int opn, .int end_, .int cmp_, .int dif])), (aB, .inl (E.2.1, 16, .inl fB)), (aW, .inl (E.2.1, 176, .inl fW)), (aF, .inl (E.2.1, 16, .inl fF)), (aG, .inl (E.2.1, 16, .inl fG)), (aV, .inl (E.2.1, 16, .inl fV)), (aS, .inl (E.2.1, 16, .inl fE)), (aO, .inl (E.2.1, 16, .inl fO)), (aP, .inl (E.2.1, 16, .inl fP)), (aQ, .inl (E.2.1, 16, .inl fQ))] _ := hP
      have hD : va_D A [(o, .inr (2, [.ref oK, .ref oM, .ref aO, .ref aP, .ref aQ, .int rdy])), (oK, .inr (0, [.ref aB, .ref aW, .ref aF, .ref aG, .ref aV, .int mde])), (oM, .inr (1, [.ref aS, .int fil, .int opn, .int end_, .int cmp_, .int dif])), (aB, .inl (E.2.1, 16, .inl fB)), (aW, .inl (E.2.1, 176, .inl fW)), (aF, .inl (E.2.1, 16, .inl fF)), (aG, .inl (E.2.1, 16, .inl fG)), (aV, .inl (E.2.1, 16, .inl fV)), (aS, .inl (E.2.1, 16, .inl fE)), (aO, .inl (E.2.1, 16, .inl fO)), (aP, .inl (E.2.1, 16, .inl fP)), (aQ, .inl (E.2.1, 16, .inl fQ))] := hD
      exact x_iret B hP hD hS rfl rfl dX2_setBlockByte_22
    · refine lv_iload_n hx hb dX2_setBlockByte_14 rfl (lv_at hl 2 rfl) ?_
      refine x_Si (wr := [(o, .inr (2, [.ref oK, .ref oM, .ref aO, .ref aP, .ref aQ, .int rdy])), (oK, .inr (0, [.ref aB, .ref aW, .ref aF, .ref aG, .ref aV, .int mde])), (oM, .inr (1, [.ref aS, .int fil, .int opn, .int end_, .int cmp_, .int dif])), (aB, .inl (E.2.1, 16, .inl fB)), (aW, .inl (E.2.1, 176, .inl fW)), (aF, .inl (E.2.1, 16, .inl fF)), (aG, .inl (E.2.1, 16, .inl fG)), (aV, .inl (E.2.1, 16, .inl fV)), (aS, .inl (E.2.1, 16, .inl fE)), (aO, .inl (E.2.1, 16, .inl fO)), (aP, .inl (E.2.1, 16, .inl fP)), (aQ, .inl (E.2.1, 16, .inl fQ))]) (isC := []) (isR := [0, 1, 2, 3, 4, 5, 6, 7, 8, 9, 10, 11]) (As := [.int p1]) B (c_X2_isByte l E p1) k_X2_isByte g_117 s_X2_isByte ⟨by decide, by decide, rfl, rfl⟩ hP hD hS ⟨rfl, rfl, rfl, rfl, by decide⟩ rfl hl.1 rfl (Nat.le_of_ble_eq_true rfl) dX2_setBlockByte_15 ⟨by decide, by decide⟩ (fun H locs hP hD hS => ?_)
      have hP : va_P E.1 classes [(o, .inr (2, [.ref oK, .ref oM, .ref aO, .ref aP, .ref aQ, .int rdy])), (oK, .inr (0, [.ref aB, .ref aW, .ref aF, .ref aG, .ref aV, .int mde])), (oM, .inr (1, [.ref aS, .int fil, .int opn, .int end_, .int cmp_, .int dif])), (aB, .inl (E.2.1, 16, .inl fB)), (aW, .inl (E.2.1, 176, .inl fW)), (aF, .inl (E.2.1, 16, .inl fF)), (aG, .inl (E.2.1, 16, .inl fG)), (aV, .inl (E.2.1, 16, .inl fV)), (aS, .inl (E.2.1, 16, .inl fE)), (aO, .inl (E.2.1, 16, .inl fO)), (aP, .inl (E.2.1, 16, .inl fP)), (aQ, .inl (E.2.1, 16, .inl fQ))] _ := hP
      have hD : va_D A [(o, .inr (2, [.ref oK, .ref oM, .ref aO, .ref aP, .ref aQ, .int rdy])), (oK, .inr (0, [.ref aB, .ref aW, .ref aF, .ref aG, .ref aV, .int mde])), (oM, .inr (1, [.ref aS, .int fil, .int opn, .int end_, .int cmp_, .int dif])), (aB, .inl (E.2.1, 16, .inl fB)), (aW, .inl (E.2.1, 176, .inl fW)), (aF, .inl (E.2.1, 16, .inl fF)), (aG, .inl (E.2.1, 16, .inl fG)), (aV, .inl (E.2.1, 16, .inl fV)), (aS, .inl (E.2.1, 16, .inl fE)), (aO, .inl (E.2.1, 16, .inl fO)), (aP, .inl (E.2.1, 16, .inl fP)), (aQ, .inl (E.2.1, 16, .inl fQ))] := hD
      refine lv_if_ne (tgt := 23) hx hb dX2_setBlockByte_18 (by decide) (fun c_18 => ?_) (fun c_18 => ?_)
      · exact absurd h0 (fun h => by rcases h with h | h | h <;> contradiction)
      · refine lv_iconst (v := 0) hx hb dX2_setBlockByte_21 (by decide) ?_
        have hP : va_P E.1 classes [(o, .inr (2, [.ref oK, .ref oM, .ref aO, .ref aP, .ref aQ, .int rdy])), (oK, .inr (0, [.ref aB, .ref aW, .ref aF, .ref aG, .ref aV, .int mde])), (oM, .inr (1, [.ref aS, .int fil, .int opn, .int end_, .int cmp_, .int dif])), (aB, .inl (E.2.1, 16, .inl fB)), (aW, .inl (E.2.1, 176, .inl fW)), (aF, .inl (E.2.1, 16, .inl fF)), (aG, .inl (E.2.1, 16, .inl fG)), (aV, .inl (E.2.1, 16, .inl fV)), (aS, .inl (E.2.1, 16, .inl fE)), (aO, .inl (E.2.1, 16, .inl fO)), (aP, .inl (E.2.1, 16, .inl fP)), (aQ, .inl (E.2.1, 16, .inl fQ))] _ := hP
        have hD : va_D A [(o, .inr (2, [.ref oK, .ref oM, .ref aO, .ref aP, .ref aQ, .int rdy])), (oK, .inr (0, [.ref aB, .ref aW, .ref aF, .ref aG, .ref aV, .int mde])), (oM, .inr (1, [.ref aS, .int fil, .int opn, .int end_, .int cmp_, .int dif])), (aB, .inl (E.2.1, 16, .inl fB)), (aW, .inl (E.2.1, 176, .inl fW)), (aF, .inl (E.2.1, 16, .inl fF)), (aG, .inl (E.2.1, 16, .inl fG)), (aV, .inl (E.2.1, 16, .inl fV)), (aS, .inl (E.2.1, 16, .inl fE)), (aO, .inl (E.2.1, 16, .inl fO)), (aP, .inl (E.2.1, 16, .inl fP)), (aQ, .inl (E.2.1, 16, .inl fQ))] := hD
        exact x_iret B hP hD hS rfl rfl dX2_setBlockByte_22
set_option maxHeartbeats 4000000 in
set_option maxRecDepth 100000 in
/-- encryptBlock: not as it wants it -/
theorem c_X2_encryptBlock_no (l : Launch) (E : EE) (o oK oM aB aW aF aG aV aS aO aP aQ : Nat) (fB fW fF fG fV fE fO fP fQ : Nat → Int32) (mde fil opn end_ cmp_ dif rdy : Int32) (h0 : mde = 0) : Ci l yX2_encryptBlock (.code yX2_encryptBlock cX2_encryptBlock 1 (some .boolean)) ({ frames := 4, cells := 0, slots := 0, locals := 104 }) E [.ref o] 0 [(o, .inr (2, [.ref oK, .ref oM, .ref aO, .ref aP, .ref aQ, .int rdy])), (oK, .inr (0, [.ref aB, .ref aW, .ref aF, .ref aG, .ref aV, .int mde])), (oM, .inr (1, [.ref aS, .int fil, .int opn, .int end_, .int cmp_, .int dif])), (aB, .inl (E.2.1, 16, .inl fB)), (aW, .inl (E.2.1, 176, .inl fW)), (aF, .inl (E.2.1, 16, .inl fF)), (aG, .inl (E.2.1, 16, .inl fG)), (aV, .inl (E.2.1, 16, .inl fV)), (aS, .inl (E.2.1, 16, .inl fE)), (aO, .inl (E.2.1, 16, .inl fO)), (aP, .inl (E.2.1, 16, .inl fP)), (aQ, .inl (E.2.1, 16, .inl fQ))] [(o, .inr (2, [.ref oK, .ref oM, .ref aO, .ref aP, .ref aQ, .int rdy])), (oK, .inr (0, [.ref aB, .ref aW, .ref aF, .ref aG, .ref aV, .int mde])), (oM, .inr (1, [.ref aS, .int fil, .int opn, .int end_, .int cmp_, .int dif])), (aB, .inl (E.2.1, 16, .inl fB)), (aW, .inl (E.2.1, 176, .inl fW)), (aF, .inl (E.2.1, 16, .inl fF)), (aG, .inl (E.2.1, 16, .inl fG)), (aV, .inl (E.2.1, 16, .inl fV)), (aS, .inl (E.2.1, 16, .inl fE)), (aO, .inl (E.2.1, 16, .inl fO)), (aP, .inl (E.2.1, 16, .inl fP)), (aQ, .inl (E.2.1, 16, .inl fQ))] := by
  refine Ci.of (by decide) (Nat.le_of_ble_eq_true rfl) ?_
  intro p e s m below meth c A ls B hP hD hS hl
  have hl : lv_has ls 1 [(0, .ref o)] := hl
  have B : Bd p s m _ meth c cX2_encryptBlock 1 (some .boolean) RX2 E A := B
  have hx := B.1
  have hb := B.2.1
  have hP : va_P E.1 classes [(o, .inr (2, [.ref oK, .ref oM, .ref aO, .ref aP, .ref aQ, .int rdy])), (oK, .inr (0, [.ref aB, .ref aW, .ref aF, .ref aG, .ref aV, .int mde])), (oM, .inr (1, [.ref aS, .int fil, .int opn, .int end_, .int cmp_, .int dif])), (aB, .inl (E.2.1, 16, .inl fB)), (aW, .inl (E.2.1, 176, .inl fW)), (aF, .inl (E.2.1, 16, .inl fF)), (aG, .inl (E.2.1, 16, .inl fG)), (aV, .inl (E.2.1, 16, .inl fV)), (aS, .inl (E.2.1, 16, .inl fE)), (aO, .inl (E.2.1, 16, .inl fO)), (aP, .inl (E.2.1, 16, .inl fP)), (aQ, .inl (E.2.1, 16, .inl fQ))] _ := hP
  have hD : va_D A [(o, .inr (2, [.ref oK, .ref oM, .ref aO, .ref aP, .ref aQ, .int rdy])), (oK, .inr (0, [.ref aB, .ref aW, .ref aF, .ref aG, .ref aV, .int mde])), (oM, .inr (1, [.ref aS, .int fil, .int opn, .int end_, .int cmp_, .int dif])), (aB, .inl (E.2.1, 16, .inl fB)), (aW, .inl (E.2.1, 176, .inl fW)), (aF, .inl (E.2.1, 16, .inl fF)), (aG, .inl (E.2.1, 16, .inl fG)), (aV, .inl (E.2.1, 16, .inl fV)), (aS, .inl (E.2.1, 16, .inl fE)), (aO, .inl (E.2.1, 16, .inl fO)), (aP, .inl (E.2.1, 16, .inl fP)), (aQ, .inl (E.2.1, 16, .inl fQ))] := hD
  refine lv_aload_n hx hb dX2_encryptBlock_0 rfl (lv_at hl 0 rfl) ?_
  refine x_get B hP 0 rfl rfl i_X2 0 (by decide) g_76 rfl dX2_encryptBlock_1 ?_
  refine x_getN B hP 1 rfl rfl i_X0 5 (by decide) n_31 rfl dX2_encryptBlock_4 ?_
  refine lv_if_ne (tgt := 12) hx hb dX2_encryptBlock_7 (by decide) (fun c_7 => ?_) (fun c_7 => ?_)
  · exact absurd h0 c_7
  · refine lv_iconst (v := 0) hx hb dX2_encryptBlock_10 (by decide) ?_
    have hP : va_P E.1 classes [(o, .inr (2, [.ref oK, .ref oM, .ref aO, .ref aP, .ref aQ, .int rdy])), (oK, .inr (0, [.ref aB, .ref aW, .ref aF, .ref aG, .ref aV, .int mde])), (oM, .inr (1, [.ref aS, .int fil, .int opn, .int end_, .int cmp_, .int dif])), (aB, .inl (E.2.1, 16, .inl fB)), (aW, .inl (E.2.1, 176, .inl fW)), (aF, .inl (E.2.1, 16, .inl fF)), (aG, .inl (E.2.1, 16, .inl fG)), (aV, .inl (E.2.1, 16, .inl fV)), (aS, .inl (E.2.1, 16, .inl fE)), (aO, .inl (E.2.1, 16, .inl fO)), (aP, .inl (E.2.1, 16, .inl fP)), (aQ, .inl (E.2.1, 16, .inl fQ))] _ := hP
    have hD : va_D A [(o, .inr (2, [.ref oK, .ref oM, .ref aO, .ref aP, .ref aQ, .int rdy])), (oK, .inr (0, [.ref aB, .ref aW, .ref aF, .ref aG, .ref aV, .int mde])), (oM, .inr (1, [.ref aS, .int fil, .int opn, .int end_, .int cmp_, .int dif])), (aB, .inl (E.2.1, 16, .inl fB)), (aW, .inl (E.2.1, 176, .inl fW)), (aF, .inl (E.2.1, 16, .inl fF)), (aG, .inl (E.2.1, 16, .inl fG)), (aV, .inl (E.2.1, 16, .inl fV)), (aS, .inl (E.2.1, 16, .inl fE)), (aO, .inl (E.2.1, 16, .inl fO)), (aP, .inl (E.2.1, 16, .inl fP)), (aQ, .inl (E.2.1, 16, .inl fQ))] := hD
    exact x_iret B hP hD hS rfl rfl dX2_encryptBlock_11
set_option maxHeartbeats 4000000 in
set_option maxRecDepth 100000 in
/-- decryptBlock: not as it wants it -/
theorem c_X2_decryptBlock_no (l : Launch) (E : EE) (o oK oM aB aW aF aG aV aS aO aP aQ : Nat) (fB fW fF fG fV fE fO fP fQ : Nat → Int32) (mde fil opn end_ cmp_ dif rdy : Int32) (h0 : mde = 0) : Ci l yX2_decryptBlock (.code yX2_decryptBlock cX2_decryptBlock 1 (some .boolean)) ({ frames := 5, cells := 0, slots := 0, locals := 110 }) E [.ref o] 0 [(o, .inr (2, [.ref oK, .ref oM, .ref aO, .ref aP, .ref aQ, .int rdy])), (oK, .inr (0, [.ref aB, .ref aW, .ref aF, .ref aG, .ref aV, .int mde])), (oM, .inr (1, [.ref aS, .int fil, .int opn, .int end_, .int cmp_, .int dif])), (aB, .inl (E.2.1, 16, .inl fB)), (aW, .inl (E.2.1, 176, .inl fW)), (aF, .inl (E.2.1, 16, .inl fF)), (aG, .inl (E.2.1, 16, .inl fG)), (aV, .inl (E.2.1, 16, .inl fV)), (aS, .inl (E.2.1, 16, .inl fE)), (aO, .inl (E.2.1, 16, .inl fO)), (aP, .inl (E.2.1, 16, .inl fP)), (aQ, .inl (E.2.1, 16, .inl fQ))] [(o, .inr (2, [.ref oK, .ref oM, .ref aO, .ref aP, .ref aQ, .int rdy])), (oK, .inr (0, [.ref aB, .ref aW, .ref aF, .ref aG, .ref aV, .int mde])), (oM, .inr (1, [.ref aS, .int fil, .int opn, .int end_, .int cmp_, .int dif])), (aB, .inl (E.2.1, 16, .inl fB)), (aW, .inl (E.2.1, 176, .inl fW)), (aF, .inl (E.2.1, 16, .inl fF)), (aG, .inl (E.2.1, 16, .inl fG)), (aV, .inl (E.2.1, 16, .inl fV)), (aS, .inl (E.2.1, 16, .inl fE)), (aO, .inl (E.2.1, 16, .inl fO)), (aP, .inl (E.2.1, 16, .inl fP)), (aQ, .inl (E.2.1, 16, .inl fQ))] := by
  refine Ci.of (by decide) (Nat.le_of_ble_eq_true rfl) ?_
  intro p e s m below meth c A ls B hP hD hS hl
  have hl : lv_has ls 1 [(0, .ref o)] := hl
  have B : Bd p s m _ meth c cX2_decryptBlock 1 (some .boolean) RX2 E A := B
  have hx := B.1
  have hb := B.2.1
  have hP : va_P E.1 classes [(o, .inr (2, [.ref oK, .ref oM, .ref aO, .ref aP, .ref aQ, .int rdy])), (oK, .inr (0, [.ref aB, .ref aW, .ref aF, .ref aG, .ref aV, .int mde])), (oM, .inr (1, [.ref aS, .int fil, .int opn, .int end_, .int cmp_, .int dif])), (aB, .inl (E.2.1, 16, .inl fB)), (aW, .inl (E.2.1, 176, .inl fW)), (aF, .inl (E.2.1, 16, .inl fF)), (aG, .inl (E.2.1, 16, .inl fG)), (aV, .inl (E.2.1, 16, .inl fV)), (aS, .inl (E.2.1, 16, .inl fE)), (aO, .inl (E.2.1, 16, .inl fO)), (aP, .inl (E.2.1, 16, .inl fP)), (aQ, .inl (E.2.1, 16, .inl fQ))] _ := hP
  have hD : va_D A [(o, .inr (2, [.ref oK, .ref oM, .ref aO, .ref aP, .ref aQ, .int rdy])), (oK, .inr (0, [.ref aB, .ref aW, .ref aF, .ref aG, .ref aV, .int mde])), (oM, .inr (1, [.ref aS, .int fil, .int opn, .int end_, .int cmp_, .int dif])), (aB, .inl (E.2.1, 16, .inl fB)), (aW, .inl (E.2.1, 176, .inl fW)), (aF, .inl (E.2.1, 16, .inl fF)), (aG, .inl (E.2.1, 16, .inl fG)), (aV, .inl (E.2.1, 16, .inl fV)), (aS, .inl (E.2.1, 16, .inl fE)), (aO, .inl (E.2.1, 16, .inl fO)), (aP, .inl (E.2.1, 16, .inl fP)), (aQ, .inl (E.2.1, 16, .inl fQ))] := hD
  refine lv_aload_n hx hb dX2_decryptBlock_0 rfl (lv_at hl 0 rfl) ?_
  refine x_get B hP 0 rfl rfl i_X2 0 (by decide) g_76 rfl dX2_decryptBlock_1 ?_
  refine x_getN B hP 1 rfl rfl i_X0 5 (by decide) n_31 rfl dX2_decryptBlock_4 ?_
  refine lv_if_ne (tgt := 12) hx hb dX2_decryptBlock_7 (by decide) (fun c_7 => ?_) (fun c_7 => ?_)
  · exact absurd h0 c_7
  · refine lv_iconst (v := 0) hx hb dX2_decryptBlock_10 (by decide) ?_
    have hP : va_P E.1 classes [(o, .inr (2, [.ref oK, .ref oM, .ref aO, .ref aP, .ref aQ, .int rdy])), (oK, .inr (0, [.ref aB, .ref aW, .ref aF, .ref aG, .ref aV, .int mde])), (oM, .inr (1, [.ref aS, .int fil, .int opn, .int end_, .int cmp_, .int dif])), (aB, .inl (E.2.1, 16, .inl fB)), (aW, .inl (E.2.1, 176, .inl fW)), (aF, .inl (E.2.1, 16, .inl fF)), (aG, .inl (E.2.1, 16, .inl fG)), (aV, .inl (E.2.1, 16, .inl fV)), (aS, .inl (E.2.1, 16, .inl fE)), (aO, .inl (E.2.1, 16, .inl fO)), (aP, .inl (E.2.1, 16, .inl fP)), (aQ, .inl (E.2.1, 16, .inl fQ))] _ := hP
    have hD : va_D A [(o, .inr (2, [.ref oK, .ref oM, .ref aO, .ref aP, .ref aQ, .int rdy])), (oK, .inr (0, [.ref aB, .ref aW, .ref aF, .ref aG, .ref aV, .int mde])), (oM, .inr (1, [.ref aS, .int fil, .int opn, .int end_, .int cmp_, .int dif])), (aB, .inl (E.2.1, 16, .inl fB)), (aW, .inl (E.2.1, 176, .inl fW)), (aF, .inl (E.2.1, 16, .inl fF)), (aG, .inl (E.2.1, 16, .inl fG)), (aV, .inl (E.2.1, 16, .inl fV)), (aS, .inl (E.2.1, 16, .inl fE)), (aO, .inl (E.2.1, 16, .inl fO)), (aP, .inl (E.2.1, 16, .inl fP)), (aQ, .inl (E.2.1, 16, .inl fQ))] := hD
    exact x_iret B hP hD hS rfl rfl dX2_decryptBlock_11
set_option maxHeartbeats 4000000 in
set_option maxRecDepth 100000 in
/-- chain: not as it wants it -/
theorem c_X2_chain_no (l : Launch) (E : EE) (o oK oM aB aW aF aG aV aS aO aP aQ : Nat) (fB fW fF fG fV fE fO fP fQ : Nat → Int32) (mde fil opn end_ cmp_ dif rdy : Int32) (p0 : Int32) (h0 : mde = 0) : Ci l yX2_chain (.code yX2_chain cX2_chain 2 (some .boolean)) ({ frames := 6, cells := 0, slots := 0, locals := 130 }) E [.ref o, .int p0] 0 [(o, .inr (2, [.ref oK, .ref oM, .ref aO, .ref aP, .ref aQ, .int rdy])), (oK, .inr (0, [.ref aB, .ref aW, .ref aF, .ref aG, .ref aV, .int mde])), (oM, .inr (1, [.ref aS, .int fil, .int opn, .int end_, .int cmp_, .int dif])), (aB, .inl (E.2.1, 16, .inl fB)), (aW, .inl (E.2.1, 176, .inl fW)), (aF, .inl (E.2.1, 16, .inl fF)), (aG, .inl (E.2.1, 16, .inl fG)), (aV, .inl (E.2.1, 16, .inl fV)), (aS, .inl (E.2.1, 16, .inl fE)), (aO, .inl (E.2.1, 16, .inl fO)), (aP, .inl (E.2.1, 16, .inl fP)), (aQ, .inl (E.2.1, 16, .inl fQ))] [(o, .inr (2, [.ref oK, .ref oM, .ref aO, .ref aP, .ref aQ, .int rdy])), (oK, .inr (0, [.ref aB, .ref aW, .ref aF, .ref aG, .ref aV, .int mde])), (oM, .inr (1, [.ref aS, .int fil, .int opn, .int end_, .int cmp_, .int dif])), (aB, .inl (E.2.1, 16, .inl fB)), (aW, .inl (E.2.1, 176, .inl fW)), (aF, .inl (E.2.1, 16, .inl fF)), (aG, .inl (E.2.1, 16, .inl fG)), (aV, .inl (E.2.1, 16, .inl fV)), (aS, .inl (E.2.1, 16, .inl fE)), (aO, .inl (E.2.1, 16, .inl fO)), (aP, .inl (E.2.1, 16, .inl fP)), (aQ, .inl (E.2.1, 16, .inl fQ))] := by
  refine Ci.of (by decide) (Nat.le_of_ble_eq_true rfl) ?_
  intro p e s m below meth c A ls B hP hD hS hl
  have hl : lv_has ls 2 [(0, .ref o), (1, .int p0)] := hl
  have B : Bd p s m _ meth c cX2_chain 2 (some .boolean) RX2 E A := B
  have hx := B.1
  have hb := B.2.1
  have hP : va_P E.1 classes [(o, .inr (2, [.ref oK, .ref oM, .ref aO, .ref aP, .ref aQ, .int rdy])), (oK, .inr (0, [.ref aB, .ref aW, .ref aF, .ref aG, .ref aV, .int mde])), (oM, .inr (1, [.ref aS, .int fil, .int opn, .int end_, .int cmp_, .int dif])), (aB, .inl (E.2.1, 16, .inl fB)), (aW, .inl (E.2.1, 176, .inl fW)), (aF, .inl (E.2.1, 16, .inl fF)), (aG, .inl (E.2.1, 16, .inl fG)), (aV, .inl (E.2.1, 16, .inl fV)), (aS, .inl (E.2.1, 16, .inl fE)), (aO, .inl (E.2.1, 16, .inl fO)), (aP, .inl (E.2.1, 16, .inl fP)), (aQ, .inl (E.2.1, 16, .inl fQ))] _ := hP
  have hD : va_D A [(o, .inr (2, [.ref oK, .ref oM, .ref aO, .ref aP, .ref aQ, .int rdy])), (oK, .inr (0, [.ref aB, .ref aW, .ref aF, .ref aG, .ref aV, .int mde])), (oM, .inr (1, [.ref aS, .int fil, .int opn, .int end_, .int cmp_, .int dif])), (aB, .inl (E.2.1, 16, .inl fB)), (aW, .inl (E.2.1, 176, .inl fW)), (aF, .inl (E.2.1, 16, .inl fF)), (aG, .inl (E.2.1, 16, .inl fG)), (aV, .inl (E.2.1, 16, .inl fV)), (aS, .inl (E.2.1, 16, .inl fE)), (aO, .inl (E.2.1, 16, .inl fO)), (aP, .inl (E.2.1, 16, .inl fP)), (aQ, .inl (E.2.1, 16, .inl fQ))] := hD
  refine lv_aload_n hx hb dX2_chain_0 rfl (lv_at hl 0 rfl) ?_
  refine x_get B hP 0 rfl rfl i_X2 0 (by decide) g_76 rfl dX2_chain_1 ?_
  refine x_getN B hP 1 rfl rfl i_X0 5 (by decide) n_31 rfl dX2_chain_4 ?_
  refine lv_if_ne (tgt := 12) hx hb dX2_chain_7 (by decide) (fun c_7 => ?_) (fun c_7 => ?_)
  · exact absurd h0 c_7
  · refine lv_iconst (v := 0) hx hb dX2_chain_10 (by decide) ?_
    have hP : va_P E.1 classes [(o, .inr (2, [.ref oK, .ref oM, .ref aO, .ref aP, .ref aQ, .int rdy])), (oK, .inr (0, [.ref aB, .ref aW, .ref aF, .ref aG, .ref aV, .int mde])), (oM, .inr (1, [.ref aS, .int fil, .int opn, .int end_, .int cmp_, .int dif])), (aB, .inl (E.2.1, 16, .inl fB)), (aW, .inl (E.2.1, 176, .inl fW)), (aF, .inl (E.2.1, 16, .inl fF)), (aG, .inl (E.2.1, 16, .inl fG)), (aV, .inl (E.2.1, 16, .inl fV)), (aS, .inl (E.2.1, 16, .inl fE)), (aO, .inl (E.2.1, 16, .inl fO)), (aP, .inl (E.2.1, 16, .inl fP)), (aQ, .inl (E.2.1, 16, .inl fQ))] _ := hP
    have hD : va_D A [(o, .inr (2, [.ref oK, .ref oM, .ref aO, .ref aP, .ref aQ, .int rdy])), (oK, .inr (0, [.ref aB, .ref aW, .ref aF, .ref aG, .ref aV, .int mde])), (oM, .inr (1, [.ref aS, .int fil, .int opn, .int end_, .int cmp_, .int dif])), (aB, .inl (E.2.1, 16, .inl fB)), (aW, .inl (E.2.1, 176, .inl fW)), (aF, .inl (E.2.1, 16, .inl fF)), (aG, .inl (E.2.1, 16, .inl fG)), (aV, .inl (E.2.1, 16, .inl fV)), (aS, .inl (E.2.1, 16, .inl fE)), (aO, .inl (E.2.1, 16, .inl fO)), (aP, .inl (E.2.1, 16, .inl fP)), (aQ, .inl (E.2.1, 16, .inl fQ))] := hD
    exact x_iret B hP hD hS rfl rfl dX2_chain_11
set_option maxHeartbeats 4000000 in
set_option maxRecDepth 100000 in
/-- unchain: not as it wants it -/
theorem c_X2_unchain_no (l : Launch) (E : EE) (o oK oM aB aW aF aG aV aS aO aP aQ : Nat) (fB fW fF fG fV fE fO fP fQ : Nat → Int32) (mde fil opn end_ cmp_ dif rdy : Int32) (h0 : rdy = 0) : Ci l yX2_unchain (.code yX2_unchain cX2_unchain 1 (some .boolean)) ({ frames := 1, cells := 0, slots := 0, locals := 23 }) E [.ref o] 0 [(o, .inr (2, [.ref oK, .ref oM, .ref aO, .ref aP, .ref aQ, .int rdy])), (oK, .inr (0, [.ref aB, .ref aW, .ref aF, .ref aG, .ref aV, .int mde])), (oM, .inr (1, [.ref aS, .int fil, .int opn, .int end_, .int cmp_, .int dif])), (aB, .inl (E.2.1, 16, .inl fB)), (aW, .inl (E.2.1, 176, .inl fW)), (aF, .inl (E.2.1, 16, .inl fF)), (aG, .inl (E.2.1, 16, .inl fG)), (aV, .inl (E.2.1, 16, .inl fV)), (aS, .inl (E.2.1, 16, .inl fE)), (aO, .inl (E.2.1, 16, .inl fO)), (aP, .inl (E.2.1, 16, .inl fP)), (aQ, .inl (E.2.1, 16, .inl fQ))] [(o, .inr (2, [.ref oK, .ref oM, .ref aO, .ref aP, .ref aQ, .int rdy])), (oK, .inr (0, [.ref aB, .ref aW, .ref aF, .ref aG, .ref aV, .int mde])), (oM, .inr (1, [.ref aS, .int fil, .int opn, .int end_, .int cmp_, .int dif])), (aB, .inl (E.2.1, 16, .inl fB)), (aW, .inl (E.2.1, 176, .inl fW)), (aF, .inl (E.2.1, 16, .inl fF)), (aG, .inl (E.2.1, 16, .inl fG)), (aV, .inl (E.2.1, 16, .inl fV)), (aS, .inl (E.2.1, 16, .inl fE)), (aO, .inl (E.2.1, 16, .inl fO)), (aP, .inl (E.2.1, 16, .inl fP)), (aQ, .inl (E.2.1, 16, .inl fQ))] := by
  refine Ci.of (by decide) (Nat.le_of_ble_eq_true rfl) ?_
  intro p e s m below meth c A ls B hP hD hS hl
  have hl : lv_has ls 1 [(0, .ref o)] := hl
  have B : Bd p s m _ meth c cX2_unchain 1 (some .boolean) RX2 E A := B
  have hx := B.1
  have hb := B.2.1
  have hP : va_P E.1 classes [(o, .inr (2, [.ref oK, .ref oM, .ref aO, .ref aP, .ref aQ, .int rdy])), (oK, .inr (0, [.ref aB, .ref aW, .ref aF, .ref aG, .ref aV, .int mde])), (oM, .inr (1, [.ref aS, .int fil, .int opn, .int end_, .int cmp_, .int dif])), (aB, .inl (E.2.1, 16, .inl fB)), (aW, .inl (E.2.1, 176, .inl fW)), (aF, .inl (E.2.1, 16, .inl fF)), (aG, .inl (E.2.1, 16, .inl fG)), (aV, .inl (E.2.1, 16, .inl fV)), (aS, .inl (E.2.1, 16, .inl fE)), (aO, .inl (E.2.1, 16, .inl fO)), (aP, .inl (E.2.1, 16, .inl fP)), (aQ, .inl (E.2.1, 16, .inl fQ))] _ := hP
  have hD : va_D A [(o, .inr (2, [.ref oK, .ref oM, .ref aO, .ref aP, .ref aQ, .int rdy])), (oK, .inr (0, [.ref aB, .ref aW, .ref aF, .ref aG, .ref aV, .int mde])), (oM, .inr (1, [.ref aS, .int fil, .int opn, .int end_, .int cmp_, .int dif])), (aB, .inl (E.2.1, 16, .inl fB)), (aW, .inl (E.2.1, 176, .inl fW)), (aF, .inl (E.2.1, 16, .inl fF)), (aG, .inl (E.2.1, 16, .inl fG)), (aV, .inl (E.2.1, 16, .inl fV)), (aS, .inl (E.2.1, 16, .inl fE)), (aO, .inl (E.2.1, 16, .inl fO)), (aP, .inl (E.2.1, 16, .inl fP)), (aQ, .inl (E.2.1, 16, .inl fQ))] := hD
  refine lv_aload_n hx hb dX2_unchain_0 rfl (lv_at hl 0 rfl) ?_
  refine x_get B hP 0 rfl rfl i_X2 5 (by decide) g_81 rfl dX2_unchain_1 ?_
  refine lv_if_ne (tgt := 9) hx hb dX2_unchain_4 (by decide) (fun c_4 => ?_) (fun c_4 => ?_)
  · exact absurd h0 c_4
  · refine lv_iconst (v := 0) hx hb dX2_unchain_7 (by decide) ?_
    have hP : va_P E.1 classes [(o, .inr (2, [.ref oK, .ref oM, .ref aO, .ref aP, .ref aQ, .int rdy])), (oK, .inr (0, [.ref aB, .ref aW, .ref aF, .ref aG, .ref aV, .int mde])), (oM, .inr (1, [.ref aS, .int fil, .int opn, .int end_, .int cmp_, .int dif])), (aB, .inl (E.2.1, 16, .inl fB)), (aW, .inl (E.2.1, 176, .inl fW)), (aF, .inl (E.2.1, 16, .inl fF)), (aG, .inl (E.2.1, 16, .inl fG)), (aV, .inl (E.2.1, 16, .inl fV)), (aS, .inl (E.2.1, 16, .inl fE)), (aO, .inl (E.2.1, 16, .inl fO)), (aP, .inl (E.2.1, 16, .inl fP)), (aQ, .inl (E.2.1, 16, .inl fQ))] _ := hP
    have hD : va_D A [(o, .inr (2, [.ref oK, .ref oM, .ref aO, .ref aP, .ref aQ, .int rdy])), (oK, .inr (0, [.ref aB, .ref aW, .ref aF, .ref aG, .ref aV, .int mde])), (oM, .inr (1, [.ref aS, .int fil, .int opn, .int end_, .int cmp_, .int dif])), (aB, .inl (E.2.1, 16, .inl fB)), (aW, .inl (E.2.1, 176, .inl fW)), (aF, .inl (E.2.1, 16, .inl fF)), (aG, .inl (E.2.1, 16, .inl fG)), (aV, .inl (E.2.1, 16, .inl fV)), (aS, .inl (E.2.1, 16, .inl fE)), (aO, .inl (E.2.1, 16, .inl fO)), (aP, .inl (E.2.1, 16, .inl fP)), (aQ, .inl (E.2.1, 16, .inl fQ))] := hD
    exact x_iret B hP hD hS rfl rfl dX2_unchain_8
set_option maxHeartbeats 4000000 in
set_option maxRecDepth 100000 in
/-- blockByte: not as it wants it -/
theorem c_X2_blockByte_no (l : Launch) (E : EE) (o oK oM aB aW aF aG aV aS aO aP aQ : Nat) (fB fW fF fG fV fE fO fP fQ : Nat → Int32) (mde fil opn end_ cmp_ dif rdy : Int32) (p0 : Int32) (h0 : rdy = 0 ∨ plM p0 = 0) : Ci l yX2_blockByte (.code yX2_blockByte cX2_blockByte 2 (some .int)) ({ frames := 1, cells := 0, slots := 0, locals := 20 }) E [.ref o, .int p0] (-1) [(o, .inr (2, [.ref oK, .ref oM, .ref aO, .ref aP, .ref aQ, .int rdy])), (oK, .inr (0, [.ref aB, .ref aW, .ref aF, .ref aG, .ref aV, .int mde])), (oM, .inr (1, [.ref aS, .int fil, .int opn, .int end_, .int cmp_, .int dif])), (aB, .inl (E.2.1, 16, .inl fB)), (aW, .inl (E.2.1, 176, .inl fW)), (aF, .inl (E.2.1, 16, .inl fF)), (aG, .inl (E.2.1, 16, .inl fG)), (aV, .inl (E.2.1, 16, .inl fV)), (aS, .inl (E.2.1, 16, .inl fE)), (aO, .inl (E.2.1, 16, .inl fO)), (aP, .inl (E.2.1, 16, .inl fP)), (aQ, .inl (E.2.1, 16, .inl fQ))] [(o, .inr (2, [.ref oK, .ref oM, .ref aO, .ref aP, .ref aQ, .int rdy])), (oK, .inr (0, [.ref aB, .ref aW, .ref aF, .ref aG, .ref aV, .int mde])), (oM, .inr (1, [.ref aS, .int fil, .int opn, .int end_, .int cmp_, .int dif])), (aB, .inl (E.2.1, 16, .inl fB)), (aW, .inl (E.2.1, 176, .inl fW)), (aF, .inl (E.2.1, 16, .inl fF)), (aG, .inl (E.2.1, 16, .inl fG)), (aV, .inl (E.2.1, 16, .inl fV)), (aS, .inl (E.2.1, 16, .inl fE)), (aO, .inl (E.2.1, 16, .inl fO)), (aP, .inl (E.2.1, 16, .inl fP)), (aQ, .inl (E.2.1, 16, .inl fQ))] := by
  refine Ci.of (by decide) (Nat.le_of_ble_eq_true rfl) ?_
  intro p e s m below meth c A ls B hP hD hS hl
  have hl : lv_has ls 2 [(0, .ref o), (1, .int p0)] := hl
  have B : Bd p s m _ meth c cX2_blockByte 2 (some .int) RX2 E A := B
  have hx := B.1
  have hb := B.2.1
  have hP : va_P E.1 classes [(o, .inr (2, [.ref oK, .ref oM, .ref aO, .ref aP, .ref aQ, .int rdy])), (oK, .inr (0, [.ref aB, .ref aW, .ref aF, .ref aG, .ref aV, .int mde])), (oM, .inr (1, [.ref aS, .int fil, .int opn, .int end_, .int cmp_, .int dif])), (aB, .inl (E.2.1, 16, .inl fB)), (aW, .inl (E.2.1, 176, .inl fW)), (aF, .inl (E.2.1, 16, .inl fF)), (aG, .inl (E.2.1, 16, .inl fG)), (aV, .inl (E.2.1, 16, .inl fV)), (aS, .inl (E.2.1, 16, .inl fE)), (aO, .inl (E.2.1, 16, .inl fO)), (aP, .inl (E.2.1, 16, .inl fP)), (aQ, .inl (E.2.1, 16, .inl fQ))] _ := hP
  have hD : va_D A [(o, .inr (2, [.ref oK, .ref oM, .ref aO, .ref aP, .ref aQ, .int rdy])), (oK, .inr (0, [.ref aB, .ref aW, .ref aF, .ref aG, .ref aV, .int mde])), (oM, .inr (1, [.ref aS, .int fil, .int opn, .int end_, .int cmp_, .int dif])), (aB, .inl (E.2.1, 16, .inl fB)), (aW, .inl (E.2.1, 176, .inl fW)), (aF, .inl (E.2.1, 16, .inl fF)), (aG, .inl (E.2.1, 16, .inl fG)), (aV, .inl (E.2.1, 16, .inl fV)), (aS, .inl (E.2.1, 16, .inl fE)), (aO, .inl (E.2.1, 16, .inl fO)), (aP, .inl (E.2.1, 16, .inl fP)), (aQ, .inl (E.2.1, 16, .inl fQ))] := hD
  refine lv_aload_n hx hb dX2_blockByte_0 rfl (lv_at hl 0 rfl) ?_
  refine x_get B hP 0 rfl rfl i_X2 5 (by decide) g_81 rfl dX2_blockByte_1 ?_
  refine lv_if_eq (tgt := 23) hx hb dX2_blockByte_4 (by decide) (fun c_4 => ?_) (fun c_4 => ?_)
  · refine lv_iconst (v := (-1)) hx hb dX2_blockByte_23 (by decide) ?_
    have hP : va_P E.1 classes [(o, .inr (2, [.ref oK, .ref oM, .ref aO, .ref aP, .ref aQ, .int rdy])), (oK, .inr (0, [.ref aB, .ref aW, .ref aF, .ref aG, .ref aV, .int mde])), (oM, .inr (1, [.ref aS, .int fil, .int opn, .int end_, .int cmp_, .int dif])), (aB, .inl (E.2.1, 16, .inl fB)), (aW, .inl (E.2.1, 176, .inl fW)), (aF, .inl (E.2.1, 16, .inl fF)), (aG, .inl (E.2.1, 16, .inl fG)), (aV, .inl (E.2.1, 16, .inl fV)), (aS, .inl (E.2.1, 16, .inl fE)), (aO, .inl (E.2.1, 16, .inl fO)), (aP, .inl (E.2.1, 16, .inl fP)), (aQ, .inl (E.2.1, 16, .inl fQ))] _ := hP
    have hD : va_D A [(o, .inr (2, [.ref oK, .ref oM, .ref aO, .ref aP, .ref aQ, .int rdy])), (oK, .inr (0, [.ref aB, .ref aW, .ref aF, .ref aG, .ref aV, .int mde])), (oM, .inr (1, [.ref aS, .int fil, .int opn, .int end_, .int cmp_, .int dif])), (aB, .inl (E.2.1, 16, .inl fB)), (aW, .inl (E.2.1, 176, .inl fW)), (aF, .inl (E.2.1, 16, .inl fF)), (aG, .inl (E.2.1, 16, .inl fG)), (aV, .inl (E.2.1, 16, .inl fV)), (aS, .inl (E.2.1, 16, .inl fE)), (aO, .inl (E.2.1, 16, .inl fO)), (aP, .inl (E.2.1, 16, .inl fP)), (aQ, .inl (E.2.1, 16, .inl fQ))] := hD
    exact x_iret B hP hD hS rfl rfl dX2_blockByte_24
  · refine lv_iload_n hx hb dX2_blockByte_7 rfl (lv_at hl 1 rfl) ?_
    refine x_Si (wr := [(o, .inr (2, [.ref oK, .ref oM, .ref aO, .ref aP, .ref aQ, .int rdy])), (oK, .inr (0, [.ref aB, .ref aW, .ref aF, .ref aG, .ref aV, .int mde])), (oM, .inr (1, [.ref aS, .int fil, .int opn, .int end_, .int cmp_, .int dif])), (aB, .inl (E.2.1, 16, .inl fB)), (aW, .inl (E.2.1, 176, .inl fW)), (aF, .inl (E.2.1, 16, .inl fF)), (aG, .inl (E.2.1, 16, .inl fG)), (aV, .inl (E.2.1, 16, .inl fV)), (aS, .inl (E.2.1, 16, .inl fE)), (aO, .inl (E.2.1, 16, .inl fO)), (aP, .inl (E.2.1, 16, .inl fP)), (aQ, .inl (E.2.1, 16, .inl fQ))]) (isC := []) (isR := [0, 1, 2, 3, 4, 5, 6, 7, 8, 9, 10, 11]) (As := [.int p0]) B (c_X2_isPlace l E p0) k_X2_isPlace g_114 s_X2_isPlace ⟨by decide, by decide, rfl, rfl⟩ hP hD hS ⟨rfl, rfl, rfl, rfl, by decide⟩ rfl hl.1 rfl (Nat.le_of_ble_eq_true rfl) dX2_blockByte_8 ⟨by decide, by decide⟩ (fun H locs hP hD hS => ?_)
    have hP : va_P E.1 classes [(o, .inr (2, [.ref oK, .ref oM, .ref aO, .ref aP, .ref aQ, .int rdy])), (oK, .inr (0, [.ref aB, .ref aW, .ref aF, .ref aG, .ref aV, .int mde])), (oM, .inr (1, [.ref aS, .int fil, .int opn, .int end_, .int cmp_, .int dif])), (aB, .inl (E.2.1, 16, .inl fB)), (aW, .inl (E.2.1, 176, .inl fW)), (aF, .inl (E.2.1, 16, .inl fF)), (aG, .inl (E.2.1, 16, .inl fG)), (aV, .inl (E.2.1, 16, .inl fV)), (aS, .inl (E.2.1, 16, .inl fE)), (aO, .inl (E.2.1, 16, .inl fO)), (aP, .inl (E.2.1, 16, .inl fP)), (aQ, .inl (E.2.1, 16, .inl fQ))] _ := hP
    have hD : va_D A [(o, .inr (2, [.ref oK, .ref oM, .ref aO, .ref aP, .ref aQ, .int rdy])), (oK, .inr (0, [.ref aB, .ref aW, .ref aF, .ref aG, .ref aV, .int mde])), (oM, .inr (1, [.ref aS, .int fil, .int opn, .int end_, .int cmp_, .int dif])), (aB, .inl (E.2.1, 16, .inl fB)), (aW, .inl (E.2.1, 176, .inl fW)), (aF, .inl (E.2.1, 16, .inl fF)), (aG, .inl (E.2.1, 16, .inl fG)), (aV, .inl (E.2.1, 16, .inl fV)), (aS, .inl (E.2.1, 16, .inl fE)), (aO, .inl (E.2.1, 16, .inl fO)), (aP, .inl (E.2.1, 16, .inl fP)), (aQ, .inl (E.2.1, 16, .inl fQ))] := hD
    refine lv_if_eq (tgt := 23) hx hb dX2_blockByte_11 (by decide) (fun c_11 => ?_) (fun c_11 => ?_)
    · refine lv_iconst (v := (-1)) hx hb dX2_blockByte_23 (by decide) ?_
      have hP : va_P E.1 classes [(o, .inr (2, [.ref oK, .ref oM, .ref aO, .ref aP, .ref aQ, .int rdy])), (oK, .inr (0, [.ref aB, .ref aW, .ref aF, .ref aG, .ref aV, .int mde])), (oM, .inr (1, [.ref aS, .int fil, .int opn, .int end_, .int cmp_, .int dif])), (aB, .inl (E.2.1, 16, .inl fB)), (aW, .inl (E.2.1, 176, .inl fW)), (aF, .inl (E.2.1, 16, .inl fF)), (aG, .inl (E.2.1, 16, .inl fG)), (aV, .inl (E.2.1, 16, .inl fV)), (aS, .inl (E.2.1, 16, .inl fE)), (aO, .inl (E.2.1, 16, .inl fO)), (aP, .inl (E.2.1, 16, .inl fP)), (aQ, .inl (E.2.1, 16, .inl fQ))] _ := hP
      have hD : va_D A [(o, .inr (2, [.ref oK, .ref oM, .ref aO, .ref aP, .ref aQ, .int rdy])), (oK, .inr (0, [.ref aB, .ref aW, .ref aF, .ref aG, .ref aV, .int mde])), (oM, .inr (1, [.ref aS, .int fil, .int opn, .int end_, .int cmp_, .int dif])), (aB, .inl (E.2.1, 16, .inl fB)), (aW, .inl (E.2.1, 176, .inl fW)), (aF, .inl (E.2.1, 16, .inl fF)), (aG, .inl (E.2.1, 16, .inl fG)), (aV, .inl (E.2.1, 16, .inl fV)), (aS, .inl (E.2.1, 16, .inl fE)), (aO, .inl (E.2.1, 16, .inl fO)), (aP, .inl (E.2.1, 16, .inl fP)), (aQ, .inl (E.2.1, 16, .inl fQ))] := hD
      exact x_iret B hP hD hS rfl rfl dX2_blockByte_24
    · exact absurd h0 (fun h => by rcases h with h | h <;> contradiction)
set_option maxHeartbeats 4000000 in
set_option maxRecDepth 100000 in
/-- half: not as it wants it -/
theorem c_X2_half_no (l : Launch) (E : EE) (o oK oM aB aW aF aG aV aS aO aP aQ : Nat) (fB fW fF fG fV fE fO fP fQ : Nat → Int32) (mde fil opn end_ cmp_ dif rdy : Int32) (p0 : Int32) (p1 : Int32) (h0 : mde = 0 ∨ plM p1 = 0) : Ci l yX2_half (.code yX2_half cX2_half 3 (some .int)) ({ frames := 1, cells := 0, slots := 0, locals := 20 }) E [.ref o, .int p0, .int p1] (-1) [(o, .inr (2, [.ref oK, .ref oM, .ref aO, .ref aP, .ref aQ, .int rdy])), (oK, .inr (0, [.ref aB, .ref aW, .ref aF, .ref aG, .ref aV, .int mde])), (oM, .inr (1, [.ref aS, .int fil, .int opn, .int end_, .int cmp_, .int dif])), (aB, .inl (E.2.1, 16, .inl fB)), (aW, .inl (E.2.1, 176, .inl fW)), (aF, .inl (E.2.1, 16, .inl fF)), (aG, .inl (E.2.1, 16, .inl fG)), (aV, .inl (E.2.1, 16, .inl fV)), (aS, .inl (E.2.1, 16, .inl fE)), (aO, .inl (E.2.1, 16, .inl fO)), (aP, .inl (E.2.1, 16, .inl fP)), (aQ, .inl (E.2.1, 16, .inl fQ))] [(o, .inr (2, [.ref oK, .ref oM, .ref aO, .ref aP, .ref aQ, .int rdy])), (oK, .inr (0, [.ref aB, .ref aW, .ref aF, .ref aG, .ref aV, .int mde])), (oM, .inr (1, [.ref aS, .int fil, .int opn, .int end_, .int cmp_, .int dif])), (aB, .inl (E.2.1, 16, .inl fB)), (aW, .inl (E.2.1, 176, .inl fW)), (aF, .inl (E.2.1, 16, .inl fF)), (aG, .inl (E.2.1, 16, .inl fG)), (aV, .inl (E.2.1, 16, .inl fV)), (aS, .inl (E.2.1, 16, .inl fE)), (aO, .inl (E.2.1, 16, .inl fO)), (aP, .inl (E.2.1, 16, .inl fP)), (aQ, .inl (E.2.1, 16, .inl fQ))] := by
  refine Ci.of (by decide) (Nat.le_of_ble_eq_true rfl) ?_
  intro p e s m below meth c A ls B hP hD hS hl
  have hl : lv_has ls 3 [(0, .ref o), (1, .int p0), (2, .int p1)] := hl
  have B : Bd p s m _ meth c cX2_half 3 (some .int) RX2 E A := B
  have hx := B.1
  have hb := B.2.1
  have hP : va_P E.1 classes [(o, .inr (2, [.ref oK, .ref oM, .ref aO, .ref aP, .ref aQ, .int rdy])), (oK, .inr (0, [.ref aB, .ref aW, .ref aF, .ref aG, .ref aV, .int mde])), (oM, .inr (1, [.ref aS, .int fil, .int opn, .int end_, .int cmp_, .int dif])), (aB, .inl (E.2.1, 16, .inl fB)), (aW, .inl (E.2.1, 176, .inl fW)), (aF, .inl (E.2.1, 16, .inl fF)), (aG, .inl (E.2.1, 16, .inl fG)), (aV, .inl (E.2.1, 16, .inl fV)), (aS, .inl (E.2.1, 16, .inl fE)), (aO, .inl (E.2.1, 16, .inl fO)), (aP, .inl (E.2.1, 16, .inl fP)), (aQ, .inl (E.2.1, 16, .inl fQ))] _ := hP
  have hD : va_D A [(o, .inr (2, [.ref oK, .ref oM, .ref aO, .ref aP, .ref aQ, .int rdy])), (oK, .inr (0, [.ref aB, .ref aW, .ref aF, .ref aG, .ref aV, .int mde])), (oM, .inr (1, [.ref aS, .int fil, .int opn, .int end_, .int cmp_, .int dif])), (aB, .inl (E.2.1, 16, .inl fB)), (aW, .inl (E.2.1, 176, .inl fW)), (aF, .inl (E.2.1, 16, .inl fF)), (aG, .inl (E.2.1, 16, .inl fG)), (aV, .inl (E.2.1, 16, .inl fV)), (aS, .inl (E.2.1, 16, .inl fE)), (aO, .inl (E.2.1, 16, .inl fO)), (aP, .inl (E.2.1, 16, .inl fP)), (aQ, .inl (E.2.1, 16, .inl fQ))] := hD
  refine lv_aload_n hx hb dX2_half_0 rfl (lv_at hl 0 rfl) ?_
  refine x_get B hP 0 rfl rfl i_X2 0 (by decide) g_76 rfl dX2_half_1 ?_
  refine x_getN B hP 1 rfl rfl i_X0 5 (by decide) n_31 rfl dX2_half_4 ?_
  refine lv_if_eq (tgt := 17) hx hb dX2_half_7 (by decide) (fun c_7 => ?_) (fun c_7 => ?_)
  · refine lv_iconst (v := (-1)) hx hb dX2_half_17 (by decide) ?_
    have hP : va_P E.1 classes [(o, .inr (2, [.ref oK, .ref oM, .ref aO, .ref aP, .ref aQ, .int rdy])), (oK, .inr (0, [.ref aB, .ref aW, .ref aF, .ref aG, .ref aV, .int mde])), (oM, .inr (1, [.ref aS, .int fil, .int opn, .int end_, .int cmp_, .int dif])), (aB, .inl (E.2.1, 16, .inl fB)), (aW, .inl (E.2.1, 176, .inl fW)), (aF, .inl (E.2.1, 16, .inl fF)), (aG, .inl (E.2.1, 16, .inl fG)), (aV, .inl (E.2.1, 16, .inl fV)), (aS, .inl (E.2.1, 16, .inl fE)), (aO, .inl (E.2.1, 16, .inl fO)), (aP, .inl (E.2.1, 16, .inl fP)), (aQ, .inl (E.2.1, 16, .inl fQ))] _ := hP
    have hD : va_D A [(o, .inr (2, [.ref oK, .ref oM, .ref aO, .ref aP, .ref aQ, .int rdy])), (oK, .inr (0, [.ref aB, .ref aW, .ref aF, .ref aG, .ref aV, .int mde])), (oM, .inr (1, [.ref aS, .int fil, .int opn, .int end_, .int cmp_, .int dif])), (aB, .inl (E.2.1, 16, .inl fB)), (aW, .inl (E.2.1, 176, .inl fW)), (aF, .inl (E.2.1, 16, .inl fF)), (aG, .inl (E.2.1, 16, .inl fG)), (aV, .inl (E.2.1, 16, .inl fV)), (aS, .inl (E.2.1, 16, .inl fE)), (aO, .inl (E.2.1, 16, .inl fO)), (aP, .inl (E.2.1, 16, .inl fP)), (aQ, .inl (E.2.1, 16, .inl fQ))] := hD
    exact x_iret B hP hD hS rfl rfl dX2_half_18
  · refine lv_iload_n hx hb dX2_half_10 rfl (lv_at hl 2 rfl) ?_
    refine x_Si (wr := [(o, .inr (2, [.ref oK, .ref oM, .ref aO, .ref aP, .ref aQ, .int rdy])), (oK, .inr (0, [.ref aB, .ref aW, .ref aF, .ref aG, .ref aV, .int mde])), (oM, .inr (1, [.ref aS, .int fil, .int opn, .int end_, .int cmp_, .int dif])), (aB, .inl (E.2.1, 16, .inl fB)), (aW, .inl (E.2.1, 176, .inl fW)), (aF, .inl (E.2.1, 16, .inl fF)), (aG, .inl (E.2.1, 16, .inl fG)), (aV, .inl (E.2.1, 16, .inl fV)), (aS, .inl (E.2.1, 16, .inl fE)), (aO, .inl (E.2.1, 16, .inl fO)), (aP, .inl (E.2.1, 16, .inl fP)), (aQ, .inl (E.2.1, 16, .inl fQ))]) (isC := []) (isR := [0, 1, 2, 3, 4, 5, 6, 7, 8, 9, 10, 11]) (As := [.int p1]) B (c_X2_isPlace l E p1) k_X2_isPlace g_114 s_X2_isPlace ⟨by decide, by decide, rfl, rfl⟩ hP hD hS ⟨rfl, rfl, rfl, rfl, by decide⟩ rfl hl.1 rfl (Nat.le_of_ble_eq_true rfl) dX2_half_11 ⟨by decide, by decide⟩ (fun H locs hP hD hS => ?_)
    have hP : va_P E.1 classes [(o, .inr (2, [.ref oK, .ref oM, .ref aO, .ref aP, .ref aQ, .int rdy])), (oK, .inr (0, [.ref aB, .ref aW, .ref aF, .ref aG, .ref aV, .int mde])), (oM, .inr (1, [.ref aS, .int fil, .int opn, .int end_, .int cmp_, .int dif])), (aB, .inl (E.2.1, 16, .inl fB)), (aW, .inl (E.2.1, 176, .inl fW)), (aF, .inl (E.2.1, 16, .inl fF)), (aG, .inl (E.2.1, 16, .inl fG)), (aV, .inl (E.2.1, 16, .inl fV)), (aS, .inl (E.2.1, 16, .inl fE)), (aO, .inl (E.2.1, 16, .inl fO)), (aP, .inl (E.2.1, 16, .inl fP)), (aQ, .inl (E.2.1, 16, .inl fQ))] _ := hP
    have hD : va_D A [(o, .inr (2, [.ref oK, .ref oM, .ref aO, .ref aP, .ref aQ, .int rdy])), (oK, .inr (0, [.ref aB, .ref aW, .ref aF, .ref aG, .ref aV, .int mde])), (oM, .inr (1, [.ref aS, .int fil, .int opn, .int end_, .int cmp_, .int dif])), (aB, .inl (E.2.1, 16, .inl fB)), (aW, .inl (E.2.1, 176, .inl fW)), (aF, .inl (E.2.1, 16, .inl fF)), (aG, .inl (E.2.1, 16, .inl fG)), (aV, .inl (E.2.1, 16, .inl fV)), (aS, .inl (E.2.1, 16, .inl fE)), (aO, .inl (E.2.1, 16, .inl fO)), (aP, .inl (E.2.1, 16, .inl fP)), (aQ, .inl (E.2.1, 16, .inl fQ))] := hD
    refine lv_if_ne (tgt := 19) hx hb dX2_half_14 (by decide) (fun c_14 => ?_) (fun c_14 => ?_)
    · exact absurd h0 (fun h => by rcases h with h | h <;> contradiction)
    · refine lv_iconst (v := (-1)) hx hb dX2_half_17 (by decide) ?_
      have hP : va_P E.1 classes [(o, .inr (2, [.ref oK, .ref oM, .ref aO, .ref aP, .ref aQ, .int rdy])), (oK, .inr (0, [.ref aB, .ref aW, .ref aF, .ref aG, .ref aV, .int mde])), (oM, .inr (1, [.ref aS, .int fil, .int opn, .int end_, .int cmp_, .int dif])), (aB, .inl (E.2.1, 16, .inl fB)), (aW, .inl (E.2.1, 176, .inl fW)), (aF, .inl (E.2.1, 16, .inl fF)), (aG, .inl (E.2.1, 16, .inl fG)), (aV, .inl (E.2.1, 16, .inl fV)), (aS, .inl (E.2.1, 16, .inl fE)), (aO, .inl (E.2.1, 16, .inl fO)), (aP, .inl (E.2.1, 16, .inl fP)), (aQ, .inl (E.2.1, 16, .inl fQ))] _ := hP
      have hD : va_D A [(o, .inr (2, [.ref oK, .ref oM, .ref aO, .ref aP, .ref aQ, .int rdy])), (oK, .inr (0, [.ref aB, .ref aW, .ref aF, .ref aG, .ref aV, .int mde])), (oM, .inr (1, [.ref aS, .int fil, .int opn, .int end_, .int cmp_, .int dif])), (aB, .inl (E.2.1, 16, .inl fB)), (aW, .inl (E.2.1, 176, .inl fW)), (aF, .inl (E.2.1, 16, .inl fF)), (aG, .inl (E.2.1, 16, .inl fG)), (aV, .inl (E.2.1, 16, .inl fV)), (aS, .inl (E.2.1, 16, .inl fE)), (aO, .inl (E.2.1, 16, .inl fO)), (aP, .inl (E.2.1, 16, .inl fP)), (aQ, .inl (E.2.1, 16, .inl fQ))] := hD
      exact x_iret B hP hD hS rfl rfl dX2_half_18
end
section
/-- times: (p, x) after k bits -/
def tmM (a b : Int32) : Nat → Int32 × Int32
  | 0 => (0, a)
  | k + 1 => (if (b >>> (nI k &&& 31)) &&& 1 = 1 then (tmM a b k).1 ^^^ (tmM a b k).2 else (tmM a b k).1, if 128 ≤ (tmM a b k).2 then (2 * (tmM a b k).2 - 256) ^^^ 27 else 2 * (tmM a b k).2)
def tmR (a b : Int32) : Int32 := (tmM a b 8).1
set_option maxHeartbeats 4000000 in
set_option maxRecDepth 100000 in
theorem lp_times {p : Program} {l : Launch} {e : Env} {R : Room} {s : State} {m : MethodId} {args : Array Value} {below : List Frame} {meth : Method} {c : Code} {cells slots : Nat} {Q : State → Prop} {E : EE} {A : Nat → Prop} {a b : Int32} (B : Bd p s m args meth c cX3_times 5 (some .int) RX3 E A) (hf : cells ≤ R.cells ∧ slots ≤ R.slots) 
    (kk : ∀ (H : Heap) (locs : List Loc) (ls : Array Slot), va_P E.1 classes [] H → va_D A [] → va_S A s.heap H locs → lv_has ls 5 [(4, .int (nI 8)), (0, .int a), (1, .int b), (2, .int ((tmM a b 8).1)), (3, .int ((tmM a b 8).2))] → W p l e R s m args below meth c H locs cells slots Q (F0 m 62 ls [])) :
    ∀ (fu i : Nat), i ≤ 8 → 8 < i + fu → ∀ (H : Heap) (locs : List Loc) (ls : Array Slot), va_P E.1 classes [] H → va_D A [] → va_S A s.heap H locs → lv_has ls 5 [(4, .int (nI i)), (0, .int a), (1, .int b), (2, .int ((tmM a b i).1)), (3, .int ((tmM a b i).2))] → W p l e R s m args below meth c H locs cells slots Q (F0 m 7 ls []) := by
  have hx := B.1
  have hb := B.2.1
  intro fu
  induction fu with
  | zero =>
    intro i h1 h2
    exact absurd h2 (by omega)
  | succ fu ih =>
    intro i hi hin H locs ls hP hD hS hl
    refine lv_iload hx hb dX3_times_7 (lv_at hl 0 rfl) ?_
    refine lv_bipush (v := 8) hx hb dX3_times_9 (by decide) ?_
    refine lv_icmp_ge (tgt := 62) hx hb dX3_times_11 (by decide) (fun c_11 => ?_) (fun c_11 => ?_)
    · have hj : i = 8 := by have := ge_t (b := 8) c_11 (by omega) (by omega); omega
      subst hj
      exact kk _ _ _ hP hD hS hl
    · have hj : i < 8 := ge_f (b := 8) c_11 (by omega) (by omega)
      refine lv_iload_n hx hb dX3_times_14 rfl (lv_at hl 2 rfl) ?_
      refine lv_iload hx hb dX3_times_15 (lv_at hl 0 rfl) ?_
      refine lv_ishr hx hb dX3_times_17 ?_
      refine lv_iconst (v := 1) hx hb dX3_times_18 (by decide) ?_
      refine lv_iand hx hb dX3_times_19 ?_
      refine lv_iconst (v := 1) hx hb dX3_times_20 (by decide) ?_
      refine lv_icmp_ne (tgt := 30) hx hb dX3_times_21 (by decide) (fun c_21 => ?_) (fun c_21 => ?_)
      · refine lv_iload_n hx hb dX3_times_30 rfl (lv_at hl 3 rfl) ?_
        refine lv_istore_n (lv' := [(2, .int ((tmM a b i).1)), (4, .int (nI i)), (0, .int a), (1, .int b), (3, .int ((tmM a b i).2))]) hx hb dX3_times_31 rfl hl (by decide) rfl (fun ls hl => ?_)
        refine lv_iload_n hx hb dX3_times_32 rfl (lv_at hl 4 rfl) ?_
        refine lv_sipush (v := 128) hx hb dX3_times_33 (by decide) ?_
        refine lv_icmp_ge (tgt := 45) hx hb dX3_times_36 (by decide) (fun c_36 => ?_) (fun c_36 => ?_)
        · refine lv_iconst (v := 2) hx hb dX3_times_45 (by decide) ?_
          refine lv_iload_n hx hb dX3_times_46 rfl (lv_at hl 4 rfl) ?_
          refine lv_imul hx hb dX3_times_47 ?_
          refine lv_sipush (v := 256) hx hb dX3_times_48 (by decide) ?_
          refine lv_isub hx hb dX3_times_51 ?_
          refine lv_bipush (v := 27) hx hb dX3_times_52 (by decide) ?_
          refine lv_ixor hx hb dX3_times_54 ?_
          refine lv_istore_n (lv' := [(3, .int (((2 * (tmM a b i).2) - 256) ^^^ 27)), (2, .int ((tmM a b i).1)), (4, .int (nI i)), (0, .int a), (1, .int b)]) hx hb dX3_times_55 rfl hl (by decide) rfl (fun ls hl => ?_)
          refine lv_iinc (v := (nI (i + 1))) (lv' := [(4, .int (nI (i + 1))), (3, .int (((2 * (tmM a b i).2) - 256) ^^^ 27)), (2, .int ((tmM a b i).1)), (0, .int a), (1, .int b)]) hx hb dX3_times_56 hl (k := 2) rfl (ii_1 i) (by decide) rfl (fun ls hl => ?_)
          refine lv_goto (tgt := 7) hx hb dX3_times_59 (by decide) ?_
          have e1 : (tmM a b (i + 1)).1 = (tmM a b i).1 := by simp only [tmM]; first | exact if_pos c_21 | exact if_neg c_21
          have e2 : (tmM a b (i + 1)).2 = (((2 * (tmM a b i).2) - 256) ^^^ 27) := by simp only [tmM]; first | exact if_pos c_36 | exact if_neg c_36
          have hP : va_P E.1 classes [] _ := hP
          have hD : va_D A [] := hD
          exact ih (i + 1) (by omega) (by omega) _ _ _ hP hD hS (by rw [e1, e2]; exact lv_sub hl [0, 3, 4, 2, 1] rfl)
        · refine lv_iconst (v := 2) hx hb dX3_times_39 (by decide) ?_
          refine lv_iload_n hx hb dX3_times_40 rfl (lv_at hl 4 rfl) ?_
          refine lv_imul hx hb dX3_times_41 ?_
          refine lv_goto (tgt := 55) hx hb dX3_times_42 (by decide) ?_
          refine lv_istore_n (lv' := [(3, .int (2 * (tmM a b i).2)), (2, .int ((tmM a b i).1)), (4, .int (nI i)), (0, .int a), (1, .int b)]) hx hb dX3_times_55 rfl hl (by decide) rfl (fun ls hl => ?_)
          refine lv_iinc (v := (nI (i + 1))) (lv' := [(4, .int (nI (i + 1))), (3, .int (2 * (tmM a b i).2)), (2, .int ((tmM a b i).1)), (0, .int a), (1, .int b)]) hx hb dX3_times_56 hl (k := 2) rfl (ii_1 i) (by decide) rfl (fun ls hl => ?_)
          refine lv_goto (tgt := 7) hx hb dX3_times_59 (by decide) ?_
          have e1 : (tmM a b (i + 1)).1 = (tmM a b i).1 := by simp only [tmM]; first | exact if_pos c_21 | exact if_neg c_21
          have e2 : (tmM a b (i + 1)).2 = (2 * (tmM a b i).2) := by simp only [tmM]; first | exact if_pos c_36 | exact if_neg c_36
          have hP : va_P E.1 classes [] _ := hP
          have hD : va_D A [] := hD
          exact ih (i + 1) (by omega) (by omega) _ _ _ hP hD hS (by rw [e1, e2]; exact lv_sub hl [0, 3, 4, 2, 1] rfl)
      · refine lv_iload_n hx hb dX3_times_24 rfl (lv_at hl 3 rfl) ?_
        refine lv_iload_n hx hb dX3_times_25 rfl (lv_at hl 4 rfl) ?_
        refine lv_ixor hx hb dX3_times_26 ?_
        refine lv_goto (tgt := 31) hx hb dX3_times_27 (by decide) ?_
        refine lv_istore_n (lv' := [(2, .int ((tmM a b i).1 ^^^ (tmM a b i).2)), (4, .int (nI i)), (0, .int a), (1, .int b), (3, .int ((tmM a b i).2))]) hx hb dX3_times_31 rfl hl (by decide) rfl (fun ls hl => ?_)
        refine lv_iload_n hx hb dX3_times_32 rfl (lv_at hl 4 rfl) ?_
        refine lv_sipush (v := 128) hx hb dX3_times_33 (by decide) ?_
        refine lv_icmp_ge (tgt := 45) hx hb dX3_times_36 (by decide) (fun c_36 => ?_) (fun c_36 => ?_)
        · refine lv_iconst (v := 2) hx hb dX3_times_45 (by decide) ?_
          refine lv_iload_n hx hb dX3_times_46 rfl (lv_at hl 4 rfl) ?_
          refine lv_imul hx hb dX3_times_47 ?_
          refine lv_sipush (v := 256) hx hb dX3_times_48 (by decide) ?_
          refine lv_isub hx hb dX3_times_51 ?_
          refine lv_bipush (v := 27) hx hb dX3_times_52 (by decide) ?_
          refine lv_ixor hx hb dX3_times_54 ?_
          refine lv_istore_n (lv' := [(3, .int (((2 * (tmM a b i).2) - 256) ^^^ 27)), (2, .int ((tmM a b i).1 ^^^ (tmM a b i).2)), (4, .int (nI i)), (0, .int a), (1, .int b)]) hx hb dX3_times_55 rfl hl (by decide) rfl (fun ls hl => ?_)
          refine lv_iinc (v := (nI (i + 1))) (lv' := [(4, .int (nI (i + 1))), (3, .int (((2 * (tmM a b i).2) - 256) ^^^ 27)), (2, .int ((tmM a b i).1 ^^^ (tmM a b i).2)), (0, .int a), (1, .int b)]) hx hb dX3_times_56 hl (k := 2) rfl (ii_1 i) (by decide) rfl (fun ls hl => ?_)
          refine lv_goto (tgt := 7) hx hb dX3_times_59 (by decide) ?_
          have e1 : (tmM a b (i + 1)).1 = ((tmM a b i).1 ^^^ (tmM a b i).2) := by simp only [tmM]; first | exact if_pos c_21 | exact if_neg c_21
          have e2 : (tmM a b (i + 1)).2 = (((2 * (tmM a b i).2) - 256) ^^^ 27) := by simp only [tmM]; first | exact if_pos c_36 | exact if_neg c_36
          have hP : va_P E.1 classes [] _ := hP
          have hD : va_D A [] := hD
          exact ih (i + 1) (by omega) (by omega) _ _ _ hP hD hS (by rw [e1, e2]; exact lv_sub hl [0, 3, 4, 2, 1] rfl)
        · refine lv_iconst (v := 2) hx hb dX3_times_39 (by decide) ?_
          refine lv_iload_n hx hb dX3_times_40 rfl (lv_at hl 4 rfl) ?_
          refine lv_imul hx hb dX3_times_41 ?_
          refine lv_goto (tgt := 55) hx hb dX3_times_42 (by decide) ?_
          refine lv_istore_n (lv' := [(3, .int (2 * (tmM a b i).2)), (2, .int ((tmM a b i).1 ^^^ (tmM a b i).2)), (4, .int (nI i)), (0, .int a), (1, .int b)]) hx hb dX3_times_55 rfl hl (by decide) rfl (fun ls hl => ?_)
          refine lv_iinc (v := (nI (i + 1))) (lv' := [(4, .int (nI (i + 1))), (3, .int (2 * (tmM a b i).2)), (2, .int ((tmM a b i).1 ^^^ (tmM a b i).2)), (0, .int a), (1, .int b)]) hx hb dX3_times_56 hl (k := 2) rfl (ii_1 i) (by decide) rfl (fun ls hl => ?_)
          refine lv_goto (tgt := 7) hx hb dX3_times_59 (by decide) ?_
          have e1 : (tmM a b (i + 1)).1 = ((tmM a b i).1 ^^^ (tmM a b i).2) := by simp only [tmM]; first | exact if_pos c_21 | exact if_neg c_21
          have e2 : (tmM a b (i + 1)).2 = (2 * (tmM a b i).2) := by simp only [tmM]; first | exact if_pos c_36 | exact if_neg c_36
          have hP : va_P E.1 classes [] _ := hP
          have hD : va_D A [] := hD
          exact ih (i + 1) (by omega) (by omega) _ _ _ hP hD hS (by rw [e1, e2]; exact lv_sub hl [0, 3, 4, 2, 1] rfl)
set_option maxHeartbeats 4000000 in
set_option maxRecDepth 100000 in
/-- times -/
theorem c_X3_times (l : Launch) (E : EE) (a b : Int32) : Ci l yX3_times (.code yX3_times cX3_times 5 (some .int)) ({ frames := 0, cells := 0, slots := 0, locals := 0 }) E [.int a, .int b] (tmR a b) [] [] := by
  refine Ci.of (by decide) (Nat.le_of_ble_eq_true rfl) ?_
  intro p e s m below meth c A ls B hP hD hS hl
  have hl : lv_has ls 5 [(0, .int a), (1, .int b)] := hl
  have B : Bd p s m _ meth c cX3_times 5 (some .int) RX3 E A := B
  have hx := B.1
  have hb := B.2.1
  have hP : va_P E.1 classes [] _ := hP
  have hD : va_D A [] := hD
  refine lv_iconst (v := 0) hx hb dX3_times_0 (by decide) ?_
  refine lv_istore_n (lv' := [(2, .int 0), (0, .int a), (1, .int b)]) hx hb dX3_times_1 rfl hl (by decide) rfl (fun ls hl => ?_)
  refine lv_iload_n hx hb dX3_times_2 rfl (lv_at hl 1 rfl) ?_
  refine lv_istore_n (lv' := [(3, .int a), (2, .int 0), (0, .int a), (1, .int b)]) hx hb dX3_times_3 rfl hl (by decide) rfl (fun ls hl => ?_)
  refine lv_iconst (v := 0) hx hb dX3_times_4 (by decide) ?_
  refine lv_istore (lv' := [(4, .int 0), (3, .int a), (2, .int 0), (0, .int a), (1, .int b)]) hx hb dX3_times_5 hl (by decide) rfl (fun ls hl => ?_)
  have hP : va_P E.1 classes [] _ := hP
  have hD : va_D A [] := hD
  refine lp_times B ⟨by decide, by decide⟩  (fun H locs ls hP hD hS hl => ?_) 9 0 (by omega) (by omega) _ _ _ hP hD hS (lv_sub hl [0, 3, 4, 2, 1] rfl)
  refine lv_iload_n hx hb dX3_times_62 rfl (lv_at hl 3 rfl) ?_
  have hP : va_P E.1 classes [] _ := hP
  have hD : va_D A [] := hD
  exact x_iret B hP hD hS rfl rfl dX3_times_63
end
section
/-- the byte whose product with b is 1, looked for among 1 .. j -/
def cM (b : Int32) : Nat → Int32
  | 0 => 0
  | j + 1 => if cM b j = 0 then (if b ≤ 0 then 0 else if tmR b (nI (j + 1)) = 1 then nI (j + 1) else 0) else cM b j
theorem cM_stay {b : Int32} {j : Nat} (h : ¬ cM b j = 0) : ∀ d, cM b (j + d) = cM b j
  | 0 => rfl
  | d + 1 => by
    have e := cM_stay h d
    show (if cM b (j + d) = 0 then _ else cM b (j + d)) = cM b j
    rw [if_neg (by rw [e]; exact h), e]
theorem cM_lt {b : Int32} : ∀ j, j < 256 → ∃ k, k < 256 ∧ cM b j = nI k
  | 0, _ => ⟨0, by decide, rfl⟩
  | j + 1, h => by
    obtain ⟨k, hk, e⟩ := cM_lt (b := b) j (by omega)
    unfold cM
    split
    · split
      · exact ⟨0, by decide, rfl⟩
      · split
        · exact ⟨j + 1, h, rfl⟩
        · exact ⟨0, by decide, rfl⟩
    · exact ⟨k, hk, e⟩
def btM (c : Int32) (i : Nat) : Int32 := c >>> (nI i &&& 31) + c >>> ((nI i + 4 - (nI i + 4) / 8 * 8) &&& 31) + c >>> ((nI i + 5 - (nI i + 5) / 8 * 8) &&& 31) + c >>> ((nI i + 6 - (nI i + 6) / 8 * 8) &&& 31) + c >>> ((nI i + 7 - (nI i + 7) / 8 * 8) &&& 31) + (99 : Int32) >>> (nI i &&& 31)
def vM (c : Int32) : Nat → Int32
  | 0 => 0
  | i + 1 => vM c i + (btM c i - btM c i / 2 * 2) <<< (nI i &&& 31)
theorem vM_by {c : Int32} (h : ∃ k, k < 256 ∧ c = nI k) : By (vM c 8) := by
  have k : ∀ j : Nat, j < 256 → (vM (nI j) 8 = nI (vM (nI j) 8).toNatClampNeg ∧ (vM (nI j) 8).toNatClampNeg < 256) := by decide +kernel
  obtain ⟨j, hj, rfl⟩ := h
  exact k j hj
/-- S of b as the reference makes it -/
def sM (b : Nat) : Int32 := vM (cM (nI b) 255) 8
theorem sM_by (b : Nat) : By (sM b) := vM_by (cM_lt 255 (by decide))
def sA : Nat → Nat → Int32
  | 0 => fun _ => 0
  | b + 1 => upd (sA b) b (sM b)
def uA : Nat → Nat → Int32
  | 0 => fun _ => 0
  | b + 1 => upd (uA b) (sM b).toNatClampNeg (nI b)
theorem sA_by : ∀ b, ∀ i, i < 256 → By (sA b i)
  | 0 => by0
  | b + 1 => By.upd (sA_by b) (sM_by b)
theorem uA_by : ∀ b, b ≤ 256 → ∀ i, i < 256 → By (uA b i)
  | 0, _ => by0
  | b + 1, h => By.upd (uA_by b (by omega)) (By.of (by omega))
set_option maxHeartbeats 4000000 in
set_option maxRecDepth 100000 in
theorem lp_search {p : Program} {l : Launch} {e : Env} {R : Room} {s : State} {m : MethodId} {args : Array Value} {below : List Frame} {meth : Method} {c : Code} {cells slots : Nat} {Q : State → Prop} {E : EE} {A : Nat → Prop} {r bK bB bP bS bU bW bH bT bV bC bL bZ : Nat} {b : Nat} (B : Bd p s m args meth c cX3_init 6 none RX3 E A) (hf : cells ≤ R.cells ∧ slots ≤ R.slots) (hR : 1 ≤ R.frames ∧ 24 ≤ R.locals) 
    (kk : ∀ (H : Heap) (locs : List Loc) (ls : Array Slot), va_P E.1 classes [(r, .inr (3, [.int 0, .int 0, .int 0, .int 0, .ref bK, .ref bB, .ref bP, .ref bS, .ref bU, .ref bW, .ref bH, .ref bT, .ref bV, .ref bC, .ref bL, .int 0, .ref bZ, .int 0])), (bK, .inl (E.2.1, 16, .inl (fun _ => 0))), (bB, .inl (E.2.1, 16, .inl (fun _ => 0))), (bP, .inl (E.2.1, 16, .inl (fun _ => 0))), (bS, .inl (E.2.1, 256, .inl (sA b))), (bU, .inl (E.2.1, 256, .inl (uA b))), (bW, .inl (E.2.1, 176, .inl (fun _ => 0))), (bH, .inl (E.2.1, 32, .inl (fun _ => 0))), (bT, .inl (E.2.1, 16, .inl (fun _ => 0))), (bV, .inl (E.2.1, 16, .inl (fun _ => 0))), (bC, .inl (E.2.1, 16, .inl (fun _ => 0))), (bL, .inl (E.2.1, 16, .inl (fun _ => 0))), (bZ, .inl (E.2.2.2.2, 16, .inl (fun _ => 0)))] H → va_D A [(r, .inr (3, [.int 0, .int 0, .int 0, .int 0, .ref bK, .ref bB, .ref bP, .ref bS, .ref bU, .ref bW, .ref bH, .ref bT, .ref bV, .ref bC, .ref bL, .int 0, .ref bZ, .int 0])), (bK, .inl (E.2.1, 16, .inl (fun _ => 0))), (bB, .inl (E.2.1, 16, .inl (fun _ => 0))), (bP, .inl (E.2.1, 16, .inl (fun _ => 0))), (bS, .inl (E.2.1, 256, .inl (sA b))), (bU, .inl (E.2.1, 256, .inl (uA b))), (bW, .inl (E.2.1, 176, .inl (fun _ => 0))), (bH, .inl (E.2.1, 32, .inl (fun _ => 0))), (bT, .inl (E.2.1, 16, .inl (fun _ => 0))), (bV, .inl (E.2.1, 16, .inl (fun _ => 0))), (bC, .inl (E.2.1, 16, .inl (fun _ => 0))), (bL, .inl (E.2.1, 16, .inl (fun _ => 0))), (bZ, .inl (E.2.2.2.2, 16, .inl (fun _ => 0)))] → va_S A s.heap H locs → lv_has ls 6 [(0, .ref r), (1, .int (nI b)), (2, .int (cM (nI b) 255))] → W p l e R s m args below meth c H locs cells slots Q (F0 m 152 ls [])) :
    ∀ (fu i : Nat), i ≤ 255 → 255 < i + fu → ∀ (H : Heap) (locs : List Loc) (ls : Array Slot), va_P E.1 classes [(r, .inr (3, [.int 0, .int 0, .int 0, .int 0, .ref bK, .ref bB, .ref bP, .ref bS, .ref bU, .ref bW, .ref bH, .ref bT, .ref bV, .ref bC, .ref bL, .int 0, .ref bZ, .int 0])), (bK, .inl (E.2.1, 16, .inl (fun _ => 0))), (bB, .inl (E.2.1, 16, .inl (fun _ => 0))), (bP, .inl (E.2.1, 16, .inl (fun _ => 0))), (bS, .inl (E.2.1, 256, .inl (sA b))), (bU, .inl (E.2.1, 256, .inl (uA b))), (bW, .inl (E.2.1, 176, .inl (fun _ => 0))), (bH, .inl (E.2.1, 32, .inl (fun _ => 0))), (bT, .inl (E.2.1, 16, .inl (fun _ => 0))), (bV, .inl (E.2.1, 16, .inl (fun _ => 0))), (bC, .inl (E.2.1, 16, .inl (fun _ => 0))), (bL, .inl (E.2.1, 16, .inl (fun _ => 0))), (bZ, .inl (E.2.2.2.2, 16, .inl (fun _ => 0)))] H → va_D A [(r, .inr (3, [.int 0, .int 0, .int 0, .int 0, .ref bK, .ref bB, .ref bP, .ref bS, .ref bU, .ref bW, .ref bH, .ref bT, .ref bV, .ref bC, .ref bL, .int 0, .ref bZ, .int 0])), (bK, .inl (E.2.1, 16, .inl (fun _ => 0))), (bB, .inl (E.2.1, 16, .inl (fun _ => 0))), (bP, .inl (E.2.1, 16, .inl (fun _ => 0))), (bS, .inl (E.2.1, 256, .inl (sA b))), (bU, .inl (E.2.1, 256, .inl (uA b))), (bW, .inl (E.2.1, 176, .inl (fun _ => 0))), (bH, .inl (E.2.1, 32, .inl (fun _ => 0))), (bT, .inl (E.2.1, 16, .inl (fun _ => 0))), (bV, .inl (E.2.1, 16, .inl (fun _ => 0))), (bC, .inl (E.2.1, 16, .inl (fun _ => 0))), (bL, .inl (E.2.1, 16, .inl (fun _ => 0))), (bZ, .inl (E.2.2.2.2, 16, .inl (fun _ => 0)))] → va_S A s.heap H locs → lv_has ls 6 [(3, .int (nI (i + 1))), (2, .int (cM (nI b) i)), (0, .ref r), (1, .int (nI b))] → W p l e R s m args below meth c H locs cells slots Q (F0 m 116 ls []) := by
  have hx := B.1
  have hb := B.2.1
  intro fu
  induction fu with
  | zero =>
    intro i h1 h2
    exact absurd h2 (by omega)
  | succ fu ih =>
    intro i hi hin H locs ls hP hD hS hl
    refine lv_iload_n hx hb dX3_init_116 rfl (lv_at hl 0 rfl) ?_
    refine lv_sipush (v := 256) hx hb dX3_init_117 (by decide) ?_
    refine lv_icmp_ge (tgt := 152) hx hb dX3_init_120 (by decide) (fun c_120 => ?_) (fun c_120 => ?_)
    · have hj : i = 255 := by have := ge_t (b := 256) c_120 (by omega) (by omega); omega
      subst hj
      exact kk _ _ _ hP hD hS (lv_sub hl [2, 3, 1] rfl)
    · have hj : i < 255 := by have := ge_f (b := 256) c_120 (by omega) (by omega); omega
      refine lv_iload_n hx hb dX3_init_123 rfl (lv_at hl 1 rfl) ?_
      refine lv_if_ne (tgt := 152) hx hb dX3_init_124 (by decide) (fun c_124 => ?_) (fun c_124 => ?_)
      · have e1 : cM (nI b) 255 = cM (nI b) i := by have := cM_stay c_124 (255 - i); rw [show i + (255 - i) = 255 by omega] at this; exact this
        exact kk _ _ _ hP hD hS (by rw [e1]; exact lv_sub hl [2, 3, 1] rfl)
      · refine lv_iload_n hx hb dX3_init_127 rfl (lv_at hl 3 rfl) ?_
        refine lv_if_le (tgt := 144) hx hb dX3_init_128 (by decide) (fun c_128 => ?_) (fun c_128 => ?_)
        · refine lv_iconst (v := 0) hx hb dX3_init_144 (by decide) ?_
          refine lv_istore_n (lv' := [(2, .int 0), (3, .int (nI (i + 1))), (0, .ref r), (1, .int (nI b))]) hx hb dX3_init_145 rfl hl (by decide) rfl (fun ls hl => ?_)
          refine lv_iinc (v := (nI ((i + 1) + 1))) (lv' := [(3, .int (nI ((i + 1) + 1))), (2, .int 0), (0, .ref r), (1, .int (nI b))]) hx hb dX3_init_146 hl (k := 1) rfl (ii_1 (i + 1)) (by decide) rfl (fun ls hl => ?_)
          refine lv_goto (tgt := 116) hx hb dX3_init_149 (by decide) ?_
          have e1 : cM (nI b) (i + 1) = 0 := by unfold cM; rw [if_pos c_124]; first | exact if_pos c_128 | (rw [if_neg c_128]; first | exact if_pos c_137 | exact if_neg c_137)
          have hP : va_P E.1 classes [(r, .inr (3, [.int 0, .int 0, .int 0, .int 0, .ref bK, .ref bB, .ref bP, .ref bS, .ref bU, .ref bW, .ref bH, .ref bT, .ref bV, .ref bC, .ref bL, .int 0, .ref bZ, .int 0])), (bK, .inl (E.2.1, 16, .inl (fun _ => 0))), (bB, .inl (E.2.1, 16, .inl (fun _ => 0))), (bP, .inl (E.2.1, 16, .inl (fun _ => 0))), (bS, .inl (E.2.1, 256, .inl (sA b))), (bU, .inl (E.2.1, 256, .inl (uA b))), (bW, .inl (E.2.1, 176, .inl (fun _ => 0))), (bH, .inl (E.2.1, 32, .inl (fun _ => 0))), (bT, .inl (E.2.1, 16, .inl (fun _ => 0))), (bV, .inl (E.2.1, 16, .inl (fun _ => 0))), (bC, .inl (E.2.1, 16, .inl (fun _ => 0))), (bL, .inl (E.2.1, 16, .inl (fun _ => 0))), (bZ, .inl (E.2.2.2.2, 16, .inl (fun _ => 0)))] _ := hP
          have hD : va_D A [(r, .inr (3, [.int 0, .int 0, .int 0, .int 0, .ref bK, .ref bB, .ref bP, .ref bS, .ref bU, .ref bW, .ref bH, .ref bT, .ref bV, .ref bC, .ref bL, .int 0, .ref bZ, .int 0])), (bK, .inl (E.2.1, 16, .inl (fun _ => 0))), (bB, .inl (E.2.1, 16, .inl (fun _ => 0))), (bP, .inl (E.2.1, 16, .inl (fun _ => 0))), (bS, .inl (E.2.1, 256, .inl (sA b))), (bU, .inl (E.2.1, 256, .inl (uA b))), (bW, .inl (E.2.1, 176, .inl (fun _ => 0))), (bH, .inl (E.2.1, 32, .inl (fun _ => 0))), (bT, .inl (E.2.1, 16, .inl (fun _ => 0))), (bV, .inl (E.2.1, 16, .inl (fun _ => 0))), (bC, .inl (E.2.1, 16, .inl (fun _ => 0))), (bL, .inl (E.2.1, 16, .inl (fun _ => 0))), (bZ, .inl (E.2.2.2.2, 16, .inl (fun _ => 0)))] := hD
          exact ih (i + 1) (by omega) (by omega) _ _ _ hP hD hS (by rw [e1]; exact lv_sub hl [0, 1, 2, 3] rfl)
        · refine lv_iload_n hx hb dX3_init_131 rfl (lv_at hl 3 rfl) ?_
          refine lv_iload_n hx hb dX3_init_132 rfl (lv_at hl 0 rfl) ?_
          refine x_Si (wr := [(r, .inr (3, [.int 0, .int 0, .int 0, .int 0, .ref bK, .ref bB, .ref bP, .ref bS, .ref bU, .ref bW, .ref bH, .ref bT, .ref bV, .ref bC, .ref bL, .int 0, .ref bZ, .int 0])), (bK, .inl (E.2.1, 16, .inl (fun _ => 0))), (bB, .inl (E.2.1, 16, .inl (fun _ => 0))), (bP, .inl (E.2.1, 16, .inl (fun _ => 0))), (bS, .inl (E.2.1, 256, .inl (sA b))), (bU, .inl (E.2.1, 256, .inl (uA b))), (bW, .inl (E.2.1, 176, .inl (fun _ => 0))), (bH, .inl (E.2.1, 32, .inl (fun _ => 0))), (bT, .inl (E.2.1, 16, .inl (fun _ => 0))), (bV, .inl (E.2.1, 16, .inl (fun _ => 0))), (bC, .inl (E.2.1, 16, .inl (fun _ => 0))), (bL, .inl (E.2.1, 16, .inl (fun _ => 0))), (bZ, .inl (E.2.2.2.2, 16, .inl (fun _ => 0)))]) (isC := []) (isR := [0, 1, 2, 3, 4, 5, 6, 7, 8, 9, 10, 11, 12]) (As := [.int (nI b), .int (nI (i + 1))]) B (c_X3_times l E (nI b) (nI (i + 1))) k_X3_times g_286 s_X3_times ⟨Nat.le_trans (by decide) hR.1, Nat.le_trans (by decide) hR.2, rfl, rfl⟩ hP hD hS ⟨rfl, rfl, rfl, rfl, by decide⟩ rfl hl.1 rfl (Nat.le_of_ble_eq_true rfl) dX3_init_133 hf (fun H locs hP hD hS => ?_)
          have hP : va_P E.1 classes [(r, .inr (3, [.int 0, .int 0, .int 0, .int 0, .ref bK, .ref bB, .ref bP, .ref bS, .ref bU, .ref bW, .ref bH, .ref bT, .ref bV, .ref bC, .ref bL, .int 0, .ref bZ, .int 0])), (bK, .inl (E.2.1, 16, .inl (fun _ => 0))), (bB, .inl (E.2.1, 16, .inl (fun _ => 0))), (bP, .inl (E.2.1, 16, .inl (fun _ => 0))), (bS, .inl (E.2.1, 256, .inl (sA b))), (bU, .inl (E.2.1, 256, .inl (uA b))), (bW, .inl (E.2.1, 176, .inl (fun _ => 0))), (bH, .inl (E.2.1, 32, .inl (fun _ => 0))), (bT, .inl (E.2.1, 16, .inl (fun _ => 0))), (bV, .inl (E.2.1, 16, .inl (fun _ => 0))), (bC, .inl (E.2.1, 16, .inl (fun _ => 0))), (bL, .inl (E.2.1, 16, .inl (fun _ => 0))), (bZ, .inl (E.2.2.2.2, 16, .inl (fun _ => 0)))] _ := hP
          have hD : va_D A [(r, .inr (3, [.int 0, .int 0, .int 0, .int 0, .ref bK, .ref bB, .ref bP, .ref bS, .ref bU, .ref bW, .ref bH, .ref bT, .ref bV, .ref bC, .ref bL, .int 0, .ref bZ, .int 0])), (bK, .inl (E.2.1, 16, .inl (fun _ => 0))), (bB, .inl (E.2.1, 16, .inl (fun _ => 0))), (bP, .inl (E.2.1, 16, .inl (fun _ => 0))), (bS, .inl (E.2.1, 256, .inl (sA b))), (bU, .inl (E.2.1, 256, .inl (uA b))), (bW, .inl (E.2.1, 176, .inl (fun _ => 0))), (bH, .inl (E.2.1, 32, .inl (fun _ => 0))), (bT, .inl (E.2.1, 16, .inl (fun _ => 0))), (bV, .inl (E.2.1, 16, .inl (fun _ => 0))), (bC, .inl (E.2.1, 16, .inl (fun _ => 0))), (bL, .inl (E.2.1, 16, .inl (fun _ => 0))), (bZ, .inl (E.2.2.2.2, 16, .inl (fun _ => 0)))] := hD
          refine lv_iconst (v := 1) hx hb dX3_init_136 (by decide) ?_
          refine lv_icmp_ne (tgt := 144) hx hb dX3_init_137 (by decide) (fun c_137 => ?_) (fun c_137 => ?_)
          · refine lv_iconst (v := 0) hx hb dX3_init_144 (by decide) ?_
            refine lv_istore_n (lv' := [(2, .int 0), (3, .int (nI (i + 1))), (0, .ref r), (1, .int (nI b))]) hx hb dX3_init_145 rfl hl (by decide) rfl (fun ls hl => ?_)
            refine lv_iinc (v := (nI ((i + 1) + 1))) (lv' := [(3, .int (nI ((i + 1) + 1))), (2, .int 0), (0, .ref r), (1, .int (nI b))]) hx hb dX3_init_146 hl (k := 1) rfl (ii_1 (i + 1)) (by decide) rfl (fun ls hl => ?_)
            refine lv_goto (tgt := 116) hx hb dX3_init_149 (by decide) ?_
            have e1 : cM (nI b) (i + 1) = 0 := by unfold cM; rw [if_pos c_124]; first | exact if_pos c_128 | (rw [if_neg c_128]; first | exact if_pos c_137 | exact if_neg c_137)
            have hP : va_P E.1 classes [(r, .inr (3, [.int 0, .int 0, .int 0, .int 0, .ref bK, .ref bB, .ref bP, .ref bS, .ref bU, .ref bW, .ref bH, .ref bT, .ref bV, .ref bC, .ref bL, .int 0, .ref bZ, .int 0])), (bK, .inl (E.2.1, 16, .inl (fun _ => 0))), (bB, .inl (E.2.1, 16, .inl (fun _ => 0))), (bP, .inl (E.2.1, 16, .inl (fun _ => 0))), (bS, .inl (E.2.1, 256, .inl (sA b))), (bU, .inl (E.2.1, 256, .inl (uA b))), (bW, .inl (E.2.1, 176, .inl (fun _ => 0))), (bH, .inl (E.2.1, 32, .inl (fun _ => 0))), (bT, .inl (E.2.1, 16, .inl (fun _ => 0))), (bV, .inl (E.2.1, 16, .inl (fun _ => 0))), (bC, .inl (E.2.1, 16, .inl (fun _ => 0))), (bL, .inl (E.2.1, 16, .inl (fun _ => 0))), (bZ, .inl (E.2.2.2.2, 16, .inl (fun _ => 0)))] _ := hP
            have hD : va_D A [(r, .inr (3, [.int 0, .int 0, .int 0, .int 0, .ref bK, .ref bB, .ref bP, .ref bS, .ref bU, .ref bW, .ref bH, .ref bT, .ref bV, .ref bC, .ref bL, .int 0, .ref bZ, .int 0])), (bK, .inl (E.2.1, 16, .inl (fun _ => 0))), (bB, .inl (E.2.1, 16, .inl (fun _ => 0))), (bP, .inl (E.2.1, 16, .inl (fun _ => 0))), (bS, .inl (E.2.1, 256, .inl (sA b))), (bU, .inl (E.2.1, 256, .inl (uA b))), (bW, .inl (E.2.1, 176, .inl (fun _ => 0))), (bH, .inl (E.2.1, 32, .inl (fun _ => 0))), (bT, .inl (E.2.1, 16, .inl (fun _ => 0))), (bV, .inl (E.2.1, 16, .inl (fun _ => 0))), (bC, .inl (E.2.1, 16, .inl (fun _ => 0))), (bL, .inl (E.2.1, 16, .inl (fun _ => 0))), (bZ, .inl (E.2.2.2.2, 16, .inl (fun _ => 0)))] := hD
            exact ih (i + 1) (by omega) (by omega) _ _ _ hP hD hS (by rw [e1]; exact lv_sub hl [0, 1, 2, 3] rfl)
          · refine lv_iload_n hx hb dX3_init_140 rfl (lv_at hl 0 rfl) ?_
            refine lv_goto (tgt := 145) hx hb dX3_init_141 (by decide) ?_
            refine lv_istore_n (lv' := [(2, .int (nI (i + 1))), (3, .int (nI (i + 1))), (0, .ref r), (1, .int (nI b))]) hx hb dX3_init_145 rfl hl (by decide) rfl (fun ls hl => ?_)
            refine lv_iinc (v := (nI ((i + 1) + 1))) (lv' := [(3, .int (nI ((i + 1) + 1))), (2, .int (nI (i + 1))), (0, .ref r), (1, .int (nI b))]) hx hb dX3_init_146 hl (k := 1) rfl (ii_1 (i + 1)) (by decide) rfl (fun ls hl => ?_)
            refine lv_goto (tgt := 116) hx hb dX3_init_149 (by decide) ?_
            have e1 : cM (nI b) (i + 1) = (nI (i + 1)) := by unfold cM; rw [if_pos c_124]; first | exact if_pos c_128 | (rw [if_neg c_128]; first | exact if_pos c_137 | exact if_neg c_137)
            have hP : va_P E.1 classes [(r, .inr (3, [.int 0, .int 0, .int 0, .int 0, .ref bK, .ref bB, .ref bP, .ref bS, .ref bU, .ref bW, .ref bH, .ref bT, .ref bV, .ref bC, .ref bL, .int 0, .ref bZ, .int 0])), (bK, .inl (E.2.1, 16, .inl (fun _ => 0))), (bB, .inl (E.2.1, 16, .inl (fun _ => 0))), (bP, .inl (E.2.1, 16, .inl (fun _ => 0))), (bS, .inl (E.2.1, 256, .inl (sA b))), (bU, .inl (E.2.1, 256, .inl (uA b))), (bW, .inl (E.2.1, 176, .inl (fun _ => 0))), (bH, .inl (E.2.1, 32, .inl (fun _ => 0))), (bT, .inl (E.2.1, 16, .inl (fun _ => 0))), (bV, .inl (E.2.1, 16, .inl (fun _ => 0))), (bC, .inl (E.2.1, 16, .inl (fun _ => 0))), (bL, .inl (E.2.1, 16, .inl (fun _ => 0))), (bZ, .inl (E.2.2.2.2, 16, .inl (fun _ => 0)))] _ := hP
            have hD : va_D A [(r, .inr (3, [.int 0, .int 0, .int 0, .int 0, .ref bK, .ref bB, .ref bP, .ref bS, .ref bU, .ref bW, .ref bH, .ref bT, .ref bV, .ref bC, .ref bL, .int 0, .ref bZ, .int 0])), (bK, .inl (E.2.1, 16, .inl (fun _ => 0))), (bB, .inl (E.2.1, 16, .inl (fun _ => 0))), (bP, .inl (E.2.1, 16, .inl (fun _ => 0))), (bS, .inl (E.2.1, 256, .inl (sA b))), (bU, .inl (E.2.1, 256, .inl (uA b))), (bW, .inl (E.2.1, 176, .inl (fun _ => 0))), (bH, .inl (E.2.1, 32, .inl (fun _ => 0))), (bT, .inl (E.2.1, 16, .inl (fun _ => 0))), (bV, .inl (E.2.1, 16, .inl (fun _ => 0))), (bC, .inl (E.2.1, 16, .inl (fun _ => 0))), (bL, .inl (E.2.1, 16, .inl (fun _ => 0))), (bZ, .inl (E.2.2.2.2, 16, .inl (fun _ => 0)))] := hD
            exact ih (i + 1) (by omega) (by omega) _ _ _ hP hD hS (by rw [e1]; exact lv_sub hl [0, 1, 2, 3] rfl)
set_option maxHeartbeats 4000000 in
set_option maxRecDepth 100000 in
theorem lp_bits {p : Program} {l : Launch} {e : Env} {R : Room} {s : State} {m : MethodId} {args : Array Value} {below : List Frame} {meth : Method} {c : Code} {cells slots : Nat} {Q : State → Prop} {E : EE} {A : Nat → Prop} {r bK bB bP bS bU bW bH bT bV bC bL bZ : Nat} {b : Nat} (B : Bd p s m args meth c cX3_init 6 none RX3 E A) (hf : cells ≤ R.cells ∧ slots ≤ R.slots) 
    (kk : ∀ (H : Heap) (locs : List Loc) (ls : Array Slot), va_P E.1 classes [(r, .inr (3, [.int 0, .int 0, .int 0, .int 0, .ref bK, .ref bB, .ref bP, .ref bS, .ref bU, .ref bW, .ref bH, .ref bT, .ref bV, .ref bC, .ref bL, .int 0, .ref bZ, .int 0])), (bK, .inl (E.2.1, 16, .inl (fun _ => 0))), (bB, .inl (E.2.1, 16, .inl (fun _ => 0))), (bP, .inl (E.2.1, 16, .inl (fun _ => 0))), (bS, .inl (E.2.1, 256, .inl (sA b))), (bU, .inl (E.2.1, 256, .inl (uA b))), (bW, .inl (E.2.1, 176, .inl (fun _ => 0))), (bH, .inl (E.2.1, 32, .inl (fun _ => 0))), (bT, .inl (E.2.1, 16, .inl (fun _ => 0))), (bV, .inl (E.2.1, 16, .inl (fun _ => 0))), (bC, .inl (E.2.1, 16, .inl (fun _ => 0))), (bL, .inl (E.2.1, 16, .inl (fun _ => 0))), (bZ, .inl (E.2.2.2.2, 16, .inl (fun _ => 0)))] H → va_D A [(r, .inr (3, [.int 0, .int 0, .int 0, .int 0, .ref bK, .ref bB, .ref bP, .ref bS, .ref bU, .ref bW, .ref bH, .ref bT, .ref bV, .ref bC, .ref bL, .int 0, .ref bZ, .int 0])), (bK, .inl (E.2.1, 16, .inl (fun _ => 0))), (bB, .inl (E.2.1, 16, .inl (fun _ => 0))), (bP, .inl (E.2.1, 16, .inl (fun _ => 0))), (bS, .inl (E.2.1, 256, .inl (sA b))), (bU, .inl (E.2.1, 256, .inl (uA b))), (bW, .inl (E.2.1, 176, .inl (fun _ => 0))), (bH, .inl (E.2.1, 32, .inl (fun _ => 0))), (bT, .inl (E.2.1, 16, .inl (fun _ => 0))), (bV, .inl (E.2.1, 16, .inl (fun _ => 0))), (bC, .inl (E.2.1, 16, .inl (fun _ => 0))), (bL, .inl (E.2.1, 16, .inl (fun _ => 0))), (bZ, .inl (E.2.2.2.2, 16, .inl (fun _ => 0)))] → va_S A s.heap H locs → lv_has ls 6 [(4, .int (nI 8)), (3, .int (vM (cM (nI b) 255) 8)), (0, .ref r), (1, .int (nI b)), (2, .int (cM (nI b) 255))] → W p l e R s m args below meth c H locs cells slots Q (F0 m 234 ls [])) :
    ∀ (fu i : Nat), i ≤ 8 → 8 < i + fu → ∀ (H : Heap) (locs : List Loc) (ls : Array Slot), va_P E.1 classes [(r, .inr (3, [.int 0, .int 0, .int 0, .int 0, .ref bK, .ref bB, .ref bP, .ref bS, .ref bU, .ref bW, .ref bH, .ref bT, .ref bV, .ref bC, .ref bL, .int 0, .ref bZ, .int 0])), (bK, .inl (E.2.1, 16, .inl (fun _ => 0))), (bB, .inl (E.2.1, 16, .inl (fun _ => 0))), (bP, .inl (E.2.1, 16, .inl (fun _ => 0))), (bS, .inl (E.2.1, 256, .inl (sA b))), (bU, .inl (E.2.1, 256, .inl (uA b))), (bW, .inl (E.2.1, 176, .inl (fun _ => 0))), (bH, .inl (E.2.1, 32, .inl (fun _ => 0))), (bT, .inl (E.2.1, 16, .inl (fun _ => 0))), (bV, .inl (E.2.1, 16, .inl (fun _ => 0))), (bC, .inl (E.2.1, 16, .inl (fun _ => 0))), (bL, .inl (E.2.1, 16, .inl (fun _ => 0))), (bZ, .inl (E.2.2.2.2, 16, .inl (fun _ => 0)))] H → va_D A [(r, .inr (3, [.int 0, .int 0, .int 0, .int 0, .ref bK, .ref bB, .ref bP, .ref bS, .ref bU, .ref bW, .ref bH, .ref bT, .ref bV, .ref bC, .ref bL, .int 0, .ref bZ, .int 0])), (bK, .inl (E.2.1, 16, .inl (fun _ => 0))), (bB, .inl (E.2.1, 16, .inl (fun _ => 0))), (bP, .inl (E.2.1, 16, .inl (fun _ => 0))), (bS, .inl (E.2.1, 256, .inl (sA b))), (bU, .inl (E.2.1, 256, .inl (uA b))), (bW, .inl (E.2.1, 176, .inl (fun _ => 0))), (bH, .inl (E.2.1, 32, .inl (fun _ => 0))), (bT, .inl (E.2.1, 16, .inl (fun _ => 0))), (bV, .inl (E.2.1, 16, .inl (fun _ => 0))), (bC, .inl (E.2.1, 16, .inl (fun _ => 0))), (bL, .inl (E.2.1, 16, .inl (fun _ => 0))), (bZ, .inl (E.2.2.2.2, 16, .inl (fun _ => 0)))] → va_S A s.heap H locs → lv_has ls 6 [(4, .int (nI i)), (3, .int (vM (cM (nI b) 255) i)), (0, .ref r), (1, .int (nI b)), (2, .int (cM (nI b) 255))] → W p l e R s m args below meth c H locs cells slots Q (F0 m 157 ls []) := by
  have hx := B.1
  have hb := B.2.1
  intro fu
  induction fu with
  | zero =>
    intro i h1 h2
    exact absurd h2 (by omega)
  | succ fu ih =>
    intro i hi hin H locs ls hP hD hS hl
    refine lv_iload hx hb dX3_init_157 (lv_at hl 0 rfl) ?_
    refine lv_bipush (v := 8) hx hb dX3_init_159 (by decide) ?_
    refine lv_icmp_ge (tgt := 234) hx hb dX3_init_161 (by decide) (fun c_161 => ?_) (fun c_161 => ?_)
    · have hj : i = 8 := by have := ge_t (b := 8) c_161 (by omega) (by omega); omega
      subst hj
      exact kk _ _ _ hP hD hS hl
    · have hj : i < 8 := ge_f (b := 8) c_161 (by omega) (by omega)
      refine lv_iload_n hx hb dX3_init_164 rfl (lv_at hl 4 rfl) ?_
      refine lv_iload hx hb dX3_init_165 (lv_at hl 0 rfl) ?_
      refine lv_ishr hx hb dX3_init_167 ?_
      refine lv_iload_n hx hb dX3_init_168 rfl (lv_at hl 4 rfl) ?_
      refine lv_iload hx hb dX3_init_169 (lv_at hl 0 rfl) ?_
      refine lv_iconst (v := 4) hx hb dX3_init_171 (by decide) ?_
      refine lv_iadd hx hb dX3_init_172 ?_
      refine lv_bipush (v := 8) hx hb dX3_init_173 (by decide) ?_
      refine lv_irem hx hb dX3_init_175 (by decide) ?_
      refine lv_ishr hx hb dX3_init_176 ?_
      refine lv_iadd hx hb dX3_init_177 ?_
      refine lv_iload_n hx hb dX3_init_178 rfl (lv_at hl 4 rfl) ?_
      refine lv_iload hx hb dX3_init_179 (lv_at hl 0 rfl) ?_
      refine lv_iconst (v := 5) hx hb dX3_init_181 (by decide) ?_
      refine lv_iadd hx hb dX3_init_182 ?_
      refine lv_bipush (v := 8) hx hb dX3_init_183 (by decide) ?_
      refine lv_irem hx hb dX3_init_185 (by decide) ?_
      refine lv_ishr hx hb dX3_init_186 ?_
      refine lv_iadd hx hb dX3_init_187 ?_
      refine lv_iload_n hx hb dX3_init_188 rfl (lv_at hl 4 rfl) ?_
      refine lv_iload hx hb dX3_init_189 (lv_at hl 0 rfl) ?_
      refine lv_bipush (v := 6) hx hb dX3_init_191 (by decide) ?_
      refine lv_iadd hx hb dX3_init_193 ?_
      refine lv_bipush (v := 8) hx hb dX3_init_194 (by decide) ?_
      refine lv_irem hx hb dX3_init_196 (by decide) ?_
      refine lv_ishr hx hb dX3_init_197 ?_
      refine lv_iadd hx hb dX3_init_198 ?_
      refine lv_iload_n hx hb dX3_init_199 rfl (lv_at hl 4 rfl) ?_
      refine lv_iload hx hb dX3_init_200 (lv_at hl 0 rfl) ?_
      refine lv_bipush (v := 7) hx hb dX3_init_202 (by decide) ?_
      refine lv_iadd hx hb dX3_init_204 ?_
      refine lv_bipush (v := 8) hx hb dX3_init_205 (by decide) ?_
      refine lv_irem hx hb dX3_init_207 (by decide) ?_
      refine lv_ishr hx hb dX3_init_208 ?_
      refine lv_iadd hx hb dX3_init_209 ?_
      refine lv_bipush (v := 99) hx hb dX3_init_210 (by decide) ?_
      refine lv_iload hx hb dX3_init_212 (lv_at hl 0 rfl) ?_
      refine lv_ishr hx hb dX3_init_214 ?_
      refine lv_iadd hx hb dX3_init_215 ?_
      refine lv_istore (lv' := [(5, .int (((((((cM (nI b) 255) >>> ((nI i) &&& 31)) + ((cM (nI b) 255) >>> ((((nI i) + 4) - ((nI i) + 4) / 8 * 8) &&& 31))) + ((cM (nI b) 255) >>> ((((nI i) + 5) - ((nI i) + 5) / 8 * 8) &&& 31))) + ((cM (nI b) 255) >>> ((((nI i) + 6) - ((nI i) + 6) / 8 * 8) &&& 31))) + ((cM (nI b) 255) >>> ((((nI i) + 7) - ((nI i) + 7) / 8 * 8) &&& 31))) + (99 >>> ((nI i) &&& 31)))), (4, .int (nI i)), (3, .int (vM (cM (nI b) 255) i)), (0, .ref r), (1, .int (nI b)), (2, .int (cM (nI b) 255))]) hx hb dX3_init_216 hl (by decide) rfl (fun ls hl => ?_)
      refine lv_iload_n hx hb dX3_init_218 rfl (lv_at hl 2 rfl) ?_
      refine lv_iload hx hb dX3_init_219 (lv_at hl 0 rfl) ?_
      refine lv_iconst (v := 2) hx hb dX3_init_221 (by decide) ?_
      refine lv_irem hx hb dX3_init_222 (by decide) ?_
      refine lv_iload hx hb dX3_init_223 (lv_at hl 1 rfl) ?_
      refine lv_ishl hx hb dX3_init_225 ?_
      refine lv_iadd hx hb dX3_init_226 ?_
      refine lv_istore_n (lv' := [(3, .int ((vM (cM (nI b) 255) i) + (((((((((cM (nI b) 255) >>> ((nI i) &&& 31)) + ((cM (nI b) 255) >>> ((((nI i) + 4) - ((nI i) + 4) / 8 * 8) &&& 31))) + ((cM (nI b) 255) >>> ((((nI i) + 5) - ((nI i) + 5) / 8 * 8) &&& 31))) + ((cM (nI b) 255) >>> ((((nI i) + 6) - ((nI i) + 6) / 8 * 8) &&& 31))) + ((cM (nI b) 255) >>> ((((nI i) + 7) - ((nI i) + 7) / 8 * 8) &&& 31))) + (99 >>> ((nI i) &&& 31))) - (((((((cM (nI b) 255) >>> ((nI i) &&& 31)) + ((cM (nI b) 255) >>> ((((nI i) + 4) - ((nI i) + 4) / 8 * 8) &&& 31))) + ((cM (nI b) 255) >>> ((((nI i) + 5) - ((nI i) + 5) / 8 * 8) &&& 31))) + ((cM (nI b) 255) >>> ((((nI i) + 6) - ((nI i) + 6) / 8 * 8) &&& 31))) + ((cM (nI b) 255) >>> ((((nI i) + 7) - ((nI i) + 7) / 8 * 8) &&& 31))) + (99 >>> ((nI i) &&& 31))) / 2 * 2) <<< ((nI i) &&& 31)))), (5, .int (((((((cM (nI b) 255) >>> ((nI i) &&& 31)) + ((cM (nI b) 255) >>> ((((nI i) + 4) - ((nI i) + 4) / 8 * 8) &&& 31))) + ((cM (nI b) 255) >>> ((((nI i) + 5) - ((nI i) + 5) / 8 * 8) &&& 31))) + ((cM (nI b) 255) >>> ((((nI i) + 6) - ((nI i) + 6) / 8 * 8) &&& 31))) + ((cM (nI b) 255) >>> ((((nI i) + 7) - ((nI i) + 7) / 8 * 8) &&& 31))) + (99 >>> ((nI i) &&& 31)))), (4, .int (nI i)), (0, .ref r), (1, .int (nI b)), (2, .int (cM (nI b) 255))]) hx hb dX3_init_227 rfl hl (by decide) rfl (fun ls hl => ?_)
      refine lv_iinc (v := (nI (i + 1))) (lv' := [(4, .int (nI (i + 1))), (3, .int ((vM (cM (nI b) 255) i) + (((((((((cM (nI b) 255) >>> ((nI i) &&& 31)) + ((cM (nI b) 255) >>> ((((nI i) + 4) - ((nI i) + 4) / 8 * 8) &&& 31))) + ((cM (nI b) 255) >>> ((((nI i) + 5) - ((nI i) + 5) / 8 * 8) &&& 31))) + ((cM (nI b) 255) >>> ((((nI i) + 6) - ((nI i) + 6) / 8 * 8) &&& 31))) + ((cM (nI b) 255) >>> ((((nI i) + 7) - ((nI i) + 7) / 8 * 8) &&& 31))) + (99 >>> ((nI i) &&& 31))) - (((((((cM (nI b) 255) >>> ((nI i) &&& 31)) + ((cM (nI b) 255) >>> ((((nI i) + 4) - ((nI i) + 4) / 8 * 8) &&& 31))) + ((cM (nI b) 255) >>> ((((nI i) + 5) - ((nI i) + 5) / 8 * 8) &&& 31))) + ((cM (nI b) 255) >>> ((((nI i) + 6) - ((nI i) + 6) / 8 * 8) &&& 31))) + ((cM (nI b) 255) >>> ((((nI i) + 7) - ((nI i) + 7) / 8 * 8) &&& 31))) + (99 >>> ((nI i) &&& 31))) / 2 * 2) <<< ((nI i) &&& 31)))), (5, .int (((((((cM (nI b) 255) >>> ((nI i) &&& 31)) + ((cM (nI b) 255) >>> ((((nI i) + 4) - ((nI i) + 4) / 8 * 8) &&& 31))) + ((cM (nI b) 255) >>> ((((nI i) + 5) - ((nI i) + 5) / 8 * 8) &&& 31))) + ((cM (nI b) 255) >>> ((((nI i) + 6) - ((nI i) + 6) / 8 * 8) &&& 31))) + ((cM (nI b) 255) >>> ((((nI i) + 7) - ((nI i) + 7) / 8 * 8) &&& 31))) + (99 >>> ((nI i) &&& 31)))), (0, .ref r), (1, .int (nI b)), (2, .int (cM (nI b) 255))]) hx hb dX3_init_228 hl (k := 2) rfl (ii_1 i) (by decide) rfl (fun ls hl => ?_)
      refine lv_goto (tgt := 157) hx hb dX3_init_231 (by decide) ?_
      have hP : va_P E.1 classes [(r, .inr (3, [.int 0, .int 0, .int 0, .int 0, .ref bK, .ref bB, .ref bP, .ref bS, .ref bU, .ref bW, .ref bH, .ref bT, .ref bV, .ref bC, .ref bL, .int 0, .ref bZ, .int 0])), (bK, .inl (E.2.1, 16, .inl (fun _ => 0))), (bB, .inl (E.2.1, 16, .inl (fun _ => 0))), (bP, .inl (E.2.1, 16, .inl (fun _ => 0))), (bS, .inl (E.2.1, 256, .inl (sA b))), (bU, .inl (E.2.1, 256, .inl (uA b))), (bW, .inl (E.2.1, 176, .inl (fun _ => 0))), (bH, .inl (E.2.1, 32, .inl (fun _ => 0))), (bT, .inl (E.2.1, 16, .inl (fun _ => 0))), (bV, .inl (E.2.1, 16, .inl (fun _ => 0))), (bC, .inl (E.2.1, 16, .inl (fun _ => 0))), (bL, .inl (E.2.1, 16, .inl (fun _ => 0))), (bZ, .inl (E.2.2.2.2, 16, .inl (fun _ => 0)))] _ := hP
      have hD : va_D A [(r, .inr (3, [.int 0, .int 0, .int 0, .int 0, .ref bK, .ref bB, .ref bP, .ref bS, .ref bU, .ref bW, .ref bH, .ref bT, .ref bV, .ref bC, .ref bL, .int 0, .ref bZ, .int 0])), (bK, .inl (E.2.1, 16, .inl (fun _ => 0))), (bB, .inl (E.2.1, 16, .inl (fun _ => 0))), (bP, .inl (E.2.1, 16, .inl (fun _ => 0))), (bS, .inl (E.2.1, 256, .inl (sA b))), (bU, .inl (E.2.1, 256, .inl (uA b))), (bW, .inl (E.2.1, 176, .inl (fun _ => 0))), (bH, .inl (E.2.1, 32, .inl (fun _ => 0))), (bT, .inl (E.2.1, 16, .inl (fun _ => 0))), (bV, .inl (E.2.1, 16, .inl (fun _ => 0))), (bC, .inl (E.2.1, 16, .inl (fun _ => 0))), (bL, .inl (E.2.1, 16, .inl (fun _ => 0))), (bZ, .inl (E.2.2.2.2, 16, .inl (fun _ => 0)))] := hD
      exact ih (i + 1) (by omega) (by omega) _ _ _ hP hD hS (lv_sub hl [0, 1, 3, 4, 5] rfl)
set_option maxHeartbeats 4000000 in
set_option maxRecDepth 100000 in
theorem lp_table {p : Program} {l : Launch} {e : Env} {R : Room} {s : State} {m : MethodId} {args : Array Value} {below : List Frame} {meth : Method} {c : Code} {cells slots : Nat} {Q : State → Prop} {E : EE} {A : Nat → Prop} {r bK bB bP bS bU bW bH bT bV bC bL bZ : Nat} (B : Bd p s m args meth c cX3_init 6 none RX3 E A) (hf : cells ≤ R.cells ∧ slots ≤ R.slots) (hR : 1 ≤ R.frames ∧ 24 ≤ R.locals) 
    (kk : ∀ (H : Heap) (locs : List Loc) (ls : Array Slot), va_P E.1 classes [(r, .inr (3, [.int 0, .int 0, .int 0, .int 0, .ref bK, .ref bB, .ref bP, .ref bS, .ref bU, .ref bW, .ref bH, .ref bT, .ref bV, .ref bC, .ref bL, .int 0, .ref bZ, .int 0])), (bK, .inl (E.2.1, 16, .inl (fun _ => 0))), (bB, .inl (E.2.1, 16, .inl (fun _ => 0))), (bP, .inl (E.2.1, 16, .inl (fun _ => 0))), (bS, .inl (E.2.1, 256, .inl (sA 256))), (bU, .inl (E.2.1, 256, .inl (uA 256))), (bW, .inl (E.2.1, 176, .inl (fun _ => 0))), (bH, .inl (E.2.1, 32, .inl (fun _ => 0))), (bT, .inl (E.2.1, 16, .inl (fun _ => 0))), (bV, .inl (E.2.1, 16, .inl (fun _ => 0))), (bC, .inl (E.2.1, 16, .inl (fun _ => 0))), (bL, .inl (E.2.1, 16, .inl (fun _ => 0))), (bZ, .inl (E.2.2.2.2, 16, .inl (fun _ => 0)))] H → va_D A [(r, .inr (3, [.int 0, .int 0, .int 0, .int 0, .ref bK, .ref bB, .ref bP, .ref bS, .ref bU, .ref bW, .ref bH, .ref bT, .ref bV, .ref bC, .ref bL, .int 0, .ref bZ, .int 0])), (bK, .inl (E.2.1, 16, .inl (fun _ => 0))), (bB, .inl (E.2.1, 16, .inl (fun _ => 0))), (bP, .inl (E.2.1, 16, .inl (fun _ => 0))), (bS, .inl (E.2.1, 256, .inl (sA 256))), (bU, .inl (E.2.1, 256, .inl (uA 256))), (bW, .inl (E.2.1, 176, .inl (fun _ => 0))), (bH, .inl (E.2.1, 32, .inl (fun _ => 0))), (bT, .inl (E.2.1, 16, .inl (fun _ => 0))), (bV, .inl (E.2.1, 16, .inl (fun _ => 0))), (bC, .inl (E.2.1, 16, .inl (fun _ => 0))), (bL, .inl (E.2.1, 16, .inl (fun _ => 0))), (bZ, .inl (E.2.2.2.2, 16, .inl (fun _ => 0)))] → va_S A s.heap H locs → lv_has ls 6 [(1, .int (nI 256)), (0, .ref r)] → W p l e R s m args below meth c H locs cells slots Q (F0 m 254 ls [])) :
    ∀ (fu i : Nat), i ≤ 256 → 256 < i + fu → ∀ (H : Heap) (locs : List Loc) (ls : Array Slot), va_P E.1 classes [(r, .inr (3, [.int 0, .int 0, .int 0, .int 0, .ref bK, .ref bB, .ref bP, .ref bS, .ref bU, .ref bW, .ref bH, .ref bT, .ref bV, .ref bC, .ref bL, .int 0, .ref bZ, .int 0])), (bK, .inl (E.2.1, 16, .inl (fun _ => 0))), (bB, .inl (E.2.1, 16, .inl (fun _ => 0))), (bP, .inl (E.2.1, 16, .inl (fun _ => 0))), (bS, .inl (E.2.1, 256, .inl (sA i))), (bU, .inl (E.2.1, 256, .inl (uA i))), (bW, .inl (E.2.1, 176, .inl (fun _ => 0))), (bH, .inl (E.2.1, 32, .inl (fun _ => 0))), (bT, .inl (E.2.1, 16, .inl (fun _ => 0))), (bV, .inl (E.2.1, 16, .inl (fun _ => 0))), (bC, .inl (E.2.1, 16, .inl (fun _ => 0))), (bL, .inl (E.2.1, 16, .inl (fun _ => 0))), (bZ, .inl (E.2.2.2.2, 16, .inl (fun _ => 0)))] H → va_D A [(r, .inr (3, [.int 0, .int 0, .int 0, .int 0, .ref bK, .ref bB, .ref bP, .ref bS, .ref bU, .ref bW, .ref bH, .ref bT, .ref bV, .ref bC, .ref bL, .int 0, .ref bZ, .int 0])), (bK, .inl (E.2.1, 16, .inl (fun _ => 0))), (bB, .inl (E.2.1, 16, .inl (fun _ => 0))), (bP, .inl (E.2.1, 16, .inl (fun _ => 0))), (bS, .inl (E.2.1, 256, .inl (sA i))), (bU, .inl (E.2.1, 256, .inl (uA i))), (bW, .inl (E.2.1, 176, .inl (fun _ => 0))), (bH, .inl (E.2.1, 32, .inl (fun _ => 0))), (bT, .inl (E.2.1, 16, .inl (fun _ => 0))), (bV, .inl (E.2.1, 16, .inl (fun _ => 0))), (bC, .inl (E.2.1, 16, .inl (fun _ => 0))), (bL, .inl (E.2.1, 16, .inl (fun _ => 0))), (bZ, .inl (E.2.2.2.2, 16, .inl (fun _ => 0)))] → va_S A s.heap H locs → lv_has ls 6 [(1, .int (nI i)), (0, .ref r)] → W p l e R s m args below meth c H locs cells slots Q (F0 m 105 ls []) := by
  have hx := B.1
  have hb := B.2.1
  intro fu
  induction fu with
  | zero =>
    intro i h1 h2
    exact absurd h2 (by omega)
  | succ fu ih =>
    intro i hi hin H locs ls hP hD hS hl
    refine lv_iload_n hx hb dX3_init_105 rfl (lv_at hl 0 rfl) ?_
    refine lv_sipush (v := 256) hx hb dX3_init_106 (by decide) ?_
    refine lv_icmp_ge (tgt := 254) hx hb dX3_init_109 (by decide) (fun c_109 => ?_) (fun c_109 => ?_)
    · have hj : i = 256 := by have := ge_t (b := 256) c_109 (by omega) (by omega); omega
      subst hj
      exact kk _ _ _ hP hD hS hl
    · have hj : i < 256 := ge_f (b := 256) c_109 (by omega) (by omega)
      refine lv_iconst (v := 0) hx hb dX3_init_112 (by decide) ?_
      refine lv_istore_n (lv' := [(2, .int 0), (1, .int (nI i)), (0, .ref r)]) hx hb dX3_init_113 rfl hl (by decide) rfl (fun ls hl => ?_)
      refine lv_iconst (v := 1) hx hb dX3_init_114 (by decide) ?_
      refine lv_istore_n (lv' := [(3, .int 1), (2, .int 0), (1, .int (nI i)), (0, .ref r)]) hx hb dX3_init_115 rfl hl (by decide) rfl (fun ls hl => ?_)
      refine lp_search B hf hR (fun H locs ls hP hD hS hl => ?_) 256 0 (by omega) (by omega) _ _ _ hP hD hS (lv_sub hl [0, 1, 3, 2] rfl)
      refine lv_iconst (v := 0) hx hb dX3_init_152 (by decide) ?_
      refine lv_istore_n (lv' := [(3, .int 0), (0, .ref r), (1, .int (nI i)), (2, .int (cM (nI i) 255))]) hx hb dX3_init_153 rfl hl (by decide) rfl (fun ls hl => ?_)
      refine lv_iconst (v := 0) hx hb dX3_init_154 (by decide) ?_
      refine lv_istore (lv' := [(4, .int 0), (3, .int 0), (0, .ref r), (1, .int (nI i)), (2, .int (cM (nI i) 255))]) hx hb dX3_init_155 hl (by decide) rfl (fun ls hl => ?_)
      refine lp_bits B hf (fun H locs ls hP hD hS hl => ?_) 9 0 (by omega) (by omega) _ _ _ hP hD hS (lv_sub hl [0, 1, 2, 3, 4] rfl)
      refine lv_aload_n hx hb dX3_init_234 rfl (lv_at hl 2 rfl) ?_
      refine x_get B hP 0 rfl rfl i_X3 7 (by decide) g_296 rfl dX3_init_235 ?_
      refine lv_iload_n hx hb dX3_init_238 rfl (lv_at hl 3 rfl) ?_
      refine lv_iload_n hx hb dX3_init_239 rfl (lv_at hl 1 rfl) ?_
      refine x_ast B hP hD hS 4 rfl i rfl (by omega) (by decide) dX3_init_240 (fun H locs hP hD hS => ?_)
      have hP : va_P E.1 classes [(r, .inr (3, [.int 0, .int 0, .int 0, .int 0, .ref bK, .ref bB, .ref bP, .ref bS, .ref bU, .ref bW, .ref bH, .ref bT, .ref bV, .ref bC, .ref bL, .int 0, .ref bZ, .int 0])), (bK, .inl (E.2.1, 16, .inl (fun _ => 0))), (bB, .inl (E.2.1, 16, .inl (fun _ => 0))), (bP, .inl (E.2.1, 16, .inl (fun _ => 0))), (bS, .inl (E.2.1, 256, .inl (upd (sA i) i (sM i)))), (bU, .inl (E.2.1, 256, .inl (uA i))), (bW, .inl (E.2.1, 176, .inl (fun _ => 0))), (bH, .inl (E.2.1, 32, .inl (fun _ => 0))), (bT, .inl (E.2.1, 16, .inl (fun _ => 0))), (bV, .inl (E.2.1, 16, .inl (fun _ => 0))), (bC, .inl (E.2.1, 16, .inl (fun _ => 0))), (bL, .inl (E.2.1, 16, .inl (fun _ => 0))), (bZ, .inl (E.2.2.2.2, 16, .inl (fun _ => 0)))] _ := hP
      have hD : va_D A [(r, .inr (3, [.int 0, .int 0, .int 0, .int 0, .ref bK, .ref bB, .ref bP, .ref bS, .ref bU, .ref bW, .ref bH, .ref bT, .ref bV, .ref bC, .ref bL, .int 0, .ref bZ, .int 0])), (bK, .inl (E.2.1, 16, .inl (fun _ => 0))), (bB, .inl (E.2.1, 16, .inl (fun _ => 0))), (bP, .inl (E.2.1, 16, .inl (fun _ => 0))), (bS, .inl (E.2.1, 256, .inl (upd (sA i) i (sM i)))), (bU, .inl (E.2.1, 256, .inl (uA i))), (bW, .inl (E.2.1, 176, .inl (fun _ => 0))), (bH, .inl (E.2.1, 32, .inl (fun _ => 0))), (bT, .inl (E.2.1, 16, .inl (fun _ => 0))), (bV, .inl (E.2.1, 16, .inl (fun _ => 0))), (bC, .inl (E.2.1, 16, .inl (fun _ => 0))), (bL, .inl (E.2.1, 16, .inl (fun _ => 0))), (bZ, .inl (E.2.2.2.2, 16, .inl (fun _ => 0)))] := hD
      refine lv_aload_n hx hb dX3_init_241 rfl (lv_at hl 2 rfl) ?_
      refine x_get B hP 0 rfl rfl i_X3 8 (by decide) g_297 rfl dX3_init_242 ?_
      refine lv_iload_n hx hb dX3_init_245 rfl (lv_at hl 1 rfl) ?_
      refine lv_iload_n hx hb dX3_init_246 rfl (lv_at hl 3 rfl) ?_
      refine x_ast B hP hD hS 5 rfl ((sM i).toNatClampNeg) (((sM_by i)).1) (((sM_by i)).2) (by decide) dX3_init_247 (fun H locs hP hD hS => ?_)
      have hP : va_P E.1 classes [(r, .inr (3, [.int 0, .int 0, .int 0, .int 0, .ref bK, .ref bB, .ref bP, .ref bS, .ref bU, .ref bW, .ref bH, .ref bT, .ref bV, .ref bC, .ref bL, .int 0, .ref bZ, .int 0])), (bK, .inl (E.2.1, 16, .inl (fun _ => 0))), (bB, .inl (E.2.1, 16, .inl (fun _ => 0))), (bP, .inl (E.2.1, 16, .inl (fun _ => 0))), (bS, .inl (E.2.1, 256, .inl (upd (sA i) i (sM i)))), (bU, .inl (E.2.1, 256, .inl (upd (uA i) ((sM i).toNatClampNeg) (nI i)))), (bW, .inl (E.2.1, 176, .inl (fun _ => 0))), (bH, .inl (E.2.1, 32, .inl (fun _ => 0))), (bT, .inl (E.2.1, 16, .inl (fun _ => 0))), (bV, .inl (E.2.1, 16, .inl (fun _ => 0))), (bC, .inl (E.2.1, 16, .inl (fun _ => 0))), (bL, .inl (E.2.1, 16, .inl (fun _ => 0))), (bZ, .inl (E.2.2.2.2, 16, .inl (fun _ => 0)))] _ := hP
      have hD : va_D A [(r, .inr (3, [.int 0, .int 0, .int 0, .int 0, .ref bK, .ref bB, .ref bP, .ref bS, .ref bU, .ref bW, .ref bH, .ref bT, .ref bV, .ref bC, .ref bL, .int 0, .ref bZ, .int 0])), (bK, .inl (E.2.1, 16, .inl (fun _ => 0))), (bB, .inl (E.2.1, 16, .inl (fun _ => 0))), (bP, .inl (E.2.1, 16, .inl (fun _ => 0))), (bS, .inl (E.2.1, 256, .inl (upd (sA i) i (sM i)))), (bU, .inl (E.2.1, 256, .inl (upd (uA i) ((sM i).toNatClampNeg) (nI i)))), (bW, .inl (E.2.1, 176, .inl (fun _ => 0))), (bH, .inl (E.2.1, 32, .inl (fun _ => 0))), (bT, .inl (E.2.1, 16, .inl (fun _ => 0))), (bV, .inl (E.2.1, 16, .inl (fun _ => 0))), (bC, .inl (E.2.1, 16, .inl (fun _ => 0))), (bL, .inl (E.2.1, 16, .inl (fun _ => 0))), (bZ, .inl (E.2.2.2.2, 16, .inl (fun _ => 0)))] := hD
      refine lv_iinc (v := (nI (i + 1))) (lv' := [(1, .int (nI (i + 1))), (4, .int (nI 8)), (3, .int (sM i)), (0, .ref r), (2, .int (cM (nI i) 255))]) hx hb dX3_init_248 hl (k := 3) rfl (ii_1 i) (by decide) rfl (fun ls hl => ?_)
      refine lv_goto (tgt := 105) hx hb dX3_init_251 (by decide) ?_
      have hP : va_P E.1 classes [(r, .inr (3, [.int 0, .int 0, .int 0, .int 0, .ref bK, .ref bB, .ref bP, .ref bS, .ref bU, .ref bW, .ref bH, .ref bT, .ref bV, .ref bC, .ref bL, .int 0, .ref bZ, .int 0])), (bK, .inl (E.2.1, 16, .inl (fun _ => 0))), (bB, .inl (E.2.1, 16, .inl (fun _ => 0))), (bP, .inl (E.2.1, 16, .inl (fun _ => 0))), (bS, .inl (E.2.1, 256, .inl (sA (i + 1)))), (bU, .inl (E.2.1, 256, .inl (uA (i + 1)))), (bW, .inl (E.2.1, 176, .inl (fun _ => 0))), (bH, .inl (E.2.1, 32, .inl (fun _ => 0))), (bT, .inl (E.2.1, 16, .inl (fun _ => 0))), (bV, .inl (E.2.1, 16, .inl (fun _ => 0))), (bC, .inl (E.2.1, 16, .inl (fun _ => 0))), (bL, .inl (E.2.1, 16, .inl (fun _ => 0))), (bZ, .inl (E.2.2.2.2, 16, .inl (fun _ => 0)))] _ := hP
      have hD : va_D A [(r, .inr (3, [.int 0, .int 0, .int 0, .int 0, .ref bK, .ref bB, .ref bP, .ref bS, .ref bU, .ref bW, .ref bH, .ref bT, .ref bV, .ref bC, .ref bL, .int 0, .ref bZ, .int 0])), (bK, .inl (E.2.1, 16, .inl (fun _ => 0))), (bB, .inl (E.2.1, 16, .inl (fun _ => 0))), (bP, .inl (E.2.1, 16, .inl (fun _ => 0))), (bS, .inl (E.2.1, 256, .inl (sA (i + 1)))), (bU, .inl (E.2.1, 256, .inl (uA (i + 1)))), (bW, .inl (E.2.1, 176, .inl (fun _ => 0))), (bH, .inl (E.2.1, 32, .inl (fun _ => 0))), (bT, .inl (E.2.1, 16, .inl (fun _ => 0))), (bV, .inl (E.2.1, 16, .inl (fun _ => 0))), (bC, .inl (E.2.1, 16, .inl (fun _ => 0))), (bL, .inl (E.2.1, 16, .inl (fun _ => 0))), (bZ, .inl (E.2.2.2.2, 16, .inl (fun _ => 0)))] := hD
      exact ih (i + 1) (by omega) (by omega) _ _ _ hP hD hS (lv_sub hl [0, 3] rfl)
set_option maxHeartbeats 4000000 in
set_option maxRecDepth 100000 in
/-- BlockCodeModel() -/
theorem c_X3_init (l : Launch) (E : EE) (r : Nat) : Cn l yX3_init (.code yX3_init cX3_init 6 none) ({ frames := 1, cells := 12, slots := 848, locals := 24 }) E [.ref r] [(r, .inr (3, [.int 0, .int 0, .int 0, .int 0, .null, .null, .null, .null, .null, .null, .null, .null, .null, .null, .null, .int 0, .null, .int 0]))] (fun ws' => ∃ bK bB bP bS bU bW bH bT bV bC bL bZ : Nat, ws' = [(r, .inr (3, [.int 0, .int 0, .int 0, .int 0, .ref bK, .ref bB, .ref bP, .ref bS, .ref bU, .ref bW, .ref bH, .ref bT, .ref bV, .ref bC, .ref bL, .int 0, .ref bZ, .int 0])), (bK, .inl (E.2.1, 16, .inl (fun _ => 0))), (bB, .inl (E.2.1, 16, .inl (fun _ => 0))), (bP, .inl (E.2.1, 16, .inl (fun _ => 0))), (bS, .inl (E.2.1, 256, .inl (sA 256))), (bU, .inl (E.2.1, 256, .inl (uA 256))), (bW, .inl (E.2.1, 176, .inl (fun _ => 0))), (bH, .inl (E.2.1, 32, .inl (fun _ => 0))), (bT, .inl (E.2.1, 16, .inl (fun _ => 0))), (bV, .inl (E.2.1, 16, .inl (fun _ => 0))), (bC, .inl (E.2.1, 16, .inl (fun _ => 0))), (bL, .inl (E.2.1, 16, .inl (fun _ => 0))), (bZ, .inl (E.2.2.2.2, 16, .inl (fun _ => 0)))]) := by
  refine Cn.of (by decide) (Nat.le_of_ble_eq_true rfl) ?_
  intro p e s m below meth c A ls B hmn hP hD hS hl
  have hl : lv_has ls 6 [(0, .ref r)] := hl
  have B : Bd p s m _ meth c cX3_init 6 none RX3 E A := B
  have hx := B.1
  have hb := B.2.1
  have hP : va_P E.1 classes [(r, .inr (3, [.int 0, .int 0, .int 0, .int 0, .null, .null, .null, .null, .null, .null, .null, .null, .null, .null, .null, .int 0, .null, .int 0]))] _ := hP
  have hD : va_D A [(r, .inr (3, [.int 0, .int 0, .int 0, .int 0, .null, .null, .null, .null, .null, .null, .null, .null, .null, .null, .null, .int 0, .null, .int 0]))] := hD
  refine lv_aload_n hx hb dX3_init_0 rfl (lv_at hl 0 rfl) ?_
  refine x_obj B g_285 w_obj hl.1 (Nat.le_of_ble_eq_true rfl) (by decide) dX3_init_1 ?_
  refine lv_aload_n hx hb dX3_init_4 rfl (lv_at hl 0 rfl) ?_
  refine lv_bipush (v := 16) hx hb dX3_init_5 (by decide) ?_
  refine x_newa B hP hD hS g_45 16 rfl (by decide) (by decide) (by decide) dX3_init_7 (fun q20 H hP hD hS => ?_)
  have hP : va_P E.1 classes [(r, .inr (3, [.int 0, .int 0, .int 0, .int 0, .null, .null, .null, .null, .null, .null, .null, .null, .null, .null, .null, .int 0, .null, .int 0])), (q20, .inl (E.2.1, 16, .inl (fun _ => 0)))] _ := hP
  have hD : va_D A [(r, .inr (3, [.int 0, .int 0, .int 0, .int 0, .null, .null, .null, .null, .null, .null, .null, .null, .null, .null, .null, .int 0, .null, .int 0])), (q20, .inl (E.2.1, 16, .inl (fun _ => 0)))] := hD
  refine W.widen (k := 1) (n := 16) (by decide) (by decide) ?_
  refine x_putF B hP hD hS 0 rfl rfl i_X3 tyX3 tyX3_ok nmX3 4 (by decide) g_293 rfl hmn rfl rfl rfl (Nat.le_of_ble_eq_true rfl) dX3_init_9 (fun H locs hP hD hS => ?_)
  have hP : va_P E.1 classes [(r, .inr (3, [.int 0, .int 0, .int 0, .int 0, .ref q20, .null, .null, .null, .null, .null, .null, .null, .null, .null, .null, .int 0, .null, .int 0])), (q20, .inl (E.2.1, 16, .inl (fun _ => 0)))] _ := hP
  have hD : va_D A [(r, .inr (3, [.int 0, .int 0, .int 0, .int 0, .ref q20, .null, .null, .null, .null, .null, .null, .null, .null, .null, .null, .int 0, .null, .int 0])), (q20, .inl (E.2.1, 16, .inl (fun _ => 0)))] := hD
  refine lv_aload_n hx hb dX3_init_12 rfl (lv_at hl 0 rfl) ?_
  refine lv_bipush (v := 16) hx hb dX3_init_13 (by decide) ?_
  refine x_newa B hP hD hS g_45 16 rfl (by decide) (by decide) (by decide) dX3_init_15 (fun q21 H hP hD hS => ?_)
  have hP : va_P E.1 classes [(r, .inr (3, [.int 0, .int 0, .int 0, .int 0, .ref q20, .null, .null, .null, .null, .null, .null, .null, .null, .null, .null, .int 0, .null, .int 0])), (q20, .inl (E.2.1, 16, .inl (fun _ => 0))), (q21, .inl (E.2.1, 16, .inl (fun _ => 0)))] _ := hP
  have hD : va_D A [(r, .inr (3, [.int 0, .int 0, .int 0, .int 0, .ref q20, .null, .null, .null, .null, .null, .null, .null, .null, .null, .null, .int 0, .null, .int 0])), (q20, .inl (E.2.1, 16, .inl (fun _ => 0))), (q21, .inl (E.2.1, 16, .inl (fun _ => 0)))] := hD
  refine W.widen (k := 2) (n := 32) (by decide) (by decide) ?_
  refine x_putF B hP hD hS 0 rfl rfl i_X3 tyX3 tyX3_ok nmX3 5 (by decide) g_294 rfl hmn rfl rfl rfl (Nat.le_of_ble_eq_true rfl) dX3_init_17 (fun H locs hP hD hS => ?_)
  have hP : va_P E.1 classes [(r, .inr (3, [.int 0, .int 0, .int 0, .int 0, .ref q20, .ref q21, .null, .null, .null, .null, .null, .null, .null, .null, .null, .int 0, .null, .int 0])), (q20, .inl (E.2.1, 16, .inl (fun _ => 0))), (q21, .inl (E.2.1, 16, .inl (fun _ => 0)))] _ := hP
  have hD : va_D A [(r, .inr (3, [.int 0, .int 0, .int 0, .int 0, .ref q20, .ref q21, .null, .null, .null, .null, .null, .null, .null, .null, .null, .int 0, .null, .int 0])), (q20, .inl (E.2.1, 16, .inl (fun _ => 0))), (q21, .inl (E.2.1, 16, .inl (fun _ => 0)))] := hD
  refine lv_aload_n hx hb dX3_init_20 rfl (lv_at hl 0 rfl) ?_
  refine lv_bipush (v := 16) hx hb dX3_init_21 (by decide) ?_
  refine x_newa B hP hD hS g_45 16 rfl (by decide) (by decide) (by decide) dX3_init_23 (fun q22 H hP hD hS => ?_)
  have hP : va_P E.1 classes [(r, .inr (3, [.int 0, .int 0, .int 0, .int 0, .ref q20, .ref q21, .null, .null, .null, .null, .null, .null, .null, .null, .null, .int 0, .null, .int 0])), (q20, .inl (E.2.1, 16, .inl (fun _ => 0))), (q21, .inl (E.2.1, 16, .inl (fun _ => 0))), (q22, .inl (E.2.1, 16, .inl (fun _ => 0)))] _ := hP
  have hD : va_D A [(r, .inr (3, [.int 0, .int 0, .int 0, .int 0, .ref q20, .ref q21, .null, .null, .null, .null, .null, .null, .null, .null, .null, .int 0, .null, .int 0])), (q20, .inl (E.2.1, 16, .inl (fun _ => 0))), (q21, .inl (E.2.1, 16, .inl (fun _ => 0))), (q22, .inl (E.2.1, 16, .inl (fun _ => 0)))] := hD
  refine W.widen (k := 3) (n := 48) (by decide) (by decide) ?_
  refine x_putF B hP hD hS 0 rfl rfl i_X3 tyX3 tyX3_ok nmX3 6 (by decide) g_295 rfl hmn rfl rfl rfl (Nat.le_of_ble_eq_true rfl) dX3_init_25 (fun H locs hP hD hS => ?_)
  have hP : va_P E.1 classes [(r, .inr (3, [.int 0, .int 0, .int 0, .int 0, .ref q20, .ref q21, .ref q22, .null, .null, .null, .null, .null, .null, .null, .null, .int 0, .null, .int 0])), (q20, .inl (E.2.1, 16, .inl (fun _ => 0))), (q21, .inl (E.2.1, 16, .inl (fun _ => 0))), (q22, .inl (E.2.1, 16, .inl (fun _ => 0)))] _ := hP
  have hD : va_D A [(r, .inr (3, [.int 0, .int 0, .int 0, .int 0, .ref q20, .ref q21, .ref q22, .null, .null, .null, .null, .null, .null, .null, .null, .int 0, .null, .int 0])), (q20, .inl (E.2.1, 16, .inl (fun _ => 0))), (q21, .inl (E.2.1, 16, .inl (fun _ => 0))), (q22, .inl (E.2.1, 16, .inl (fun _ => 0)))] := hD
  refine lv_aload_n hx hb dX3_init_28 rfl (lv_at hl 0 rfl) ?_
  refine lv_sipush (v := 256) hx hb dX3_init_29 (by decide) ?_
  refine x_newa B hP hD hS g_45 256 rfl (by decide) (by decide) (by decide) dX3_init_32 (fun q23 H hP hD hS => ?_)
  have hP : va_P E.1 classes [(r, .inr (3, [.int 0, .int 0, .int 0, .int 0, .ref q20, .ref q21, .ref q22, .null, .null, .null, .null, .null, .null, .null, .null, .int 0, .null, .int 0])), (q20, .inl (E.2.1, 16, .inl (fun _ => 0))), (q21, .inl (E.2.1, 16, .inl (fun _ => 0))), (q22, .inl (E.2.1, 16, .inl (fun _ => 0))), (q23, .inl (E.2.1, 256, .inl (fun _ => 0)))] _ := hP
  have hD : va_D A [(r, .inr (3, [.int 0, .int 0, .int 0, .int 0, .ref q20, .ref q21, .ref q22, .null, .null, .null, .null, .null, .null, .null, .null, .int 0, .null, .int 0])), (q20, .inl (E.2.1, 16, .inl (fun _ => 0))), (q21, .inl (E.2.1, 16, .inl (fun _ => 0))), (q22, .inl (E.2.1, 16, .inl (fun _ => 0))), (q23, .inl (E.2.1, 256, .inl (fun _ => 0)))] := hD
  refine W.widen (k := 4) (n := 304) (by decide) (by decide) ?_
  refine x_putF B hP hD hS 0 rfl rfl i_X3 tyX3 tyX3_ok nmX3 7 (by decide) g_296 rfl hmn rfl rfl rfl (Nat.le_of_ble_eq_true rfl) dX3_init_34 (fun H locs hP hD hS => ?_)
  have hP : va_P E.1 classes [(r, .inr (3, [.int 0, .int 0, .int 0, .int 0, .ref q20, .ref q21, .ref q22, .ref q23, .null, .null, .null, .null, .null, .null, .null, .int 0, .null, .int 0])), (q20, .inl (E.2.1, 16, .inl (fun _ => 0))), (q21, .inl (E.2.1, 16, .inl (fun _ => 0))), (q22, .inl (E.2.1, 16, .inl (fun _ => 0))), (q23, .inl (E.2.1, 256, .inl (fun _ => 0)))] _ := hP
  have hD : va_D A [(r, .inr (3, [.int 0, .int 0, .int 0, .int 0, .ref q20, .ref q21, .ref q22, .ref q23, .null, .null, .null, .null, .null, .null, .null, .int 0, .null, .int 0])), (q20, .inl (E.2.1, 16, .inl (fun _ => 0))), (q21, .inl (E.2.1, 16, .inl (fun _ => 0))), (q22, .inl (E.2.1, 16, .inl (fun _ => 0))), (q23, .inl (E.2.1, 256, .inl (fun _ => 0)))] := hD
  refine lv_aload_n hx hb dX3_init_37 rfl (lv_at hl 0 rfl) ?_
  refine lv_sipush (v := 256) hx hb dX3_init_38 (by decide) ?_
  refine x_newa B hP hD hS g_45 256 rfl (by decide) (by decide) (by decide) dX3_init_41 (fun q24 H hP hD hS => ?_)
  have hP : va_P E.1 classes [(r, .inr (3, [.int 0, .int 0, .int 0, .int 0, .ref q20, .ref q21, .ref q22, .ref q23, .null, .null, .null, .null, .null, .null, .null, .int 0, .null, .int 0])), (q20, .inl (E.2.1, 16, .inl (fun _ => 0))), (q21, .inl (E.2.1, 16, .inl (fun _ => 0))), (q22, .inl (E.2.1, 16, .inl (fun _ => 0))), (q23, .inl (E.2.1, 256, .inl (fun _ => 0))), (q24, .inl (E.2.1, 256, .inl (fun _ => 0)))] _ := hP
  have hD : va_D A [(r, .inr (3, [.int 0, .int 0, .int 0, .int 0, .ref q20, .ref q21, .ref q22, .ref q23, .null, .null, .null, .null, .null, .null, .null, .int 0, .null, .int 0])), (q20, .inl (E.2.1, 16, .inl (fun _ => 0))), (q21, .inl (E.2.1, 16, .inl (fun _ => 0))), (q22, .inl (E.2.1, 16, .inl (fun _ => 0))), (q23, .inl (E.2.1, 256, .inl (fun _ => 0))), (q24, .inl (E.2.1, 256, .inl (fun _ => 0)))] := hD
  refine W.widen (k := 5) (n := 560) (by decide) (by decide) ?_
  refine x_putF B hP hD hS 0 rfl rfl i_X3 tyX3 tyX3_ok nmX3 8 (by decide) g_297 rfl hmn rfl rfl rfl (Nat.le_of_ble_eq_true rfl) dX3_init_43 (fun H locs hP hD hS => ?_)
  have hP : va_P E.1 classes [(r, .inr (3, [.int 0, .int 0, .int 0, .int 0, .ref q20, .ref q21, .ref q22, .ref q23, .ref q24, .null, .null, .null, .null, .null, .null, .int 0, .null, .int 0])), (q20, .inl (E.2.1, 16, .inl (fun _ => 0))), (q21, .inl (E.2.1, 16, .inl (fun _ => 0))), (q22, .inl (E.2.1, 16, .inl (fun _ => 0))), (q23, .inl (E.2.1, 256, .inl (fun _ => 0))), (q24, .inl (E.2.1, 256, .inl (fun _ => 0)))] _ := hP
  have hD : va_D A [(r, .inr (3, [.int 0, .int 0, .int 0, .int 0, .ref q20, .ref q21, .ref q22, .ref q23, .ref q24, .null, .null, .null, .null, .null, .null, .int 0, .null, .int 0])), (q20, .inl (E.2.1, 16, .inl (fun _ => 0))), (q21, .inl (E.2.1, 16, .inl (fun _ => 0))), (q22, .inl (E.2.1, 16, .inl (fun _ => 0))), (q23, .inl (E.2.1, 256, .inl (fun _ => 0))), (q24, .inl (E.2.1, 256, .inl (fun _ => 0)))] := hD
  refine lv_aload_n hx hb dX3_init_46 rfl (lv_at hl 0 rfl) ?_
  refine lv_sipush (v := 176) hx hb dX3_init_47 (by decide) ?_
  refine x_newa B hP hD hS g_45 176 rfl (by decide) (by decide) (by decide) dX3_init_50 (fun q25 H hP hD hS => ?_)
  have hP : va_P E.1 classes [(r, .inr (3, [.int 0, .int 0, .int 0, .int 0, .ref q20, .ref q21, .ref q22, .ref q23, .ref q24, .null, .null, .null, .null, .null, .null, .int 0, .null, .int 0])), (q20, .inl (E.2.1, 16, .inl (fun _ => 0))), (q21, .inl (E.2.1, 16, .inl (fun _ => 0))), (q22, .inl (E.2.1, 16, .inl (fun _ => 0))), (q23, .inl (E.2.1, 256, .inl (fun _ => 0))), (q24, .inl (E.2.1, 256, .inl (fun _ => 0))), (q25, .inl (E.2.1, 176, .inl (fun _ => 0)))] _ := hP
  have hD : va_D A [(r, .inr (3, [.int 0, .int 0, .int 0, .int 0, .ref q20, .ref q21, .ref q22, .ref q23, .ref q24, .null, .null, .null, .null, .null, .null, .int 0, .null, .int 0])), (q20, .inl (E.2.1, 16, .inl (fun _ => 0))), (q21, .inl (E.2.1, 16, .inl (fun _ => 0))), (q22, .inl (E.2.1, 16, .inl (fun _ => 0))), (q23, .inl (E.2.1, 256, .inl (fun _ => 0))), (q24, .inl (E.2.1, 256, .inl (fun _ => 0))), (q25, .inl (E.2.1, 176, .inl (fun _ => 0)))] := hD
  refine W.widen (k := 6) (n := 736) (by decide) (by decide) ?_
  refine x_putF B hP hD hS 0 rfl rfl i_X3 tyX3 tyX3_ok nmX3 9 (by decide) g_298 rfl hmn rfl rfl rfl (Nat.le_of_ble_eq_true rfl) dX3_init_52 (fun H locs hP hD hS => ?_)
  have hP : va_P E.1 classes [(r, .inr (3, [.int 0, .int 0, .int 0, .int 0, .ref q20, .ref q21, .ref q22, .ref q23, .ref q24, .ref q25, .null, .null, .null, .null, .null, .int 0, .null, .int 0])), (q20, .inl (E.2.1, 16, .inl (fun _ => 0))), (q21, .inl (E.2.1, 16, .inl (fun _ => 0))), (q22, .inl (E.2.1, 16, .inl (fun _ => 0))), (q23, .inl (E.2.1, 256, .inl (fun _ => 0))), (q24, .inl (E.2.1, 256, .inl (fun _ => 0))), (q25, .inl (E.2.1, 176, .inl (fun _ => 0)))] _ := hP
  have hD : va_D A [(r, .inr (3, [.int 0, .int 0, .int 0, .int 0, .ref q20, .ref q21, .ref q22, .ref q23, .ref q24, .ref q25, .null, .null, .null, .null, .null, .int 0, .null, .int 0])), (q20, .inl (E.2.1, 16, .inl (fun _ => 0))), (q21, .inl (E.2.1, 16, .inl (fun _ => 0))), (q22, .inl (E.2.1, 16, .inl (fun _ => 0))), (q23, .inl (E.2.1, 256, .inl (fun _ => 0))), (q24, .inl (E.2.1, 256, .inl (fun _ => 0))), (q25, .inl (E.2.1, 176, .inl (fun _ => 0)))] := hD
  refine lv_aload_n hx hb dX3_init_55 rfl (lv_at hl 0 rfl) ?_
  refine lv_bipush (v := 32) hx hb dX3_init_56 (by decide) ?_
  refine x_newa B hP hD hS g_45 32 rfl (by decide) (by decide) (by decide) dX3_init_58 (fun q26 H hP hD hS => ?_)
  have hP : va_P E.1 classes [(r, .inr (3, [.int 0, .int 0, .int 0, .int 0, .ref q20, .ref q21, .ref q22, .ref q23, .ref q24, .ref q25, .null, .null, .null, .null, .null, .int 0, .null, .int 0])), (q20, .inl (E.2.1, 16, .inl (fun _ => 0))), (q21, .inl (E.2.1, 16, .inl (fun _ => 0))), (q22, .inl (E.2.1, 16, .inl (fun _ => 0))), (q23, .inl (E.2.1, 256, .inl (fun _ => 0))), (q24, .inl (E.2.1, 256, .inl (fun _ => 0))), (q25, .inl (E.2.1, 176, .inl (fun _ => 0))), (q26, .inl (E.2.1, 32, .inl (fun _ => 0)))] _ := hP
  have hD : va_D A [(r, .inr (3, [.int 0, .int 0, .int 0, .int 0, .ref q20, .ref q21, .ref q22, .ref q23, .ref q24, .ref q25, .null, .null, .null, .null, .null, .int 0, .null, .int 0])), (q20, .inl (E.2.1, 16, .inl (fun _ => 0))), (q21, .inl (E.2.1, 16, .inl (fun _ => 0))), (q22, .inl (E.2.1, 16, .inl (fun _ => 0))), (q23, .inl (E.2.1, 256, .inl (fun _ => 0))), (q24, .inl (E.2.1, 256, .inl (fun _ => 0))), (q25, .inl (E.2.1, 176, .inl (fun _ => 0))), (q26, .inl (E.2.1, 32, .inl (fun _ => 0)))] := hD
  refine W.widen (k := 7) (n := 768) (by decide) (by decide) ?_
  refine x_putF B hP hD hS 0 rfl rfl i_X3 tyX3 tyX3_ok nmX3 10 (by decide) g_299 rfl hmn rfl rfl rfl (Nat.le_of_ble_eq_true rfl) dX3_init_60 (fun H locs hP hD hS => ?_)
  have hP : va_P E.1 classes [(r, .inr (3, [.int 0, .int 0, .int 0, .int 0, .ref q20, .ref q21, .ref q22, .ref q23, .ref q24, .ref q25, .ref q26, .null, .null, .null, .null, .int 0, .null, .int 0])), (q20, .inl (E.2.1, 16, .inl (fun _ => 0))), (q21, .inl (E.2.1, 16, .inl (fun _ => 0))), (q22, .inl (E.2.1, 16, .inl (fun _ => 0))), (q23, .inl (E.2.1, 256, .inl (fun _ => 0))), (q24, .inl (E.2.1, 256, .inl (fun _ => 0))), (q25, .inl (E.2.1, 176, .inl (fun _ => 0))), (q26, .inl (E.2.1, 32, .inl (fun _ => 0)))] _ := hP
  have hD : va_D A [(r, .inr (3, [.int 0, .int 0, .int 0, .int 0, .ref q20, .ref q21, .ref q22, .ref q23, .ref q24, .ref q25, .ref q26, .null, .null, .null, .null, .int 0, .null, .int 0])), (q20, .inl (E.2.1, 16, .inl (fun _ => 0))), (q21, .inl (E.2.1, 16, .inl (fun _ => 0))), (q22, .inl (E.2.1, 16, .inl (fun _ => 0))), (q23, .inl (E.2.1, 256, .inl (fun _ => 0))), (q24, .inl (E.2.1, 256, .inl (fun _ => 0))), (q25, .inl (E.2.1, 176, .inl (fun _ => 0))), (q26, .inl (E.2.1, 32, .inl (fun _ => 0)))] := hD
  refine lv_aload_n hx hb dX3_init_63 rfl (lv_at hl 0 rfl) ?_
  refine lv_bipush (v := 16) hx hb dX3_init_64 (by decide) ?_
  refine x_newa B hP hD hS g_45 16 rfl (by decide) (by decide) (by decide) dX3_init_66 (fun q27 H hP hD hS => ?_)
  have hP : va_P E.1 classes [(r, .inr (3, [.int 0, .int 0, .int 0, .int 0, .ref q20, .ref q21, .ref q22, .ref q23, .ref q24, .ref q25, .ref q26, .null, .null, .null, .null, .int 0, .null, .int 0])), (q20, .inl (E.2.1, 16, .inl (fun _ => 0))), (q21, .inl (E.2.1, 16, .inl (fun _ => 0))), (q22, .inl (E.2.1, 16, .inl (fun _ => 0))), (q23, .inl (E.2.1, 256, .inl (fun _ => 0))), (q24, .inl (E.2.1, 256, .inl (fun _ => 0))), (q25, .inl (E.2.1, 176, .inl (fun _ => 0))), (q26, .inl (E.2.1, 32, .inl (fun _ => 0))), (q27, .inl (E.2.1, 16, .inl (fun _ => 0)))] _ := hP
  have hD : va_D A [(r, .inr (3, [.int 0, .int 0, .int 0, .int 0, .ref q20, .ref q21, .ref q22, .ref q23, .ref q24, .ref q25, .ref q26, .null, .null, .null, .null, .int 0, .null, .int 0])), (q20, .inl (E.2.1, 16, .inl (fun _ => 0))), (q21, .inl (E.2.1, 16, .inl (fun _ => 0))), (q22, .inl (E.2.1, 16, .inl (fun _ => 0))), (q23, .inl (E.2.1, 256, .inl (fun _ => 0))), (q24, .inl (E.2.1, 256, .inl (fun _ => 0))), (q25, .inl (E.2.1, 176, .inl (fun _ => 0))), (q26, .inl (E.2.1, 32, .inl (fun _ => 0))), (q27, .inl (E.2.1, 16, .inl (fun _ => 0)))] := hD
  refine W.widen (k := 8) (n := 784) (by decide) (by decide) ?_
  refine x_putF B hP hD hS 0 rfl rfl i_X3 tyX3 tyX3_ok nmX3 11 (by decide) g_300 rfl hmn rfl rfl rfl (Nat.le_of_ble_eq_true rfl) dX3_init_68 (fun H locs hP hD hS => ?_)
  have hP : va_P E.1 classes [(r, .inr (3, [.int 0, .int 0, .int 0, .int 0, .ref q20, .ref q21, .ref q22, .ref q23, .ref q24, .ref q25, .ref q26, .ref q27, .null, .null, .null, .int 0, .null, .int 0])), (q20, .inl (E.2.1, 16, .inl (fun _ => 0))), (q21, .inl (E.2.1, 16, .inl (fun _ => 0))), (q22, .inl (E.2.1, 16, .inl (fun _ => 0))), (q23, .inl (E.2.1, 256, .inl (fun _ => 0))), (q24, .inl (E.2.1, 256, .inl (fun _ => 0))), (q25, .inl (E.2.1, 176, .inl (fun _ => 0))), (q26, .inl (E.2.1, 32, .inl (fun _ => 0))), (q27, .inl (E.2.1, 16, .inl (fun _ => 0)))] _ := hP
  have hD : va_D A [(r, .inr (3, [.int 0, .int 0, .int 0, .int 0, .ref q20, .ref q21, .ref q22, .ref q23, .ref q24, .ref q25, .ref q26, .ref q27, .null, .null, .null, .int 0, .null, .int 0])), (q20, .inl (E.2.1, 16, .inl (fun _ => 0))), (q21, .inl (E.2.1, 16, .inl (fun _ => 0))), (q22, .inl (E.2.1, 16, .inl (fun _ => 0))), (q23, .inl (E.2.1, 256, .inl (fun _ => 0))), (q24, .inl (E.2.1, 256, .inl (fun _ => 0))), (q25, .inl (E.2.1, 176, .inl (fun _ => 0))), (q26, .inl (E.2.1, 32, .inl (fun _ => 0))), (q27, .inl (E.2.1, 16, .inl (fun _ => 0)))] := hD
  refine lv_aload_n hx hb dX3_init_71 rfl (lv_at hl 0 rfl) ?_
  refine lv_bipush (v := 16) hx hb dX3_init_72 (by decide) ?_
  refine x_newa B hP hD hS g_45 16 rfl (by decide) (by decide) (by decide) dX3_init_74 (fun q28 H hP hD hS => ?_)
  have hP : va_P E.1 classes [(r, .inr (3, [.int 0, .int 0, .int 0, .int 0, .ref q20, .ref q21, .ref q22, .ref q23, .ref q24, .ref q25, .ref q26, .ref q27, .null, .null, .null, .int 0, .null, .int 0])), (q20, .inl (E.2.1, 16, .inl (fun _ => 0))), (q21, .inl (E.2.1, 16, .inl (fun _ => 0))), (q22, .inl (E.2.1, 16, .inl (fun _ => 0))), (q23, .inl (E.2.1, 256, .inl (fun _ => 0))), (q24, .inl (E.2.1, 256, .inl (fun _ => 0))), (q25, .inl (E.2.1, 176, .inl (fun _ => 0))), (q26, .inl (E.2.1, 32, .inl (fun _ => 0))), (q27, .inl (E.2.1, 16, .inl (fun _ => 0))), (q28, .inl (E.2.1, 16, .inl (fun _ => 0)))] _ := hP
  have hD : va_D A [(r, .inr (3, [.int 0, .int 0, .int 0, .int 0, .ref q20, .ref q21, .ref q22, .ref q23, .ref q24, .ref q25, .ref q26, .ref q27, .null, .null, .null, .int 0, .null, .int 0])), (q20, .inl (E.2.1, 16, .inl (fun _ => 0))), (q21, .inl (E.2.1, 16, .inl (fun _ => 0))), (q22, .inl (E.2.1, 16, .inl (fun _ => 0))), (q23, .inl (E.2.1, 256, .inl (fun _ => 0))), (q24, .inl (E.2.1, 256, .inl (fun _ => 0))), (q25, .inl (E.2.1, 176, .inl (fun _ => 0))), (q26, .inl (E.2.1, 32, .inl (fun _ => 0))), (q27, .inl (E.2.1, 16, .inl (fun _ => 0))), (q28, .inl (E.2.1, 16, .inl (fun _ => 0)))] := hD
  refine W.widen (k := 9) (n := 800) (by decide) (by decide) ?_
  refine x_putF B hP hD hS 0 rfl rfl i_X3 tyX3 tyX3_ok nmX3 12 (by decide) g_301 rfl hmn rfl rfl rfl (Nat.le_of_ble_eq_true rfl) dX3_init_76 (fun H locs hP hD hS => ?_)
  have hP : va_P E.1 classes [(r, .inr (3, [.int 0, .int 0, .int 0, .int 0, .ref q20, .ref q21, .ref q22, .ref q23, .ref q24, .ref q25, .ref q26, .ref q27, .ref q28, .null, .null, .int 0, .null, .int 0])), (q20, .inl (E.2.1, 16, .inl (fun _ => 0))), (q21, .inl (E.2.1, 16, .inl (fun _ => 0))), (q22, .inl (E.2.1, 16, .inl (fun _ => 0))), (q23, .inl (E.2.1, 256, .inl (fun _ => 0))), (q24, .inl (E.2.1, 256, .inl (fun _ => 0))), (q25, .inl (E.2.1, 176, .inl (fun _ => 0))), (q26, .inl (E.2.1, 32, .inl (fun _ => 0))), (q27, .inl (E.2.1, 16, .inl (fun _ => 0))), (q28, .inl (E.2.1, 16, .inl (fun _ => 0)))] _ := hP
  have hD : va_D A [(r, .inr (3, [.int 0, .int 0, .int 0, .int 0, .ref q20, .ref q21, .ref q22, .ref q23, .ref q24, .ref q25, .ref q26, .ref q27, .ref q28, .null, .null, .int 0, .null, .int 0])), (q20, .inl (E.2.1, 16, .inl (fun _ => 0))), (q21, .inl (E.2.1, 16, .inl (fun _ => 0))), (q22, .inl (E.2.1, 16, .inl (fun _ => 0))), (q23, .inl (E.2.1, 256, .inl (fun _ => 0))), (q24, .inl (E.2.1, 256, .inl (fun _ => 0))), (q25, .inl (E.2.1, 176, .inl (fun _ => 0))), (q26, .inl (E.2.1, 32, .inl (fun _ => 0))), (q27, .inl (E.2.1, 16, .inl (fun _ => 0))), (q28, .inl (E.2.1, 16, .inl (fun _ => 0)))] := hD
  refine lv_aload_n hx hb dX3_init_79 rfl (lv_at hl 0 rfl) ?_
  refine lv_bipush (v := 16) hx hb dX3_init_80 (by decide) ?_
  refine x_newa B hP hD hS g_45 16 rfl (by decide) (by decide) (by decide) dX3_init_82 (fun q29 H hP hD hS => ?_)
  have hP : va_P E.1 classes [(r, .inr (3, [.int 0, .int 0, .int 0, .int 0, .ref q20, .ref q21, .ref q22, .ref q23, .ref q24, .ref q25, .ref q26, .ref q27, .ref q28, .null, .null, .int 0, .null, .int 0])), (q20, .inl (E.2.1, 16, .inl (fun _ => 0))), (q21, .inl (E.2.1, 16, .inl (fun _ => 0))), (q22, .inl (E.2.1, 16, .inl (fun _ => 0))), (q23, .inl (E.2.1, 256, .inl (fun _ => 0))), (q24, .inl (E.2.1, 256, .inl (fun _ => 0))), (q25, .inl (E.2.1, 176, .inl (fun _ => 0))), (q26, .inl (E.2.1, 32, .inl (fun _ => 0))), (q27, .inl (E.2.1, 16, .inl (fun _ => 0))), (q28, .inl (E.2.1, 16, .inl (fun _ => 0))), (q29, .inl (E.2.1, 16, .inl (fun _ => 0)))] _ := hP
  have hD : va_D A [(r, .inr (3, [.int 0, .int 0, .int 0, .int 0, .ref q20, .ref q21, .ref q22, .ref q23, .ref q24, .ref q25, .ref q26, .ref q27, .ref q28, .null, .null, .int 0, .null, .int 0])), (q20, .inl (E.2.1, 16, .inl (fun _ => 0))), (q21, .inl (E.2.1, 16, .inl (fun _ => 0))), (q22, .inl (E.2.1, 16, .inl (fun _ => 0))), (q23, .inl (E.2.1, 256, .inl (fun _ => 0))), (q24, .inl (E.2.1, 256, .inl (fun _ => 0))), (q25, .inl (E.2.1, 176, .inl (fun _ => 0))), (q26, .inl (E.2.1, 32, .inl (fun _ => 0))), (q27, .inl (E.2.1, 16, .inl (fun _ => 0))), (q28, .inl (E.2.1, 16, .inl (fun _ => 0))), (q29, .inl (E.2.1, 16, .inl (fun _ => 0)))] := hD
  refine W.widen (k := 10) (n := 816) (by decide) (by decide) ?_
  refine x_putF B hP hD hS 0 rfl rfl i_X3 tyX3 tyX3_ok nmX3 13 (by decide) g_302 rfl hmn rfl rfl rfl (Nat.le_of_ble_eq_true rfl) dX3_init_84 (fun H locs hP hD hS => ?_)
  have hP : va_P E.1 classes [(r, .inr (3, [.int 0, .int 0, .int 0, .int 0, .ref q20, .ref q21, .ref q22, .ref q23, .ref q24, .ref q25, .ref q26, .ref q27, .ref q28, .ref q29, .null, .int 0, .null, .int 0])), (q20, .inl (E.2.1, 16, .inl (fun _ => 0))), (q21, .inl (E.2.1, 16, .inl (fun _ => 0))), (q22, .inl (E.2.1, 16, .inl (fun _ => 0))), (q23, .inl (E.2.1, 256, .inl (fun _ => 0))), (q24, .inl (E.2.1, 256, .inl (fun _ => 0))), (q25, .inl (E.2.1, 176, .inl (fun _ => 0))), (q26, .inl (E.2.1, 32, .inl (fun _ => 0))), (q27, .inl (E.2.1, 16, .inl (fun _ => 0))), (q28, .inl (E.2.1, 16, .inl (fun _ => 0))), (q29, .inl (E.2.1, 16, .inl (fun _ => 0)))] _ := hP
  have hD : va_D A [(r, .inr (3, [.int 0, .int 0, .int 0, .int 0, .ref q20, .ref q21, .ref q22, .ref q23, .ref q24, .ref q25, .ref q26, .ref q27, .ref q28, .ref q29, .null, .int 0, .null, .int 0])), (q20, .inl (E.2.1, 16, .inl (fun _ => 0))), (q21, .inl (E.2.1, 16, .inl (fun _ => 0))), (q22, .inl (E.2.1, 16, .inl (fun _ => 0))), (q23, .inl (E.2.1, 256, .inl (fun _ => 0))), (q24, .inl (E.2.1, 256, .inl (fun _ => 0))), (q25, .inl (E.2.1, 176, .inl (fun _ => 0))), (q26, .inl (E.2.1, 32, .inl (fun _ => 0))), (q27, .inl (E.2.1, 16, .inl (fun _ => 0))), (q28, .inl (E.2.1, 16, .inl (fun _ => 0))), (q29, .inl (E.2.1, 16, .inl (fun _ => 0)))] := hD
  refine lv_aload_n hx hb dX3_init_87 rfl (lv_at hl 0 rfl) ?_
  refine lv_bipush (v := 16) hx hb dX3_init_88 (by decide) ?_
  refine x_newa B hP hD hS g_45 16 rfl (by decide) (by decide) (by decide) dX3_init_90 (fun q30 H hP hD hS => ?_)
  have hP : va_P E.1 classes [(r, .inr (3, [.int 0, .int 0, .int 0, .int 0, .ref q20, .ref q21, .ref q22, .ref q23, .ref q24, .ref q25, .ref q26, .ref q27, .ref q28, .ref q29, .null, .int 0, .null, .int 0])), (q20, .inl (E.2.1, 16, .inl (fun _ => 0))), (q21, .inl (E.2.1, 16, .inl (fun _ => 0))), (q22, .inl (E.2.1, 16, .inl (fun _ => 0))), (q23, .inl (E.2.1, 256, .inl (fun _ => 0))), (q24, .inl (E.2.1, 256, .inl (fun _ => 0))), (q25, .inl (E.2.1, 176, .inl (fun _ => 0))), (q26, .inl (E.2.1, 32, .inl (fun _ => 0))), (q27, .inl (E.2.1, 16, .inl (fun _ => 0))), (q28, .inl (E.2.1, 16, .inl (fun _ => 0))), (q29, .inl (E.2.1, 16, .inl (fun _ => 0))), (q30, .inl (E.2.1, 16, .inl (fun _ => 0)))] _ := hP
  have hD : va_D A [(r, .inr (3, [.int 0, .int 0, .int 0, .int 0, .ref q20, .ref q21, .ref q22, .ref q23, .ref q24, .ref q25, .ref q26, .ref q27, .ref q28, .ref q29, .null, .int 0, .null, .int 0])), (q20, .inl (E.2.1, 16, .inl (fun _ => 0))), (q21, .inl (E.2.1, 16, .inl (fun _ => 0))), (q22, .inl (E.2.1, 16, .inl (fun _ => 0))), (q23, .inl (E.2.1, 256, .inl (fun _ => 0))), (q24, .inl (E.2.1, 256, .inl (fun _ => 0))), (q25, .inl (E.2.1, 176, .inl (fun _ => 0))), (q26, .inl (E.2.1, 32, .inl (fun _ => 0))), (q27, .inl (E.2.1, 16, .inl (fun _ => 0))), (q28, .inl (E.2.1, 16, .inl (fun _ => 0))), (q29, .inl (E.2.1, 16, .inl (fun _ => 0))), (q30, .inl (E.2.1, 16, .inl (fun _ => 0)))] := hD
  refine W.widen (k := 11) (n := 832) (by decide) (by decide) ?_
  refine x_putF B hP hD hS 0 rfl rfl i_X3 tyX3 tyX3_ok nmX3 14 (by decide) g_303 rfl hmn rfl rfl rfl (Nat.le_of_ble_eq_true rfl) dX3_init_92 (fun H locs hP hD hS => ?_)
  have hP : va_P E.1 classes [(r, .inr (3, [.int 0, .int 0, .int 0, .int 0, .ref q20, .ref q21, .ref q22, .ref q23, .ref q24, .ref q25, .ref q26, .ref q27, .ref q28, .ref q29, .ref q30, .int 0, .null, .int 0])), (q20, .inl (E.2.1, 16, .inl (fun _ => 0))), (q21, .inl (E.2.1, 16, .inl (fun _ => 0))), (q22, .inl (E.2.1, 16, .inl (fun _ => 0))), (q23, .inl (E.2.1, 256, .inl (fun _ => 0))), (q24, .inl (E.2.1, 256, .inl (fun _ => 0))), (q25, .inl (E.2.1, 176, .inl (fun _ => 0))), (q26, .inl (E.2.1, 32, .inl (fun _ => 0))), (q27, .inl (E.2.1, 16, .inl (fun _ => 0))), (q28, .inl (E.2.1, 16, .inl (fun _ => 0))), (q29, .inl (E.2.1, 16, .inl (fun _ => 0))), (q30, .inl (E.2.1, 16, .inl (fun _ => 0)))] _ := hP
  have hD : va_D A [(r, .inr (3, [.int 0, .int 0, .int 0, .int 0, .ref q20, .ref q21, .ref q22, .ref q23, .ref q24, .ref q25, .ref q26, .ref q27, .ref q28, .ref q29, .ref q30, .int 0, .null, .int 0])), (q20, .inl (E.2.1, 16, .inl (fun _ => 0))), (q21, .inl (E.2.1, 16, .inl (fun _ => 0))), (q22, .inl (E.2.1, 16, .inl (fun _ => 0))), (q23, .inl (E.2.1, 256, .inl (fun _ => 0))), (q24, .inl (E.2.1, 256, .inl (fun _ => 0))), (q25, .inl (E.2.1, 176, .inl (fun _ => 0))), (q26, .inl (E.2.1, 32, .inl (fun _ => 0))), (q27, .inl (E.2.1, 16, .inl (fun _ => 0))), (q28, .inl (E.2.1, 16, .inl (fun _ => 0))), (q29, .inl (E.2.1, 16, .inl (fun _ => 0))), (q30, .inl (E.2.1, 16, .inl (fun _ => 0)))] := hD
  refine lv_aload_n hx hb dX3_init_95 rfl (lv_at hl 0 rfl) ?_
  refine lv_bipush (v := 16) hx hb dX3_init_96 (by decide) ?_
  refine x_newz B hP hD hS g_344 16 rfl (by decide) (by decide) (by decide) dX3_init_98 (fun q31 H hP hD hS => ?_)
  have hP : va_P E.1 classes [(r, .inr (3, [.int 0, .int 0, .int 0, .int 0, .ref q20, .ref q21, .ref q22, .ref q23, .ref q24, .ref q25, .ref q26, .ref q27, .ref q28, .ref q29, .ref q30, .int 0, .null, .int 0])), (q20, .inl (E.2.1, 16, .inl (fun _ => 0))), (q21, .inl (E.2.1, 16, .inl (fun _ => 0))), (q22, .inl (E.2.1, 16, .inl (fun _ => 0))), (q23, .inl (E.2.1, 256, .inl (fun _ => 0))), (q24, .inl (E.2.1, 256, .inl (fun _ => 0))), (q25, .inl (E.2.1, 176, .inl (fun _ => 0))), (q26, .inl (E.2.1, 32, .inl (fun _ => 0))), (q27, .inl (E.2.1, 16, .inl (fun _ => 0))), (q28, .inl (E.2.1, 16, .inl (fun _ => 0))), (q29, .inl (E.2.1, 16, .inl (fun _ => 0))), (q30, .inl (E.2.1, 16, .inl (fun _ => 0))), (q31, .inl (E.2.2.2.2, 16, .inl (fun _ => 0)))] _ := hP
  have hD : va_D A [(r, .inr (3, [.int 0, .int 0, .int 0, .int 0, .ref q20, .ref q21, .ref q22, .ref q23, .ref q24, .ref q25, .ref q26, .ref q27, .ref q28, .ref q29, .ref q30, .int 0, .null, .int 0])), (q20, .inl (E.2.1, 16, .inl (fun _ => 0))), (q21, .inl (E.2.1, 16, .inl (fun _ => 0))), (q22, .inl (E.2.1, 16, .inl (fun _ => 0))), (q23, .inl (E.2.1, 256, .inl (fun _ => 0))), (q24, .inl (E.2.1, 256, .inl (fun _ => 0))), (q25, .inl (E.2.1, 176, .inl (fun _ => 0))), (q26, .inl (E.2.1, 32, .inl (fun _ => 0))), (q27, .inl (E.2.1, 16, .inl (fun _ => 0))), (q28, .inl (E.2.1, 16, .inl (fun _ => 0))), (q29, .inl (E.2.1, 16, .inl (fun _ => 0))), (q30, .inl (E.2.1, 16, .inl (fun _ => 0))), (q31, .inl (E.2.2.2.2, 16, .inl (fun _ => 0)))] := hD
  refine W.widen (k := 12) (n := 848) (by decide) (by decide) ?_
  refine x_putF B hP hD hS 0 rfl rfl i_X3 tyX3 tyX3_ok nmX3 16 (by decide) g_305 rfl hmn rfl rfl rfl (Nat.le_of_ble_eq_true rfl) dX3_init_100 (fun H locs hP hD hS => ?_)
  have hP : va_P E.1 classes [(r, .inr (3, [.int 0, .int 0, .int 0, .int 0, .ref q20, .ref q21, .ref q22, .ref q23, .ref q24, .ref q25, .ref q26, .ref q27, .ref q28, .ref q29, .ref q30, .int 0, .ref q31, .int 0])), (q20, .inl (E.2.1, 16, .inl (fun _ => 0))), (q21, .inl (E.2.1, 16, .inl (fun _ => 0))), (q22, .inl (E.2.1, 16, .inl (fun _ => 0))), (q23, .inl (E.2.1, 256, .inl (fun _ => 0))), (q24, .inl (E.2.1, 256, .inl (fun _ => 0))), (q25, .inl (E.2.1, 176, .inl (fun _ => 0))), (q26, .inl (E.2.1, 32, .inl (fun _ => 0))), (q27, .inl (E.2.1, 16, .inl (fun _ => 0))), (q28, .inl (E.2.1, 16, .inl (fun _ => 0))), (q29, .inl (E.2.1, 16, .inl (fun _ => 0))), (q30, .inl (E.2.1, 16, .inl (fun _ => 0))), (q31, .inl (E.2.2.2.2, 16, .inl (fun _ => 0)))] _ := hP
  have hD : va_D A [(r, .inr (3, [.int 0, .int 0, .int 0, .int 0, .ref q20, .ref q21, .ref q22, .ref q23, .ref q24, .ref q25, .ref q26, .ref q27, .ref q28, .ref q29, .ref q30, .int 0, .ref q31, .int 0])), (q20, .inl (E.2.1, 16, .inl (fun _ => 0))), (q21, .inl (E.2.1, 16, .inl (fun _ => 0))), (q22, .inl (E.2.1, 16, .inl (fun _ => 0))), (q23, .inl (E.2.1, 256, .inl (fun _ => 0))), (q24, .inl (E.2.1, 256, .inl (fun _ => 0))), (q25, .inl (E.2.1, 176, .inl (fun _ => 0))), (q26, .inl (E.2.1, 32, .inl (fun _ => 0))), (q27, .inl (E.2.1, 16, .inl (fun _ => 0))), (q28, .inl (E.2.1, 16, .inl (fun _ => 0))), (q29, .inl (E.2.1, 16, .inl (fun _ => 0))), (q30, .inl (E.2.1, 16, .inl (fun _ => 0))), (q31, .inl (E.2.2.2.2, 16, .inl (fun _ => 0)))] := hD
  refine lv_iconst (v := 0) hx hb dX3_init_103 (by decide) ?_
  refine lv_istore_n (lv' := [(1, .int 0), (0, .ref r)]) hx hb dX3_init_104 rfl hl (by decide) rfl (fun ls hl => ?_)
  have hP : va_P E.1 classes [(r, .inr (3, [.int 0, .int 0, .int 0, .int 0, .ref q20, .ref q21, .ref q22, .ref q23, .ref q24, .ref q25, .ref q26, .ref q27, .ref q28, .ref q29, .ref q30, .int 0, .ref q31, .int 0])), (q20, .inl (E.2.1, 16, .inl (fun _ => 0))), (q21, .inl (E.2.1, 16, .inl (fun _ => 0))), (q22, .inl (E.2.1, 16, .inl (fun _ => 0))), (q23, .inl (E.2.1, 256, .inl (sA 0))), (q24, .inl (E.2.1, 256, .inl (uA 0))), (q25, .inl (E.2.1, 176, .inl (fun _ => 0))), (q26, .inl (E.2.1, 32, .inl (fun _ => 0))), (q27, .inl (E.2.1, 16, .inl (fun _ => 0))), (q28, .inl (E.2.1, 16, .inl (fun _ => 0))), (q29, .inl (E.2.1, 16, .inl (fun _ => 0))), (q30, .inl (E.2.1, 16, .inl (fun _ => 0))), (q31, .inl (E.2.2.2.2, 16, .inl (fun _ => 0)))] _ := hP
  have hD : va_D A [(r, .inr (3, [.int 0, .int 0, .int 0, .int 0, .ref q20, .ref q21, .ref q22, .ref q23, .ref q24, .ref q25, .ref q26, .ref q27, .ref q28, .ref q29, .ref q30, .int 0, .ref q31, .int 0])), (q20, .inl (E.2.1, 16, .inl (fun _ => 0))), (q21, .inl (E.2.1, 16, .inl (fun _ => 0))), (q22, .inl (E.2.1, 16, .inl (fun _ => 0))), (q23, .inl (E.2.1, 256, .inl (sA 0))), (q24, .inl (E.2.1, 256, .inl (uA 0))), (q25, .inl (E.2.1, 176, .inl (fun _ => 0))), (q26, .inl (E.2.1, 32, .inl (fun _ => 0))), (q27, .inl (E.2.1, 16, .inl (fun _ => 0))), (q28, .inl (E.2.1, 16, .inl (fun _ => 0))), (q29, .inl (E.2.1, 16, .inl (fun _ => 0))), (q30, .inl (E.2.1, 16, .inl (fun _ => 0))), (q31, .inl (E.2.2.2.2, 16, .inl (fun _ => 0)))] := hD
  refine lp_table B ⟨by decide, by decide⟩ ⟨by decide, by decide⟩ (fun H locs ls hP hD hS hl => ?_) 257 0 (by omega) (by omega) _ _ _ hP hD hS (lv_sub hl [0, 1] rfl)
  exact x_nret B hP hD hS dX3_init_254 ⟨q20, q21, q22, q23, q24, q25, q26, q27, q28, q29, q30, q31, rfl⟩
end
section
/-- macVerdict: all after k places -/
def vdM (a : Int32) (g : Nat → Int32) : Nat → Int32
  | 0 => a
  | k + 1 => if vdM a g k = 0 then 0 else if g k = 0 then 0 else 1
theorem vdM_0 (g : Nat → Int32) : ∀ k, vdM 0 g k = 0
  | 0 => rfl
  | k + 1 => by
    unfold vdM
    rw [if_pos (vdM_0 g k)]
theorem vdM_bo {a : Int32} (g : Nat → Int32) (ha : a = 0 ∨ a = 1) : ∀ k, vdM a g k = 0 ∨ vdM a g k = 1
  | 0 => ha
  | k + 1 => by
    unfold vdM
    split
    · exact Or.inl rfl
    · split
      · exact Or.inl rfl
      · exact Or.inr rfl
theorem nar_b {x : Int32} (h : x = 0 ∨ x = 1) : narrow .boolean (.int x) = .int x := by
  rcases h with rfl | rfl <;> rfl
set_option maxHeartbeats 4000000 in
set_option maxRecDepth 100000 in
theorem lp_rinit {p : Program} {l : Launch} {e : Env} {R : Room} {s : State} {m : MethodId} {args : Array Value} {below : List Frame} {meth : Method} {c : Code} {cells slots : Nat} {Q : State → Prop} {E : EE} {A : Nat → Prop} {r bK bB bP bS bU bW bH bT bV bC bL bZ : Nat} {gK gB gP gS gU gW gH gT gV gC gL gZ : Nat → Int32} {rdr mdr msr lcr wrr : Int32} (B : Bd p s m args meth c cX3_init_ 2 none RX3 E A) (hf : cells ≤ R.cells ∧ slots ≤ R.slots) 
    (kk : ∀ (H : Heap) (locs : List Loc) (ls : Array Slot), va_P E.1 classes [(r, .inr (3, [.int 0, .int rdr, .int mdr, .int msr, .ref bK, .ref bB, .ref bP, .ref bS, .ref bU, .ref bW, .ref bH, .ref bT, .ref bV, .ref bC, .ref bL, .int lcr, .ref bZ, .int wrr])), (bK, .inl (E.2.1, 16, .inl (fillM 0 gK 16))), (bB, .inl (E.2.1, 16, .inl gB)), (bP, .inl (E.2.1, 16, .inl gP)), (bS, .inl (E.2.1, 256, .inl gS)), (bU, .inl (E.2.1, 256, .inl gU)), (bW, .inl (E.2.1, 176, .inl gW)), (bH, .inl (E.2.1, 32, .inl gH)), (bT, .inl (E.2.1, 16, .inl gT)), (bV, .inl (E.2.1, 16, .inl gV)), (bC, .inl (E.2.1, 16, .inl gC)), (bL, .inl (E.2.1, 16, .inl gL)), (bZ, .inl (E.2.2.2.2, 16, .inl gZ))] H → va_D A [(r, .inr (3, [.int 0, .int rdr, .int mdr, .int msr, .ref bK, .ref bB, .ref bP, .ref bS, .ref bU, .ref bW, .ref bH, .ref bT, .ref bV, .ref bC, .ref bL, .int lcr, .ref bZ, .int wrr])), (bK, .inl (E.2.1, 16, .inl (fillM 0 gK 16))), (bB, .inl (E.2.1, 16, .inl gB)), (bP, .inl (E.2.1, 16, .inl gP)), (bS, .inl (E.2.1, 256, .inl gS)), (bU, .inl (E.2.1, 256, .inl gU)), (bW, .inl (E.2.1, 176, .inl gW)), (bH, .inl (E.2.1, 32, .inl gH)), (bT, .inl (E.2.1, 16, .inl gT)), (bV, .inl (E.2.1, 16, .inl gV)), (bC, .inl (E.2.1, 16, .inl gC)), (bL, .inl (E.2.1, 16, .inl gL)), (bZ, .inl (E.2.2.2.2, 16, .inl gZ))] → va_S A s.heap H locs → lv_has ls 2 [(1, .int (nI 16)), (0, .ref r)] → W p l e R s m args below meth c H locs cells slots Q (F0 m 26 ls [])) :
    ∀ (fu i : Nat), i ≤ 16 → 16 < i + fu → ∀ (H : Heap) (locs : List Loc) (ls : Array Slot), va_P E.1 classes [(r, .inr (3, [.int 0, .int rdr, .int mdr, .int msr, .ref bK, .ref bB, .ref bP, .ref bS, .ref bU, .ref bW, .ref bH, .ref bT, .ref bV, .ref bC, .ref bL, .int lcr, .ref bZ, .int wrr])), (bK, .inl (E.2.1, 16, .inl (fillM 0 gK i))), (bB, .inl (E.2.1, 16, .inl gB)), (bP, .inl (E.2.1, 16, .inl gP)), (bS, .inl (E.2.1, 256, .inl gS)), (bU, .inl (E.2.1, 256, .inl gU)), (bW, .inl (E.2.1, 176, .inl gW)), (bH, .inl (E.2.1, 32, .inl gH)), (bT, .inl (E.2.1, 16, .inl gT)), (bV, .inl (E.2.1, 16, .inl gV)), (bC, .inl (E.2.1, 16, .inl gC)), (bL, .inl (E.2.1, 16, .inl gL)), (bZ, .inl (E.2.2.2.2, 16, .inl gZ))] H → va_D A [(r, .inr (3, [.int 0, .int rdr, .int mdr, .int msr, .ref bK, .ref bB, .ref bP, .ref bS, .ref bU, .ref bW, .ref bH, .ref bT, .ref bV, .ref bC, .ref bL, .int lcr, .ref bZ, .int wrr])), (bK, .inl (E.2.1, 16, .inl (fillM 0 gK i))), (bB, .inl (E.2.1, 16, .inl gB)), (bP, .inl (E.2.1, 16, .inl gP)), (bS, .inl (E.2.1, 256, .inl gS)), (bU, .inl (E.2.1, 256, .inl gU)), (bW, .inl (E.2.1, 176, .inl gW)), (bH, .inl (E.2.1, 32, .inl gH)), (bT, .inl (E.2.1, 16, .inl gT)), (bV, .inl (E.2.1, 16, .inl gV)), (bC, .inl (E.2.1, 16, .inl gC)), (bL, .inl (E.2.1, 16, .inl gL)), (bZ, .inl (E.2.2.2.2, 16, .inl gZ))] → va_S A s.heap H locs → lv_has ls 2 [(1, .int (nI i)), (0, .ref r)] → W p l e R s m args below meth c H locs cells slots Q (F0 m 7 ls []) := by
  have hx := B.1
  have hb := B.2.1
  intro fu
  induction fu with
  | zero =>
    intro i h1 h2
    exact absurd h2 (by omega)
  | succ fu ih =>
    intro i hi hin H locs ls hP hD hS hl
    refine lv_iload_n hx hb dX3_init__7 rfl (lv_at hl 0 rfl) ?_
    refine lv_bipush (v := 16) hx hb dX3_init__8 (by decide) ?_
    refine lv_icmp_ge (tgt := 26) hx hb dX3_init__10 (by decide) (fun c_10 => ?_) (fun c_10 => ?_)
    · have hj : i = 16 := by have := ge_t (b := 16) c_10 (by omega) (by omega); omega
      subst hj
      exact kk _ _ _ hP hD hS hl
    · have hj : i < 16 := ge_f (b := 16) c_10 (by omega) (by omega)
      refine lv_aload_n hx hb dX3_init__13 rfl (lv_at hl 1 rfl) ?_
      refine x_get B hP 0 rfl rfl i_X3 4 (by decide) g_293 rfl dX3_init__14 ?_
      refine lv_iload_n hx hb dX3_init__17 rfl (lv_at hl 0 rfl) ?_
      refine lv_iconst (v := 0) hx hb dX3_init__18 (by decide) ?_
      refine x_ast B hP hD hS 1 rfl i rfl (by omega) (by decide) dX3_init__19 (fun H locs hP hD hS => ?_)
      have hP : va_P E.1 classes [(r, .inr (3, [.int 0, .int rdr, .int mdr, .int msr, .ref bK, .ref bB, .ref bP, .ref bS, .ref bU, .ref bW, .ref bH, .ref bT, .ref bV, .ref bC, .ref bL, .int lcr, .ref bZ, .int wrr])), (bK, .inl (E.2.1, 16, .inl (upd (fillM 0 gK i) i 0))), (bB, .inl (E.2.1, 16, .inl gB)), (bP, .inl (E.2.1, 16, .inl gP)), (bS, .inl (E.2.1, 256, .inl gS)), (bU, .inl (E.2.1, 256, .inl gU)), (bW, .inl (E.2.1, 176, .inl gW)), (bH, .inl (E.2.1, 32, .inl gH)), (bT, .inl (E.2.1, 16, .inl gT)), (bV, .inl (E.2.1, 16, .inl gV)), (bC, .inl (E.2.1, 16, .inl gC)), (bL, .inl (E.2.1, 16, .inl gL)), (bZ, .inl (E.2.2.2.2, 16, .inl gZ))] _ := hP
      have hD : va_D A [(r, .inr (3, [.int 0, .int rdr, .int mdr, .int msr, .ref bK, .ref bB, .ref bP, .ref bS, .ref bU, .ref bW, .ref bH, .ref bT, .ref bV, .ref bC, .ref bL, .int lcr, .ref bZ, .int wrr])), (bK, .inl (E.2.1, 16, .inl (upd (fillM 0 gK i) i 0))), (bB, .inl (E.2.1, 16, .inl gB)), (bP, .inl (E.2.1, 16, .inl gP)), (bS, .inl (E.2.1, 256, .inl gS)), (bU, .inl (E.2.1, 256, .inl gU)), (bW, .inl (E.2.1, 176, .inl gW)), (bH, .inl (E.2.1, 32, .inl gH)), (bT, .inl (E.2.1, 16, .inl gT)), (bV, .inl (E.2.1, 16, .inl gV)), (bC, .inl (E.2.1, 16, .inl gC)), (bL, .inl (E.2.1, 16, .inl gL)), (bZ, .inl (E.2.2.2.2, 16, .inl gZ))] := hD
      refine lv_iinc (v := (nI (i + 1))) (lv' := [(1, .int (nI (i + 1))), (0, .ref r)]) hx hb dX3_init__20 hl (k := 0) rfl (ii_1 i) (by decide) rfl (fun ls hl => ?_)
      refine lv_goto (tgt := 7) hx hb dX3_init__23 (by decide) ?_
      have hP : va_P E.1 classes [(r, .inr (3, [.int 0, .int rdr, .int mdr, .int msr, .ref bK, .ref bB, .ref bP, .ref bS, .ref bU, .ref bW, .ref bH, .ref bT, .ref bV, .ref bC, .ref bL, .int lcr, .ref bZ, .int wrr])), (bK, .inl (E.2.1, 16, .inl (fillM 0 gK (i + 1)))), (bB, .inl (E.2.1, 16, .inl gB)), (bP, .inl (E.2.1, 16, .inl gP)), (bS, .inl (E.2.1, 256, .inl gS)), (bU, .inl (E.2.1, 256, .inl gU)), (bW, .inl (E.2.1, 176, .inl gW)), (bH, .inl (E.2.1, 32, .inl gH)), (bT, .inl (E.2.1, 16, .inl gT)), (bV, .inl (E.2.1, 16, .inl gV)), (bC, .inl (E.2.1, 16, .inl gC)), (bL, .inl (E.2.1, 16, .inl gL)), (bZ, .inl (E.2.2.2.2, 16, .inl gZ))] _ := hP
      have hD : va_D A [(r, .inr (3, [.int 0, .int rdr, .int mdr, .int msr, .ref bK, .ref bB, .ref bP, .ref bS, .ref bU, .ref bW, .ref bH, .ref bT, .ref bV, .ref bC, .ref bL, .int lcr, .ref bZ, .int wrr])), (bK, .inl (E.2.1, 16, .inl (fillM 0 gK (i + 1)))), (bB, .inl (E.2.1, 16, .inl gB)), (bP, .inl (E.2.1, 16, .inl gP)), (bS, .inl (E.2.1, 256, .inl gS)), (bU, .inl (E.2.1, 256, .inl gU)), (bW, .inl (E.2.1, 176, .inl gW)), (bH, .inl (E.2.1, 32, .inl gH)), (bT, .inl (E.2.1, 16, .inl gT)), (bV, .inl (E.2.1, 16, .inl gV)), (bC, .inl (E.2.1, 16, .inl gC)), (bL, .inl (E.2.1, 16, .inl gL)), (bZ, .inl (E.2.2.2.2, 16, .inl gZ))] := hD
      exact ih (i + 1) (by omega) (by omega) _ _ _ hP hD hS (lv_sub hl [0, 1] rfl)
set_option maxHeartbeats 4000000 in
set_option maxRecDepth 100000 in
/-- the reference: init -/
theorem c_X3_init_ (l : Launch) (E : EE) (r bK bB bP bS bU bW bH bT bV bC bL bZ : Nat) (gK gB gP gS gU gW gH gT gV gC gL gZ : Nat → Int32) (thr rdr mdr msr lcr wrr : Int32) : Cv l yX3_init_ (.code yX3_init_ cX3_init_ 2 none) ({ frames := 0, cells := 0, slots := 0, locals := 0 }) E [.ref r] [(r, .inr (3, [.int thr, .int rdr, .int mdr, .int msr, .ref bK, .ref bB, .ref bP, .ref bS, .ref bU, .ref bW, .ref bH, .ref bT, .ref bV, .ref bC, .ref bL, .int lcr, .ref bZ, .int wrr])), (bK, .inl (E.2.1, 16, .inl gK)), (bB, .inl (E.2.1, 16, .inl gB)), (bP, .inl (E.2.1, 16, .inl gP)), (bS, .inl (E.2.1, 256, .inl gS)), (bU, .inl (E.2.1, 256, .inl gU)), (bW, .inl (E.2.1, 176, .inl gW)), (bH, .inl (E.2.1, 32, .inl gH)), (bT, .inl (E.2.1, 16, .inl gT)), (bV, .inl (E.2.1, 16, .inl gV)), (bC, .inl (E.2.1, 16, .inl gC)), (bL, .inl (E.2.1, 16, .inl gL)), (bZ, .inl (E.2.2.2.2, 16, .inl gZ))] [(r, .inr (3, [.int 0, .int 1, .int 0, .int 0, .ref bK, .ref bB, .ref bP, .ref bS, .ref bU, .ref bW, .ref bH, .ref bT, .ref bV, .ref bC, .ref bL, .int lcr, .ref bZ, .int wrr])), (bK, .inl (E.2.1, 16, .inl (fillM 0 gK 16))), (bB, .inl (E.2.1, 16, .inl gB)), (bP, .inl (E.2.1, 16, .inl gP)), (bS, .inl (E.2.1, 256, .inl gS)), (bU, .inl (E.2.1, 256, .inl gU)), (bW, .inl (E.2.1, 176, .inl gW)), (bH, .inl (E.2.1, 32, .inl gH)), (bT, .inl (E.2.1, 16, .inl gT)), (bV, .inl (E.2.1, 16, .inl gV)), (bC, .inl (E.2.1, 16, .inl gC)), (bL, .inl (E.2.1, 16, .inl gL)), (bZ, .inl (E.2.2.2.2, 16, .inl gZ))] := by
  refine Cv.of (by decide) (Nat.le_of_ble_eq_true rfl) ?_
  intro p e s m below meth c A ls B hP hD hS hl
  have hl : lv_has ls 2 [(0, .ref r)] := hl
  have B : Bd p s m _ meth c cX3_init_ 2 none RX3 E A := B
  have hx := B.1
  have hb := B.2.1
  have hP : va_P E.1 classes [(r, .inr (3, [.int thr, .int rdr, .int mdr, .int msr, .ref bK, .ref bB, .ref bP, .ref bS, .ref bU, .ref bW, .ref bH, .ref bT, .ref bV, .ref bC, .ref bL, .int lcr, .ref bZ, .int wrr])), (bK, .inl (E.2.1, 16, .inl gK)), (bB, .inl (E.2.1, 16, .inl gB)), (bP, .inl (E.2.1, 16, .inl gP)), (bS, .inl (E.2.1, 256, .inl gS)), (bU, .inl (E.2.1, 256, .inl gU)), (bW, .inl (E.2.1, 176, .inl gW)), (bH, .inl (E.2.1, 32, .inl gH)), (bT, .inl (E.2.1, 16, .inl gT)), (bV, .inl (E.2.1, 16, .inl gV)), (bC, .inl (E.2.1, 16, .inl gC)), (bL, .inl (E.2.1, 16, .inl gL)), (bZ, .inl (E.2.2.2.2, 16, .inl gZ))] _ := hP
  have hD : va_D A [(r, .inr (3, [.int thr, .int rdr, .int mdr, .int msr, .ref bK, .ref bB, .ref bP, .ref bS, .ref bU, .ref bW, .ref bH, .ref bT, .ref bV, .ref bC, .ref bL, .int lcr, .ref bZ, .int wrr])), (bK, .inl (E.2.1, 16, .inl gK)), (bB, .inl (E.2.1, 16, .inl gB)), (bP, .inl (E.2.1, 16, .inl gP)), (bS, .inl (E.2.1, 256, .inl gS)), (bU, .inl (E.2.1, 256, .inl gU)), (bW, .inl (E.2.1, 176, .inl gW)), (bH, .inl (E.2.1, 32, .inl gH)), (bT, .inl (E.2.1, 16, .inl gT)), (bV, .inl (E.2.1, 16, .inl gV)), (bC, .inl (E.2.1, 16, .inl gC)), (bL, .inl (E.2.1, 16, .inl gL)), (bZ, .inl (E.2.2.2.2, 16, .inl gZ))] := hD
  refine lv_aload_n hx hb dX3_init__0 rfl (lv_at hl 0 rfl) ?_
  refine lv_iconst (v := 0) hx hb dX3_init__1 (by decide) ?_
  refine x_put B hP hD hS 0 rfl rfl i_X3 tyX3 tyX3_ok nmX3 0 (by decide) g_289 rfl rfl rfl (Nat.le_of_ble_eq_true rfl) dX3_init__2 (fun H locs hP hD hS => ?_)
  have hP : va_P E.1 classes [(r, .inr (3, [.int 0, .int rdr, .int mdr, .int msr, .ref bK, .ref bB, .ref bP, .ref bS, .ref bU, .ref bW, .ref bH, .ref bT, .ref bV, .ref bC, .ref bL, .int lcr, .ref bZ, .int wrr])), (bK, .inl (E.2.1, 16, .inl gK)), (bB, .inl (E.2.1, 16, .inl gB)), (bP, .inl (E.2.1, 16, .inl gP)), (bS, .inl (E.2.1, 256, .inl gS)), (bU, .inl (E.2.1, 256, .inl gU)), (bW, .inl (E.2.1, 176, .inl gW)), (bH, .inl (E.2.1, 32, .inl gH)), (bT, .inl (E.2.1, 16, .inl gT)), (bV, .inl (E.2.1, 16, .inl gV)), (bC, .inl (E.2.1, 16, .inl gC)), (bL, .inl (E.2.1, 16, .inl gL)), (bZ, .inl (E.2.2.2.2, 16, .inl gZ))] _ := hP
  have hD : va_D A [(r, .inr (3, [.int 0, .int rdr, .int mdr, .int msr, .ref bK, .ref bB, .ref bP, .ref bS, .ref bU, .ref bW, .ref bH, .ref bT, .ref bV, .ref bC, .ref bL, .int lcr, .ref bZ, .int wrr])), (bK, .inl (E.2.1, 16, .inl gK)), (bB, .inl (E.2.1, 16, .inl gB)), (bP, .inl (E.2.1, 16, .inl gP)), (bS, .inl (E.2.1, 256, .inl gS)), (bU, .inl (E.2.1, 256, .inl gU)), (bW, .inl (E.2.1, 176, .inl gW)), (bH, .inl (E.2.1, 32, .inl gH)), (bT, .inl (E.2.1, 16, .inl gT)), (bV, .inl (E.2.1, 16, .inl gV)), (bC, .inl (E.2.1, 16, .inl gC)), (bL, .inl (E.2.1, 16, .inl gL)), (bZ, .inl (E.2.2.2.2, 16, .inl gZ))] := hD
  refine lv_iconst (v := 0) hx hb dX3_init__5 (by decide) ?_
  refine lv_istore_n (lv' := [(1, .int 0), (0, .ref r)]) hx hb dX3_init__6 rfl hl (by decide) rfl (fun ls hl => ?_)
  have hP : va_P E.1 classes [(r, .inr (3, [.int 0, .int rdr, .int mdr, .int msr, .ref bK, .ref bB, .ref bP, .ref bS, .ref bU, .ref bW, .ref bH, .ref bT, .ref bV, .ref bC, .ref bL, .int lcr, .ref bZ, .int wrr])), (bK, .inl (E.2.1, 16, .inl (fillM 0 gK 0))), (bB, .inl (E.2.1, 16, .inl gB)), (bP, .inl (E.2.1, 16, .inl gP)), (bS, .inl (E.2.1, 256, .inl gS)), (bU, .inl (E.2.1, 256, .inl gU)), (bW, .inl (E.2.1, 176, .inl gW)), (bH, .inl (E.2.1, 32, .inl gH)), (bT, .inl (E.2.1, 16, .inl gT)), (bV, .inl (E.2.1, 16, .inl gV)), (bC, .inl (E.2.1, 16, .inl gC)), (bL, .inl (E.2.1, 16, .inl gL)), (bZ, .inl (E.2.2.2.2, 16, .inl gZ))] _ := hP
  have hD : va_D A [(r, .inr (3, [.int 0, .int rdr, .int mdr, .int msr, .ref bK, .ref bB, .ref bP, .ref bS, .ref bU, .ref bW, .ref bH, .ref bT, .ref bV, .ref bC, .ref bL, .int lcr, .ref bZ, .int wrr])), (bK, .inl (E.2.1, 16, .inl (fillM 0 gK 0))), (bB, .inl (E.2.1, 16, .inl gB)), (bP, .inl (E.2.1, 16, .inl gP)), (bS, .inl (E.2.1, 256, .inl gS)), (bU, .inl (E.2.1, 256, .inl gU)), (bW, .inl (E.2.1, 176, .inl gW)), (bH, .inl (E.2.1, 32, .inl gH)), (bT, .inl (E.2.1, 16, .inl gT)), (bV, .inl (E.2.1, 16, .inl gV)), (bC, .inl (E.2.1, 16, .inl gC)), (bL, .inl (E.2.1, 16, .inl gL)), (bZ, .inl (E.2.2.2.2, 16, .inl gZ))] := hD
  refine lp_rinit B ⟨by decide, by decide⟩  (fun H locs ls hP hD hS hl => ?_) 17 0 (by omega) (by omega) _ _ _ hP hD hS (lv_sub hl [0, 1] rfl)
  refine lv_aload_n hx hb dX3_init__26 rfl (lv_at hl 1 rfl) ?_
  refine lv_iconst (v := 1) hx hb dX3_init__27 (by decide) ?_
  refine x_put B hP hD hS 0 rfl rfl i_X3 tyX3 tyX3_ok nmX3 1 (by decide) g_290 rfl rfl rfl (Nat.le_of_ble_eq_true rfl) dX3_init__28 (fun H locs hP hD hS => ?_)
  have hP : va_P E.1 classes [(r, .inr (3, [.int 0, .int 1, .int mdr, .int msr, .ref bK, .ref bB, .ref bP, .ref bS, .ref bU, .ref bW, .ref bH, .ref bT, .ref bV, .ref bC, .ref bL, .int lcr, .ref bZ, .int wrr])), (bK, .inl (E.2.1, 16, .inl (fillM 0 gK 16))), (bB, .inl (E.2.1, 16, .inl gB)), (bP, .inl (E.2.1, 16, .inl gP)), (bS, .inl (E.2.1, 256, .inl gS)), (bU, .inl (E.2.1, 256, .inl gU)), (bW, .inl (E.2.1, 176, .inl gW)), (bH, .inl (E.2.1, 32, .inl gH)), (bT, .inl (E.2.1, 16, .inl gT)), (bV, .inl (E.2.1, 16, .inl gV)), (bC, .inl (E.2.1, 16, .inl gC)), (bL, .inl (E.2.1, 16, .inl gL)), (bZ, .inl (E.2.2.2.2, 16, .inl gZ))] _ := hP
  have hD : va_D A [(r, .inr (3, [.int 0, .int 1, .int mdr, .int msr, .ref bK, .ref bB, .ref bP, .ref bS, .ref bU, .ref bW, .ref bH, .ref bT, .ref bV, .ref bC, .ref bL, .int lcr, .ref bZ, .int wrr])), (bK, .inl (E.2.1, 16, .inl (fillM 0 gK 16))), (bB, .inl (E.2.1, 16, .inl gB)), (bP, .inl (E.2.1, 16, .inl gP)), (bS, .inl (E.2.1, 256, .inl gS)), (bU, .inl (E.2.1, 256, .inl gU)), (bW, .inl (E.2.1, 176, .inl gW)), (bH, .inl (E.2.1, 32, .inl gH)), (bT, .inl (E.2.1, 16, .inl gT)), (bV, .inl (E.2.1, 16, .inl gV)), (bC, .inl (E.2.1, 16, .inl gC)), (bL, .inl (E.2.1, 16, .inl gL)), (bZ, .inl (E.2.2.2.2, 16, .inl gZ))] := hD
  refine lv_aload_n hx hb dX3_init__31 rfl (lv_at hl 1 rfl) ?_
  refine lv_iconst (v := 0) hx hb dX3_init__32 (by decide) ?_
  refine x_put B hP hD hS 0 rfl rfl i_X3 tyX3 tyX3_ok nmX3 2 (by decide) g_291 rfl rfl rfl (Nat.le_of_ble_eq_true rfl) dX3_init__33 (fun H locs hP hD hS => ?_)
  have hP : va_P E.1 classes [(r, .inr (3, [.int 0, .int 1, .int 0, .int msr, .ref bK, .ref bB, .ref bP, .ref bS, .ref bU, .ref bW, .ref bH, .ref bT, .ref bV, .ref bC, .ref bL, .int lcr, .ref bZ, .int wrr])), (bK, .inl (E.2.1, 16, .inl (fillM 0 gK 16))), (bB, .inl (E.2.1, 16, .inl gB)), (bP, .inl (E.2.1, 16, .inl gP)), (bS, .inl (E.2.1, 256, .inl gS)), (bU, .inl (E.2.1, 256, .inl gU)), (bW, .inl (E.2.1, 176, .inl gW)), (bH, .inl (E.2.1, 32, .inl gH)), (bT, .inl (E.2.1, 16, .inl gT)), (bV, .inl (E.2.1, 16, .inl gV)), (bC, .inl (E.2.1, 16, .inl gC)), (bL, .inl (E.2.1, 16, .inl gL)), (bZ, .inl (E.2.2.2.2, 16, .inl gZ))] _ := hP
  have hD : va_D A [(r, .inr (3, [.int 0, .int 1, .int 0, .int msr, .ref bK, .ref bB, .ref bP, .ref bS, .ref bU, .ref bW, .ref bH, .ref bT, .ref bV, .ref bC, .ref bL, .int lcr, .ref bZ, .int wrr])), (bK, .inl (E.2.1, 16, .inl (fillM 0 gK 16))), (bB, .inl (E.2.1, 16, .inl gB)), (bP, .inl (E.2.1, 16, .inl gP)), (bS, .inl (E.2.1, 256, .inl gS)), (bU, .inl (E.2.1, 256, .inl gU)), (bW, .inl (E.2.1, 176, .inl gW)), (bH, .inl (E.2.1, 32, .inl gH)), (bT, .inl (E.2.1, 16, .inl gT)), (bV, .inl (E.2.1, 16, .inl gV)), (bC, .inl (E.2.1, 16, .inl gC)), (bL, .inl (E.2.1, 16, .inl gL)), (bZ, .inl (E.2.2.2.2, 16, .inl gZ))] := hD
  refine lv_aload_n hx hb dX3_init__36 rfl (lv_at hl 1 rfl) ?_
  refine lv_iconst (v := 0) hx hb dX3_init__37 (by decide) ?_
  refine x_put B hP hD hS 0 rfl rfl i_X3 tyX3 tyX3_ok nmX3 3 (by decide) g_292 rfl rfl rfl (Nat.le_of_ble_eq_true rfl) dX3_init__38 (fun H locs hP hD hS => ?_)
  have hP : va_P E.1 classes [(r, .inr (3, [.int 0, .int 1, .int 0, .int 0, .ref bK, .ref bB, .ref bP, .ref bS, .ref bU, .ref bW, .ref bH, .ref bT, .ref bV, .ref bC, .ref bL, .int lcr, .ref bZ, .int wrr])), (bK, .inl (E.2.1, 16, .inl (fillM 0 gK 16))), (bB, .inl (E.2.1, 16, .inl gB)), (bP, .inl (E.2.1, 16, .inl gP)), (bS, .inl (E.2.1, 256, .inl gS)), (bU, .inl (E.2.1, 256, .inl gU)), (bW, .inl (E.2.1, 176, .inl gW)), (bH, .inl (E.2.1, 32, .inl gH)), (bT, .inl (E.2.1, 16, .inl gT)), (bV, .inl (E.2.1, 16, .inl gV)), (bC, .inl (E.2.1, 16, .inl gC)), (bL, .inl (E.2.1, 16, .inl gL)), (bZ, .inl (E.2.2.2.2, 16, .inl gZ))] _ := hP
  have hD : va_D A [(r, .inr (3, [.int 0, .int 1, .int 0, .int 0, .ref bK, .ref bB, .ref bP, .ref bS, .ref bU, .ref bW, .ref bH, .ref bT, .ref bV, .ref bC, .ref bL, .int lcr, .ref bZ, .int wrr])), (bK, .inl (E.2.1, 16, .inl (fillM 0 gK 16))), (bB, .inl (E.2.1, 16, .inl gB)), (bP, .inl (E.2.1, 16, .inl gP)), (bS, .inl (E.2.1, 256, .inl gS)), (bU, .inl (E.2.1, 256, .inl gU)), (bW, .inl (E.2.1, 176, .inl gW)), (bH, .inl (E.2.1, 32, .inl gH)), (bT, .inl (E.2.1, 16, .inl gT)), (bV, .inl (E.2.1, 16, .inl gV)), (bC, .inl (E.2.1, 16, .inl gC)), (bL, .inl (E.2.1, 16, .inl gL)), (bZ, .inl (E.2.2.2.2, 16, .inl gZ))] := hD
  have hP : va_P E.1 classes [(r, .inr (3, [.int 0, .int 1, .int 0, .int 0, .ref bK, .ref bB, .ref bP, .ref bS, .ref bU, .ref bW, .ref bH, .ref bT, .ref bV, .ref bC, .ref bL, .int lcr, .ref bZ, .int wrr])), (bK, .inl (E.2.1, 16, .inl (fillM 0 gK 16))), (bB, .inl (E.2.1, 16, .inl gB)), (bP, .inl (E.2.1, 16, .inl gP)), (bS, .inl (E.2.1, 256, .inl gS)), (bU, .inl (E.2.1, 256, .inl gU)), (bW, .inl (E.2.1, 176, .inl gW)), (bH, .inl (E.2.1, 32, .inl gH)), (bT, .inl (E.2.1, 16, .inl gT)), (bV, .inl (E.2.1, 16, .inl gV)), (bC, .inl (E.2.1, 16, .inl gC)), (bL, .inl (E.2.1, 16, .inl gL)), (bZ, .inl (E.2.2.2.2, 16, .inl gZ))] _ := hP
  have hD : va_D A [(r, .inr (3, [.int 0, .int 1, .int 0, .int 0, .ref bK, .ref bB, .ref bP, .ref bS, .ref bU, .ref bW, .ref bH, .ref bT, .ref bV, .ref bC, .ref bL, .int lcr, .ref bZ, .int wrr])), (bK, .inl (E.2.1, 16, .inl (fillM 0 gK 16))), (bB, .inl (E.2.1, 16, .inl gB)), (bP, .inl (E.2.1, 16, .inl gP)), (bS, .inl (E.2.1, 256, .inl gS)), (bU, .inl (E.2.1, 256, .inl gU)), (bW, .inl (E.2.1, 176, .inl gW)), (bH, .inl (E.2.1, 32, .inl gH)), (bT, .inl (E.2.1, 16, .inl gT)), (bV, .inl (E.2.1, 16, .inl gV)), (bC, .inl (E.2.1, 16, .inl gC)), (bL, .inl (E.2.1, 16, .inl gL)), (bZ, .inl (E.2.2.2.2, 16, .inl gZ))] := hD
  exact x_vret B hP hD hS dX3_init__41
set_option maxHeartbeats 4000000 in
set_option maxRecDepth 100000 in
/-- the reference: setKeyByte, no -/
theorem c_X3_setKeyByte_no (l : Launch) (E : EE) (r bK bB bP bS bU bW bH bT bV bC bL bZ : Nat) (gK gB gP gS gU gW gH gT gV gC gL gZ : Nat → Int32) (thr rdr mdr msr lcr wrr : Int32) (p0 : Int32) (p1 : Int32) (h0 : rdr = 0 ∨ inM p0 15 = 0 ∨ inM p1 255 = 0) : Ci l yX3_setKeyByte (.code yX3_setKeyByte cX3_setKeyByte 3 (some .boolean)) ({ frames := 1, cells := 0, slots := 0, locals := 21 }) E [.ref r, .int p0, .int p1] 0 [(r, .inr (3, [.int thr, .int rdr, .int mdr, .int msr, .ref bK, .ref bB, .ref bP, .ref bS, .ref bU, .ref bW, .ref bH, .ref bT, .ref bV, .ref bC, .ref bL, .int lcr, .ref bZ, .int wrr])), (bK, .inl (E.2.1, 16, .inl gK)), (bB, .inl (E.2.1, 16, .inl gB)), (bP, .inl (E.2.1, 16, .inl gP)), (bS, .inl (E.2.1, 256, .inl gS)), (bU, .inl (E.2.1, 256, .inl gU)), (bW, .inl (E.2.1, 176, .inl gW)), (bH, .inl (E.2.1, 32, .inl gH)), (bT, .inl (E.2.1, 16, .inl gT)), (bV, .inl (E.2.1, 16, .inl gV)), (bC, .inl (E.2.1, 16, .inl gC)), (bL, .inl (E.2.1, 16, .inl gL)), (bZ, .inl (E.2.2.2.2, 16, .inl gZ))] [(r, .inr (3, [.int 0, .int rdr, .int mdr, .int msr, .ref bK, .ref bB, .ref bP, .ref bS, .ref bU, .ref bW, .ref bH, .ref bT, .ref bV, .ref bC, .ref bL, .int lcr, .ref bZ, .int wrr])), (bK, .inl (E.2.1, 16, .inl gK)), (bB, .inl (E.2.1, 16, .inl gB)), (bP, .inl (E.2.1, 16, .inl gP)), (bS, .inl (E.2.1, 256, .inl gS)), (bU, .inl (E.2.1, 256, .inl gU)), (bW, .inl (E.2.1, 176, .inl gW)), (bH, .inl (E.2.1, 32, .inl gH)), (bT, .inl (E.2.1, 16, .inl gT)), (bV, .inl (E.2.1, 16, .inl gV)), (bC, .inl (E.2.1, 16, .inl gC)), (bL, .inl (E.2.1, 16, .inl gL)), (bZ, .inl (E.2.2.2.2, 16, .inl gZ))] := by
  refine Ci.of (by decide) (Nat.le_of_ble_eq_true rfl) ?_
  intro p e s m below meth c A ls B hP hD hS hl
  have hl : lv_has ls 3 [(0, .ref r), (1, .int p0), (2, .int p1)] := hl
  have B : Bd p s m _ meth c cX3_setKeyByte 3 (some .boolean) RX3 E A := B
  have hx := B.1
  have hb := B.2.1
  have hP : va_P E.1 classes [(r, .inr (3, [.int thr, .int rdr, .int mdr, .int msr, .ref bK, .ref bB, .ref bP, .ref bS, .ref bU, .ref bW, .ref bH, .ref bT, .ref bV, .ref bC, .ref bL, .int lcr, .ref bZ, .int wrr])), (bK, .inl (E.2.1, 16, .inl gK)), (bB, .inl (E.2.1, 16, .inl gB)), (bP, .inl (E.2.1, 16, .inl gP)), (bS, .inl (E.2.1, 256, .inl gS)), (bU, .inl (E.2.1, 256, .inl gU)), (bW, .inl (E.2.1, 176, .inl gW)), (bH, .inl (E.2.1, 32, .inl gH)), (bT, .inl (E.2.1, 16, .inl gT)), (bV, .inl (E.2.1, 16, .inl gV)), (bC, .inl (E.2.1, 16, .inl gC)), (bL, .inl (E.2.1, 16, .inl gL)), (bZ, .inl (E.2.2.2.2, 16, .inl gZ))] _ := hP
  have hD : va_D A [(r, .inr (3, [.int thr, .int rdr, .int mdr, .int msr, .ref bK, .ref bB, .ref bP, .ref bS, .ref bU, .ref bW, .ref bH, .ref bT, .ref bV, .ref bC, .ref bL, .int lcr, .ref bZ, .int wrr])), (bK, .inl (E.2.1, 16, .inl gK)), (bB, .inl (E.2.1, 16, .inl gB)), (bP, .inl (E.2.1, 16, .inl gP)), (bS, .inl (E.2.1, 256, .inl gS)), (bU, .inl (E.2.1, 256, .inl gU)), (bW, .inl (E.2.1, 176, .inl gW)), (bH, .inl (E.2.1, 32, .inl gH)), (bT, .inl (E.2.1, 16, .inl gT)), (bV, .inl (E.2.1, 16, .inl gV)), (bC, .inl (E.2.1, 16, .inl gC)), (bL, .inl (E.2.1, 16, .inl gL)), (bZ, .inl (E.2.2.2.2, 16, .inl gZ))] := hD
  refine lv_aload_n hx hb dX3_setKeyByte_0 rfl (lv_at hl 0 rfl) ?_
  refine lv_iconst (v := 0) hx hb dX3_setKeyByte_1 (by decide) ?_
  refine x_put B hP hD hS 0 rfl rfl i_X3 tyX3 tyX3_ok nmX3 0 (by decide) g_289 rfl rfl rfl (Nat.le_of_ble_eq_true rfl) dX3_setKeyByte_2 (fun H locs hP hD hS => ?_)
  have hP : va_P E.1 classes [(r, .inr (3, [.int 0, .int rdr, .int mdr, .int msr, .ref bK, .ref bB, .ref bP, .ref bS, .ref bU, .ref bW, .ref bH, .ref bT, .ref bV, .ref bC, .ref bL, .int lcr, .ref bZ, .int wrr])), (bK, .inl (E.2.1, 16, .inl gK)), (bB, .inl (E.2.1, 16, .inl gB)), (bP, .inl (E.2.1, 16, .inl gP)), (bS, .inl (E.2.1, 256, .inl gS)), (bU, .inl (E.2.1, 256, .inl gU)), (bW, .inl (E.2.1, 176, .inl gW)), (bH, .inl (E.2.1, 32, .inl gH)), (bT, .inl (E.2.1, 16, .inl gT)), (bV, .inl (E.2.1, 16, .inl gV)), (bC, .inl (E.2.1, 16, .inl gC)), (bL, .inl (E.2.1, 16, .inl gL)), (bZ, .inl (E.2.2.2.2, 16, .inl gZ))] _ := hP
  have hD : va_D A [(r, .inr (3, [.int 0, .int rdr, .int mdr, .int msr, .ref bK, .ref bB, .ref bP, .ref bS, .ref bU, .ref bW, .ref bH, .ref bT, .ref bV, .ref bC, .ref bL, .int lcr, .ref bZ, .int wrr])), (bK, .inl (E.2.1, 16, .inl gK)), (bB, .inl (E.2.1, 16, .inl gB)), (bP, .inl (E.2.1, 16, .inl gP)), (bS, .inl (E.2.1, 256, .inl gS)), (bU, .inl (E.2.1, 256, .inl gU)), (bW, .inl (E.2.1, 176, .inl gW)), (bH, .inl (E.2.1, 32, .inl gH)), (bT, .inl (E.2.1, 16, .inl gT)), (bV, .inl (E.2.1, 16, .inl gV)), (bC, .inl (E.2.1, 16, .inl gC)), (bL, .inl (E.2.1, 16, .inl gL)), (bZ, .inl (E.2.2.2.2, 16, .inl gZ))] := hD
  refine lv_aload_n hx hb dX3_setKeyByte_5 rfl (lv_at hl 0 rfl) ?_
  refine x_get B hP 0 rfl rfl i_X3 1 (by decide) g_290 rfl dX3_setKeyByte_6 ?_
  refine lv_if_eq (tgt := 31) hx hb dX3_setKeyByte_9 (by decide) (fun c_9 => ?_) (fun c_9 => ?_)
  · refine lv_iconst (v := 0) hx hb dX3_setKeyByte_31 (by decide) ?_
    have hP : va_P E.1 classes [(r, .inr (3, [.int 0, .int rdr, .int mdr, .int msr, .ref bK, .ref bB, .ref bP, .ref bS, .ref bU, .ref bW, .ref bH, .ref bT, .ref bV, .ref bC, .ref bL, .int lcr, .ref bZ, .int wrr])), (bK, .inl (E.2.1, 16, .inl gK)), (bB, .inl (E.2.1, 16, .inl gB)), (bP, .inl (E.2.1, 16, .inl gP)), (bS, .inl (E.2.1, 256, .inl gS)), (bU, .inl (E.2.1, 256, .inl gU)), (bW, .inl (E.2.1, 176, .inl gW)), (bH, .inl (E.2.1, 32, .inl gH)), (bT, .inl (E.2.1, 16, .inl gT)), (bV, .inl (E.2.1, 16, .inl gV)), (bC, .inl (E.2.1, 16, .inl gC)), (bL, .inl (E.2.1, 16, .inl gL)), (bZ, .inl (E.2.2.2.2, 16, .inl gZ))] _ := hP
    have hD : va_D A [(r, .inr (3, [.int 0, .int rdr, .int mdr, .int msr, .ref bK, .ref bB, .ref bP, .ref bS, .ref bU, .ref bW, .ref bH, .ref bT, .ref bV, .ref bC, .ref bL, .int lcr, .ref bZ, .int wrr])), (bK, .inl (E.2.1, 16, .inl gK)), (bB, .inl (E.2.1, 16, .inl gB)), (bP, .inl (E.2.1, 16, .inl gP)), (bS, .inl (E.2.1, 256, .inl gS)), (bU, .inl (E.2.1, 256, .inl gU)), (bW, .inl (E.2.1, 176, .inl gW)), (bH, .inl (E.2.1, 32, .inl gH)), (bT, .inl (E.2.1, 16, .inl gT)), (bV, .inl (E.2.1, 16, .inl gV)), (bC, .inl (E.2.1, 16, .inl gC)), (bL, .inl (E.2.1, 16, .inl gL)), (bZ, .inl (E.2.2.2.2, 16, .inl gZ))] := hD
    exact x_iret B hP hD hS rfl rfl dX3_setKeyByte_32
  · refine lv_iload_n hx hb dX3_setKeyByte_12 rfl (lv_at hl 1 rfl) ?_
    refine lv_bipush (v := 15) hx hb dX3_setKeyByte_13 (by decide) ?_
    refine x_Si (wr := [(r, .inr (3, [.int 0, .int rdr, .int mdr, .int msr, .ref bK, .ref bB, .ref bP, .ref bS, .ref bU, .ref bW, .ref bH, .ref bT, .ref bV, .ref bC, .ref bL, .int lcr, .ref bZ, .int wrr])), (bK, .inl (E.2.1, 16, .inl gK)), (bB, .inl (E.2.1, 16, .inl gB)), (bP, .inl (E.2.1, 16, .inl gP)), (bS, .inl (E.2.1, 256, .inl gS)), (bU, .inl (E.2.1, 256, .inl gU)), (bW, .inl (E.2.1, 176, .inl gW)), (bH, .inl (E.2.1, 32, .inl gH)), (bT, .inl (E.2.1, 16, .inl gT)), (bV, .inl (E.2.1, 16, .inl gV)), (bC, .inl (E.2.1, 16, .inl gC)), (bL, .inl (E.2.1, 16, .inl gL)), (bZ, .inl (E.2.2.2.2, 16, .inl gZ))]) (isC := []) (isR := [0, 1, 2, 3, 4, 5, 6, 7, 8, 9, 10, 11, 12]) (As := [.int p0, .int 15]) B (c_X3_isIn l E p0 15) k_X3_isIn g_353 s_X3_isIn ⟨by decide, by decide, rfl, rfl⟩ hP hD hS ⟨rfl, rfl, rfl, rfl, by decide⟩ rfl hl.1 rfl (Nat.le_of_ble_eq_true rfl) dX3_setKeyByte_15 ⟨by decide, by decide⟩ (fun H locs hP hD hS => ?_)
    have hP : va_P E.1 classes [(r, .inr (3, [.int 0, .int rdr, .int mdr, .int msr, .ref bK, .ref bB, .ref bP, .ref bS, .ref bU, .ref bW, .ref bH, .ref bT, .ref bV, .ref bC, .ref bL, .int lcr, .ref bZ, .int wrr])), (bK, .inl (E.2.1, 16, .inl gK)), (bB, .inl (E.2.1, 16, .inl gB)), (bP, .inl (E.2.1, 16, .inl gP)), (bS, .inl (E.2.1, 256, .inl gS)), (bU, .inl (E.2.1, 256, .inl gU)), (bW, .inl (E.2.1, 176, .inl gW)), (bH, .inl (E.2.1, 32, .inl gH)), (bT, .inl (E.2.1, 16, .inl gT)), (bV, .inl (E.2.1, 16, .inl gV)), (bC, .inl (E.2.1, 16, .inl gC)), (bL, .inl (E.2.1, 16, .inl gL)), (bZ, .inl (E.2.2.2.2, 16, .inl gZ))] _ := hP
    have hD : va_D A [(r, .inr (3, [.int 0, .int rdr, .int mdr, .int msr, .ref bK, .ref bB, .ref bP, .ref bS, .ref bU, .ref bW, .ref bH, .ref bT, .ref bV, .ref bC, .ref bL, .int lcr, .ref bZ, .int wrr])), (bK, .inl (E.2.1, 16, .inl gK)), (bB, .inl (E.2.1, 16, .inl gB)), (bP, .inl (E.2.1, 16, .inl gP)), (bS, .inl (E.2.1, 256, .inl gS)), (bU, .inl (E.2.1, 256, .inl gU)), (bW, .inl (E.2.1, 176, .inl gW)), (bH, .inl (E.2.1, 32, .inl gH)), (bT, .inl (E.2.1, 16, .inl gT)), (bV, .inl (E.2.1, 16, .inl gV)), (bC, .inl (E.2.1, 16, .inl gC)), (bL, .inl (E.2.1, 16, .inl gL)), (bZ, .inl (E.2.2.2.2, 16, .inl gZ))] := hD
    refine lv_if_eq (tgt := 31) hx hb dX3_setKeyByte_18 (by decide) (fun c_18 => ?_) (fun c_18 => ?_)
    · refine lv_iconst (v := 0) hx hb dX3_setKeyByte_31 (by decide) ?_
      have hP : va_P E.1 classes [(r, .inr (3, [.int 0, .int rdr, .int mdr, .int msr, .ref bK, .ref bB, .ref bP, .ref bS, .ref bU, .ref bW, .ref bH, .ref bT, .ref bV, .ref bC, .ref bL, .int lcr, .ref bZ, .int wrr])), (bK, .inl (E.2.1, 16, .inl gK)), (bB, .inl (E.2.1, 16, .inl gB)), (bP, .inl (E.2.1, 16, .inl gP)), (bS, .inl (E.2.1, 256, .inl gS)), (bU, .inl (E.2.1, 256, .inl gU)), (bW, .inl (E.2.1, 176, .inl gW)), (bH, .inl (E.2.1, 32, .inl gH)), (bT, .inl (E.2.1, 16, .inl gT)), (bV, .inl (E.2.1, 16, .inl gV)), (bC, .inl (E.2.1, 16, .inl gC)), (bL, .inl (E.2.1, 16, .inl gL)), (bZ, .inl (E.2.2.2.2, 16, .inl gZ))] _ := hP
      have hD : va_D A [(r, .inr (3, [.int 0, .int rdr, .int mdr, .int msr, .ref bK, .ref bB, .ref bP, .ref bS, .ref bU, .ref bW, .ref bH, .ref bT, .ref bV, .ref bC, .ref bL, .int lcr, .ref bZ, .int wrr])), (bK, .inl (E.2.1, 16, .inl gK)), (bB, .inl (E.2.1, 16, .inl gB)), (bP, .inl (E.2.1, 16, .inl gP)), (bS, .inl (E.2.1, 256, .inl gS)), (bU, .inl (E.2.1, 256, .inl gU)), (bW, .inl (E.2.1, 176, .inl gW)), (bH, .inl (E.2.1, 32, .inl gH)), (bT, .inl (E.2.1, 16, .inl gT)), (bV, .inl (E.2.1, 16, .inl gV)), (bC, .inl (E.2.1, 16, .inl gC)), (bL, .inl (E.2.1, 16, .inl gL)), (bZ, .inl (E.2.2.2.2, 16, .inl gZ))] := hD
      exact x_iret B hP hD hS rfl rfl dX3_setKeyByte_32
    · refine lv_iload_n hx hb dX3_setKeyByte_21 rfl (lv_at hl 2 rfl) ?_
      refine lv_sipush (v := 255) hx hb dX3_setKeyByte_22 (by decide) ?_
      refine x_Si (wr := [(r, .inr (3, [.int 0, .int rdr, .int mdr, .int msr, .ref bK, .ref bB, .ref bP, .ref bS, .ref bU, .ref bW, .ref bH, .ref bT, .ref bV, .ref bC, .ref bL, .int lcr, .ref bZ, .int wrr])), (bK, .inl (E.2.1, 16, .inl gK)), (bB, .inl (E.2.1, 16, .inl gB)), (bP, .inl (E.2.1, 16, .inl gP)), (bS, .inl (E.2.1, 256, .inl gS)), (bU, .inl (E.2.1, 256, .inl gU)), (bW, .inl (E.2.1, 176, .inl gW)), (bH, .inl (E.2.1, 32, .inl gH)), (bT, .inl (E.2.1, 16, .inl gT)), (bV, .inl (E.2.1, 16, .inl gV)), (bC, .inl (E.2.1, 16, .inl gC)), (bL, .inl (E.2.1, 16, .inl gL)), (bZ, .inl (E.2.2.2.2, 16, .inl gZ))]) (isC := []) (isR := [0, 1, 2, 3, 4, 5, 6, 7, 8, 9, 10, 11, 12]) (As := [.int p1, .int 255]) B (c_X3_isIn l E p1 255) k_X3_isIn g_353 s_X3_isIn ⟨by decide, by decide, rfl, rfl⟩ hP hD hS ⟨rfl, rfl, rfl, rfl, by decide⟩ rfl hl.1 rfl (Nat.le_of_ble_eq_true rfl) dX3_setKeyByte_25 ⟨by decide, by decide⟩ (fun H locs hP hD hS => ?_)
      have hP : va_P E.1 classes [(r, .inr (3, [.int 0, .int rdr, .int mdr, .int msr, .ref bK, .ref bB, .ref bP, .ref bS, .ref bU, .ref bW, .ref bH, .ref bT, .ref bV, .ref bC, .ref bL, .int lcr, .ref bZ, .int wrr])), (bK, .inl (E.2.1, 16, .inl gK)), (bB, .inl (E.2.1, 16, .inl gB)), (bP, .inl (E.2.1, 16, .inl gP)), (bS, .inl (E.2.1, 256, .inl gS)), (bU, .inl (E.2.1, 256, .inl gU)), (bW, .inl (E.2.1, 176, .inl gW)), (bH, .inl (E.2.1, 32, .inl gH)), (bT, .inl (E.2.1, 16, .inl gT)), (bV, .inl (E.2.1, 16, .inl gV)), (bC, .inl (E.2.1, 16, .inl gC)), (bL, .inl (E.2.1, 16, .inl gL)), (bZ, .inl (E.2.2.2.2, 16, .inl gZ))] _ := hP
      have hD : va_D A [(r, .inr (3, [.int 0, .int rdr, .int mdr, .int msr, .ref bK, .ref bB, .ref bP, .ref bS, .ref bU, .ref bW, .ref bH, .ref bT, .ref bV, .ref bC, .ref bL, .int lcr, .ref bZ, .int wrr])), (bK, .inl (E.2.1, 16, .inl gK)), (bB, .inl (E.2.1, 16, .inl gB)), (bP, .inl (E.2.1, 16, .inl gP)), (bS, .inl (E.2.1, 256, .inl gS)), (bU, .inl (E.2.1, 256, .inl gU)), (bW, .inl (E.2.1, 176, .inl gW)), (bH, .inl (E.2.1, 32, .inl gH)), (bT, .inl (E.2.1, 16, .inl gT)), (bV, .inl (E.2.1, 16, .inl gV)), (bC, .inl (E.2.1, 16, .inl gC)), (bL, .inl (E.2.1, 16, .inl gL)), (bZ, .inl (E.2.2.2.2, 16, .inl gZ))] := hD
      refine lv_if_ne (tgt := 33) hx hb dX3_setKeyByte_28 (by decide) (fun c_28 => ?_) (fun c_28 => ?_)
      · exact absurd h0 (fun h => by rcases h with h | h | h <;> contradiction)
      · refine lv_iconst (v := 0) hx hb dX3_setKeyByte_31 (by decide) ?_
        have hP : va_P E.1 classes [(r, .inr (3, [.int 0, .int rdr, .int mdr, .int msr, .ref bK, .ref bB, .ref bP, .ref bS, .ref bU, .ref bW, .ref bH, .ref bT, .ref bV, .ref bC, .ref bL, .int lcr, .ref bZ, .int wrr])), (bK, .inl (E.2.1, 16, .inl gK)), (bB, .inl (E.2.1, 16, .inl gB)), (bP, .inl (E.2.1, 16, .inl gP)), (bS, .inl (E.2.1, 256, .inl gS)), (bU, .inl (E.2.1, 256, .inl gU)), (bW, .inl (E.2.1, 176, .inl gW)), (bH, .inl (E.2.1, 32, .inl gH)), (bT, .inl (E.2.1, 16, .inl gT)), (bV, .inl (E.2.1, 16, .inl gV)), (bC, .inl (E.2.1, 16, .inl gC)), (bL, .inl (E.2.1, 16, .inl gL)), (bZ, .inl (E.2.2.2.2, 16, .inl gZ))] _ := hP
        have hD : va_D A [(r, .inr (3, [.int 0, .int rdr, .int mdr, .int msr, .ref bK, .ref bB, .ref bP, .ref bS, .ref bU, .ref bW, .ref bH, .ref bT, .ref bV, .ref bC, .ref bL, .int lcr, .ref bZ, .int wrr])), (bK, .inl (E.2.1, 16, .inl gK)), (bB, .inl (E.2.1, 16, .inl gB)), (bP, .inl (E.2.1, 16, .inl gP)), (bS, .inl (E.2.1, 256, .inl gS)), (bU, .inl (E.2.1, 256, .inl gU)), (bW, .inl (E.2.1, 176, .inl gW)), (bH, .inl (E.2.1, 32, .inl gH)), (bT, .inl (E.2.1, 16, .inl gT)), (bV, .inl (E.2.1, 16, .inl gV)), (bC, .inl (E.2.1, 16, .inl gC)), (bL, .inl (E.2.1, 16, .inl gL)), (bZ, .inl (E.2.2.2.2, 16, .inl gZ))] := hD
        exact x_iret B hP hD hS rfl rfl dX3_setKeyByte_32
set_option maxHeartbeats 4000000 in
set_option maxRecDepth 100000 in
/-- the reference: expand, no -/
theorem c_X3_expand_no (l : Launch) (E : EE) (r bK bB bP bS bU bW bH bT bV bC bL bZ : Nat) (gK gB gP gS gU gW gH gT gV gC gL gZ : Nat → Int32) (thr rdr mdr msr lcr wrr : Int32) (h0 : rdr = 0) : Ci l yX3_expand (.code yX3_expand cX3_expand 2 (some .boolean)) ({ frames := 3, cells := 0, slots := 0, locals := 72 }) E [.ref r] 0 [(r, .inr (3, [.int thr, .int rdr, .int mdr, .int msr, .ref bK, .ref bB, .ref bP, .ref bS, .ref bU, .ref bW, .ref bH, .ref bT, .ref bV, .ref bC, .ref bL, .int lcr, .ref bZ, .int wrr])), (bK, .inl (E.2.1, 16, .inl gK)), (bB, .inl (E.2.1, 16, .inl gB)), (bP, .inl (E.2.1, 16, .inl gP)), (bS, .inl (E.2.1, 256, .inl gS)), (bU, .inl (E.2.1, 256, .inl gU)), (bW, .inl (E.2.1, 176, .inl gW)), (bH, .inl (E.2.1, 32, .inl gH)), (bT, .inl (E.2.1, 16, .inl gT)), (bV, .inl (E.2.1, 16, .inl gV)), (bC, .inl (E.2.1, 16, .inl gC)), (bL, .inl (E.2.1, 16, .inl gL)), (bZ, .inl (E.2.2.2.2, 16, .inl gZ))] [(r, .inr (3, [.int 0, .int rdr, .int mdr, .int msr, .ref bK, .ref bB, .ref bP, .ref bS, .ref bU, .ref bW, .ref bH, .ref bT, .ref bV, .ref bC, .ref bL, .int lcr, .ref bZ, .int wrr])), (bK, .inl (E.2.1, 16, .inl gK)), (bB, .inl (E.2.1, 16, .inl gB)), (bP, .inl (E.2.1, 16, .inl gP)), (bS, .inl (E.2.1, 256, .inl gS)), (bU, .inl (E.2.1, 256, .inl gU)), (bW, .inl (E.2.1, 176, .inl gW)), (bH, .inl (E.2.1, 32, .inl gH)), (bT, .inl (E.2.1, 16, .inl gT)), (bV, .inl (E.2.1, 16, .inl gV)), (bC, .inl (E.2.1, 16, .inl gC)), (bL, .inl (E.2.1, 16, .inl gL)), (bZ, .inl (E.2.2.2.2, 16, .inl gZ))] := by
  refine Ci.of (by decide) (Nat.le_of_ble_eq_true rfl) ?_
  intro p e s m below meth c A ls B hP hD hS hl
  have hl : lv_has ls 2 [(0, .ref r)] := hl
  have B : Bd p s m _ meth c cX3_expand 2 (some .boolean) RX3 E A := B
  have hx := B.1
  have hb := B.2.1
  have hP : va_P E.1 classes [(r, .inr (3, [.int thr, .int rdr, .int mdr, .int msr, .ref bK, .ref bB, .ref bP, .ref bS, .ref bU, .ref bW, .ref bH, .ref bT, .ref bV, .ref bC, .ref bL, .int lcr, .ref bZ, .int wrr])), (bK, .inl (E.2.1, 16, .inl gK)), (bB, .inl (E.2.1, 16, .inl gB)), (bP, .inl (E.2.1, 16, .inl gP)), (bS, .inl (E.2.1, 256, .inl gS)), (bU, .inl (E.2.1, 256, .inl gU)), (bW, .inl (E.2.1, 176, .inl gW)), (bH, .inl (E.2.1, 32, .inl gH)), (bT, .inl (E.2.1, 16, .inl gT)), (bV, .inl (E.2.1, 16, .inl gV)), (bC, .inl (E.2.1, 16, .inl gC)), (bL, .inl (E.2.1, 16, .inl gL)), (bZ, .inl (E.2.2.2.2, 16, .inl gZ))] _ := hP
  have hD : va_D A [(r, .inr (3, [.int thr, .int rdr, .int mdr, .int msr, .ref bK, .ref bB, .ref bP, .ref bS, .ref bU, .ref bW, .ref bH, .ref bT, .ref bV, .ref bC, .ref bL, .int lcr, .ref bZ, .int wrr])), (bK, .inl (E.2.1, 16, .inl gK)), (bB, .inl (E.2.1, 16, .inl gB)), (bP, .inl (E.2.1, 16, .inl gP)), (bS, .inl (E.2.1, 256, .inl gS)), (bU, .inl (E.2.1, 256, .inl gU)), (bW, .inl (E.2.1, 176, .inl gW)), (bH, .inl (E.2.1, 32, .inl gH)), (bT, .inl (E.2.1, 16, .inl gT)), (bV, .inl (E.2.1, 16, .inl gV)), (bC, .inl (E.2.1, 16, .inl gC)), (bL, .inl (E.2.1, 16, .inl gL)), (bZ, .inl (E.2.2.2.2, 16, .inl gZ))] := hD
  refine lv_aload_n hx hb dX3_expand_0 rfl (lv_at hl 0 rfl) ?_
  refine lv_iconst (v := 0) hx hb dX3_expand_1 (by decide) ?_
  refine x_put B hP hD hS 0 rfl rfl i_X3 tyX3 tyX3_ok nmX3 0 (by decide) g_289 rfl rfl rfl (Nat.le_of_ble_eq_true rfl) dX3_expand_2 (fun H locs hP hD hS => ?_)
  have hP : va_P E.1 classes [(r, .inr (3, [.int 0, .int rdr, .int mdr, .int msr, .ref bK, .ref bB, .ref bP, .ref bS, .ref bU, .ref bW, .ref bH, .ref bT, .ref bV, .ref bC, .ref bL, .int lcr, .ref bZ, .int wrr])), (bK, .inl (E.2.1, 16, .inl gK)), (bB, .inl (E.2.1, 16, .inl gB)), (bP, .inl (E.2.1, 16, .inl gP)), (bS, .inl (E.2.1, 256, .inl gS)), (bU, .inl (E.2.1, 256, .inl gU)), (bW, .inl (E.2.1, 176, .inl gW)), (bH, .inl (E.2.1, 32, .inl gH)), (bT, .inl (E.2.1, 16, .inl gT)), (bV, .inl (E.2.1, 16, .inl gV)), (bC, .inl (E.2.1, 16, .inl gC)), (bL, .inl (E.2.1, 16, .inl gL)), (bZ, .inl (E.2.2.2.2, 16, .inl gZ))] _ := hP
  have hD : va_D A [(r, .inr (3, [.int 0, .int rdr, .int mdr, .int msr, .ref bK, .ref bB, .ref bP, .ref bS, .ref bU, .ref bW, .ref bH, .ref bT, .ref bV, .ref bC, .ref bL, .int lcr, .ref bZ, .int wrr])), (bK, .inl (E.2.1, 16, .inl gK)), (bB, .inl (E.2.1, 16, .inl gB)), (bP, .inl (E.2.1, 16, .inl gP)), (bS, .inl (E.2.1, 256, .inl gS)), (bU, .inl (E.2.1, 256, .inl gU)), (bW, .inl (E.2.1, 176, .inl gW)), (bH, .inl (E.2.1, 32, .inl gH)), (bT, .inl (E.2.1, 16, .inl gT)), (bV, .inl (E.2.1, 16, .inl gV)), (bC, .inl (E.2.1, 16, .inl gC)), (bL, .inl (E.2.1, 16, .inl gL)), (bZ, .inl (E.2.2.2.2, 16, .inl gZ))] := hD
  refine lv_aload_n hx hb dX3_expand_5 rfl (lv_at hl 0 rfl) ?_
  refine x_get B hP 0 rfl rfl i_X3 1 (by decide) g_290 rfl dX3_expand_6 ?_
  refine lv_if_ne (tgt := 14) hx hb dX3_expand_9 (by decide) (fun c_9 => ?_) (fun c_9 => ?_)
  · exact absurd h0 c_9
  · refine lv_iconst (v := 0) hx hb dX3_expand_12 (by decide) ?_
    have hP : va_P E.1 classes [(r, .inr (3, [.int 0, .int rdr, .int mdr, .int msr, .ref bK, .ref bB, .ref bP, .ref bS, .ref bU, .ref bW, .ref bH, .ref bT, .ref bV, .ref bC, .ref bL, .int lcr, .ref bZ, .int wrr])), (bK, .inl (E.2.1, 16, .inl gK)), (bB, .inl (E.2.1, 16, .inl gB)), (bP, .inl (E.2.1, 16, .inl gP)), (bS, .inl (E.2.1, 256, .inl gS)), (bU, .inl (E.2.1, 256, .inl gU)), (bW, .inl (E.2.1, 176, .inl gW)), (bH, .inl (E.2.1, 32, .inl gH)), (bT, .inl (E.2.1, 16, .inl gT)), (bV, .inl (E.2.1, 16, .inl gV)), (bC, .inl (E.2.1, 16, .inl gC)), (bL, .inl (E.2.1, 16, .inl gL)), (bZ, .inl (E.2.2.2.2, 16, .inl gZ))] _ := hP
    have hD : va_D A [(r, .inr (3, [.int 0, .int rdr, .int mdr, .int msr, .ref bK, .ref bB, .ref bP, .ref bS, .ref bU, .ref bW, .ref bH, .ref bT, .ref bV, .ref bC, .ref bL, .int lcr, .ref bZ, .int wrr])), (bK, .inl (E.2.1, 16, .inl gK)), (bB, .inl (E.2.1, 16, .inl gB)), (bP, .inl (E.2.1, 16, .inl gP)), (bS, .inl (E.2.1, 256, .inl gS)), (bU, .inl (E.2.1, 256, .inl gU)), (bW, .inl (E.2.1, 176, .inl gW)), (bH, .inl (E.2.1, 32, .inl gH)), (bT, .inl (E.2.1, 16, .inl gT)), (bV, .inl (E.2.1, 16, .inl gV)), (bC, .inl (E.2.1, 16, .inl gC)), (bL, .inl (E.2.1, 16, .inl gL)), (bZ, .inl (E.2.2.2.2, 16, .inl gZ))] := hD
    exact x_iret B hP hD hS rfl rfl dX3_expand_13
set_option maxHeartbeats 4000000 in
set_option maxRecDepth 100000 in
/-- the reference: macStart, no -/
theorem c_X3_macStart_no (l : Launch) (E : EE) (r bK bB bP bS bU bW bH bT bV bC bL bZ : Nat) (gK gB gP gS gU gW gH gT gV gC gL gZ : Nat → Int32) (thr rdr mdr msr lcr wrr : Int32) (h0 : mdr = 0) : Ci l yX3_macStart (.code yX3_macStart cX3_macStart 2 (some .boolean)) ({ frames := 0, cells := 0, slots := 0, locals := 0 }) E [.ref r] 0 [(r, .inr (3, [.int thr, .int rdr, .int mdr, .int msr, .ref bK, .ref bB, .ref bP, .ref bS, .ref bU, .ref bW, .ref bH, .ref bT, .ref bV, .ref bC, .ref bL, .int lcr, .ref bZ, .int wrr])), (bK, .inl (E.2.1, 16, .inl gK)), (bB, .inl (E.2.1, 16, .inl gB)), (bP, .inl (E.2.1, 16, .inl gP)), (bS, .inl (E.2.1, 256, .inl gS)), (bU, .inl (E.2.1, 256, .inl gU)), (bW, .inl (E.2.1, 176, .inl gW)), (bH, .inl (E.2.1, 32, .inl gH)), (bT, .inl (E.2.1, 16, .inl gT)), (bV, .inl (E.2.1, 16, .inl gV)), (bC, .inl (E.2.1, 16, .inl gC)), (bL, .inl (E.2.1, 16, .inl gL)), (bZ, .inl (E.2.2.2.2, 16, .inl gZ))] [(r, .inr (3, [.int 0, .int rdr, .int mdr, .int msr, .ref bK, .ref bB, .ref bP, .ref bS, .ref bU, .ref bW, .ref bH, .ref bT, .ref bV, .ref bC, .ref bL, .int lcr, .ref bZ, .int wrr])), (bK, .inl (E.2.1, 16, .inl gK)), (bB, .inl (E.2.1, 16, .inl gB)), (bP, .inl (E.2.1, 16, .inl gP)), (bS, .inl (E.2.1, 256, .inl gS)), (bU, .inl (E.2.1, 256, .inl gU)), (bW, .inl (E.2.1, 176, .inl gW)), (bH, .inl (E.2.1, 32, .inl gH)), (bT, .inl (E.2.1, 16, .inl gT)), (bV, .inl (E.2.1, 16, .inl gV)), (bC, .inl (E.2.1, 16, .inl gC)), (bL, .inl (E.2.1, 16, .inl gL)), (bZ, .inl (E.2.2.2.2, 16, .inl gZ))] := by
  refine Ci.of (by decide) (Nat.le_of_ble_eq_true rfl) ?_
  intro p e s m below meth c A ls B hP hD hS hl
  have hl : lv_has ls 2 [(0, .ref r)] := hl
  have B : Bd p s m _ meth c cX3_macStart 2 (some .boolean) RX3 E A := B
  have hx := B.1
  have hb := B.2.1
  have hP : va_P E.1 classes [(r, .inr (3, [.int thr, .int rdr, .int mdr, .int msr, .ref bK, .ref bB, .ref bP, .ref bS, .ref bU, .ref bW, .ref bH, .ref bT, .ref bV, .ref bC, .ref bL, .int lcr, .ref bZ, .int wrr])), (bK, .inl (E.2.1, 16, .inl gK)), (bB, .inl (E.2.1, 16, .inl gB)), (bP, .inl (E.2.1, 16, .inl gP)), (bS, .inl (E.2.1, 256, .inl gS)), (bU, .inl (E.2.1, 256, .inl gU)), (bW, .inl (E.2.1, 176, .inl gW)), (bH, .inl (E.2.1, 32, .inl gH)), (bT, .inl (E.2.1, 16, .inl gT)), (bV, .inl (E.2.1, 16, .inl gV)), (bC, .inl (E.2.1, 16, .inl gC)), (bL, .inl (E.2.1, 16, .inl gL)), (bZ, .inl (E.2.2.2.2, 16, .inl gZ))] _ := hP
  have hD : va_D A [(r, .inr (3, [.int thr, .int rdr, .int mdr, .int msr, .ref bK, .ref bB, .ref bP, .ref bS, .ref bU, .ref bW, .ref bH, .ref bT, .ref bV, .ref bC, .ref bL, .int lcr, .ref bZ, .int wrr])), (bK, .inl (E.2.1, 16, .inl gK)), (bB, .inl (E.2.1, 16, .inl gB)), (bP, .inl (E.2.1, 16, .inl gP)), (bS, .inl (E.2.1, 256, .inl gS)), (bU, .inl (E.2.1, 256, .inl gU)), (bW, .inl (E.2.1, 176, .inl gW)), (bH, .inl (E.2.1, 32, .inl gH)), (bT, .inl (E.2.1, 16, .inl gT)), (bV, .inl (E.2.1, 16, .inl gV)), (bC, .inl (E.2.1, 16, .inl gC)), (bL, .inl (E.2.1, 16, .inl gL)), (bZ, .inl (E.2.2.2.2, 16, .inl gZ))] := hD
  refine lv_aload_n hx hb dX3_macStart_0 rfl (lv_at hl 0 rfl) ?_
  refine lv_iconst (v := 0) hx hb dX3_macStart_1 (by decide) ?_
  refine x_put B hP hD hS 0 rfl rfl i_X3 tyX3 tyX3_ok nmX3 0 (by decide) g_289 rfl rfl rfl (Nat.le_of_ble_eq_true rfl) dX3_macStart_2 (fun H locs hP hD hS => ?_)
  have hP : va_P E.1 classes [(r, .inr (3, [.int 0, .int rdr, .int mdr, .int msr, .ref bK, .ref bB, .ref bP, .ref bS, .ref bU, .ref bW, .ref bH, .ref bT, .ref bV, .ref bC, .ref bL, .int lcr, .ref bZ, .int wrr])), (bK, .inl (E.2.1, 16, .inl gK)), (bB, .inl (E.2.1, 16, .inl gB)), (bP, .inl (E.2.1, 16, .inl gP)), (bS, .inl (E.2.1, 256, .inl gS)), (bU, .inl (E.2.1, 256, .inl gU)), (bW, .inl (E.2.1, 176, .inl gW)), (bH, .inl (E.2.1, 32, .inl gH)), (bT, .inl (E.2.1, 16, .inl gT)), (bV, .inl (E.2.1, 16, .inl gV)), (bC, .inl (E.2.1, 16, .inl gC)), (bL, .inl (E.2.1, 16, .inl gL)), (bZ, .inl (E.2.2.2.2, 16, .inl gZ))] _ := hP
  have hD : va_D A [(r, .inr (3, [.int 0, .int rdr, .int mdr, .int msr, .ref bK, .ref bB, .ref bP, .ref bS, .ref bU, .ref bW, .ref bH, .ref bT, .ref bV, .ref bC, .ref bL, .int lcr, .ref bZ, .int wrr])), (bK, .inl (E.2.1, 16, .inl gK)), (bB, .inl (E.2.1, 16, .inl gB)), (bP, .inl (E.2.1, 16, .inl gP)), (bS, .inl (E.2.1, 256, .inl gS)), (bU, .inl (E.2.1, 256, .inl gU)), (bW, .inl (E.2.1, 176, .inl gW)), (bH, .inl (E.2.1, 32, .inl gH)), (bT, .inl (E.2.1, 16, .inl gT)), (bV, .inl (E.2.1, 16, .inl gV)), (bC, .inl (E.2.1, 16, .inl gC)), (bL, .inl (E.2.1, 16, .inl gL)), (bZ, .inl (E.2.2.2.2, 16, .inl gZ))] := hD
  refine lv_aload_n hx hb dX3_macStart_5 rfl (lv_at hl 0 rfl) ?_
  refine x_get B hP 0 rfl rfl i_X3 2 (by decide) g_291 rfl dX3_macStart_6 ?_
  refine lv_if_ne (tgt := 14) hx hb dX3_macStart_9 (by decide) (fun c_9 => ?_) (fun c_9 => ?_)
  · exact absurd h0 c_9
  · refine lv_iconst (v := 0) hx hb dX3_macStart_12 (by decide) ?_
    have hP : va_P E.1 classes [(r, .inr (3, [.int 0, .int rdr, .int mdr, .int msr, .ref bK, .ref bB, .ref bP, .ref bS, .ref bU, .ref bW, .ref bH, .ref bT, .ref bV, .ref bC, .ref bL, .int lcr, .ref bZ, .int wrr])), (bK, .inl (E.2.1, 16, .inl gK)), (bB, .inl (E.2.1, 16, .inl gB)), (bP, .inl (E.2.1, 16, .inl gP)), (bS, .inl (E.2.1, 256, .inl gS)), (bU, .inl (E.2.1, 256, .inl gU)), (bW, .inl (E.2.1, 176, .inl gW)), (bH, .inl (E.2.1, 32, .inl gH)), (bT, .inl (E.2.1, 16, .inl gT)), (bV, .inl (E.2.1, 16, .inl gV)), (bC, .inl (E.2.1, 16, .inl gC)), (bL, .inl (E.2.1, 16, .inl gL)), (bZ, .inl (E.2.2.2.2, 16, .inl gZ))] _ := hP
    have hD : va_D A [(r, .inr (3, [.int 0, .int rdr, .int mdr, .int msr, .ref bK, .ref bB, .ref bP, .ref bS, .ref bU, .ref bW, .ref bH, .ref bT, .ref bV, .ref bC, .ref bL, .int lcr, .ref bZ, .int wrr])), (bK, .inl (E.2.1, 16, .inl gK)), (bB, .inl (E.2.1, 16, .inl gB)), (bP, .inl (E.2.1, 16, .inl gP)), (bS, .inl (E.2.1, 256, .inl gS)), (bU, .inl (E.2.1, 256, .inl gU)), (bW, .inl (E.2.1, 176, .inl gW)), (bH, .inl (E.2.1, 32, .inl gH)), (bT, .inl (E.2.1, 16, .inl gT)), (bV, .inl (E.2.1, 16, .inl gV)), (bC, .inl (E.2.1, 16, .inl gC)), (bL, .inl (E.2.1, 16, .inl gL)), (bZ, .inl (E.2.2.2.2, 16, .inl gZ))] := hD
    exact x_iret B hP hD hS rfl rfl dX3_macStart_13
set_option maxHeartbeats 4000000 in
set_option maxRecDepth 100000 in
/-- the reference: macUpdate, no -/
theorem c_X3_macUpdate_no (l : Launch) (E : EE) (r bK bB bP bS bU bW bH bT bV bC bL bZ : Nat) (gK gB gP gS gU gW gH gT gV gC gL gZ : Nat → Int32) (thr rdr mdr msr lcr wrr : Int32) (p0 : Int32) (h0 : ¬ msr = 1 ∨ inM p0 255 = 0) : Ci l yX3_macUpdate (.code yX3_macUpdate cX3_macUpdate 2 (some .boolean)) ({ frames := 5, cells := 0, slots := 0, locals := 114 }) E [.ref r, .int p0] 0 [(r, .inr (3, [.int thr, .int rdr, .int mdr, .int msr, .ref bK, .ref bB, .ref bP, .ref bS, .ref bU, .ref bW, .ref bH, .ref bT, .ref bV, .ref bC, .ref bL, .int lcr, .ref bZ, .int wrr])), (bK, .inl (E.2.1, 16, .inl gK)), (bB, .inl (E.2.1, 16, .inl gB)), (bP, .inl (E.2.1, 16, .inl gP)), (bS, .inl (E.2.1, 256, .inl gS)), (bU, .inl (E.2.1, 256, .inl gU)), (bW, .inl (E.2.1, 176, .inl gW)), (bH, .inl (E.2.1, 32, .inl gH)), (bT, .inl (E.2.1, 16, .inl gT)), (bV, .inl (E.2.1, 16, .inl gV)), (bC, .inl (E.2.1, 16, .inl gC)), (bL, .inl (E.2.1, 16, .inl gL)), (bZ, .inl (E.2.2.2.2, 16, .inl gZ))] [(r, .inr (3, [.int 0, .int rdr, .int mdr, .int msr, .ref bK, .ref bB, .ref bP, .ref bS, .ref bU, .ref bW, .ref bH, .ref bT, .ref bV, .ref bC, .ref bL, .int lcr, .ref bZ, .int wrr])), (bK, .inl (E.2.1, 16, .inl gK)), (bB, .inl (E.2.1, 16, .inl gB)), (bP, .inl (E.2.1, 16, .inl gP)), (bS, .inl (E.2.1, 256, .inl gS)), (bU, .inl (E.2.1, 256, .inl gU)), (bW, .inl (E.2.1, 176, .inl gW)), (bH, .inl (E.2.1, 32, .inl gH)), (bT, .inl (E.2.1, 16, .inl gT)), (bV, .inl (E.2.1, 16, .inl gV)), (bC, .inl (E.2.1, 16, .inl gC)), (bL, .inl (E.2.1, 16, .inl gL)), (bZ, .inl (E.2.2.2.2, 16, .inl gZ))] := by
  refine Ci.of (by decide) (Nat.le_of_ble_eq_true rfl) ?_
  intro p e s m below meth c A ls B hP hD hS hl
  have hl : lv_has ls 2 [(0, .ref r), (1, .int p0)] := hl
  have B : Bd p s m _ meth c cX3_macUpdate 2 (some .boolean) RX3 E A := B
  have hx := B.1
  have hb := B.2.1
  have hP : va_P E.1 classes [(r, .inr (3, [.int thr, .int rdr, .int mdr, .int msr, .ref bK, .ref bB, .ref bP, .ref bS, .ref bU, .ref bW, .ref bH, .ref bT, .ref bV, .ref bC, .ref bL, .int lcr, .ref bZ, .int wrr])), (bK, .inl (E.2.1, 16, .inl gK)), (bB, .inl (E.2.1, 16, .inl gB)), (bP, .inl (E.2.1, 16, .inl gP)), (bS, .inl (E.2.1, 256, .inl gS)), (bU, .inl (E.2.1, 256, .inl gU)), (bW, .inl (E.2.1, 176, .inl gW)), (bH, .inl (E.2.1, 32, .inl gH)), (bT, .inl (E.2.1, 16, .inl gT)), (bV, .inl (E.2.1, 16, .inl gV)), (bC, .inl (E.2.1, 16, .inl gC)), (bL, .inl (E.2.1, 16, .inl gL)), (bZ, .inl (E.2.2.2.2, 16, .inl gZ))] _ := hP
  have hD : va_D A [(r, .inr (3, [.int thr, .int rdr, .int mdr, .int msr, .ref bK, .ref bB, .ref bP, .ref bS, .ref bU, .ref bW, .ref bH, .ref bT, .ref bV, .ref bC, .ref bL, .int lcr, .ref bZ, .int wrr])), (bK, .inl (E.2.1, 16, .inl gK)), (bB, .inl (E.2.1, 16, .inl gB)), (bP, .inl (E.2.1, 16, .inl gP)), (bS, .inl (E.2.1, 256, .inl gS)), (bU, .inl (E.2.1, 256, .inl gU)), (bW, .inl (E.2.1, 176, .inl gW)), (bH, .inl (E.2.1, 32, .inl gH)), (bT, .inl (E.2.1, 16, .inl gT)), (bV, .inl (E.2.1, 16, .inl gV)), (bC, .inl (E.2.1, 16, .inl gC)), (bL, .inl (E.2.1, 16, .inl gL)), (bZ, .inl (E.2.2.2.2, 16, .inl gZ))] := hD
  refine lv_aload_n hx hb dX3_macUpdate_0 rfl (lv_at hl 0 rfl) ?_
  refine lv_iconst (v := 0) hx hb dX3_macUpdate_1 (by decide) ?_
  refine x_put B hP hD hS 0 rfl rfl i_X3 tyX3 tyX3_ok nmX3 0 (by decide) g_289 rfl rfl rfl (Nat.le_of_ble_eq_true rfl) dX3_macUpdate_2 (fun H locs hP hD hS => ?_)
  have hP : va_P E.1 classes [(r, .inr (3, [.int 0, .int rdr, .int mdr, .int msr, .ref bK, .ref bB, .ref bP, .ref bS, .ref bU, .ref bW, .ref bH, .ref bT, .ref bV, .ref bC, .ref bL, .int lcr, .ref bZ, .int wrr])), (bK, .inl (E.2.1, 16, .inl gK)), (bB, .inl (E.2.1, 16, .inl gB)), (bP, .inl (E.2.1, 16, .inl gP)), (bS, .inl (E.2.1, 256, .inl gS)), (bU, .inl (E.2.1, 256, .inl gU)), (bW, .inl (E.2.1, 176, .inl gW)), (bH, .inl (E.2.1, 32, .inl gH)), (bT, .inl (E.2.1, 16, .inl gT)), (bV, .inl (E.2.1, 16, .inl gV)), (bC, .inl (E.2.1, 16, .inl gC)), (bL, .inl (E.2.1, 16, .inl gL)), (bZ, .inl (E.2.2.2.2, 16, .inl gZ))] _ := hP
  have hD : va_D A [(r, .inr (3, [.int 0, .int rdr, .int mdr, .int msr, .ref bK, .ref bB, .ref bP, .ref bS, .ref bU, .ref bW, .ref bH, .ref bT, .ref bV, .ref bC, .ref bL, .int lcr, .ref bZ, .int wrr])), (bK, .inl (E.2.1, 16, .inl gK)), (bB, .inl (E.2.1, 16, .inl gB)), (bP, .inl (E.2.1, 16, .inl gP)), (bS, .inl (E.2.1, 256, .inl gS)), (bU, .inl (E.2.1, 256, .inl gU)), (bW, .inl (E.2.1, 176, .inl gW)), (bH, .inl (E.2.1, 32, .inl gH)), (bT, .inl (E.2.1, 16, .inl gT)), (bV, .inl (E.2.1, 16, .inl gV)), (bC, .inl (E.2.1, 16, .inl gC)), (bL, .inl (E.2.1, 16, .inl gL)), (bZ, .inl (E.2.2.2.2, 16, .inl gZ))] := hD
  refine lv_aload_n hx hb dX3_macUpdate_5 rfl (lv_at hl 0 rfl) ?_
  refine x_get B hP 0 rfl rfl i_X3 3 (by decide) g_292 rfl dX3_macUpdate_6 ?_
  refine lv_iconst (v := 1) hx hb dX3_macUpdate_9 (by decide) ?_
  refine lv_icmp_ne (tgt := 23) hx hb dX3_macUpdate_10 (by decide) (fun c_10 => ?_) (fun c_10 => ?_)
  · refine lv_iconst (v := 0) hx hb dX3_macUpdate_23 (by decide) ?_
    have hP : va_P E.1 classes [(r, .inr (3, [.int 0, .int rdr, .int mdr, .int msr, .ref bK, .ref bB, .ref bP, .ref bS, .ref bU, .ref bW, .ref bH, .ref bT, .ref bV, .ref bC, .ref bL, .int lcr, .ref bZ, .int wrr])), (bK, .inl (E.2.1, 16, .inl gK)), (bB, .inl (E.2.1, 16, .inl gB)), (bP, .inl (E.2.1, 16, .inl gP)), (bS, .inl (E.2.1, 256, .inl gS)), (bU, .inl (E.2.1, 256, .inl gU)), (bW, .inl (E.2.1, 176, .inl gW)), (bH, .inl (E.2.1, 32, .inl gH)), (bT, .inl (E.2.1, 16, .inl gT)), (bV, .inl (E.2.1, 16, .inl gV)), (bC, .inl (E.2.1, 16, .inl gC)), (bL, .inl (E.2.1, 16, .inl gL)), (bZ, .inl (E.2.2.2.2, 16, .inl gZ))] _ := hP
    have hD : va_D A [(r, .inr (3, [.int 0, .int rdr, .int mdr, .int msr, .ref bK, .ref bB, .ref bP, .ref bS, .ref bU, .ref bW, .ref bH, .ref bT, .ref bV, .ref bC, .ref bL, .int lcr, .ref bZ, .int wrr])), (bK, .inl (E.2.1, 16, .inl gK)), (bB, .inl (E.2.1, 16, .inl gB)), (bP, .inl (E.2.1, 16, .inl gP)), (bS, .inl (E.2.1, 256, .inl gS)), (bU, .inl (E.2.1, 256, .inl gU)), (bW, .inl (E.2.1, 176, .inl gW)), (bH, .inl (E.2.1, 32, .inl gH)), (bT, .inl (E.2.1, 16, .inl gT)), (bV, .inl (E.2.1, 16, .inl gV)), (bC, .inl (E.2.1, 16, .inl gC)), (bL, .inl (E.2.1, 16, .inl gL)), (bZ, .inl (E.2.2.2.2, 16, .inl gZ))] := hD
    exact x_iret B hP hD hS rfl rfl dX3_macUpdate_24
  · refine lv_iload_n hx hb dX3_macUpdate_13 rfl (lv_at hl 1 rfl) ?_
    refine lv_sipush (v := 255) hx hb dX3_macUpdate_14 (by decide) ?_
    refine x_Si (wr := [(r, .inr (3, [.int 0, .int rdr, .int mdr, .int msr, .ref bK, .ref bB, .ref bP, .ref bS, .ref bU, .ref bW, .ref bH, .ref bT, .ref bV, .ref bC, .ref bL, .int lcr, .ref bZ, .int wrr])), (bK, .inl (E.2.1, 16, .inl gK)), (bB, .inl (E.2.1, 16, .inl gB)), (bP, .inl (E.2.1, 16, .inl gP)), (bS, .inl (E.2.1, 256, .inl gS)), (bU, .inl (E.2.1, 256, .inl gU)), (bW, .inl (E.2.1, 176, .inl gW)), (bH, .inl (E.2.1, 32, .inl gH)), (bT, .inl (E.2.1, 16, .inl gT)), (bV, .inl (E.2.1, 16, .inl gV)), (bC, .inl (E.2.1, 16, .inl gC)), (bL, .inl (E.2.1, 16, .inl gL)), (bZ, .inl (E.2.2.2.2, 16, .inl gZ))]) (isC := []) (isR := [0, 1, 2, 3, 4, 5, 6, 7, 8, 9, 10, 11, 12]) (As := [.int p0, .int 255]) B (c_X3_isIn l E p0 255) k_X3_isIn g_353 s_X3_isIn ⟨by decide, by decide, rfl, rfl⟩ hP hD hS ⟨rfl, rfl, rfl, rfl, by decide⟩ rfl hl.1 rfl (Nat.le_of_ble_eq_true rfl) dX3_macUpdate_17 ⟨by decide, by decide⟩ (fun H locs hP hD hS => ?_)
    have hP : va_P E.1 classes [(r, .inr (3, [.int 0, .int rdr, .int mdr, .int msr, .ref bK, .ref bB, .ref bP, .ref bS, .ref bU, .ref bW, .ref bH, .ref bT, .ref bV, .ref bC, .ref bL, .int lcr, .ref bZ, .int wrr])), (bK, .inl (E.2.1, 16, .inl gK)), (bB, .inl (E.2.1, 16, .inl gB)), (bP, .inl (E.2.1, 16, .inl gP)), (bS, .inl (E.2.1, 256, .inl gS)), (bU, .inl (E.2.1, 256, .inl gU)), (bW, .inl (E.2.1, 176, .inl gW)), (bH, .inl (E.2.1, 32, .inl gH)), (bT, .inl (E.2.1, 16, .inl gT)), (bV, .inl (E.2.1, 16, .inl gV)), (bC, .inl (E.2.1, 16, .inl gC)), (bL, .inl (E.2.1, 16, .inl gL)), (bZ, .inl (E.2.2.2.2, 16, .inl gZ))] _ := hP
    have hD : va_D A [(r, .inr (3, [.int 0, .int rdr, .int mdr, .int msr, .ref bK, .ref bB, .ref bP, .ref bS, .ref bU, .ref bW, .ref bH, .ref bT, .ref bV, .ref bC, .ref bL, .int lcr, .ref bZ, .int wrr])), (bK, .inl (E.2.1, 16, .inl gK)), (bB, .inl (E.2.1, 16, .inl gB)), (bP, .inl (E.2.1, 16, .inl gP)), (bS, .inl (E.2.1, 256, .inl gS)), (bU, .inl (E.2.1, 256, .inl gU)), (bW, .inl (E.2.1, 176, .inl gW)), (bH, .inl (E.2.1, 32, .inl gH)), (bT, .inl (E.2.1, 16, .inl gT)), (bV, .inl (E.2.1, 16, .inl gV)), (bC, .inl (E.2.1, 16, .inl gC)), (bL, .inl (E.2.1, 16, .inl gL)), (bZ, .inl (E.2.2.2.2, 16, .inl gZ))] := hD
    refine lv_if_ne (tgt := 25) hx hb dX3_macUpdate_20 (by decide) (fun c_20 => ?_) (fun c_20 => ?_)
    · exact absurd h0 (fun h => by rcases h with h | h <;> contradiction)
    · refine lv_iconst (v := 0) hx hb dX3_macUpdate_23 (by decide) ?_
      have hP : va_P E.1 classes [(r, .inr (3, [.int 0, .int rdr, .int mdr, .int msr, .ref bK, .ref bB, .ref bP, .ref bS, .ref bU, .ref bW, .ref bH, .ref bT, .ref bV, .ref bC, .ref bL, .int lcr, .ref bZ, .int wrr])), (bK, .inl (E.2.1, 16, .inl gK)), (bB, .inl (E.2.1, 16, .inl gB)), (bP, .inl (E.2.1, 16, .inl gP)), (bS, .inl (E.2.1, 256, .inl gS)), (bU, .inl (E.2.1, 256, .inl gU)), (bW, .inl (E.2.1, 176, .inl gW)), (bH, .inl (E.2.1, 32, .inl gH)), (bT, .inl (E.2.1, 16, .inl gT)), (bV, .inl (E.2.1, 16, .inl gV)), (bC, .inl (E.2.1, 16, .inl gC)), (bL, .inl (E.2.1, 16, .inl gL)), (bZ, .inl (E.2.2.2.2, 16, .inl gZ))] _ := hP
      have hD : va_D A [(r, .inr (3, [.int 0, .int rdr, .int mdr, .int msr, .ref bK, .ref bB, .ref bP, .ref bS, .ref bU, .ref bW, .ref bH, .ref bT, .ref bV, .ref bC, .ref bL, .int lcr, .ref bZ, .int wrr])), (bK, .inl (E.2.1, 16, .inl gK)), (bB, .inl (E.2.1, 16, .inl gB)), (bP, .inl (E.2.1, 16, .inl gP)), (bS, .inl (E.2.1, 256, .inl gS)), (bU, .inl (E.2.1, 256, .inl gU)), (bW, .inl (E.2.1, 176, .inl gW)), (bH, .inl (E.2.1, 32, .inl gH)), (bT, .inl (E.2.1, 16, .inl gT)), (bV, .inl (E.2.1, 16, .inl gV)), (bC, .inl (E.2.1, 16, .inl gC)), (bL, .inl (E.2.1, 16, .inl gL)), (bZ, .inl (E.2.2.2.2, 16, .inl gZ))] := hD
      exact x_iret B hP hD hS rfl rfl dX3_macUpdate_24
set_option maxHeartbeats 4000000 in
set_option maxRecDepth 100000 in
/-- the reference: macFill, no -/
theorem c_X3_macFill_no (l : Launch) (E : EE) (r bK bB bP bS bU bW bH bT bV bC bL bZ : Nat) (gK gB gP gS gU gW gH gT gV gC gL gZ : Nat → Int32) (thr rdr mdr msr lcr wrr : Int32) (p0 : Int32) (p1 : Int32) (p2 : Int32) (h0 : ¬ msr = 1 ∨ inM p0 10000 = 0) : Ci l yX3_macFill (.code yX3_macFill cX3_macFill 6 (some .boolean)) ({ frames := 5, cells := 0, slots := 0, locals := 114 }) E [.ref r, .int p0, .int p1, .int p2] 0 [(r, .inr (3, [.int thr, .int rdr, .int mdr, .int msr, .ref bK, .ref bB, .ref bP, .ref bS, .ref bU, .ref bW, .ref bH, .ref bT, .ref bV, .ref bC, .ref bL, .int lcr, .ref bZ, .int wrr])), (bK, .inl (E.2.1, 16, .inl gK)), (bB, .inl (E.2.1, 16, .inl gB)), (bP, .inl (E.2.1, 16, .inl gP)), (bS, .inl (E.2.1, 256, .inl gS)), (bU, .inl (E.2.1, 256, .inl gU)), (bW, .inl (E.2.1, 176, .inl gW)), (bH, .inl (E.2.1, 32, .inl gH)), (bT, .inl (E.2.1, 16, .inl gT)), (bV, .inl (E.2.1, 16, .inl gV)), (bC, .inl (E.2.1, 16, .inl gC)), (bL, .inl (E.2.1, 16, .inl gL)), (bZ, .inl (E.2.2.2.2, 16, .inl gZ))] [(r, .inr (3, [.int 0, .int rdr, .int mdr, .int msr, .ref bK, .ref bB, .ref bP, .ref bS, .ref bU, .ref bW, .ref bH, .ref bT, .ref bV, .ref bC, .ref bL, .int lcr, .ref bZ, .int wrr])), (bK, .inl (E.2.1, 16, .inl gK)), (bB, .inl (E.2.1, 16, .inl gB)), (bP, .inl (E.2.1, 16, .inl gP)), (bS, .inl (E.2.1, 256, .inl gS)), (bU, .inl (E.2.1, 256, .inl gU)), (bW, .inl (E.2.1, 176, .inl gW)), (bH, .inl (E.2.1, 32, .inl gH)), (bT, .inl (E.2.1, 16, .inl gT)), (bV, .inl (E.2.1, 16, .inl gV)), (bC, .inl (E.2.1, 16, .inl gC)), (bL, .inl (E.2.1, 16, .inl gL)), (bZ, .inl (E.2.2.2.2, 16, .inl gZ))] := by
  refine Ci.of (by decide) (Nat.le_of_ble_eq_true rfl) ?_
  intro p e s m below meth c A ls B hP hD hS hl
  have hl : lv_has ls 6 [(0, .ref r), (1, .int p0), (2, .int p1), (3, .int p2)] := hl
  have B : Bd p s m _ meth c cX3_macFill 6 (some .boolean) RX3 E A := B
  have hx := B.1
  have hb := B.2.1
  have hP : va_P E.1 classes [(r, .inr (3, [.int thr, .int rdr, .int mdr, .int msr, .ref bK, .ref bB, .ref bP, .ref bS, .ref bU, .ref bW, .ref bH, .ref bT, .ref bV, .ref bC, .ref bL, .int lcr, .ref bZ, .int wrr])), (bK, .inl (E.2.1, 16, .inl gK)), (bB, .inl (E.2.1, 16, .inl gB)), (bP, .inl (E.2.1, 16, .inl gP)), (bS, .inl (E.2.1, 256, .inl gS)), (bU, .inl (E.2.1, 256, .inl gU)), (bW, .inl (E.2.1, 176, .inl gW)), (bH, .inl (E.2.1, 32, .inl gH)), (bT, .inl (E.2.1, 16, .inl gT)), (bV, .inl (E.2.1, 16, .inl gV)), (bC, .inl (E.2.1, 16, .inl gC)), (bL, .inl (E.2.1, 16, .inl gL)), (bZ, .inl (E.2.2.2.2, 16, .inl gZ))] _ := hP
  have hD : va_D A [(r, .inr (3, [.int thr, .int rdr, .int mdr, .int msr, .ref bK, .ref bB, .ref bP, .ref bS, .ref bU, .ref bW, .ref bH, .ref bT, .ref bV, .ref bC, .ref bL, .int lcr, .ref bZ, .int wrr])), (bK, .inl (E.2.1, 16, .inl gK)), (bB, .inl (E.2.1, 16, .inl gB)), (bP, .inl (E.2.1, 16, .inl gP)), (bS, .inl (E.2.1, 256, .inl gS)), (bU, .inl (E.2.1, 256, .inl gU)), (bW, .inl (E.2.1, 176, .inl gW)), (bH, .inl (E.2.1, 32, .inl gH)), (bT, .inl (E.2.1, 16, .inl gT)), (bV, .inl (E.2.1, 16, .inl gV)), (bC, .inl (E.2.1, 16, .inl gC)), (bL, .inl (E.2.1, 16, .inl gL)), (bZ, .inl (E.2.2.2.2, 16, .inl gZ))] := hD
  refine lv_aload_n hx hb dX3_macFill_0 rfl (lv_at hl 0 rfl) ?_
  refine lv_iconst (v := 0) hx hb dX3_macFill_1 (by decide) ?_
  refine x_put B hP hD hS 0 rfl rfl i_X3 tyX3 tyX3_ok nmX3 0 (by decide) g_289 rfl rfl rfl (Nat.le_of_ble_eq_true rfl) dX3_macFill_2 (fun H locs hP hD hS => ?_)
  have hP : va_P E.1 classes [(r, .inr (3, [.int 0, .int rdr, .int mdr, .int msr, .ref bK, .ref bB, .ref bP, .ref bS, .ref bU, .ref bW, .ref bH, .ref bT, .ref bV, .ref bC, .ref bL, .int lcr, .ref bZ, .int wrr])), (bK, .inl (E.2.1, 16, .inl gK)), (bB, .inl (E.2.1, 16, .inl gB)), (bP, .inl (E.2.1, 16, .inl gP)), (bS, .inl (E.2.1, 256, .inl gS)), (bU, .inl (E.2.1, 256, .inl gU)), (bW, .inl (E.2.1, 176, .inl gW)), (bH, .inl (E.2.1, 32, .inl gH)), (bT, .inl (E.2.1, 16, .inl gT)), (bV, .inl (E.2.1, 16, .inl gV)), (bC, .inl (E.2.1, 16, .inl gC)), (bL, .inl (E.2.1, 16, .inl gL)), (bZ, .inl (E.2.2.2.2, 16, .inl gZ))] _ := hP
  have hD : va_D A [(r, .inr (3, [.int 0, .int rdr, .int mdr, .int msr, .ref bK, .ref bB, .ref bP, .ref bS, .ref bU, .ref bW, .ref bH, .ref bT, .ref bV, .ref bC, .ref bL, .int lcr, .ref bZ, .int wrr])), (bK, .inl (E.2.1, 16, .inl gK)), (bB, .inl (E.2.1, 16, .inl gB)), (bP, .inl (E.2.1, 16, .inl gP)), (bS, .inl (E.2.1, 256, .inl gS)), (bU, .inl (E.2.1, 256, .inl gU)), (bW, .inl (E.2.1, 176, .inl gW)), (bH, .inl (E.2.1, 32, .inl gH)), (bT, .inl (E.2.1, 16, .inl gT)), (bV, .inl (E.2.1, 16, .inl gV)), (bC, .inl (E.2.1, 16, .inl gC)), (bL, .inl (E.2.1, 16, .inl gL)), (bZ, .inl (E.2.2.2.2, 16, .inl gZ))] := hD
  refine lv_aload_n hx hb dX3_macFill_5 rfl (lv_at hl 0 rfl) ?_
  refine x_get B hP 0 rfl rfl i_X3 3 (by decide) g_292 rfl dX3_macFill_6 ?_
  refine lv_iconst (v := 1) hx hb dX3_macFill_9 (by decide) ?_
  refine lv_icmp_ne (tgt := 23) hx hb dX3_macFill_10 (by decide) (fun c_10 => ?_) (fun c_10 => ?_)
  · refine lv_iconst (v := 0) hx hb dX3_macFill_23 (by decide) ?_
    have hP : va_P E.1 classes [(r, .inr (3, [.int 0, .int rdr, .int mdr, .int msr, .ref bK, .ref bB, .ref bP, .ref bS, .ref bU, .ref bW, .ref bH, .ref bT, .ref bV, .ref bC, .ref bL, .int lcr, .ref bZ, .int wrr])), (bK, .inl (E.2.1, 16, .inl gK)), (bB, .inl (E.2.1, 16, .inl gB)), (bP, .inl (E.2.1, 16, .inl gP)), (bS, .inl (E.2.1, 256, .inl gS)), (bU, .inl (E.2.1, 256, .inl gU)), (bW, .inl (E.2.1, 176, .inl gW)), (bH, .inl (E.2.1, 32, .inl gH)), (bT, .inl (E.2.1, 16, .inl gT)), (bV, .inl (E.2.1, 16, .inl gV)), (bC, .inl (E.2.1, 16, .inl gC)), (bL, .inl (E.2.1, 16, .inl gL)), (bZ, .inl (E.2.2.2.2, 16, .inl gZ))] _ := hP
    have hD : va_D A [(r, .inr (3, [.int 0, .int rdr, .int mdr, .int msr, .ref bK, .ref bB, .ref bP, .ref bS, .ref bU, .ref bW, .ref bH, .ref bT, .ref bV, .ref bC, .ref bL, .int lcr, .ref bZ, .int wrr])), (bK, .inl (E.2.1, 16, .inl gK)), (bB, .inl (E.2.1, 16, .inl gB)), (bP, .inl (E.2.1, 16, .inl gP)), (bS, .inl (E.2.1, 256, .inl gS)), (bU, .inl (E.2.1, 256, .inl gU)), (bW, .inl (E.2.1, 176, .inl gW)), (bH, .inl (E.2.1, 32, .inl gH)), (bT, .inl (E.2.1, 16, .inl gT)), (bV, .inl (E.2.1, 16, .inl gV)), (bC, .inl (E.2.1, 16, .inl gC)), (bL, .inl (E.2.1, 16, .inl gL)), (bZ, .inl (E.2.2.2.2, 16, .inl gZ))] := hD
    exact x_iret B hP hD hS rfl rfl dX3_macFill_24
  · refine lv_iload_n hx hb dX3_macFill_13 rfl (lv_at hl 1 rfl) ?_
    refine lv_sipush (v := 10000) hx hb dX3_macFill_14 (by decide) ?_
    refine x_Si (wr := [(r, .inr (3, [.int 0, .int rdr, .int mdr, .int msr, .ref bK, .ref bB, .ref bP, .ref bS, .ref bU, .ref bW, .ref bH, .ref bT, .ref bV, .ref bC, .ref bL, .int lcr, .ref bZ, .int wrr])), (bK, .inl (E.2.1, 16, .inl gK)), (bB, .inl (E.2.1, 16, .inl gB)), (bP, .inl (E.2.1, 16, .inl gP)), (bS, .inl (E.2.1, 256, .inl gS)), (bU, .inl (E.2.1, 256, .inl gU)), (bW, .inl (E.2.1, 176, .inl gW)), (bH, .inl (E.2.1, 32, .inl gH)), (bT, .inl (E.2.1, 16, .inl gT)), (bV, .inl (E.2.1, 16, .inl gV)), (bC, .inl (E.2.1, 16, .inl gC)), (bL, .inl (E.2.1, 16, .inl gL)), (bZ, .inl (E.2.2.2.2, 16, .inl gZ))]) (isC := []) (isR := [0, 1, 2, 3, 4, 5, 6, 7, 8, 9, 10, 11, 12]) (As := [.int p0, .int 10000]) B (c_X3_isIn l E p0 10000) k_X3_isIn g_353 s_X3_isIn ⟨by decide, by decide, rfl, rfl⟩ hP hD hS ⟨rfl, rfl, rfl, rfl, by decide⟩ rfl hl.1 rfl (Nat.le_of_ble_eq_true rfl) dX3_macFill_17 ⟨by decide, by decide⟩ (fun H locs hP hD hS => ?_)
    have hP : va_P E.1 classes [(r, .inr (3, [.int 0, .int rdr, .int mdr, .int msr, .ref bK, .ref bB, .ref bP, .ref bS, .ref bU, .ref bW, .ref bH, .ref bT, .ref bV, .ref bC, .ref bL, .int lcr, .ref bZ, .int wrr])), (bK, .inl (E.2.1, 16, .inl gK)), (bB, .inl (E.2.1, 16, .inl gB)), (bP, .inl (E.2.1, 16, .inl gP)), (bS, .inl (E.2.1, 256, .inl gS)), (bU, .inl (E.2.1, 256, .inl gU)), (bW, .inl (E.2.1, 176, .inl gW)), (bH, .inl (E.2.1, 32, .inl gH)), (bT, .inl (E.2.1, 16, .inl gT)), (bV, .inl (E.2.1, 16, .inl gV)), (bC, .inl (E.2.1, 16, .inl gC)), (bL, .inl (E.2.1, 16, .inl gL)), (bZ, .inl (E.2.2.2.2, 16, .inl gZ))] _ := hP
    have hD : va_D A [(r, .inr (3, [.int 0, .int rdr, .int mdr, .int msr, .ref bK, .ref bB, .ref bP, .ref bS, .ref bU, .ref bW, .ref bH, .ref bT, .ref bV, .ref bC, .ref bL, .int lcr, .ref bZ, .int wrr])), (bK, .inl (E.2.1, 16, .inl gK)), (bB, .inl (E.2.1, 16, .inl gB)), (bP, .inl (E.2.1, 16, .inl gP)), (bS, .inl (E.2.1, 256, .inl gS)), (bU, .inl (E.2.1, 256, .inl gU)), (bW, .inl (E.2.1, 176, .inl gW)), (bH, .inl (E.2.1, 32, .inl gH)), (bT, .inl (E.2.1, 16, .inl gT)), (bV, .inl (E.2.1, 16, .inl gV)), (bC, .inl (E.2.1, 16, .inl gC)), (bL, .inl (E.2.1, 16, .inl gL)), (bZ, .inl (E.2.2.2.2, 16, .inl gZ))] := hD
    refine lv_if_ne (tgt := 25) hx hb dX3_macFill_20 (by decide) (fun c_20 => ?_) (fun c_20 => ?_)
    · exact absurd h0 (fun h => by rcases h with h | h <;> contradiction)
    · refine lv_iconst (v := 0) hx hb dX3_macFill_23 (by decide) ?_
      have hP : va_P E.1 classes [(r, .inr (3, [.int 0, .int rdr, .int mdr, .int msr, .ref bK, .ref bB, .ref bP, .ref bS, .ref bU, .ref bW, .ref bH, .ref bT, .ref bV, .ref bC, .ref bL, .int lcr, .ref bZ, .int wrr])), (bK, .inl (E.2.1, 16, .inl gK)), (bB, .inl (E.2.1, 16, .inl gB)), (bP, .inl (E.2.1, 16, .inl gP)), (bS, .inl (E.2.1, 256, .inl gS)), (bU, .inl (E.2.1, 256, .inl gU)), (bW, .inl (E.2.1, 176, .inl gW)), (bH, .inl (E.2.1, 32, .inl gH)), (bT, .inl (E.2.1, 16, .inl gT)), (bV, .inl (E.2.1, 16, .inl gV)), (bC, .inl (E.2.1, 16, .inl gC)), (bL, .inl (E.2.1, 16, .inl gL)), (bZ, .inl (E.2.2.2.2, 16, .inl gZ))] _ := hP
      have hD : va_D A [(r, .inr (3, [.int 0, .int rdr, .int mdr, .int msr, .ref bK, .ref bB, .ref bP, .ref bS, .ref bU, .ref bW, .ref bH, .ref bT, .ref bV, .ref bC, .ref bL, .int lcr, .ref bZ, .int wrr])), (bK, .inl (E.2.1, 16, .inl gK)), (bB, .inl (E.2.1, 16, .inl gB)), (bP, .inl (E.2.1, 16, .inl gP)), (bS, .inl (E.2.1, 256, .inl gS)), (bU, .inl (E.2.1, 256, .inl gU)), (bW, .inl (E.2.1, 176, .inl gW)), (bH, .inl (E.2.1, 32, .inl gH)), (bT, .inl (E.2.1, 16, .inl gT)), (bV, .inl (E.2.1, 16, .inl gV)), (bC, .inl (E.2.1, 16, .inl gC)), (bL, .inl (E.2.1, 16, .inl gL)), (bZ, .inl (E.2.2.2.2, 16, .inl gZ))] := hD
      exact x_iret B hP hD hS rfl rfl dX3_macFill_24
set_option maxHeartbeats 4000000 in
set_option maxRecDepth 100000 in
/-- the reference: macFinish, no -/
theorem c_X3_macFinish_no (l : Launch) (E : EE) (r bK bB bP bS bU bW bH bT bV bC bL bZ : Nat) (gK gB gP gS gU gW gH gT gV gC gL gZ : Nat → Int32) (thr rdr mdr msr lcr wrr : Int32) (h0 : ¬ msr = 1) : Ci l yX3_macFinish (.code yX3_macFinish cX3_macFinish 3 (some .boolean)) ({ frames := 4, cells := 0, slots := 0, locals := 93 }) E [.ref r] 0 [(r, .inr (3, [.int thr, .int rdr, .int mdr, .int msr, .ref bK, .ref bB, .ref bP, .ref bS, .ref bU, .ref bW, .ref bH, .ref bT, .ref bV, .ref bC, .ref bL, .int lcr, .ref bZ, .int wrr])), (bK, .inl (E.2.1, 16, .inl gK)), (bB, .inl (E.2.1, 16, .inl gB)), (bP, .inl (E.2.1, 16, .inl gP)), (bS, .inl (E.2.1, 256, .inl gS)), (bU, .inl (E.2.1, 256, .inl gU)), (bW, .inl (E.2.1, 176, .inl gW)), (bH, .inl (E.2.1, 32, .inl gH)), (bT, .inl (E.2.1, 16, .inl gT)), (bV, .inl (E.2.1, 16, .inl gV)), (bC, .inl (E.2.1, 16, .inl gC)), (bL, .inl (E.2.1, 16, .inl gL)), (bZ, .inl (E.2.2.2.2, 16, .inl gZ))] [(r, .inr (3, [.int 0, .int rdr, .int mdr, .int msr, .ref bK, .ref bB, .ref bP, .ref bS, .ref bU, .ref bW, .ref bH, .ref bT, .ref bV, .ref bC, .ref bL, .int lcr, .ref bZ, .int wrr])), (bK, .inl (E.2.1, 16, .inl gK)), (bB, .inl (E.2.1, 16, .inl gB)), (bP, .inl (E.2.1, 16, .inl gP)), (bS, .inl (E.2.1, 256, .inl gS)), (bU, .inl (E.2.1, 256, .inl gU)), (bW, .inl (E.2.1, 176, .inl gW)), (bH, .inl (E.2.1, 32, .inl gH)), (bT, .inl (E.2.1, 16, .inl gT)), (bV, .inl (E.2.1, 16, .inl gV)), (bC, .inl (E.2.1, 16, .inl gC)), (bL, .inl (E.2.1, 16, .inl gL)), (bZ, .inl (E.2.2.2.2, 16, .inl gZ))] := by
  refine Ci.of (by decide) (Nat.le_of_ble_eq_true rfl) ?_
  intro p e s m below meth c A ls B hP hD hS hl
  have hl : lv_has ls 3 [(0, .ref r)] := hl
  have B : Bd p s m _ meth c cX3_macFinish 3 (some .boolean) RX3 E A := B
  have hx := B.1
  have hb := B.2.1
  have hP : va_P E.1 classes [(r, .inr (3, [.int thr, .int rdr, .int mdr, .int msr, .ref bK, .ref bB, .ref bP, .ref bS, .ref bU, .ref bW, .ref bH, .ref bT, .ref bV, .ref bC, .ref bL, .int lcr, .ref bZ, .int wrr])), (bK, .inl (E.2.1, 16, .inl gK)), (bB, .inl (E.2.1, 16, .inl gB)), (bP, .inl (E.2.1, 16, .inl gP)), (bS, .inl (E.2.1, 256, .inl gS)), (bU, .inl (E.2.1, 256, .inl gU)), (bW, .inl (E.2.1, 176, .inl gW)), (bH, .inl (E.2.1, 32, .inl gH)), (bT, .inl (E.2.1, 16, .inl gT)), (bV, .inl (E.2.1, 16, .inl gV)), (bC, .inl (E.2.1, 16, .inl gC)), (bL, .inl (E.2.1, 16, .inl gL)), (bZ, .inl (E.2.2.2.2, 16, .inl gZ))] _ := hP
  have hD : va_D A [(r, .inr (3, [.int thr, .int rdr, .int mdr, .int msr, .ref bK, .ref bB, .ref bP, .ref bS, .ref bU, .ref bW, .ref bH, .ref bT, .ref bV, .ref bC, .ref bL, .int lcr, .ref bZ, .int wrr])), (bK, .inl (E.2.1, 16, .inl gK)), (bB, .inl (E.2.1, 16, .inl gB)), (bP, .inl (E.2.1, 16, .inl gP)), (bS, .inl (E.2.1, 256, .inl gS)), (bU, .inl (E.2.1, 256, .inl gU)), (bW, .inl (E.2.1, 176, .inl gW)), (bH, .inl (E.2.1, 32, .inl gH)), (bT, .inl (E.2.1, 16, .inl gT)), (bV, .inl (E.2.1, 16, .inl gV)), (bC, .inl (E.2.1, 16, .inl gC)), (bL, .inl (E.2.1, 16, .inl gL)), (bZ, .inl (E.2.2.2.2, 16, .inl gZ))] := hD
  refine lv_aload_n hx hb dX3_macFinish_0 rfl (lv_at hl 0 rfl) ?_
  refine lv_iconst (v := 0) hx hb dX3_macFinish_1 (by decide) ?_
  refine x_put B hP hD hS 0 rfl rfl i_X3 tyX3 tyX3_ok nmX3 0 (by decide) g_289 rfl rfl rfl (Nat.le_of_ble_eq_true rfl) dX3_macFinish_2 (fun H locs hP hD hS => ?_)
  have hP : va_P E.1 classes [(r, .inr (3, [.int 0, .int rdr, .int mdr, .int msr, .ref bK, .ref bB, .ref bP, .ref bS, .ref bU, .ref bW, .ref bH, .ref bT, .ref bV, .ref bC, .ref bL, .int lcr, .ref bZ, .int wrr])), (bK, .inl (E.2.1, 16, .inl gK)), (bB, .inl (E.2.1, 16, .inl gB)), (bP, .inl (E.2.1, 16, .inl gP)), (bS, .inl (E.2.1, 256, .inl gS)), (bU, .inl (E.2.1, 256, .inl gU)), (bW, .inl (E.2.1, 176, .inl gW)), (bH, .inl (E.2.1, 32, .inl gH)), (bT, .inl (E.2.1, 16, .inl gT)), (bV, .inl (E.2.1, 16, .inl gV)), (bC, .inl (E.2.1, 16, .inl gC)), (bL, .inl (E.2.1, 16, .inl gL)), (bZ, .inl (E.2.2.2.2, 16, .inl gZ))] _ := hP
  have hD : va_D A [(r, .inr (3, [.int 0, .int rdr, .int mdr, .int msr, .ref bK, .ref bB, .ref bP, .ref bS, .ref bU, .ref bW, .ref bH, .ref bT, .ref bV, .ref bC, .ref bL, .int lcr, .ref bZ, .int wrr])), (bK, .inl (E.2.1, 16, .inl gK)), (bB, .inl (E.2.1, 16, .inl gB)), (bP, .inl (E.2.1, 16, .inl gP)), (bS, .inl (E.2.1, 256, .inl gS)), (bU, .inl (E.2.1, 256, .inl gU)), (bW, .inl (E.2.1, 176, .inl gW)), (bH, .inl (E.2.1, 32, .inl gH)), (bT, .inl (E.2.1, 16, .inl gT)), (bV, .inl (E.2.1, 16, .inl gV)), (bC, .inl (E.2.1, 16, .inl gC)), (bL, .inl (E.2.1, 16, .inl gL)), (bZ, .inl (E.2.2.2.2, 16, .inl gZ))] := hD
  refine lv_aload_n hx hb dX3_macFinish_5 rfl (lv_at hl 0 rfl) ?_
  refine x_get B hP 0 rfl rfl i_X3 3 (by decide) g_292 rfl dX3_macFinish_6 ?_
  refine lv_iconst (v := 1) hx hb dX3_macFinish_9 (by decide) ?_
  refine lv_icmp_eq (tgt := 15) hx hb dX3_macFinish_10 (by decide) (fun c_10 => ?_) (fun c_10 => ?_)
  · exact absurd c_10 h0
  · refine lv_iconst (v := 0) hx hb dX3_macFinish_13 (by decide) ?_
    have hP : va_P E.1 classes [(r, .inr (3, [.int 0, .int rdr, .int mdr, .int msr, .ref bK, .ref bB, .ref bP, .ref bS, .ref bU, .ref bW, .ref bH, .ref bT, .ref bV, .ref bC, .ref bL, .int lcr, .ref bZ, .int wrr])), (bK, .inl (E.2.1, 16, .inl gK)), (bB, .inl (E.2.1, 16, .inl gB)), (bP, .inl (E.2.1, 16, .inl gP)), (bS, .inl (E.2.1, 256, .inl gS)), (bU, .inl (E.2.1, 256, .inl gU)), (bW, .inl (E.2.1, 176, .inl gW)), (bH, .inl (E.2.1, 32, .inl gH)), (bT, .inl (E.2.1, 16, .inl gT)), (bV, .inl (E.2.1, 16, .inl gV)), (bC, .inl (E.2.1, 16, .inl gC)), (bL, .inl (E.2.1, 16, .inl gL)), (bZ, .inl (E.2.2.2.2, 16, .inl gZ))] _ := hP
    have hD : va_D A [(r, .inr (3, [.int 0, .int rdr, .int mdr, .int msr, .ref bK, .ref bB, .ref bP, .ref bS, .ref bU, .ref bW, .ref bH, .ref bT, .ref bV, .ref bC, .ref bL, .int lcr, .ref bZ, .int wrr])), (bK, .inl (E.2.1, 16, .inl gK)), (bB, .inl (E.2.1, 16, .inl gB)), (bP, .inl (E.2.1, 16, .inl gP)), (bS, .inl (E.2.1, 256, .inl gS)), (bU, .inl (E.2.1, 256, .inl gU)), (bW, .inl (E.2.1, 176, .inl gW)), (bH, .inl (E.2.1, 32, .inl gH)), (bT, .inl (E.2.1, 16, .inl gT)), (bV, .inl (E.2.1, 16, .inl gV)), (bC, .inl (E.2.1, 16, .inl gC)), (bL, .inl (E.2.1, 16, .inl gL)), (bZ, .inl (E.2.2.2.2, 16, .inl gZ))] := hD
    exact x_iret B hP hD hS rfl rfl dX3_macFinish_14
set_option maxHeartbeats 4000000 in
set_option maxRecDepth 100000 in
/-- the reference: tagByte, no -/
theorem c_X3_tagByte_no (l : Launch) (E : EE) (r bK bB bP bS bU bW bH bT bV bC bL bZ : Nat) (gK gB gP gS gU gW gH gT gV gC gL gZ : Nat → Int32) (thr rdr mdr msr lcr wrr : Int32) (p0 : Int32) (h0 : ¬ msr = 2 ∨ inM p0 15 = 0) : Ci l yX3_tagByte (.code yX3_tagByte cX3_tagByte 2 (some .int)) ({ frames := 1, cells := 0, slots := 0, locals := 21 }) E [.ref r, .int p0] (-1) [(r, .inr (3, [.int thr, .int rdr, .int mdr, .int msr, .ref bK, .ref bB, .ref bP, .ref bS, .ref bU, .ref bW, .ref bH, .ref bT, .ref bV, .ref bC, .ref bL, .int lcr, .ref bZ, .int wrr])), (bK, .inl (E.2.1, 16, .inl gK)), (bB, .inl (E.2.1, 16, .inl gB)), (bP, .inl (E.2.1, 16, .inl gP)), (bS, .inl (E.2.1, 256, .inl gS)), (bU, .inl (E.2.1, 256, .inl gU)), (bW, .inl (E.2.1, 176, .inl gW)), (bH, .inl (E.2.1, 32, .inl gH)), (bT, .inl (E.2.1, 16, .inl gT)), (bV, .inl (E.2.1, 16, .inl gV)), (bC, .inl (E.2.1, 16, .inl gC)), (bL, .inl (E.2.1, 16, .inl gL)), (bZ, .inl (E.2.2.2.2, 16, .inl gZ))] [(r, .inr (3, [.int 0, .int rdr, .int mdr, .int msr, .ref bK, .ref bB, .ref bP, .ref bS, .ref bU, .ref bW, .ref bH, .ref bT, .ref bV, .ref bC, .ref bL, .int lcr, .ref bZ, .int wrr])), (bK, .inl (E.2.1, 16, .inl gK)), (bB, .inl (E.2.1, 16, .inl gB)), (bP, .inl (E.2.1, 16, .inl gP)), (bS, .inl (E.2.1, 256, .inl gS)), (bU, .inl (E.2.1, 256, .inl gU)), (bW, .inl (E.2.1, 176, .inl gW)), (bH, .inl (E.2.1, 32, .inl gH)), (bT, .inl (E.2.1, 16, .inl gT)), (bV, .inl (E.2.1, 16, .inl gV)), (bC, .inl (E.2.1, 16, .inl gC)), (bL, .inl (E.2.1, 16, .inl gL)), (bZ, .inl (E.2.2.2.2, 16, .inl gZ))] := by
  refine Ci.of (by decide) (Nat.le_of_ble_eq_true rfl) ?_
  intro p e s m below meth c A ls B hP hD hS hl
  have hl : lv_has ls 2 [(0, .ref r), (1, .int p0)] := hl
  have B : Bd p s m _ meth c cX3_tagByte 2 (some .int) RX3 E A := B
  have hx := B.1
  have hb := B.2.1
  have hP : va_P E.1 classes [(r, .inr (3, [.int thr, .int rdr, .int mdr, .int msr, .ref bK, .ref bB, .ref bP, .ref bS, .ref bU, .ref bW, .ref bH, .ref bT, .ref bV, .ref bC, .ref bL, .int lcr, .ref bZ, .int wrr])), (bK, .inl (E.2.1, 16, .inl gK)), (bB, .inl (E.2.1, 16, .inl gB)), (bP, .inl (E.2.1, 16, .inl gP)), (bS, .inl (E.2.1, 256, .inl gS)), (bU, .inl (E.2.1, 256, .inl gU)), (bW, .inl (E.2.1, 176, .inl gW)), (bH, .inl (E.2.1, 32, .inl gH)), (bT, .inl (E.2.1, 16, .inl gT)), (bV, .inl (E.2.1, 16, .inl gV)), (bC, .inl (E.2.1, 16, .inl gC)), (bL, .inl (E.2.1, 16, .inl gL)), (bZ, .inl (E.2.2.2.2, 16, .inl gZ))] _ := hP
  have hD : va_D A [(r, .inr (3, [.int thr, .int rdr, .int mdr, .int msr, .ref bK, .ref bB, .ref bP, .ref bS, .ref bU, .ref bW, .ref bH, .ref bT, .ref bV, .ref bC, .ref bL, .int lcr, .ref bZ, .int wrr])), (bK, .inl (E.2.1, 16, .inl gK)), (bB, .inl (E.2.1, 16, .inl gB)), (bP, .inl (E.2.1, 16, .inl gP)), (bS, .inl (E.2.1, 256, .inl gS)), (bU, .inl (E.2.1, 256, .inl gU)), (bW, .inl (E.2.1, 176, .inl gW)), (bH, .inl (E.2.1, 32, .inl gH)), (bT, .inl (E.2.1, 16, .inl gT)), (bV, .inl (E.2.1, 16, .inl gV)), (bC, .inl (E.2.1, 16, .inl gC)), (bL, .inl (E.2.1, 16, .inl gL)), (bZ, .inl (E.2.2.2.2, 16, .inl gZ))] := hD
  refine lv_aload_n hx hb dX3_tagByte_0 rfl (lv_at hl 0 rfl) ?_
  refine lv_iconst (v := 0) hx hb dX3_tagByte_1 (by decide) ?_
  refine x_put B hP hD hS 0 rfl rfl i_X3 tyX3 tyX3_ok nmX3 0 (by decide) g_289 rfl rfl rfl (Nat.le_of_ble_eq_true rfl) dX3_tagByte_2 (fun H locs hP hD hS => ?_)
  have hP : va_P E.1 classes [(r, .inr (3, [.int 0, .int rdr, .int mdr, .int msr, .ref bK, .ref bB, .ref bP, .ref bS, .ref bU, .ref bW, .ref bH, .ref bT, .ref bV, .ref bC, .ref bL, .int lcr, .ref bZ, .int wrr])), (bK, .inl (E.2.1, 16, .inl gK)), (bB, .inl (E.2.1, 16, .inl gB)), (bP, .inl (E.2.1, 16, .inl gP)), (bS, .inl (E.2.1, 256, .inl gS)), (bU, .inl (E.2.1, 256, .inl gU)), (bW, .inl (E.2.1, 176, .inl gW)), (bH, .inl (E.2.1, 32, .inl gH)), (bT, .inl (E.2.1, 16, .inl gT)), (bV, .inl (E.2.1, 16, .inl gV)), (bC, .inl (E.2.1, 16, .inl gC)), (bL, .inl (E.2.1, 16, .inl gL)), (bZ, .inl (E.2.2.2.2, 16, .inl gZ))] _ := hP
  have hD : va_D A [(r, .inr (3, [.int 0, .int rdr, .int mdr, .int msr, .ref bK, .ref bB, .ref bP, .ref bS, .ref bU, .ref bW, .ref bH, .ref bT, .ref bV, .ref bC, .ref bL, .int lcr, .ref bZ, .int wrr])), (bK, .inl (E.2.1, 16, .inl gK)), (bB, .inl (E.2.1, 16, .inl gB)), (bP, .inl (E.2.1, 16, .inl gP)), (bS, .inl (E.2.1, 256, .inl gS)), (bU, .inl (E.2.1, 256, .inl gU)), (bW, .inl (E.2.1, 176, .inl gW)), (bH, .inl (E.2.1, 32, .inl gH)), (bT, .inl (E.2.1, 16, .inl gT)), (bV, .inl (E.2.1, 16, .inl gV)), (bC, .inl (E.2.1, 16, .inl gC)), (bL, .inl (E.2.1, 16, .inl gL)), (bZ, .inl (E.2.2.2.2, 16, .inl gZ))] := hD
  refine lv_aload_n hx hb dX3_tagByte_5 rfl (lv_at hl 0 rfl) ?_
  refine x_get B hP 0 rfl rfl i_X3 3 (by decide) g_292 rfl dX3_tagByte_6 ?_
  refine lv_iconst (v := 2) hx hb dX3_tagByte_9 (by decide) ?_
  refine lv_icmp_ne (tgt := 31) hx hb dX3_tagByte_10 (by decide) (fun c_10 => ?_) (fun c_10 => ?_)
  · refine lv_iconst (v := (-1)) hx hb dX3_tagByte_31 (by decide) ?_
    have hP : va_P E.1 classes [(r, .inr (3, [.int 0, .int rdr, .int mdr, .int msr, .ref bK, .ref bB, .ref bP, .ref bS, .ref bU, .ref bW, .ref bH, .ref bT, .ref bV, .ref bC, .ref bL, .int lcr, .ref bZ, .int wrr])), (bK, .inl (E.2.1, 16, .inl gK)), (bB, .inl (E.2.1, 16, .inl gB)), (bP, .inl (E.2.1, 16, .inl gP)), (bS, .inl (E.2.1, 256, .inl gS)), (bU, .inl (E.2.1, 256, .inl gU)), (bW, .inl (E.2.1, 176, .inl gW)), (bH, .inl (E.2.1, 32, .inl gH)), (bT, .inl (E.2.1, 16, .inl gT)), (bV, .inl (E.2.1, 16, .inl gV)), (bC, .inl (E.2.1, 16, .inl gC)), (bL, .inl (E.2.1, 16, .inl gL)), (bZ, .inl (E.2.2.2.2, 16, .inl gZ))] _ := hP
    have hD : va_D A [(r, .inr (3, [.int 0, .int rdr, .int mdr, .int msr, .ref bK, .ref bB, .ref bP, .ref bS, .ref bU, .ref bW, .ref bH, .ref bT, .ref bV, .ref bC, .ref bL, .int lcr, .ref bZ, .int wrr])), (bK, .inl (E.2.1, 16, .inl gK)), (bB, .inl (E.2.1, 16, .inl gB)), (bP, .inl (E.2.1, 16, .inl gP)), (bS, .inl (E.2.1, 256, .inl gS)), (bU, .inl (E.2.1, 256, .inl gU)), (bW, .inl (E.2.1, 176, .inl gW)), (bH, .inl (E.2.1, 32, .inl gH)), (bT, .inl (E.2.1, 16, .inl gT)), (bV, .inl (E.2.1, 16, .inl gV)), (bC, .inl (E.2.1, 16, .inl gC)), (bL, .inl (E.2.1, 16, .inl gL)), (bZ, .inl (E.2.2.2.2, 16, .inl gZ))] := hD
    exact x_iret B hP hD hS rfl rfl dX3_tagByte_32
  · refine lv_iload_n hx hb dX3_tagByte_13 rfl (lv_at hl 1 rfl) ?_
    refine lv_bipush (v := 15) hx hb dX3_tagByte_14 (by decide) ?_
    refine x_Si (wr := [(r, .inr (3, [.int 0, .int rdr, .int mdr, .int msr, .ref bK, .ref bB, .ref bP, .ref bS, .ref bU, .ref bW, .ref bH, .ref bT, .ref bV, .ref bC, .ref bL, .int lcr, .ref bZ, .int wrr])), (bK, .inl (E.2.1, 16, .inl gK)), (bB, .inl (E.2.1, 16, .inl gB)), (bP, .inl (E.2.1, 16, .inl gP)), (bS, .inl (E.2.1, 256, .inl gS)), (bU, .inl (E.2.1, 256, .inl gU)), (bW, .inl (E.2.1, 176, .inl gW)), (bH, .inl (E.2.1, 32, .inl gH)), (bT, .inl (E.2.1, 16, .inl gT)), (bV, .inl (E.2.1, 16, .inl gV)), (bC, .inl (E.2.1, 16, .inl gC)), (bL, .inl (E.2.1, 16, .inl gL)), (bZ, .inl (E.2.2.2.2, 16, .inl gZ))]) (isC := []) (isR := [0, 1, 2, 3, 4, 5, 6, 7, 8, 9, 10, 11, 12]) (As := [.int p0, .int 15]) B (c_X3_isIn l E p0 15) k_X3_isIn g_353 s_X3_isIn ⟨by decide, by decide, rfl, rfl⟩ hP hD hS ⟨rfl, rfl, rfl, rfl, by decide⟩ rfl hl.1 rfl (Nat.le_of_ble_eq_true rfl) dX3_tagByte_16 ⟨by decide, by decide⟩ (fun H locs hP hD hS => ?_)
    have hP : va_P E.1 classes [(r, .inr (3, [.int 0, .int rdr, .int mdr, .int msr, .ref bK, .ref bB, .ref bP, .ref bS, .ref bU, .ref bW, .ref bH, .ref bT, .ref bV, .ref bC, .ref bL, .int lcr, .ref bZ, .int wrr])), (bK, .inl (E.2.1, 16, .inl gK)), (bB, .inl (E.2.1, 16, .inl gB)), (bP, .inl (E.2.1, 16, .inl gP)), (bS, .inl (E.2.1, 256, .inl gS)), (bU, .inl (E.2.1, 256, .inl gU)), (bW, .inl (E.2.1, 176, .inl gW)), (bH, .inl (E.2.1, 32, .inl gH)), (bT, .inl (E.2.1, 16, .inl gT)), (bV, .inl (E.2.1, 16, .inl gV)), (bC, .inl (E.2.1, 16, .inl gC)), (bL, .inl (E.2.1, 16, .inl gL)), (bZ, .inl (E.2.2.2.2, 16, .inl gZ))] _ := hP
    have hD : va_D A [(r, .inr (3, [.int 0, .int rdr, .int mdr, .int msr, .ref bK, .ref bB, .ref bP, .ref bS, .ref bU, .ref bW, .ref bH, .ref bT, .ref bV, .ref bC, .ref bL, .int lcr, .ref bZ, .int wrr])), (bK, .inl (E.2.1, 16, .inl gK)), (bB, .inl (E.2.1, 16, .inl gB)), (bP, .inl (E.2.1, 16, .inl gP)), (bS, .inl (E.2.1, 256, .inl gS)), (bU, .inl (E.2.1, 256, .inl gU)), (bW, .inl (E.2.1, 176, .inl gW)), (bH, .inl (E.2.1, 32, .inl gH)), (bT, .inl (E.2.1, 16, .inl gT)), (bV, .inl (E.2.1, 16, .inl gV)), (bC, .inl (E.2.1, 16, .inl gC)), (bL, .inl (E.2.1, 16, .inl gL)), (bZ, .inl (E.2.2.2.2, 16, .inl gZ))] := hD
    refine lv_if_eq (tgt := 31) hx hb dX3_tagByte_19 (by decide) (fun c_19 => ?_) (fun c_19 => ?_)
    · refine lv_iconst (v := (-1)) hx hb dX3_tagByte_31 (by decide) ?_
      have hP : va_P E.1 classes [(r, .inr (3, [.int 0, .int rdr, .int mdr, .int msr, .ref bK, .ref bB, .ref bP, .ref bS, .ref bU, .ref bW, .ref bH, .ref bT, .ref bV, .ref bC, .ref bL, .int lcr, .ref bZ, .int wrr])), (bK, .inl (E.2.1, 16, .inl gK)), (bB, .inl (E.2.1, 16, .inl gB)), (bP, .inl (E.2.1, 16, .inl gP)), (bS, .inl (E.2.1, 256, .inl gS)), (bU, .inl (E.2.1, 256, .inl gU)), (bW, .inl (E.2.1, 176, .inl gW)), (bH, .inl (E.2.1, 32, .inl gH)), (bT, .inl (E.2.1, 16, .inl gT)), (bV, .inl (E.2.1, 16, .inl gV)), (bC, .inl (E.2.1, 16, .inl gC)), (bL, .inl (E.2.1, 16, .inl gL)), (bZ, .inl (E.2.2.2.2, 16, .inl gZ))] _ := hP
      have hD : va_D A [(r, .inr (3, [.int 0, .int rdr, .int mdr, .int msr, .ref bK, .ref bB, .ref bP, .ref bS, .ref bU, .ref bW, .ref bH, .ref bT, .ref bV, .ref bC, .ref bL, .int lcr, .ref bZ, .int wrr])), (bK, .inl (E.2.1, 16, .inl gK)), (bB, .inl (E.2.1, 16, .inl gB)), (bP, .inl (E.2.1, 16, .inl gP)), (bS, .inl (E.2.1, 256, .inl gS)), (bU, .inl (E.2.1, 256, .inl gU)), (bW, .inl (E.2.1, 176, .inl gW)), (bH, .inl (E.2.1, 32, .inl gH)), (bT, .inl (E.2.1, 16, .inl gT)), (bV, .inl (E.2.1, 16, .inl gV)), (bC, .inl (E.2.1, 16, .inl gC)), (bL, .inl (E.2.1, 16, .inl gL)), (bZ, .inl (E.2.2.2.2, 16, .inl gZ))] := hD
      exact x_iret B hP hD hS rfl rfl dX3_tagByte_32
    · exact absurd h0 (fun h => by rcases h with h | h <;> contradiction)
set_option maxHeartbeats 4000000 in
set_option maxRecDepth 100000 in
/-- the reference: macCheck, no -/
theorem c_X3_macCheck_no (l : Launch) (E : EE) (r bK bB bP bS bU bW bH bT bV bC bL bZ : Nat) (gK gB gP gS gU gW gH gT gV gC gL gZ : Nat → Int32) (thr rdr mdr msr lcr wrr : Int32) (p0 : Int32) (p1 : Int32) (h0 : ¬ msr = 2 ∨ inM p0 15 = 0) : Ci l yX3_macCheck (.code yX3_macCheck cX3_macCheck 3 (some .boolean)) ({ frames := 1, cells := 0, slots := 0, locals := 21 }) E [.ref r, .int p0, .int p1] 0 [(r, .inr (3, [.int thr, .int rdr, .int mdr, .int msr, .ref bK, .ref bB, .ref bP, .ref bS, .ref bU, .ref bW, .ref bH, .ref bT, .ref bV, .ref bC, .ref bL, .int lcr, .ref bZ, .int wrr])), (bK, .inl (E.2.1, 16, .inl gK)), (bB, .inl (E.2.1, 16, .inl gB)), (bP, .inl (E.2.1, 16, .inl gP)), (bS, .inl (E.2.1, 256, .inl gS)), (bU, .inl (E.2.1, 256, .inl gU)), (bW, .inl (E.2.1, 176, .inl gW)), (bH, .inl (E.2.1, 32, .inl gH)), (bT, .inl (E.2.1, 16, .inl gT)), (bV, .inl (E.2.1, 16, .inl gV)), (bC, .inl (E.2.1, 16, .inl gC)), (bL, .inl (E.2.1, 16, .inl gL)), (bZ, .inl (E.2.2.2.2, 16, .inl gZ))] [(r, .inr (3, [.int 0, .int rdr, .int mdr, .int msr, .ref bK, .ref bB, .ref bP, .ref bS, .ref bU, .ref bW, .ref bH, .ref bT, .ref bV, .ref bC, .ref bL, .int lcr, .ref bZ, .int wrr])), (bK, .inl (E.2.1, 16, .inl gK)), (bB, .inl (E.2.1, 16, .inl gB)), (bP, .inl (E.2.1, 16, .inl gP)), (bS, .inl (E.2.1, 256, .inl gS)), (bU, .inl (E.2.1, 256, .inl gU)), (bW, .inl (E.2.1, 176, .inl gW)), (bH, .inl (E.2.1, 32, .inl gH)), (bT, .inl (E.2.1, 16, .inl gT)), (bV, .inl (E.2.1, 16, .inl gV)), (bC, .inl (E.2.1, 16, .inl gC)), (bL, .inl (E.2.1, 16, .inl gL)), (bZ, .inl (E.2.2.2.2, 16, .inl gZ))] := by
  refine Ci.of (by decide) (Nat.le_of_ble_eq_true rfl) ?_
  intro p e s m below meth c A ls B hP hD hS hl
  have hl : lv_has ls 3 [(0, .ref r), (1, .int p0), (2, .int p1)] := hl
  have B : Bd p s m _ meth c cX3_macCheck 3 (some .boolean) RX3 E A := B
  have hx := B.1
  have hb := B.2.1
  have hP : va_P E.1 classes [(r, .inr (3, [.int thr, .int rdr, .int mdr, .int msr, .ref bK, .ref bB, .ref bP, .ref bS, .ref bU, .ref bW, .ref bH, .ref bT, .ref bV, .ref bC, .ref bL, .int lcr, .ref bZ, .int wrr])), (bK, .inl (E.2.1, 16, .inl gK)), (bB, .inl (E.2.1, 16, .inl gB)), (bP, .inl (E.2.1, 16, .inl gP)), (bS, .inl (E.2.1, 256, .inl gS)), (bU, .inl (E.2.1, 256, .inl gU)), (bW, .inl (E.2.1, 176, .inl gW)), (bH, .inl (E.2.1, 32, .inl gH)), (bT, .inl (E.2.1, 16, .inl gT)), (bV, .inl (E.2.1, 16, .inl gV)), (bC, .inl (E.2.1, 16, .inl gC)), (bL, .inl (E.2.1, 16, .inl gL)), (bZ, .inl (E.2.2.2.2, 16, .inl gZ))] _ := hP
  have hD : va_D A [(r, .inr (3, [.int thr, .int rdr, .int mdr, .int msr, .ref bK, .ref bB, .ref bP, .ref bS, .ref bU, .ref bW, .ref bH, .ref bT, .ref bV, .ref bC, .ref bL, .int lcr, .ref bZ, .int wrr])), (bK, .inl (E.2.1, 16, .inl gK)), (bB, .inl (E.2.1, 16, .inl gB)), (bP, .inl (E.2.1, 16, .inl gP)), (bS, .inl (E.2.1, 256, .inl gS)), (bU, .inl (E.2.1, 256, .inl gU)), (bW, .inl (E.2.1, 176, .inl gW)), (bH, .inl (E.2.1, 32, .inl gH)), (bT, .inl (E.2.1, 16, .inl gT)), (bV, .inl (E.2.1, 16, .inl gV)), (bC, .inl (E.2.1, 16, .inl gC)), (bL, .inl (E.2.1, 16, .inl gL)), (bZ, .inl (E.2.2.2.2, 16, .inl gZ))] := hD
  refine lv_aload_n hx hb dX3_macCheck_0 rfl (lv_at hl 0 rfl) ?_
  refine lv_iconst (v := 0) hx hb dX3_macCheck_1 (by decide) ?_
  refine x_put B hP hD hS 0 rfl rfl i_X3 tyX3 tyX3_ok nmX3 0 (by decide) g_289 rfl rfl rfl (Nat.le_of_ble_eq_true rfl) dX3_macCheck_2 (fun H locs hP hD hS => ?_)
  have hP : va_P E.1 classes [(r, .inr (3, [.int 0, .int rdr, .int mdr, .int msr, .ref bK, .ref bB, .ref bP, .ref bS, .ref bU, .ref bW, .ref bH, .ref bT, .ref bV, .ref bC, .ref bL, .int lcr, .ref bZ, .int wrr])), (bK, .inl (E.2.1, 16, .inl gK)), (bB, .inl (E.2.1, 16, .inl gB)), (bP, .inl (E.2.1, 16, .inl gP)), (bS, .inl (E.2.1, 256, .inl gS)), (bU, .inl (E.2.1, 256, .inl gU)), (bW, .inl (E.2.1, 176, .inl gW)), (bH, .inl (E.2.1, 32, .inl gH)), (bT, .inl (E.2.1, 16, .inl gT)), (bV, .inl (E.2.1, 16, .inl gV)), (bC, .inl (E.2.1, 16, .inl gC)), (bL, .inl (E.2.1, 16, .inl gL)), (bZ, .inl (E.2.2.2.2, 16, .inl gZ))] _ := hP
  have hD : va_D A [(r, .inr (3, [.int 0, .int rdr, .int mdr, .int msr, .ref bK, .ref bB, .ref bP, .ref bS, .ref bU, .ref bW, .ref bH, .ref bT, .ref bV, .ref bC, .ref bL, .int lcr, .ref bZ, .int wrr])), (bK, .inl (E.2.1, 16, .inl gK)), (bB, .inl (E.2.1, 16, .inl gB)), (bP, .inl (E.2.1, 16, .inl gP)), (bS, .inl (E.2.1, 256, .inl gS)), (bU, .inl (E.2.1, 256, .inl gU)), (bW, .inl (E.2.1, 176, .inl gW)), (bH, .inl (E.2.1, 32, .inl gH)), (bT, .inl (E.2.1, 16, .inl gT)), (bV, .inl (E.2.1, 16, .inl gV)), (bC, .inl (E.2.1, 16, .inl gC)), (bL, .inl (E.2.1, 16, .inl gL)), (bZ, .inl (E.2.2.2.2, 16, .inl gZ))] := hD
  refine lv_aload_n hx hb dX3_macCheck_5 rfl (lv_at hl 0 rfl) ?_
  refine x_get B hP 0 rfl rfl i_X3 3 (by decide) g_292 rfl dX3_macCheck_6 ?_
  refine lv_iconst (v := 2) hx hb dX3_macCheck_9 (by decide) ?_
  refine lv_icmp_ne (tgt := 22) hx hb dX3_macCheck_10 (by decide) (fun c_10 => ?_) (fun c_10 => ?_)
  · refine lv_iconst (v := 0) hx hb dX3_macCheck_22 (by decide) ?_
    have hP : va_P E.1 classes [(r, .inr (3, [.int 0, .int rdr, .int mdr, .int msr, .ref bK, .ref bB, .ref bP, .ref bS, .ref bU, .ref bW, .ref bH, .ref bT, .ref bV, .ref bC, .ref bL, .int lcr, .ref bZ, .int wrr])), (bK, .inl (E.2.1, 16, .inl gK)), (bB, .inl (E.2.1, 16, .inl gB)), (bP, .inl (E.2.1, 16, .inl gP)), (bS, .inl (E.2.1, 256, .inl gS)), (bU, .inl (E.2.1, 256, .inl gU)), (bW, .inl (E.2.1, 176, .inl gW)), (bH, .inl (E.2.1, 32, .inl gH)), (bT, .inl (E.2.1, 16, .inl gT)), (bV, .inl (E.2.1, 16, .inl gV)), (bC, .inl (E.2.1, 16, .inl gC)), (bL, .inl (E.2.1, 16, .inl gL)), (bZ, .inl (E.2.2.2.2, 16, .inl gZ))] _ := hP
    have hD : va_D A [(r, .inr (3, [.int 0, .int rdr, .int mdr, .int msr, .ref bK, .ref bB, .ref bP, .ref bS, .ref bU, .ref bW, .ref bH, .ref bT, .ref bV, .ref bC, .ref bL, .int lcr, .ref bZ, .int wrr])), (bK, .inl (E.2.1, 16, .inl gK)), (bB, .inl (E.2.1, 16, .inl gB)), (bP, .inl (E.2.1, 16, .inl gP)), (bS, .inl (E.2.1, 256, .inl gS)), (bU, .inl (E.2.1, 256, .inl gU)), (bW, .inl (E.2.1, 176, .inl gW)), (bH, .inl (E.2.1, 32, .inl gH)), (bT, .inl (E.2.1, 16, .inl gT)), (bV, .inl (E.2.1, 16, .inl gV)), (bC, .inl (E.2.1, 16, .inl gC)), (bL, .inl (E.2.1, 16, .inl gL)), (bZ, .inl (E.2.2.2.2, 16, .inl gZ))] := hD
    exact x_iret B hP hD hS rfl rfl dX3_macCheck_23
  · refine lv_iload_n hx hb dX3_macCheck_13 rfl (lv_at hl 1 rfl) ?_
    refine lv_bipush (v := 15) hx hb dX3_macCheck_14 (by decide) ?_
    refine x_Si (wr := [(r, .inr (3, [.int 0, .int rdr, .int mdr, .int msr, .ref bK, .ref bB, .ref bP, .ref bS, .ref bU, .ref bW, .ref bH, .ref bT, .ref bV, .ref bC, .ref bL, .int lcr, .ref bZ, .int wrr])), (bK, .inl (E.2.1, 16, .inl gK)), (bB, .inl (E.2.1, 16, .inl gB)), (bP, .inl (E.2.1, 16, .inl gP)), (bS, .inl (E.2.1, 256, .inl gS)), (bU, .inl (E.2.1, 256, .inl gU)), (bW, .inl (E.2.1, 176, .inl gW)), (bH, .inl (E.2.1, 32, .inl gH)), (bT, .inl (E.2.1, 16, .inl gT)), (bV, .inl (E.2.1, 16, .inl gV)), (bC, .inl (E.2.1, 16, .inl gC)), (bL, .inl (E.2.1, 16, .inl gL)), (bZ, .inl (E.2.2.2.2, 16, .inl gZ))]) (isC := []) (isR := [0, 1, 2, 3, 4, 5, 6, 7, 8, 9, 10, 11, 12]) (As := [.int p0, .int 15]) B (c_X3_isIn l E p0 15) k_X3_isIn g_353 s_X3_isIn ⟨by decide, by decide, rfl, rfl⟩ hP hD hS ⟨rfl, rfl, rfl, rfl, by decide⟩ rfl hl.1 rfl (Nat.le_of_ble_eq_true rfl) dX3_macCheck_16 ⟨by decide, by decide⟩ (fun H locs hP hD hS => ?_)
    have hP : va_P E.1 classes [(r, .inr (3, [.int 0, .int rdr, .int mdr, .int msr, .ref bK, .ref bB, .ref bP, .ref bS, .ref bU, .ref bW, .ref bH, .ref bT, .ref bV, .ref bC, .ref bL, .int lcr, .ref bZ, .int wrr])), (bK, .inl (E.2.1, 16, .inl gK)), (bB, .inl (E.2.1, 16, .inl gB)), (bP, .inl (E.2.1, 16, .inl gP)), (bS, .inl (E.2.1, 256, .inl gS)), (bU, .inl (E.2.1, 256, .inl gU)), (bW, .inl (E.2.1, 176, .inl gW)), (bH, .inl (E.2.1, 32, .inl gH)), (bT, .inl (E.2.1, 16, .inl gT)), (bV, .inl (E.2.1, 16, .inl gV)), (bC, .inl (E.2.1, 16, .inl gC)), (bL, .inl (E.2.1, 16, .inl gL)), (bZ, .inl (E.2.2.2.2, 16, .inl gZ))] _ := hP
    have hD : va_D A [(r, .inr (3, [.int 0, .int rdr, .int mdr, .int msr, .ref bK, .ref bB, .ref bP, .ref bS, .ref bU, .ref bW, .ref bH, .ref bT, .ref bV, .ref bC, .ref bL, .int lcr, .ref bZ, .int wrr])), (bK, .inl (E.2.1, 16, .inl gK)), (bB, .inl (E.2.1, 16, .inl gB)), (bP, .inl (E.2.1, 16, .inl gP)), (bS, .inl (E.2.1, 256, .inl gS)), (bU, .inl (E.2.1, 256, .inl gU)), (bW, .inl (E.2.1, 176, .inl gW)), (bH, .inl (E.2.1, 32, .inl gH)), (bT, .inl (E.2.1, 16, .inl gT)), (bV, .inl (E.2.1, 16, .inl gV)), (bC, .inl (E.2.1, 16, .inl gC)), (bL, .inl (E.2.1, 16, .inl gL)), (bZ, .inl (E.2.2.2.2, 16, .inl gZ))] := hD
    refine lv_if_ne (tgt := 24) hx hb dX3_macCheck_19 (by decide) (fun c_19 => ?_) (fun c_19 => ?_)
    · exact absurd h0 (fun h => by rcases h with h | h <;> contradiction)
    · refine lv_iconst (v := 0) hx hb dX3_macCheck_22 (by decide) ?_
      have hP : va_P E.1 classes [(r, .inr (3, [.int 0, .int rdr, .int mdr, .int msr, .ref bK, .ref bB, .ref bP, .ref bS, .ref bU, .ref bW, .ref bH, .ref bT, .ref bV, .ref bC, .ref bL, .int lcr, .ref bZ, .int wrr])), (bK, .inl (E.2.1, 16, .inl gK)), (bB, .inl (E.2.1, 16, .inl gB)), (bP, .inl (E.2.1, 16, .inl gP)), (bS, .inl (E.2.1, 256, .inl gS)), (bU, .inl (E.2.1, 256, .inl gU)), (bW, .inl (E.2.1, 176, .inl gW)), (bH, .inl (E.2.1, 32, .inl gH)), (bT, .inl (E.2.1, 16, .inl gT)), (bV, .inl (E.2.1, 16, .inl gV)), (bC, .inl (E.2.1, 16, .inl gC)), (bL, .inl (E.2.1, 16, .inl gL)), (bZ, .inl (E.2.2.2.2, 16, .inl gZ))] _ := hP
      have hD : va_D A [(r, .inr (3, [.int 0, .int rdr, .int mdr, .int msr, .ref bK, .ref bB, .ref bP, .ref bS, .ref bU, .ref bW, .ref bH, .ref bT, .ref bV, .ref bC, .ref bL, .int lcr, .ref bZ, .int wrr])), (bK, .inl (E.2.1, 16, .inl gK)), (bB, .inl (E.2.1, 16, .inl gB)), (bP, .inl (E.2.1, 16, .inl gP)), (bS, .inl (E.2.1, 256, .inl gS)), (bU, .inl (E.2.1, 256, .inl gU)), (bW, .inl (E.2.1, 176, .inl gW)), (bH, .inl (E.2.1, 32, .inl gH)), (bT, .inl (E.2.1, 16, .inl gT)), (bV, .inl (E.2.1, 16, .inl gV)), (bC, .inl (E.2.1, 16, .inl gC)), (bL, .inl (E.2.1, 16, .inl gL)), (bZ, .inl (E.2.2.2.2, 16, .inl gZ))] := hD
      exact x_iret B hP hD hS rfl rfl dX3_macCheck_23
set_option maxHeartbeats 4000000 in
set_option maxRecDepth 100000 in
/-- the reference: setBlockByte, no -/
theorem c_X3_setBlockByte_no (l : Launch) (E : EE) (r bK bB bP bS bU bW bH bT bV bC bL bZ : Nat) (gK gB gP gS gU gW gH gT gV gC gL gZ : Nat → Int32) (thr rdr mdr msr lcr wrr : Int32) (p0 : Int32) (p1 : Int32) (h0 : rdr = 0 ∨ inM p0 15 = 0 ∨ inM p1 255 = 0) : Ci l yX3_setBlockByte (.code yX3_setBlockByte cX3_setBlockByte 3 (some .boolean)) ({ frames := 1, cells := 0, slots := 0, locals := 21 }) E [.ref r, .int p0, .int p1] 0 [(r, .inr (3, [.int thr, .int rdr, .int mdr, .int msr, .ref bK, .ref bB, .ref bP, .ref bS, .ref bU, .ref bW, .ref bH, .ref bT, .ref bV, .ref bC, .ref bL, .int lcr, .ref bZ, .int wrr])), (bK, .inl (E.2.1, 16, .inl gK)), (bB, .inl (E.2.1, 16, .inl gB)), (bP, .inl (E.2.1, 16, .inl gP)), (bS, .inl (E.2.1, 256, .inl gS)), (bU, .inl (E.2.1, 256, .inl gU)), (bW, .inl (E.2.1, 176, .inl gW)), (bH, .inl (E.2.1, 32, .inl gH)), (bT, .inl (E.2.1, 16, .inl gT)), (bV, .inl (E.2.1, 16, .inl gV)), (bC, .inl (E.2.1, 16, .inl gC)), (bL, .inl (E.2.1, 16, .inl gL)), (bZ, .inl (E.2.2.2.2, 16, .inl gZ))] [(r, .inr (3, [.int 0, .int rdr, .int mdr, .int msr, .ref bK, .ref bB, .ref bP, .ref bS, .ref bU, .ref bW, .ref bH, .ref bT, .ref bV, .ref bC, .ref bL, .int lcr, .ref bZ, .int wrr])), (bK, .inl (E.2.1, 16, .inl gK)), (bB, .inl (E.2.1, 16, .inl gB)), (bP, .inl (E.2.1, 16, .inl gP)), (bS, .inl (E.2.1, 256, .inl gS)), (bU, .inl (E.2.1, 256, .inl gU)), (bW, .inl (E.2.1, 176, .inl gW)), (bH, .inl (E.2.1, 32, .inl gH)), (bT, .inl (E.2.1, 16, .inl gT)), (bV, .inl (E.2.1, 16, .inl gV)), (bC, .inl (E.2.1, 16, .inl gC)), (bL, .inl (E.2.1, 16, .inl gL)), (bZ, .inl (E.2.2.2.2, 16, .inl gZ))] := by
  refine Ci.of (by decide) (Nat.le_of_ble_eq_true rfl) ?_
  intro p e s m below meth c A ls B hP hD hS hl
  have hl : lv_has ls 3 [(0, .ref r), (1, .int p0), (2, .int p1)] := hl
  have B : Bd p s m _ meth c cX3_setBlockByte 3 (some .boolean) RX3 E A := B
  have hx := B.1
  have hb := B.2.1
  have hP : va_P E.1 classes [(r, .inr (3, [.int thr, .int rdr, .int mdr, .int msr, .ref bK, .ref bB, .ref bP, .ref bS, .ref bU, .ref bW, .ref bH, .ref bT, .ref bV, .ref bC, .ref bL, .int lcr, .ref bZ, .int wrr])), (bK, .inl (E.2.1, 16, .inl gK)), (bB, .inl (E.2.1, 16, .inl gB)), (bP, .inl (E.2.1, 16, .inl gP)), (bS, .inl (E.2.1, 256, .inl gS)), (bU, .inl (E.2.1, 256, .inl gU)), (bW, .inl (E.2.1, 176, .inl gW)), (bH, .inl (E.2.1, 32, .inl gH)), (bT, .inl (E.2.1, 16, .inl gT)), (bV, .inl (E.2.1, 16, .inl gV)), (bC, .inl (E.2.1, 16, .inl gC)), (bL, .inl (E.2.1, 16, .inl gL)), (bZ, .inl (E.2.2.2.2, 16, .inl gZ))] _ := hP
  have hD : va_D A [(r, .inr (3, [.int thr, .int rdr, .int mdr, .int msr, .ref bK, .ref bB, .ref bP, .ref bS, .ref bU, .ref bW, .ref bH, .ref bT, .ref bV, .ref bC, .ref bL, .int lcr, .ref bZ, .int wrr])), (bK, .inl (E.2.1, 16, .inl gK)), (bB, .inl (E.2.1, 16, .inl gB)), (bP, .inl (E.2.1, 16, .inl gP)), (bS, .inl (E.2.1, 256, .inl gS)), (bU, .inl (E.2.1, 256, .inl gU)), (bW, .inl (E.2.1, 176, .inl gW)), (bH, .inl (E.2.1, 32, .inl gH)), (bT, .inl (E.2.1, 16, .inl gT)), (bV, .inl (E.2.1, 16, .inl gV)), (bC, .inl (E.2.1, 16, .inl gC)), (bL, .inl (E.2.1, 16, .inl gL)), (bZ, .inl (E.2.2.2.2, 16, .inl gZ))] := hD
  refine lv_aload_n hx hb dX3_setBlockByte_0 rfl (lv_at hl 0 rfl) ?_
  refine lv_iconst (v := 0) hx hb dX3_setBlockByte_1 (by decide) ?_
  refine x_put B hP hD hS 0 rfl rfl i_X3 tyX3 tyX3_ok nmX3 0 (by decide) g_289 rfl rfl rfl (Nat.le_of_ble_eq_true rfl) dX3_setBlockByte_2 (fun H locs hP hD hS => ?_)
  have hP : va_P E.1 classes [(r, .inr (3, [.int 0, .int rdr, .int mdr, .int msr, .ref bK, .ref bB, .ref bP, .ref bS, .ref bU, .ref bW, .ref bH, .ref bT, .ref bV, .ref bC, .ref bL, .int lcr, .ref bZ, .int wrr])), (bK, .inl (E.2.1, 16, .inl gK)), (bB, .inl (E.2.1, 16, .inl gB)), (bP, .inl (E.2.1, 16, .inl gP)), (bS, .inl (E.2.1, 256, .inl gS)), (bU, .inl (E.2.1, 256, .inl gU)), (bW, .inl (E.2.1, 176, .inl gW)), (bH, .inl (E.2.1, 32, .inl gH)), (bT, .inl (E.2.1, 16, .inl gT)), (bV, .inl (E.2.1, 16, .inl gV)), (bC, .inl (E.2.1, 16, .inl gC)), (bL, .inl (E.2.1, 16, .inl gL)), (bZ, .inl (E.2.2.2.2, 16, .inl gZ))] _ := hP
  have hD : va_D A [(r, .inr (3, [.int 0, .int rdr, .int mdr, .int msr, .ref bK, .ref bB, .ref bP, .ref bS, .ref bU, .ref bW, .ref bH, .ref bT, .ref bV, .ref bC, .ref bL, .int lcr, .ref bZ, .int wrr])), (bK, .inl (E.2.1, 16, .inl gK)), (bB, .inl (E.2.1, 16, .inl gB)), (bP, .inl (E.2.1, 16, .inl gP)), (bS, .inl (E.2.1, 256, .inl gS)), (bU, .inl (E.2.1, 256, .inl gU)), (bW, .inl (E.2.1, 176, .inl gW)), (bH, .inl (E.2.1, 32, .inl gH)), (bT, .inl (E.2.1, 16, .inl gT)), (bV, .inl (E.2.1, 16, .inl gV)), (bC, .inl (E.2.1, 16, .inl gC)), (bL, .inl (E.2.1, 16, .inl gL)), (bZ, .inl (E.2.2.2.2, 16, .inl gZ))] := hD
  refine lv_aload_n hx hb dX3_setBlockByte_5 rfl (lv_at hl 0 rfl) ?_
  refine x_get B hP 0 rfl rfl i_X3 1 (by decide) g_290 rfl dX3_setBlockByte_6 ?_
  refine lv_if_eq (tgt := 31) hx hb dX3_setBlockByte_9 (by decide) (fun c_9 => ?_) (fun c_9 => ?_)
  · refine lv_iconst (v := 0) hx hb dX3_setBlockByte_31 (by decide) ?_
    have hP : va_P E.1 classes [(r, .inr (3, [.int 0, .int rdr, .int mdr, .int msr, .ref bK, .ref bB, .ref bP, .ref bS, .ref bU, .ref bW, .ref bH, .ref bT, .ref bV, .ref bC, .ref bL, .int lcr, .ref bZ, .int wrr])), (bK, .inl (E.2.1, 16, .inl gK)), (bB, .inl (E.2.1, 16, .inl gB)), (bP, .inl (E.2.1, 16, .inl gP)), (bS, .inl (E.2.1, 256, .inl gS)), (bU, .inl (E.2.1, 256, .inl gU)), (bW, .inl (E.2.1, 176, .inl gW)), (bH, .inl (E.2.1, 32, .inl gH)), (bT, .inl (E.2.1, 16, .inl gT)), (bV, .inl (E.2.1, 16, .inl gV)), (bC, .inl (E.2.1, 16, .inl gC)), (bL, .inl (E.2.1, 16, .inl gL)), (bZ, .inl (E.2.2.2.2, 16, .inl gZ))] _ := hP
    have hD : va_D A [(r, .inr (3, [.int 0, .int rdr, .int mdr, .int msr, .ref bK, .ref bB, .ref bP, .ref bS, .ref bU, .ref bW, .ref bH, .ref bT, .ref bV, .ref bC, .ref bL, .int lcr, .ref bZ, .int wrr])), (bK, .inl (E.2.1, 16, .inl gK)), (bB, .inl (E.2.1, 16, .inl gB)), (bP, .inl (E.2.1, 16, .inl gP)), (bS, .inl (E.2.1, 256, .inl gS)), (bU, .inl (E.2.1, 256, .inl gU)), (bW, .inl (E.2.1, 176, .inl gW)), (bH, .inl (E.2.1, 32, .inl gH)), (bT, .inl (E.2.1, 16, .inl gT)), (bV, .inl (E.2.1, 16, .inl gV)), (bC, .inl (E.2.1, 16, .inl gC)), (bL, .inl (E.2.1, 16, .inl gL)), (bZ, .inl (E.2.2.2.2, 16, .inl gZ))] := hD
    exact x_iret B hP hD hS rfl rfl dX3_setBlockByte_32
  · refine lv_iload_n hx hb dX3_setBlockByte_12 rfl (lv_at hl 1 rfl) ?_
    refine lv_bipush (v := 15) hx hb dX3_setBlockByte_13 (by decide) ?_
    refine x_Si (wr := [(r, .inr (3, [.int 0, .int rdr, .int mdr, .int msr, .ref bK, .ref bB, .ref bP, .ref bS, .ref bU, .ref bW, .ref bH, .ref bT, .ref bV, .ref bC, .ref bL, .int lcr, .ref bZ, .int wrr])), (bK, .inl (E.2.1, 16, .inl gK)), (bB, .inl (E.2.1, 16, .inl gB)), (bP, .inl (E.2.1, 16, .inl gP)), (bS, .inl (E.2.1, 256, .inl gS)), (bU, .inl (E.2.1, 256, .inl gU)), (bW, .inl (E.2.1, 176, .inl gW)), (bH, .inl (E.2.1, 32, .inl gH)), (bT, .inl (E.2.1, 16, .inl gT)), (bV, .inl (E.2.1, 16, .inl gV)), (bC, .inl (E.2.1, 16, .inl gC)), (bL, .inl (E.2.1, 16, .inl gL)), (bZ, .inl (E.2.2.2.2, 16, .inl gZ))]) (isC := []) (isR := [0, 1, 2, 3, 4, 5, 6, 7, 8, 9, 10, 11, 12]) (As := [.int p0, .int 15]) B (c_X3_isIn l E p0 15) k_X3_isIn g_353 s_X3_isIn ⟨by decide, by decide, rfl, rfl⟩ hP hD hS ⟨rfl, rfl, rfl, rfl, by decide⟩ rfl hl.1 rfl (Nat.le_of_ble_eq_true rfl) dX3_setBlockByte_15 ⟨by decide, by decide⟩ (fun H locs hP hD hS => ?_)
    have hP : va_P E.1 classes [(r, .inr (3, [.int 0, .int rdr, .int mdr, .int msr, .ref bK, .ref bB, .ref bP, .ref bS, .ref bU, .ref bW, .ref bH, .ref bT, .ref bV, .ref bC, .ref bL, .int lcr, .ref bZ, .int wrr])), (bK, .inl (E.2.1, 16, .inl gK)), (bB, .inl (E.2.1, 16, .inl gB)), (bP, .inl (E.2.1, 16, .inl gP)), (bS, .inl (E.2.1, 256, .inl gS)), (bU, .inl (E.2.1, 256, .inl gU)), (bW, .inl (E.2.1, 176, .inl gW)), (bH, .inl (E.2.1, 32, .inl gH)), (bT, .inl (E.2.1, 16, .inl gT)), (bV, .inl (E.2.1, 16, .inl gV)), (bC, .inl (E.2.1, 16, .inl gC)), (bL, .inl (E.2.1, 16, .inl gL)), (bZ, .inl (E.2.2.2.2, 16, .inl gZ))] _ := hP
    have hD : va_D A [(r, .inr (3, [.int 0, .int rdr, .int mdr, .int msr, .ref bK, .ref bB, .ref bP, .ref bS, .ref bU, .ref bW, .ref bH, .ref bT, .ref bV, .ref bC, .ref bL, .int lcr, .ref bZ, .int wrr])), (bK, .inl (E.2.1, 16, .inl gK)), (bB, .inl (E.2.1, 16, .inl gB)), (bP, .inl (E.2.1, 16, .inl gP)), (bS, .inl (E.2.1, 256, .inl gS)), (bU, .inl (E.2.1, 256, .inl gU)), (bW, .inl (E.2.1, 176, .inl gW)), (bH, .inl (E.2.1, 32, .inl gH)), (bT, .inl (E.2.1, 16, .inl gT)), (bV, .inl (E.2.1, 16, .inl gV)), (bC, .inl (E.2.1, 16, .inl gC)), (bL, .inl (E.2.1, 16, .inl gL)), (bZ, .inl (E.2.2.2.2, 16, .inl gZ))] := hD
    refine lv_if_eq (tgt := 31) hx hb dX3_setBlockByte_18 (by decide) (fun c_18 => ?_) (fun c_18 => ?_)
    · refine lv_iconst (v := 0) hx hb dX3_setBlockByte_31 (by decide) ?_
      have hP : va_P E.1 classes [(r, .inr (3, [.int 0, .int rdr, .int mdr, .int msr, .ref bK, .ref bB, .ref bP, .ref bS, .ref bU, .ref bW, .ref bH, .ref bT, .ref bV, .ref bC, .ref bL, .int lcr, .ref bZ, .int wrr])), (bK, .inl (E.2.1, 16, .inl gK)), (bB, .inl (E.2.1, 16, .inl gB)), (bP, .inl (E.2.1, 16, .inl gP)), (bS, .inl (E.2.1, 256, .inl gS)), (bU, .inl (E.2.1, 256, .inl gU)), (bW, .inl (E.2.1, 176, .inl gW)), (bH, .inl (E.2.1, 32, .inl gH)), (bT, .inl (E.2.1, 16, .inl gT)), (bV, .inl (E.2.1, 16, .inl gV)), (bC, .inl (E.2.1, 16, .inl gC)), (bL, .inl (E.2.1, 16, .inl gL)), (bZ, .inl (E.2.2.2.2, 16, .inl gZ))] _ := hP
      have hD : va_D A [(r, .inr (3, [.int 0, .int rdr, .int mdr, .int msr, .ref bK, .ref bB, .ref bP, .ref bS, .ref bU, .ref bW, .ref bH, .ref bT, .ref bV, .ref bC, .ref bL, .int lcr, .ref bZ, .int wrr])), (bK, .inl (E.2.1, 16, .inl gK)), (bB, .inl (E.2.1, 16, .inl gB)), (bP, .inl (E.2.1, 16, .inl gP)), (bS, .inl (E.2.1, 256, .inl gS)), (bU, .inl (E.2.1, 256, .inl gU)), (bW, .inl (E.2.1, 176, .inl gW)), (bH, .inl (E.2.1, 32, .inl gH)), (bT, .inl (E.2.1, 16, .inl gT)), (bV, .inl (E.2.1, 16, .inl gV)), (bC, .inl (E.2.1, 16, .inl gC)), (bL, .inl (E.2.1, 16, .inl gL)), (bZ, .inl (E.2.2.2.2, 16, .inl gZ))] := hD
      exact x_iret B hP hD hS rfl rfl dX3_setBlockByte_32
    · refine lv_iload_n hx hb dX3_setBlockByte_21 rfl (lv_at hl 2 rfl) ?_
      refine lv_sipush (v := 255) hx hb dX3_setBlockByte_22 (by decide) ?_
      refine x_Si (wr := [(r, .inr (3, [.int 0, .int rdr, .int mdr, .int msr, .ref bK, .ref bB, .ref bP, .ref bS, .ref bU, .ref bW, .ref bH, .ref bT, .ref bV, .ref bC, .ref bL, .int lcr, .ref bZ, .int wrr])), (bK, .inl (E.2.1, 16, .inl gK)), (bB, .inl (E.2.1, 16, .inl gB)), (bP, .inl (E.2.1, 16, .inl gP)), (bS, .inl (E.2.1, 256, .inl gS)), (bU, .inl (E.2.1, 256, .inl gU)), (bW, .inl (E.2.1, 176, .inl gW)), (bH, .inl (E.2.1, 32, .inl gH)), (bT, .inl (E.2.1, 16, .inl gT)), (bV, .inl (E.2.1, 16, .inl gV)), (bC, .inl (E.2.1, 16, .inl gC)), (bL, .inl (E.2.1, 16, .inl gL)), (bZ, .inl (E.2.2.2.2, 16, .inl gZ))]) (isC := []) (isR := [0, 1, 2, 3, 4, 5, 6, 7, 8, 9, 10, 11, 12]) (As := [.int p1, .int 255]) B (c_X3_isIn l E p1 255) k_X3_isIn g_353 s_X3_isIn ⟨by decide, by decide, rfl, rfl⟩ hP hD hS ⟨rfl, rfl, rfl, rfl, by decide⟩ rfl hl.1 rfl (Nat.le_of_ble_eq_true rfl) dX3_setBlockByte_25 ⟨by decide, by decide⟩ (fun H locs hP hD hS => ?_)
      have hP : va_P E.1 classes [(r, .inr (3, [.int 0, .int rdr, .int mdr, .int msr, .ref bK, .ref bB, .ref bP, .ref bS, .ref bU, .ref bW, .ref bH, .ref bT, .ref bV, .ref bC, .ref bL, .int lcr, .ref bZ, .int wrr])), (bK, .inl (E.2.1, 16, .inl gK)), (bB, .inl (E.2.1, 16, .inl gB)), (bP, .inl (E.2.1, 16, .inl gP)), (bS, .inl (E.2.1, 256, .inl gS)), (bU, .inl (E.2.1, 256, .inl gU)), (bW, .inl (E.2.1, 176, .inl gW)), (bH, .inl (E.2.1, 32, .inl gH)), (bT, .inl (E.2.1, 16, .inl gT)), (bV, .inl (E.2.1, 16, .inl gV)), (bC, .inl (E.2.1, 16, .inl gC)), (bL, .inl (E.2.1, 16, .inl gL)), (bZ, .inl (E.2.2.2.2, 16, .inl gZ))] _ := hP
      have hD : va_D A [(r, .inr (3, [.int 0, .int rdr, .int mdr, .int msr, .ref bK, .ref bB, .ref bP, .ref bS, .ref bU, .ref bW, .ref bH, .ref bT, .ref bV, .ref bC, .ref bL, .int lcr, .ref bZ, .int wrr])), (bK, .inl (E.2.1, 16, .inl gK)), (bB, .inl (E.2.1, 16, .inl gB)), (bP, .inl (E.2.1, 16, .inl gP)), (bS, .inl (E.2.1, 256, .inl gS)), (bU, .inl (E.2.1, 256, .inl gU)), (bW, .inl (E.2.1, 176, .inl gW)), (bH, .inl (E.2.1, 32, .inl gH)), (bT, .inl (E.2.1, 16, .inl gT)), (bV, .inl (E.2.1, 16, .inl gV)), (bC, .inl (E.2.1, 16, .inl gC)), (bL, .inl (E.2.1, 16, .inl gL)), (bZ, .inl (E.2.2.2.2, 16, .inl gZ))] := hD
      refine lv_if_ne (tgt := 33) hx hb dX3_setBlockByte_28 (by decide) (fun c_28 => ?_) (fun c_28 => ?_)
      · exact absurd h0 (fun h => by rcases h with h | h | h <;> contradiction)
      · refine lv_iconst (v := 0) hx hb dX3_setBlockByte_31 (by decide) ?_
        have hP : va_P E.1 classes [(r, .inr (3, [.int 0, .int rdr, .int mdr, .int msr, .ref bK, .ref bB, .ref bP, .ref bS, .ref bU, .ref bW, .ref bH, .ref bT, .ref bV, .ref bC, .ref bL, .int lcr, .ref bZ, .int wrr])), (bK, .inl (E.2.1, 16, .inl gK)), (bB, .inl (E.2.1, 16, .inl gB)), (bP, .inl (E.2.1, 16, .inl gP)), (bS, .inl (E.2.1, 256, .inl gS)), (bU, .inl (E.2.1, 256, .inl gU)), (bW, .inl (E.2.1, 176, .inl gW)), (bH, .inl (E.2.1, 32, .inl gH)), (bT, .inl (E.2.1, 16, .inl gT)), (bV, .inl (E.2.1, 16, .inl gV)), (bC, .inl (E.2.1, 16, .inl gC)), (bL, .inl (E.2.1, 16, .inl gL)), (bZ, .inl (E.2.2.2.2, 16, .inl gZ))] _ := hP
        have hD : va_D A [(r, .inr (3, [.int 0, .int rdr, .int mdr, .int msr, .ref bK, .ref bB, .ref bP, .ref bS, .ref bU, .ref bW, .ref bH, .ref bT, .ref bV, .ref bC, .ref bL, .int lcr, .ref bZ, .int wrr])), (bK, .inl (E.2.1, 16, .inl gK)), (bB, .inl (E.2.1, 16, .inl gB)), (bP, .inl (E.2.1, 16, .inl gP)), (bS, .inl (E.2.1, 256, .inl gS)), (bU, .inl (E.2.1, 256, .inl gU)), (bW, .inl (E.2.1, 176, .inl gW)), (bH, .inl (E.2.1, 32, .inl gH)), (bT, .inl (E.2.1, 16, .inl gT)), (bV, .inl (E.2.1, 16, .inl gV)), (bC, .inl (E.2.1, 16, .inl gC)), (bL, .inl (E.2.1, 16, .inl gL)), (bZ, .inl (E.2.2.2.2, 16, .inl gZ))] := hD
        exact x_iret B hP hD hS rfl rfl dX3_setBlockByte_32
set_option maxHeartbeats 4000000 in
set_option maxRecDepth 100000 in
/-- the reference: encryptBlock, no -/
theorem c_X3_encryptBlock_no (l : Launch) (E : EE) (r bK bB bP bS bU bW bH bT bV bC bL bZ : Nat) (gK gB gP gS gU gW gH gT gV gC gL gZ : Nat → Int32) (thr rdr mdr msr lcr wrr : Int32) (h0 : mdr = 0) : Ci l yX3_encryptBlock (.code yX3_encryptBlock cX3_encryptBlock 2 (some .boolean)) ({ frames := 3, cells := 0, slots := 0, locals := 72 }) E [.ref r] 0 [(r, .inr (3, [.int thr, .int rdr, .int mdr, .int msr, .ref bK, .ref bB, .ref bP, .ref bS, .ref bU, .ref bW, .ref bH, .ref bT, .ref bV, .ref bC, .ref bL, .int lcr, .ref bZ, .int wrr])), (bK, .inl (E.2.1, 16, .inl gK)), (bB, .inl (E.2.1, 16, .inl gB)), (bP, .inl (E.2.1, 16, .inl gP)), (bS, .inl (E.2.1, 256, .inl gS)), (bU, .inl (E.2.1, 256, .inl gU)), (bW, .inl (E.2.1, 176, .inl gW)), (bH, .inl (E.2.1, 32, .inl gH)), (bT, .inl (E.2.1, 16, .inl gT)), (bV, .inl (E.2.1, 16, .inl gV)), (bC, .inl (E.2.1, 16, .inl gC)), (bL, .inl (E.2.1, 16, .inl gL)), (bZ, .inl (E.2.2.2.2, 16, .inl gZ))] [(r, .inr (3, [.int 0, .int rdr, .int mdr, .int msr, .ref bK, .ref bB, .ref bP, .ref bS, .ref bU, .ref bW, .ref bH, .ref bT, .ref bV, .ref bC, .ref bL, .int lcr, .ref bZ, .int wrr])), (bK, .inl (E.2.1, 16, .inl gK)), (bB, .inl (E.2.1, 16, .inl gB)), (bP, .inl (E.2.1, 16, .inl gP)), (bS, .inl (E.2.1, 256, .inl gS)), (bU, .inl (E.2.1, 256, .inl gU)), (bW, .inl (E.2.1, 176, .inl gW)), (bH, .inl (E.2.1, 32, .inl gH)), (bT, .inl (E.2.1, 16, .inl gT)), (bV, .inl (E.2.1, 16, .inl gV)), (bC, .inl (E.2.1, 16, .inl gC)), (bL, .inl (E.2.1, 16, .inl gL)), (bZ, .inl (E.2.2.2.2, 16, .inl gZ))] := by
  refine Ci.of (by decide) (Nat.le_of_ble_eq_true rfl) ?_
  intro p e s m below meth c A ls B hP hD hS hl
  have hl : lv_has ls 2 [(0, .ref r)] := hl
  have B : Bd p s m _ meth c cX3_encryptBlock 2 (some .boolean) RX3 E A := B
  have hx := B.1
  have hb := B.2.1
  have hP : va_P E.1 classes [(r, .inr (3, [.int thr, .int rdr, .int mdr, .int msr, .ref bK, .ref bB, .ref bP, .ref bS, .ref bU, .ref bW, .ref bH, .ref bT, .ref bV, .ref bC, .ref bL, .int lcr, .ref bZ, .int wrr])), (bK, .inl (E.2.1, 16, .inl gK)), (bB, .inl (E.2.1, 16, .inl gB)), (bP, .inl (E.2.1, 16, .inl gP)), (bS, .inl (E.2.1, 256, .inl gS)), (bU, .inl (E.2.1, 256, .inl gU)), (bW, .inl (E.2.1, 176, .inl gW)), (bH, .inl (E.2.1, 32, .inl gH)), (bT, .inl (E.2.1, 16, .inl gT)), (bV, .inl (E.2.1, 16, .inl gV)), (bC, .inl (E.2.1, 16, .inl gC)), (bL, .inl (E.2.1, 16, .inl gL)), (bZ, .inl (E.2.2.2.2, 16, .inl gZ))] _ := hP
  have hD : va_D A [(r, .inr (3, [.int thr, .int rdr, .int mdr, .int msr, .ref bK, .ref bB, .ref bP, .ref bS, .ref bU, .ref bW, .ref bH, .ref bT, .ref bV, .ref bC, .ref bL, .int lcr, .ref bZ, .int wrr])), (bK, .inl (E.2.1, 16, .inl gK)), (bB, .inl (E.2.1, 16, .inl gB)), (bP, .inl (E.2.1, 16, .inl gP)), (bS, .inl (E.2.1, 256, .inl gS)), (bU, .inl (E.2.1, 256, .inl gU)), (bW, .inl (E.2.1, 176, .inl gW)), (bH, .inl (E.2.1, 32, .inl gH)), (bT, .inl (E.2.1, 16, .inl gT)), (bV, .inl (E.2.1, 16, .inl gV)), (bC, .inl (E.2.1, 16, .inl gC)), (bL, .inl (E.2.1, 16, .inl gL)), (bZ, .inl (E.2.2.2.2, 16, .inl gZ))] := hD
  refine lv_aload_n hx hb dX3_encryptBlock_0 rfl (lv_at hl 0 rfl) ?_
  refine lv_iconst (v := 0) hx hb dX3_encryptBlock_1 (by decide) ?_
  refine x_put B hP hD hS 0 rfl rfl i_X3 tyX3 tyX3_ok nmX3 0 (by decide) g_289 rfl rfl rfl (Nat.le_of_ble_eq_true rfl) dX3_encryptBlock_2 (fun H locs hP hD hS => ?_)
  have hP : va_P E.1 classes [(r, .inr (3, [.int 0, .int rdr, .int mdr, .int msr, .ref bK, .ref bB, .ref bP, .ref bS, .ref bU, .ref bW, .ref bH, .ref bT, .ref bV, .ref bC, .ref bL, .int lcr, .ref bZ, .int wrr])), (bK, .inl (E.2.1, 16, .inl gK)), (bB, .inl (E.2.1, 16, .inl gB)), (bP, .inl (E.2.1, 16, .inl gP)), (bS, .inl (E.2.1, 256, .inl gS)), (bU, .inl (E.2.1, 256, .inl gU)), (bW, .inl (E.2.1, 176, .inl gW)), (bH, .inl (E.2.1, 32, .inl gH)), (bT, .inl (E.2.1, 16, .inl gT)), (bV, .inl (E.2.1, 16, .inl gV)), (bC, .inl (E.2.1, 16, .inl gC)), (bL, .inl (E.2.1, 16, .inl gL)), (bZ, .inl (E.2.2.2.2, 16, .inl gZ))] _ := hP
  have hD : va_D A [(r, .inr (3, [.int 0, .int rdr, .int mdr, .int msr, .ref bK, .ref bB, .ref bP, .ref bS, .ref bU, .ref bW, .ref bH, .ref bT, .ref bV, .ref bC, .ref bL, .int lcr, .ref bZ, .int wrr])), (bK, .inl (E.2.1, 16, .inl gK)), (bB, .inl (E.2.1, 16, .inl gB)), (bP, .inl (E.2.1, 16, .inl gP)), (bS, .inl (E.2.1, 256, .inl gS)), (bU, .inl (E.2.1, 256, .inl gU)), (bW, .inl (E.2.1, 176, .inl gW)), (bH, .inl (E.2.1, 32, .inl gH)), (bT, .inl (E.2.1, 16, .inl gT)), (bV, .inl (E.2.1, 16, .inl gV)), (bC, .inl (E.2.1, 16, .inl gC)), (bL, .inl (E.2.1, 16, .inl gL)), (bZ, .inl (E.2.2.2.2, 16, .inl gZ))] := hD
  refine lv_aload_n hx hb dX3_encryptBlock_5 rfl (lv_at hl 0 rfl) ?_
  refine x_get B hP 0 rfl rfl i_X3 2 (by decide) g_291 rfl dX3_encryptBlock_6 ?_
  refine lv_if_eq (tgt := 47) hx hb dX3_encryptBlock_9 (by decide) (fun c_9 => ?_) (fun c_9 => ?_)
  · refine lv_aload_n hx hb dX3_encryptBlock_47 rfl (lv_at hl 0 rfl) ?_
    refine x_get B hP 0 rfl rfl i_X3 2 (by decide) g_291 rfl dX3_encryptBlock_48 ?_
    have hP : va_P E.1 classes [(r, .inr (3, [.int 0, .int rdr, .int mdr, .int msr, .ref bK, .ref bB, .ref bP, .ref bS, .ref bU, .ref bW, .ref bH, .ref bT, .ref bV, .ref bC, .ref bL, .int lcr, .ref bZ, .int wrr])), (bK, .inl (E.2.1, 16, .inl gK)), (bB, .inl (E.2.1, 16, .inl gB)), (bP, .inl (E.2.1, 16, .inl gP)), (bS, .inl (E.2.1, 256, .inl gS)), (bU, .inl (E.2.1, 256, .inl gU)), (bW, .inl (E.2.1, 176, .inl gW)), (bH, .inl (E.2.1, 32, .inl gH)), (bT, .inl (E.2.1, 16, .inl gT)), (bV, .inl (E.2.1, 16, .inl gV)), (bC, .inl (E.2.1, 16, .inl gC)), (bL, .inl (E.2.1, 16, .inl gL)), (bZ, .inl (E.2.2.2.2, 16, .inl gZ))] _ := hP
    have hD : va_D A [(r, .inr (3, [.int 0, .int rdr, .int mdr, .int msr, .ref bK, .ref bB, .ref bP, .ref bS, .ref bU, .ref bW, .ref bH, .ref bT, .ref bV, .ref bC, .ref bL, .int lcr, .ref bZ, .int wrr])), (bK, .inl (E.2.1, 16, .inl gK)), (bB, .inl (E.2.1, 16, .inl gB)), (bP, .inl (E.2.1, 16, .inl gP)), (bS, .inl (E.2.1, 256, .inl gS)), (bU, .inl (E.2.1, 256, .inl gU)), (bW, .inl (E.2.1, 176, .inl gW)), (bH, .inl (E.2.1, 32, .inl gH)), (bT, .inl (E.2.1, 16, .inl gT)), (bV, .inl (E.2.1, 16, .inl gV)), (bC, .inl (E.2.1, 16, .inl gC)), (bL, .inl (E.2.1, 16, .inl gL)), (bZ, .inl (E.2.2.2.2, 16, .inl gZ))] := hD
    exact x_iret B hP hD hS (by rw [h0]; rfl) h0 dX3_encryptBlock_51
  · exact absurd h0 c_9
set_option maxHeartbeats 4000000 in
set_option maxRecDepth 100000 in
/-- the reference: decryptBlock, no -/
theorem c_X3_decryptBlock_no (l : Launch) (E : EE) (r bK bB bP bS bU bW bH bT bV bC bL bZ : Nat) (gK gB gP gS gU gW gH gT gV gC gL gZ : Nat → Int32) (thr rdr mdr msr lcr wrr : Int32) (h0 : mdr = 0) : Ci l yX3_decryptBlock (.code yX3_decryptBlock cX3_decryptBlock 2 (some .boolean)) ({ frames := 3, cells := 0, slots := 0, locals := 72 }) E [.ref r] 0 [(r, .inr (3, [.int thr, .int rdr, .int mdr, .int msr, .ref bK, .ref bB, .ref bP, .ref bS, .ref bU, .ref bW, .ref bH, .ref bT, .ref bV, .ref bC, .ref bL, .int lcr, .ref bZ, .int wrr])), (bK, .inl (E.2.1, 16, .inl gK)), (bB, .inl (E.2.1, 16, .inl gB)), (bP, .inl (E.2.1, 16, .inl gP)), (bS, .inl (E.2.1, 256, .inl gS)), (bU, .inl (E.2.1, 256, .inl gU)), (bW, .inl (E.2.1, 176, .inl gW)), (bH, .inl (E.2.1, 32, .inl gH)), (bT, .inl (E.2.1, 16, .inl gT)), (bV, .inl (E.2.1, 16, .inl gV)), (bC, .inl (E.2.1, 16, .inl gC)), (bL, .inl (E.2.1, 16, .inl gL)), (bZ, .inl (E.2.2.2.2, 16, .inl gZ))] [(r, .inr (3, [.int 0, .int rdr, .int mdr, .int msr, .ref bK, .ref bB, .ref bP, .ref bS, .ref bU, .ref bW, .ref bH, .ref bT, .ref bV, .ref bC, .ref bL, .int lcr, .ref bZ, .int wrr])), (bK, .inl (E.2.1, 16, .inl gK)), (bB, .inl (E.2.1, 16, .inl gB)), (bP, .inl (E.2.1, 16, .inl gP)), (bS, .inl (E.2.1, 256, .inl gS)), (bU, .inl (E.2.1, 256, .inl gU)), (bW, .inl (E.2.1, 176, .inl gW)), (bH, .inl (E.2.1, 32, .inl gH)), (bT, .inl (E.2.1, 16, .inl gT)), (bV, .inl (E.2.1, 16, .inl gV)), (bC, .inl (E.2.1, 16, .inl gC)), (bL, .inl (E.2.1, 16, .inl gL)), (bZ, .inl (E.2.2.2.2, 16, .inl gZ))] := by
  refine Ci.of (by decide) (Nat.le_of_ble_eq_true rfl) ?_
  intro p e s m below meth c A ls B hP hD hS hl
  have hl : lv_has ls 2 [(0, .ref r)] := hl
  have B : Bd p s m _ meth c cX3_decryptBlock 2 (some .boolean) RX3 E A := B
  have hx := B.1
  have hb := B.2.1
  have hP : va_P E.1 classes [(r, .inr (3, [.int thr, .int rdr, .int mdr, .int msr, .ref bK, .ref bB, .ref bP, .ref bS, .ref bU, .ref bW, .ref bH, .ref bT, .ref bV, .ref bC, .ref bL, .int lcr, .ref bZ, .int wrr])), (bK, .inl (E.2.1, 16, .inl gK)), (bB, .inl (E.2.1, 16, .inl gB)), (bP, .inl (E.2.1, 16, .inl gP)), (bS, .inl (E.2.1, 256, .inl gS)), (bU, .inl (E.2.1, 256, .inl gU)), (bW, .inl (E.2.1, 176, .inl gW)), (bH, .inl (E.2.1, 32, .inl gH)), (bT, .inl (E.2.1, 16, .inl gT)), (bV, .inl (E.2.1, 16, .inl gV)), (bC, .inl (E.2.1, 16, .inl gC)), (bL, .inl (E.2.1, 16, .inl gL)), (bZ, .inl (E.2.2.2.2, 16, .inl gZ))] _ := hP
  have hD : va_D A [(r, .inr (3, [.int thr, .int rdr, .int mdr, .int msr, .ref bK, .ref bB, .ref bP, .ref bS, .ref bU, .ref bW, .ref bH, .ref bT, .ref bV, .ref bC, .ref bL, .int lcr, .ref bZ, .int wrr])), (bK, .inl (E.2.1, 16, .inl gK)), (bB, .inl (E.2.1, 16, .inl gB)), (bP, .inl (E.2.1, 16, .inl gP)), (bS, .inl (E.2.1, 256, .inl gS)), (bU, .inl (E.2.1, 256, .inl gU)), (bW, .inl (E.2.1, 176, .inl gW)), (bH, .inl (E.2.1, 32, .inl gH)), (bT, .inl (E.2.1, 16, .inl gT)), (bV, .inl (E.2.1, 16, .inl gV)), (bC, .inl (E.2.1, 16, .inl gC)), (bL, .inl (E.2.1, 16, .inl gL)), (bZ, .inl (E.2.2.2.2, 16, .inl gZ))] := hD
  refine lv_aload_n hx hb dX3_decryptBlock_0 rfl (lv_at hl 0 rfl) ?_
  refine lv_iconst (v := 0) hx hb dX3_decryptBlock_1 (by decide) ?_
  refine x_put B hP hD hS 0 rfl rfl i_X3 tyX3 tyX3_ok nmX3 0 (by decide) g_289 rfl rfl rfl (Nat.le_of_ble_eq_true rfl) dX3_decryptBlock_2 (fun H locs hP hD hS => ?_)
  have hP : va_P E.1 classes [(r, .inr (3, [.int 0, .int rdr, .int mdr, .int msr, .ref bK, .ref bB, .ref bP, .ref bS, .ref bU, .ref bW, .ref bH, .ref bT, .ref bV, .ref bC, .ref bL, .int lcr, .ref bZ, .int wrr])), (bK, .inl (E.2.1, 16, .inl gK)), (bB, .inl (E.2.1, 16, .inl gB)), (bP, .inl (E.2.1, 16, .inl gP)), (bS, .inl (E.2.1, 256, .inl gS)), (bU, .inl (E.2.1, 256, .inl gU)), (bW, .inl (E.2.1, 176, .inl gW)), (bH, .inl (E.2.1, 32, .inl gH)), (bT, .inl (E.2.1, 16, .inl gT)), (bV, .inl (E.2.1, 16, .inl gV)), (bC, .inl (E.2.1, 16, .inl gC)), (bL, .inl (E.2.1, 16, .inl gL)), (bZ, .inl (E.2.2.2.2, 16, .inl gZ))] _ := hP
  have hD : va_D A [(r, .inr (3, [.int 0, .int rdr, .int mdr, .int msr, .ref bK, .ref bB, .ref bP, .ref bS, .ref bU, .ref bW, .ref bH, .ref bT, .ref bV, .ref bC, .ref bL, .int lcr, .ref bZ, .int wrr])), (bK, .inl (E.2.1, 16, .inl gK)), (bB, .inl (E.2.1, 16, .inl gB)), (bP, .inl (E.2.1, 16, .inl gP)), (bS, .inl (E.2.1, 256, .inl gS)), (bU, .inl (E.2.1, 256, .inl gU)), (bW, .inl (E.2.1, 176, .inl gW)), (bH, .inl (E.2.1, 32, .inl gH)), (bT, .inl (E.2.1, 16, .inl gT)), (bV, .inl (E.2.1, 16, .inl gV)), (bC, .inl (E.2.1, 16, .inl gC)), (bL, .inl (E.2.1, 16, .inl gL)), (bZ, .inl (E.2.2.2.2, 16, .inl gZ))] := hD
  refine lv_aload_n hx hb dX3_decryptBlock_5 rfl (lv_at hl 0 rfl) ?_
  refine x_get B hP 0 rfl rfl i_X3 2 (by decide) g_291 rfl dX3_decryptBlock_6 ?_
  refine lv_if_eq (tgt := 47) hx hb dX3_decryptBlock_9 (by decide) (fun c_9 => ?_) (fun c_9 => ?_)
  · refine lv_aload_n hx hb dX3_decryptBlock_47 rfl (lv_at hl 0 rfl) ?_
    refine x_get B hP 0 rfl rfl i_X3 2 (by decide) g_291 rfl dX3_decryptBlock_48 ?_
    have hP : va_P E.1 classes [(r, .inr (3, [.int 0, .int rdr, .int mdr, .int msr, .ref bK, .ref bB, .ref bP, .ref bS, .ref bU, .ref bW, .ref bH, .ref bT, .ref bV, .ref bC, .ref bL, .int lcr, .ref bZ, .int wrr])), (bK, .inl (E.2.1, 16, .inl gK)), (bB, .inl (E.2.1, 16, .inl gB)), (bP, .inl (E.2.1, 16, .inl gP)), (bS, .inl (E.2.1, 256, .inl gS)), (bU, .inl (E.2.1, 256, .inl gU)), (bW, .inl (E.2.1, 176, .inl gW)), (bH, .inl (E.2.1, 32, .inl gH)), (bT, .inl (E.2.1, 16, .inl gT)), (bV, .inl (E.2.1, 16, .inl gV)), (bC, .inl (E.2.1, 16, .inl gC)), (bL, .inl (E.2.1, 16, .inl gL)), (bZ, .inl (E.2.2.2.2, 16, .inl gZ))] _ := hP
    have hD : va_D A [(r, .inr (3, [.int 0, .int rdr, .int mdr, .int msr, .ref bK, .ref bB, .ref bP, .ref bS, .ref bU, .ref bW, .ref bH, .ref bT, .ref bV, .ref bC, .ref bL, .int lcr, .ref bZ, .int wrr])), (bK, .inl (E.2.1, 16, .inl gK)), (bB, .inl (E.2.1, 16, .inl gB)), (bP, .inl (E.2.1, 16, .inl gP)), (bS, .inl (E.2.1, 256, .inl gS)), (bU, .inl (E.2.1, 256, .inl gU)), (bW, .inl (E.2.1, 176, .inl gW)), (bH, .inl (E.2.1, 32, .inl gH)), (bT, .inl (E.2.1, 16, .inl gT)), (bV, .inl (E.2.1, 16, .inl gV)), (bC, .inl (E.2.1, 16, .inl gC)), (bL, .inl (E.2.1, 16, .inl gL)), (bZ, .inl (E.2.2.2.2, 16, .inl gZ))] := hD
    exact x_iret B hP hD hS (by rw [h0]; rfl) h0 dX3_decryptBlock_51
  · exact absurd h0 c_9
set_option maxHeartbeats 4000000 in
set_option maxRecDepth 100000 in
/-- the reference: chain, no -/
theorem c_X3_chain_no (l : Launch) (E : EE) (r bK bB bP bS bU bW bH bT bV bC bL bZ : Nat) (gK gB gP gS gU gW gH gT gV gC gL gZ : Nat → Int32) (thr rdr mdr msr lcr wrr : Int32) (p0 : Int32) (h0 : mdr = 0) : Ci l yX3_chain (.code yX3_chain cX3_chain 4 (some .boolean)) ({ frames := 3, cells := 0, slots := 0, locals := 72 }) E [.ref r, .int p0] 0 [(r, .inr (3, [.int thr, .int rdr, .int mdr, .int msr, .ref bK, .ref bB, .ref bP, .ref bS, .ref bU, .ref bW, .ref bH, .ref bT, .ref bV, .ref bC, .ref bL, .int lcr, .ref bZ, .int wrr])), (bK, .inl (E.2.1, 16, .inl gK)), (bB, .inl (E.2.1, 16, .inl gB)), (bP, .inl (E.2.1, 16, .inl gP)), (bS, .inl (E.2.1, 256, .inl gS)), (bU, .inl (E.2.1, 256, .inl gU)), (bW, .inl (E.2.1, 176, .inl gW)), (bH, .inl (E.2.1, 32, .inl gH)), (bT, .inl (E.2.1, 16, .inl gT)), (bV, .inl (E.2.1, 16, .inl gV)), (bC, .inl (E.2.1, 16, .inl gC)), (bL, .inl (E.2.1, 16, .inl gL)), (bZ, .inl (E.2.2.2.2, 16, .inl gZ))] [(r, .inr (3, [.int 0, .int rdr, .int mdr, .int msr, .ref bK, .ref bB, .ref bP, .ref bS, .ref bU, .ref bW, .ref bH, .ref bT, .ref bV, .ref bC, .ref bL, .int lcr, .ref bZ, .int wrr])), (bK, .inl (E.2.1, 16, .inl gK)), (bB, .inl (E.2.1, 16, .inl gB)), (bP, .inl (E.2.1, 16, .inl gP)), (bS, .inl (E.2.1, 256, .inl gS)), (bU, .inl (E.2.1, 256, .inl gU)), (bW, .inl (E.2.1, 176, .inl gW)), (bH, .inl (E.2.1, 32, .inl gH)), (bT, .inl (E.2.1, 16, .inl gT)), (bV, .inl (E.2.1, 16, .inl gV)), (bC, .inl (E.2.1, 16, .inl gC)), (bL, .inl (E.2.1, 16, .inl gL)), (bZ, .inl (E.2.2.2.2, 16, .inl gZ))] := by
  refine Ci.of (by decide) (Nat.le_of_ble_eq_true rfl) ?_
  intro p e s m below meth c A ls B hP hD hS hl
  have hl : lv_has ls 4 [(0, .ref r), (1, .int p0)] := hl
  have B : Bd p s m _ meth c cX3_chain 4 (some .boolean) RX3 E A := B
  have hx := B.1
  have hb := B.2.1
  have hP : va_P E.1 classes [(r, .inr (3, [.int thr, .int rdr, .int mdr, .int msr, .ref bK, .ref bB, .ref bP, .ref bS, .ref bU, .ref bW, .ref bH, .ref bT, .ref bV, .ref bC, .ref bL, .int lcr, .ref bZ, .int wrr])), (bK, .inl (E.2.1, 16, .inl gK)), (bB, .inl (E.2.1, 16, .inl gB)), (bP, .inl (E.2.1, 16, .inl gP)), (bS, .inl (E.2.1, 256, .inl gS)), (bU, .inl (E.2.1, 256, .inl gU)), (bW, .inl (E.2.1, 176, .inl gW)), (bH, .inl (E.2.1, 32, .inl gH)), (bT, .inl (E.2.1, 16, .inl gT)), (bV, .inl (E.2.1, 16, .inl gV)), (bC, .inl (E.2.1, 16, .inl gC)), (bL, .inl (E.2.1, 16, .inl gL)), (bZ, .inl (E.2.2.2.2, 16, .inl gZ))] _ := hP
  have hD : va_D A [(r, .inr (3, [.int thr, .int rdr, .int mdr, .int msr, .ref bK, .ref bB, .ref bP, .ref bS, .ref bU, .ref bW, .ref bH, .ref bT, .ref bV, .ref bC, .ref bL, .int lcr, .ref bZ, .int wrr])), (bK, .inl (E.2.1, 16, .inl gK)), (bB, .inl (E.2.1, 16, .inl gB)), (bP, .inl (E.2.1, 16, .inl gP)), (bS, .inl (E.2.1, 256, .inl gS)), (bU, .inl (E.2.1, 256, .inl gU)), (bW, .inl (E.2.1, 176, .inl gW)), (bH, .inl (E.2.1, 32, .inl gH)), (bT, .inl (E.2.1, 16, .inl gT)), (bV, .inl (E.2.1, 16, .inl gV)), (bC, .inl (E.2.1, 16, .inl gC)), (bL, .inl (E.2.1, 16, .inl gL)), (bZ, .inl (E.2.2.2.2, 16, .inl gZ))] := hD
  refine lv_aload_n hx hb dX3_chain_0 rfl (lv_at hl 0 rfl) ?_
  refine lv_iconst (v := 0) hx hb dX3_chain_1 (by decide) ?_
  refine x_put B hP hD hS 0 rfl rfl i_X3 tyX3 tyX3_ok nmX3 0 (by decide) g_289 rfl rfl rfl (Nat.le_of_ble_eq_true rfl) dX3_chain_2 (fun H locs hP hD hS => ?_)
  have hP : va_P E.1 classes [(r, .inr (3, [.int 0, .int rdr, .int mdr, .int msr, .ref bK, .ref bB, .ref bP, .ref bS, .ref bU, .ref bW, .ref bH, .ref bT, .ref bV, .ref bC, .ref bL, .int lcr, .ref bZ, .int wrr])), (bK, .inl (E.2.1, 16, .inl gK)), (bB, .inl (E.2.1, 16, .inl gB)), (bP, .inl (E.2.1, 16, .inl gP)), (bS, .inl (E.2.1, 256, .inl gS)), (bU, .inl (E.2.1, 256, .inl gU)), (bW, .inl (E.2.1, 176, .inl gW)), (bH, .inl (E.2.1, 32, .inl gH)), (bT, .inl (E.2.1, 16, .inl gT)), (bV, .inl (E.2.1, 16, .inl gV)), (bC, .inl (E.2.1, 16, .inl gC)), (bL, .inl (E.2.1, 16, .inl gL)), (bZ, .inl (E.2.2.2.2, 16, .inl gZ))] _ := hP
  have hD : va_D A [(r, .inr (3, [.int 0, .int rdr, .int mdr, .int msr, .ref bK, .ref bB, .ref bP, .ref bS, .ref bU, .ref bW, .ref bH, .ref bT, .ref bV, .ref bC, .ref bL, .int lcr, .ref bZ, .int wrr])), (bK, .inl (E.2.1, 16, .inl gK)), (bB, .inl (E.2.1, 16, .inl gB)), (bP, .inl (E.2.1, 16, .inl gP)), (bS, .inl (E.2.1, 256, .inl gS)), (bU, .inl (E.2.1, 256, .inl gU)), (bW, .inl (E.2.1, 176, .inl gW)), (bH, .inl (E.2.1, 32, .inl gH)), (bT, .inl (E.2.1, 16, .inl gT)), (bV, .inl (E.2.1, 16, .inl gV)), (bC, .inl (E.2.1, 16, .inl gC)), (bL, .inl (E.2.1, 16, .inl gL)), (bZ, .inl (E.2.2.2.2, 16, .inl gZ))] := hD
  refine lv_aload_n hx hb dX3_chain_5 rfl (lv_at hl 0 rfl) ?_
  refine x_get B hP 0 rfl rfl i_X3 2 (by decide) g_291 rfl dX3_chain_6 ?_
  refine lv_if_ne (tgt := 14) hx hb dX3_chain_9 (by decide) (fun c_9 => ?_) (fun c_9 => ?_)
  · exact absurd h0 c_9
  · refine lv_iconst (v := 0) hx hb dX3_chain_12 (by decide) ?_
    have hP : va_P E.1 classes [(r, .inr (3, [.int 0, .int rdr, .int mdr, .int msr, .ref bK, .ref bB, .ref bP, .ref bS, .ref bU, .ref bW, .ref bH, .ref bT, .ref bV, .ref bC, .ref bL, .int lcr, .ref bZ, .int wrr])), (bK, .inl (E.2.1, 16, .inl gK)), (bB, .inl (E.2.1, 16, .inl gB)), (bP, .inl (E.2.1, 16, .inl gP)), (bS, .inl (E.2.1, 256, .inl gS)), (bU, .inl (E.2.1, 256, .inl gU)), (bW, .inl (E.2.1, 176, .inl gW)), (bH, .inl (E.2.1, 32, .inl gH)), (bT, .inl (E.2.1, 16, .inl gT)), (bV, .inl (E.2.1, 16, .inl gV)), (bC, .inl (E.2.1, 16, .inl gC)), (bL, .inl (E.2.1, 16, .inl gL)), (bZ, .inl (E.2.2.2.2, 16, .inl gZ))] _ := hP
    have hD : va_D A [(r, .inr (3, [.int 0, .int rdr, .int mdr, .int msr, .ref bK, .ref bB, .ref bP, .ref bS, .ref bU, .ref bW, .ref bH, .ref bT, .ref bV, .ref bC, .ref bL, .int lcr, .ref bZ, .int wrr])), (bK, .inl (E.2.1, 16, .inl gK)), (bB, .inl (E.2.1, 16, .inl gB)), (bP, .inl (E.2.1, 16, .inl gP)), (bS, .inl (E.2.1, 256, .inl gS)), (bU, .inl (E.2.1, 256, .inl gU)), (bW, .inl (E.2.1, 176, .inl gW)), (bH, .inl (E.2.1, 32, .inl gH)), (bT, .inl (E.2.1, 16, .inl gT)), (bV, .inl (E.2.1, 16, .inl gV)), (bC, .inl (E.2.1, 16, .inl gC)), (bL, .inl (E.2.1, 16, .inl gL)), (bZ, .inl (E.2.2.2.2, 16, .inl gZ))] := hD
    exact x_iret B hP hD hS rfl rfl dX3_chain_13
set_option maxHeartbeats 4000000 in
set_option maxRecDepth 100000 in
/-- the reference: unchain, no -/
theorem c_X3_unchain_no (l : Launch) (E : EE) (r bK bB bP bS bU bW bH bT bV bC bL bZ : Nat) (gK gB gP gS gU gW gH gT gV gC gL gZ : Nat → Int32) (thr rdr mdr msr lcr wrr : Int32) (h0 : rdr = 0) : Ci l yX3_unchain (.code yX3_unchain cX3_unchain 2 (some .boolean)) ({ frames := 0, cells := 0, slots := 0, locals := 0 }) E [.ref r] 0 [(r, .inr (3, [.int thr, .int rdr, .int mdr, .int msr, .ref bK, .ref bB, .ref bP, .ref bS, .ref bU, .ref bW, .ref bH, .ref bT, .ref bV, .ref bC, .ref bL, .int lcr, .ref bZ, .int wrr])), (bK, .inl (E.2.1, 16, .inl gK)), (bB, .inl (E.2.1, 16, .inl gB)), (bP, .inl (E.2.1, 16, .inl gP)), (bS, .inl (E.2.1, 256, .inl gS)), (bU, .inl (E.2.1, 256, .inl gU)), (bW, .inl (E.2.1, 176, .inl gW)), (bH, .inl (E.2.1, 32, .inl gH)), (bT, .inl (E.2.1, 16, .inl gT)), (bV, .inl (E.2.1, 16, .inl gV)), (bC, .inl (E.2.1, 16, .inl gC)), (bL, .inl (E.2.1, 16, .inl gL)), (bZ, .inl (E.2.2.2.2, 16, .inl gZ))] [(r, .inr (3, [.int 0, .int rdr, .int mdr, .int msr, .ref bK, .ref bB, .ref bP, .ref bS, .ref bU, .ref bW, .ref bH, .ref bT, .ref bV, .ref bC, .ref bL, .int lcr, .ref bZ, .int wrr])), (bK, .inl (E.2.1, 16, .inl gK)), (bB, .inl (E.2.1, 16, .inl gB)), (bP, .inl (E.2.1, 16, .inl gP)), (bS, .inl (E.2.1, 256, .inl gS)), (bU, .inl (E.2.1, 256, .inl gU)), (bW, .inl (E.2.1, 176, .inl gW)), (bH, .inl (E.2.1, 32, .inl gH)), (bT, .inl (E.2.1, 16, .inl gT)), (bV, .inl (E.2.1, 16, .inl gV)), (bC, .inl (E.2.1, 16, .inl gC)), (bL, .inl (E.2.1, 16, .inl gL)), (bZ, .inl (E.2.2.2.2, 16, .inl gZ))] := by
  refine Ci.of (by decide) (Nat.le_of_ble_eq_true rfl) ?_
  intro p e s m below meth c A ls B hP hD hS hl
  have hl : lv_has ls 2 [(0, .ref r)] := hl
  have B : Bd p s m _ meth c cX3_unchain 2 (some .boolean) RX3 E A := B
  have hx := B.1
  have hb := B.2.1
  have hP : va_P E.1 classes [(r, .inr (3, [.int thr, .int rdr, .int mdr, .int msr, .ref bK, .ref bB, .ref bP, .ref bS, .ref bU, .ref bW, .ref bH, .ref bT, .ref bV, .ref bC, .ref bL, .int lcr, .ref bZ, .int wrr])), (bK, .inl (E.2.1, 16, .inl gK)), (bB, .inl (E.2.1, 16, .inl gB)), (bP, .inl (E.2.1, 16, .inl gP)), (bS, .inl (E.2.1, 256, .inl gS)), (bU, .inl (E.2.1, 256, .inl gU)), (bW, .inl (E.2.1, 176, .inl gW)), (bH, .inl (E.2.1, 32, .inl gH)), (bT, .inl (E.2.1, 16, .inl gT)), (bV, .inl (E.2.1, 16, .inl gV)), (bC, .inl (E.2.1, 16, .inl gC)), (bL, .inl (E.2.1, 16, .inl gL)), (bZ, .inl (E.2.2.2.2, 16, .inl gZ))] _ := hP
  have hD : va_D A [(r, .inr (3, [.int thr, .int rdr, .int mdr, .int msr, .ref bK, .ref bB, .ref bP, .ref bS, .ref bU, .ref bW, .ref bH, .ref bT, .ref bV, .ref bC, .ref bL, .int lcr, .ref bZ, .int wrr])), (bK, .inl (E.2.1, 16, .inl gK)), (bB, .inl (E.2.1, 16, .inl gB)), (bP, .inl (E.2.1, 16, .inl gP)), (bS, .inl (E.2.1, 256, .inl gS)), (bU, .inl (E.2.1, 256, .inl gU)), (bW, .inl (E.2.1, 176, .inl gW)), (bH, .inl (E.2.1, 32, .inl gH)), (bT, .inl (E.2.1, 16, .inl gT)), (bV, .inl (E.2.1, 16, .inl gV)), (bC, .inl (E.2.1, 16, .inl gC)), (bL, .inl (E.2.1, 16, .inl gL)), (bZ, .inl (E.2.2.2.2, 16, .inl gZ))] := hD
  refine lv_aload_n hx hb dX3_unchain_0 rfl (lv_at hl 0 rfl) ?_
  refine lv_iconst (v := 0) hx hb dX3_unchain_1 (by decide) ?_
  refine x_put B hP hD hS 0 rfl rfl i_X3 tyX3 tyX3_ok nmX3 0 (by decide) g_289 rfl rfl rfl (Nat.le_of_ble_eq_true rfl) dX3_unchain_2 (fun H locs hP hD hS => ?_)
  have hP : va_P E.1 classes [(r, .inr (3, [.int 0, .int rdr, .int mdr, .int msr, .ref bK, .ref bB, .ref bP, .ref bS, .ref bU, .ref bW, .ref bH, .ref bT, .ref bV, .ref bC, .ref bL, .int lcr, .ref bZ, .int wrr])), (bK, .inl (E.2.1, 16, .inl gK)), (bB, .inl (E.2.1, 16, .inl gB)), (bP, .inl (E.2.1, 16, .inl gP)), (bS, .inl (E.2.1, 256, .inl gS)), (bU, .inl (E.2.1, 256, .inl gU)), (bW, .inl (E.2.1, 176, .inl gW)), (bH, .inl (E.2.1, 32, .inl gH)), (bT, .inl (E.2.1, 16, .inl gT)), (bV, .inl (E.2.1, 16, .inl gV)), (bC, .inl (E.2.1, 16, .inl gC)), (bL, .inl (E.2.1, 16, .inl gL)), (bZ, .inl (E.2.2.2.2, 16, .inl gZ))] _ := hP
  have hD : va_D A [(r, .inr (3, [.int 0, .int rdr, .int mdr, .int msr, .ref bK, .ref bB, .ref bP, .ref bS, .ref bU, .ref bW, .ref bH, .ref bT, .ref bV, .ref bC, .ref bL, .int lcr, .ref bZ, .int wrr])), (bK, .inl (E.2.1, 16, .inl gK)), (bB, .inl (E.2.1, 16, .inl gB)), (bP, .inl (E.2.1, 16, .inl gP)), (bS, .inl (E.2.1, 256, .inl gS)), (bU, .inl (E.2.1, 256, .inl gU)), (bW, .inl (E.2.1, 176, .inl gW)), (bH, .inl (E.2.1, 32, .inl gH)), (bT, .inl (E.2.1, 16, .inl gT)), (bV, .inl (E.2.1, 16, .inl gV)), (bC, .inl (E.2.1, 16, .inl gC)), (bL, .inl (E.2.1, 16, .inl gL)), (bZ, .inl (E.2.2.2.2, 16, .inl gZ))] := hD
  refine lv_iconst (v := 0) hx hb dX3_unchain_5 (by decide) ?_
  refine lv_istore_n (lv' := [(1, .int 0), (0, .ref r)]) hx hb dX3_unchain_6 rfl hl (by decide) rfl (fun ls hl => ?_)
  refine lv_iload_n hx hb dX3_unchain_7 rfl (lv_at hl 0 rfl) ?_
  refine lv_bipush (v := 16) hx hb dX3_unchain_8 (by decide) ?_
  refine lv_icmp_ge (tgt := 33) hx hb dX3_unchain_10 (by decide) (fun c_10 => ?_) (fun c_10 => ?_)
  · exact absurd c_10 (by decide)
  · refine lv_aload_n hx hb dX3_unchain_13 rfl (lv_at hl 1 rfl) ?_
    refine x_get B hP 0 rfl rfl i_X3 1 (by decide) g_290 rfl dX3_unchain_14 ?_
    refine lv_if_eq (tgt := 33) hx hb dX3_unchain_17 (by decide) (fun c_17 => ?_) (fun c_17 => ?_)
    · refine lv_aload_n hx hb dX3_unchain_33 rfl (lv_at hl 1 rfl) ?_
      refine x_get B hP 0 rfl rfl i_X3 1 (by decide) g_290 rfl dX3_unchain_34 ?_
      have hP : va_P E.1 classes [(r, .inr (3, [.int 0, .int rdr, .int mdr, .int msr, .ref bK, .ref bB, .ref bP, .ref bS, .ref bU, .ref bW, .ref bH, .ref bT, .ref bV, .ref bC, .ref bL, .int lcr, .ref bZ, .int wrr])), (bK, .inl (E.2.1, 16, .inl gK)), (bB, .inl (E.2.1, 16, .inl gB)), (bP, .inl (E.2.1, 16, .inl gP)), (bS, .inl (E.2.1, 256, .inl gS)), (bU, .inl (E.2.1, 256, .inl gU)), (bW, .inl (E.2.1, 176, .inl gW)), (bH, .inl (E.2.1, 32, .inl gH)), (bT, .inl (E.2.1, 16, .inl gT)), (bV, .inl (E.2.1, 16, .inl gV)), (bC, .inl (E.2.1, 16, .inl gC)), (bL, .inl (E.2.1, 16, .inl gL)), (bZ, .inl (E.2.2.2.2, 16, .inl gZ))] _ := hP
      have hD : va_D A [(r, .inr (3, [.int 0, .int rdr, .int mdr, .int msr, .ref bK, .ref bB, .ref bP, .ref bS, .ref bU, .ref bW, .ref bH, .ref bT, .ref bV, .ref bC, .ref bL, .int lcr, .ref bZ, .int wrr])), (bK, .inl (E.2.1, 16, .inl gK)), (bB, .inl (E.2.1, 16, .inl gB)), (bP, .inl (E.2.1, 16, .inl gP)), (bS, .inl (E.2.1, 256, .inl gS)), (bU, .inl (E.2.1, 256, .inl gU)), (bW, .inl (E.2.1, 176, .inl gW)), (bH, .inl (E.2.1, 32, .inl gH)), (bT, .inl (E.2.1, 16, .inl gT)), (bV, .inl (E.2.1, 16, .inl gV)), (bC, .inl (E.2.1, 16, .inl gC)), (bL, .inl (E.2.1, 16, .inl gL)), (bZ, .inl (E.2.2.2.2, 16, .inl gZ))] := hD
      exact x_iret B hP hD hS (by rw [h0]; rfl) h0 dX3_unchain_37
    · exact absurd h0 c_17
set_option maxHeartbeats 4000000 in
set_option maxRecDepth 100000 in
/-- the reference: blockByte, no -/
theorem c_X3_blockByte_no (l : Launch) (E : EE) (r bK bB bP bS bU bW bH bT bV bC bL bZ : Nat) (gK gB gP gS gU gW gH gT gV gC gL gZ : Nat → Int32) (thr rdr mdr msr lcr wrr : Int32) (p0 : Int32) (h0 : rdr = 0 ∨ inM p0 15 = 0) : Ci l yX3_blockByte (.code yX3_blockByte cX3_blockByte 2 (some .int)) ({ frames := 1, cells := 0, slots := 0, locals := 21 }) E [.ref r, .int p0] (-1) [(r, .inr (3, [.int thr, .int rdr, .int mdr, .int msr, .ref bK, .ref bB, .ref bP, .ref bS, .ref bU, .ref bW, .ref bH, .ref bT, .ref bV, .ref bC, .ref bL, .int lcr, .ref bZ, .int wrr])), (bK, .inl (E.2.1, 16, .inl gK)), (bB, .inl (E.2.1, 16, .inl gB)), (bP, .inl (E.2.1, 16, .inl gP)), (bS, .inl (E.2.1, 256, .inl gS)), (bU, .inl (E.2.1, 256, .inl gU)), (bW, .inl (E.2.1, 176, .inl gW)), (bH, .inl (E.2.1, 32, .inl gH)), (bT, .inl (E.2.1, 16, .inl gT)), (bV, .inl (E.2.1, 16, .inl gV)), (bC, .inl (E.2.1, 16, .inl gC)), (bL, .inl (E.2.1, 16, .inl gL)), (bZ, .inl (E.2.2.2.2, 16, .inl gZ))] [(r, .inr (3, [.int 0, .int rdr, .int mdr, .int msr, .ref bK, .ref bB, .ref bP, .ref bS, .ref bU, .ref bW, .ref bH, .ref bT, .ref bV, .ref bC, .ref bL, .int lcr, .ref bZ, .int wrr])), (bK, .inl (E.2.1, 16, .inl gK)), (bB, .inl (E.2.1, 16, .inl gB)), (bP, .inl (E.2.1, 16, .inl gP)), (bS, .inl (E.2.1, 256, .inl gS)), (bU, .inl (E.2.1, 256, .inl gU)), (bW, .inl (E.2.1, 176, .inl gW)), (bH, .inl (E.2.1, 32, .inl gH)), (bT, .inl (E.2.1, 16, .inl gT)), (bV, .inl (E.2.1, 16, .inl gV)), (bC, .inl (E.2.1, 16, .inl gC)), (bL, .inl (E.2.1, 16, .inl gL)), (bZ, .inl (E.2.2.2.2, 16, .inl gZ))] := by
  refine Ci.of (by decide) (Nat.le_of_ble_eq_true rfl) ?_
  intro p e s m below meth c A ls B hP hD hS hl
  have hl : lv_has ls 2 [(0, .ref r), (1, .int p0)] := hl
  have B : Bd p s m _ meth c cX3_blockByte 2 (some .int) RX3 E A := B
  have hx := B.1
  have hb := B.2.1
  have hP : va_P E.1 classes [(r, .inr (3, [.int thr, .int rdr, .int mdr, .int msr, .ref bK, .ref bB, .ref bP, .ref bS, .ref bU, .ref bW, .ref bH, .ref bT, .ref bV, .ref bC, .ref bL, .int lcr, .ref bZ, .int wrr])), (bK, .inl (E.2.1, 16, .inl gK)), (bB, .inl (E.2.1, 16, .inl gB)), (bP, .inl (E.2.1, 16, .inl gP)), (bS, .inl (E.2.1, 256, .inl gS)), (bU, .inl (E.2.1, 256, .inl gU)), (bW, .inl (E.2.1, 176, .inl gW)), (bH, .inl (E.2.1, 32, .inl gH)), (bT, .inl (E.2.1, 16, .inl gT)), (bV, .inl (E.2.1, 16, .inl gV)), (bC, .inl (E.2.1, 16, .inl gC)), (bL, .inl (E.2.1, 16, .inl gL)), (bZ, .inl (E.2.2.2.2, 16, .inl gZ))] _ := hP
  have hD : va_D A [(r, .inr (3, [.int thr, .int rdr, .int mdr, .int msr, .ref bK, .ref bB, .ref bP, .ref bS, .ref bU, .ref bW, .ref bH, .ref bT, .ref bV, .ref bC, .ref bL, .int lcr, .ref bZ, .int wrr])), (bK, .inl (E.2.1, 16, .inl gK)), (bB, .inl (E.2.1, 16, .inl gB)), (bP, .inl (E.2.1, 16, .inl gP)), (bS, .inl (E.2.1, 256, .inl gS)), (bU, .inl (E.2.1, 256, .inl gU)), (bW, .inl (E.2.1, 176, .inl gW)), (bH, .inl (E.2.1, 32, .inl gH)), (bT, .inl (E.2.1, 16, .inl gT)), (bV, .inl (E.2.1, 16, .inl gV)), (bC, .inl (E.2.1, 16, .inl gC)), (bL, .inl (E.2.1, 16, .inl gL)), (bZ, .inl (E.2.2.2.2, 16, .inl gZ))] := hD
  refine lv_aload_n hx hb dX3_blockByte_0 rfl (lv_at hl 0 rfl) ?_
  refine lv_iconst (v := 0) hx hb dX3_blockByte_1 (by decide) ?_
  refine x_put B hP hD hS 0 rfl rfl i_X3 tyX3 tyX3_ok nmX3 0 (by decide) g_289 rfl rfl rfl (Nat.le_of_ble_eq_true rfl) dX3_blockByte_2 (fun H locs hP hD hS => ?_)
  have hP : va_P E.1 classes [(r, .inr (3, [.int 0, .int rdr, .int mdr, .int msr, .ref bK, .ref bB, .ref bP, .ref bS, .ref bU, .ref bW, .ref bH, .ref bT, .ref bV, .ref bC, .ref bL, .int lcr, .ref bZ, .int wrr])), (bK, .inl (E.2.1, 16, .inl gK)), (bB, .inl (E.2.1, 16, .inl gB)), (bP, .inl (E.2.1, 16, .inl gP)), (bS, .inl (E.2.1, 256, .inl gS)), (bU, .inl (E.2.1, 256, .inl gU)), (bW, .inl (E.2.1, 176, .inl gW)), (bH, .inl (E.2.1, 32, .inl gH)), (bT, .inl (E.2.1, 16, .inl gT)), (bV, .inl (E.2.1, 16, .inl gV)), (bC, .inl (E.2.1, 16, .inl gC)), (bL, .inl (E.2.1, 16, .inl gL)), (bZ, .inl (E.2.2.2.2, 16, .inl gZ))] _ := hP
  have hD : va_D A [(r, .inr (3, [.int 0, .int rdr, .int mdr, .int msr, .ref bK, .ref bB, .ref bP, .ref bS, .ref bU, .ref bW, .ref bH, .ref bT, .ref bV, .ref bC, .ref bL, .int lcr, .ref bZ, .int wrr])), (bK, .inl (E.2.1, 16, .inl gK)), (bB, .inl (E.2.1, 16, .inl gB)), (bP, .inl (E.2.1, 16, .inl gP)), (bS, .inl (E.2.1, 256, .inl gS)), (bU, .inl (E.2.1, 256, .inl gU)), (bW, .inl (E.2.1, 176, .inl gW)), (bH, .inl (E.2.1, 32, .inl gH)), (bT, .inl (E.2.1, 16, .inl gT)), (bV, .inl (E.2.1, 16, .inl gV)), (bC, .inl (E.2.1, 16, .inl gC)), (bL, .inl (E.2.1, 16, .inl gL)), (bZ, .inl (E.2.2.2.2, 16, .inl gZ))] := hD
  refine lv_aload_n hx hb dX3_blockByte_5 rfl (lv_at hl 0 rfl) ?_
  refine x_get B hP 0 rfl rfl i_X3 1 (by decide) g_290 rfl dX3_blockByte_6 ?_
  refine lv_if_eq (tgt := 30) hx hb dX3_blockByte_9 (by decide) (fun c_9 => ?_) (fun c_9 => ?_)
  · refine lv_iconst (v := (-1)) hx hb dX3_blockByte_30 (by decide) ?_
    have hP : va_P E.1 classes [(r, .inr (3, [.int 0, .int rdr, .int mdr, .int msr, .ref bK, .ref bB, .ref bP, .ref bS, .ref bU, .ref bW, .ref bH, .ref bT, .ref bV, .ref bC, .ref bL, .int lcr, .ref bZ, .int wrr])), (bK, .inl (E.2.1, 16, .inl gK)), (bB, .inl (E.2.1, 16, .inl gB)), (bP, .inl (E.2.1, 16, .inl gP)), (bS, .inl (E.2.1, 256, .inl gS)), (bU, .inl (E.2.1, 256, .inl gU)), (bW, .inl (E.2.1, 176, .inl gW)), (bH, .inl (E.2.1, 32, .inl gH)), (bT, .inl (E.2.1, 16, .inl gT)), (bV, .inl (E.2.1, 16, .inl gV)), (bC, .inl (E.2.1, 16, .inl gC)), (bL, .inl (E.2.1, 16, .inl gL)), (bZ, .inl (E.2.2.2.2, 16, .inl gZ))] _ := hP
    have hD : va_D A [(r, .inr (3, [.int 0, .int rdr, .int mdr, .int msr, .ref bK, .ref bB, .ref bP, .ref bS, .ref bU, .ref bW, .ref bH, .ref bT, .ref bV, .ref bC, .ref bL, .int lcr, .ref bZ, .int wrr])), (bK, .inl (E.2.1, 16, .inl gK)), (bB, .inl (E.2.1, 16, .inl gB)), (bP, .inl (E.2.1, 16, .inl gP)), (bS, .inl (E.2.1, 256, .inl gS)), (bU, .inl (E.2.1, 256, .inl gU)), (bW, .inl (E.2.1, 176, .inl gW)), (bH, .inl (E.2.1, 32, .inl gH)), (bT, .inl (E.2.1, 16, .inl gT)), (bV, .inl (E.2.1, 16, .inl gV)), (bC, .inl (E.2.1, 16, .inl gC)), (bL, .inl (E.2.1, 16, .inl gL)), (bZ, .inl (E.2.2.2.2, 16, .inl gZ))] := hD
    exact x_iret B hP hD hS rfl rfl dX3_blockByte_31
  · refine lv_iload_n hx hb dX3_blockByte_12 rfl (lv_at hl 1 rfl) ?_
    refine lv_bipush (v := 15) hx hb dX3_blockByte_13 (by decide) ?_
    refine x_Si (wr := [(r, .inr (3, [.int 0, .int rdr, .int mdr, .int msr, .ref bK, .ref bB, .ref bP, .ref bS, .ref bU, .ref bW, .ref bH, .ref bT, .ref bV, .ref bC, .ref bL, .int lcr, .ref bZ, .int wrr])), (bK, .inl (E.2.1, 16, .inl gK)), (bB, .inl (E.2.1, 16, .inl gB)), (bP, .inl (E.2.1, 16, .inl gP)), (bS, .inl (E.2.1, 256, .inl gS)), (bU, .inl (E.2.1, 256, .inl gU)), (bW, .inl (E.2.1, 176, .inl gW)), (bH, .inl (E.2.1, 32, .inl gH)), (bT, .inl (E.2.1, 16, .inl gT)), (bV, .inl (E.2.1, 16, .inl gV)), (bC, .inl (E.2.1, 16, .inl gC)), (bL, .inl (E.2.1, 16, .inl gL)), (bZ, .inl (E.2.2.2.2, 16, .inl gZ))]) (isC := []) (isR := [0, 1, 2, 3, 4, 5, 6, 7, 8, 9, 10, 11, 12]) (As := [.int p0, .int 15]) B (c_X3_isIn l E p0 15) k_X3_isIn g_353 s_X3_isIn ⟨by decide, by decide, rfl, rfl⟩ hP hD hS ⟨rfl, rfl, rfl, rfl, by decide⟩ rfl hl.1 rfl (Nat.le_of_ble_eq_true rfl) dX3_blockByte_15 ⟨by decide, by decide⟩ (fun H locs hP hD hS => ?_)
    have hP : va_P E.1 classes [(r, .inr (3, [.int 0, .int rdr, .int mdr, .int msr, .ref bK, .ref bB, .ref bP, .ref bS, .ref bU, .ref bW, .ref bH, .ref bT, .ref bV, .ref bC, .ref bL, .int lcr, .ref bZ, .int wrr])), (bK, .inl (E.2.1, 16, .inl gK)), (bB, .inl (E.2.1, 16, .inl gB)), (bP, .inl (E.2.1, 16, .inl gP)), (bS, .inl (E.2.1, 256, .inl gS)), (bU, .inl (E.2.1, 256, .inl gU)), (bW, .inl (E.2.1, 176, .inl gW)), (bH, .inl (E.2.1, 32, .inl gH)), (bT, .inl (E.2.1, 16, .inl gT)), (bV, .inl (E.2.1, 16, .inl gV)), (bC, .inl (E.2.1, 16, .inl gC)), (bL, .inl (E.2.1, 16, .inl gL)), (bZ, .inl (E.2.2.2.2, 16, .inl gZ))] _ := hP
    have hD : va_D A [(r, .inr (3, [.int 0, .int rdr, .int mdr, .int msr, .ref bK, .ref bB, .ref bP, .ref bS, .ref bU, .ref bW, .ref bH, .ref bT, .ref bV, .ref bC, .ref bL, .int lcr, .ref bZ, .int wrr])), (bK, .inl (E.2.1, 16, .inl gK)), (bB, .inl (E.2.1, 16, .inl gB)), (bP, .inl (E.2.1, 16, .inl gP)), (bS, .inl (E.2.1, 256, .inl gS)), (bU, .inl (E.2.1, 256, .inl gU)), (bW, .inl (E.2.1, 176, .inl gW)), (bH, .inl (E.2.1, 32, .inl gH)), (bT, .inl (E.2.1, 16, .inl gT)), (bV, .inl (E.2.1, 16, .inl gV)), (bC, .inl (E.2.1, 16, .inl gC)), (bL, .inl (E.2.1, 16, .inl gL)), (bZ, .inl (E.2.2.2.2, 16, .inl gZ))] := hD
    refine lv_if_eq (tgt := 30) hx hb dX3_blockByte_18 (by decide) (fun c_18 => ?_) (fun c_18 => ?_)
    · refine lv_iconst (v := (-1)) hx hb dX3_blockByte_30 (by decide) ?_
      have hP : va_P E.1 classes [(r, .inr (3, [.int 0, .int rdr, .int mdr, .int msr, .ref bK, .ref bB, .ref bP, .ref bS, .ref bU, .ref bW, .ref bH, .ref bT, .ref bV, .ref bC, .ref bL, .int lcr, .ref bZ, .int wrr])), (bK, .inl (E.2.1, 16, .inl gK)), (bB, .inl (E.2.1, 16, .inl gB)), (bP, .inl (E.2.1, 16, .inl gP)), (bS, .inl (E.2.1, 256, .inl gS)), (bU, .inl (E.2.1, 256, .inl gU)), (bW, .inl (E.2.1, 176, .inl gW)), (bH, .inl (E.2.1, 32, .inl gH)), (bT, .inl (E.2.1, 16, .inl gT)), (bV, .inl (E.2.1, 16, .inl gV)), (bC, .inl (E.2.1, 16, .inl gC)), (bL, .inl (E.2.1, 16, .inl gL)), (bZ, .inl (E.2.2.2.2, 16, .inl gZ))] _ := hP
      have hD : va_D A [(r, .inr (3, [.int 0, .int rdr, .int mdr, .int msr, .ref bK, .ref bB, .ref bP, .ref bS, .ref bU, .ref bW, .ref bH, .ref bT, .ref bV, .ref bC, .ref bL, .int lcr, .ref bZ, .int wrr])), (bK, .inl (E.2.1, 16, .inl gK)), (bB, .inl (E.2.1, 16, .inl gB)), (bP, .inl (E.2.1, 16, .inl gP)), (bS, .inl (E.2.1, 256, .inl gS)), (bU, .inl (E.2.1, 256, .inl gU)), (bW, .inl (E.2.1, 176, .inl gW)), (bH, .inl (E.2.1, 32, .inl gH)), (bT, .inl (E.2.1, 16, .inl gT)), (bV, .inl (E.2.1, 16, .inl gV)), (bC, .inl (E.2.1, 16, .inl gC)), (bL, .inl (E.2.1, 16, .inl gL)), (bZ, .inl (E.2.2.2.2, 16, .inl gZ))] := hD
      exact x_iret B hP hD hS rfl rfl dX3_blockByte_31
    · exact absurd h0 (fun h => by rcases h with h | h <;> contradiction)
set_option maxHeartbeats 4000000 in
set_option maxRecDepth 100000 in
/-- the reference: half, no -/
theorem c_X3_half_no (l : Launch) (E : EE) (r bK bB bP bS bU bW bH bT bV bC bL bZ : Nat) (gK gB gP gS gU gW gH gT gV gC gL gZ : Nat → Int32) (thr rdr mdr msr lcr wrr : Int32) (p0 : Int32) (p1 : Int32) (h0 : mdr = 0 ∨ inM p0 1 = 0 ∨ inM p1 15 = 0) : Ci l yX3_half (.code yX3_half cX3_half 3 (some .int)) ({ frames := 1, cells := 0, slots := 0, locals := 21 }) E [.ref r, .int p0, .int p1] (-1) [(r, .inr (3, [.int thr, .int rdr, .int mdr, .int msr, .ref bK, .ref bB, .ref bP, .ref bS, .ref bU, .ref bW, .ref bH, .ref bT, .ref bV, .ref bC, .ref bL, .int lcr, .ref bZ, .int wrr])), (bK, .inl (E.2.1, 16, .inl gK)), (bB, .inl (E.2.1, 16, .inl gB)), (bP, .inl (E.2.1, 16, .inl gP)), (bS, .inl (E.2.1, 256, .inl gS)), (bU, .inl (E.2.1, 256, .inl gU)), (bW, .inl (E.2.1, 176, .inl gW)), (bH, .inl (E.2.1, 32, .inl gH)), (bT, .inl (E.2.1, 16, .inl gT)), (bV, .inl (E.2.1, 16, .inl gV)), (bC, .inl (E.2.1, 16, .inl gC)), (bL, .inl (E.2.1, 16, .inl gL)), (bZ, .inl (E.2.2.2.2, 16, .inl gZ))] [(r, .inr (3, [.int 0, .int rdr, .int mdr, .int msr, .ref bK, .ref bB, .ref bP, .ref bS, .ref bU, .ref bW, .ref bH, .ref bT, .ref bV, .ref bC, .ref bL, .int lcr, .ref bZ, .int wrr])), (bK, .inl (E.2.1, 16, .inl gK)), (bB, .inl (E.2.1, 16, .inl gB)), (bP, .inl (E.2.1, 16, .inl gP)), (bS, .inl (E.2.1, 256, .inl gS)), (bU, .inl (E.2.1, 256, .inl gU)), (bW, .inl (E.2.1, 176, .inl gW)), (bH, .inl (E.2.1, 32, .inl gH)), (bT, .inl (E.2.1, 16, .inl gT)), (bV, .inl (E.2.1, 16, .inl gV)), (bC, .inl (E.2.1, 16, .inl gC)), (bL, .inl (E.2.1, 16, .inl gL)), (bZ, .inl (E.2.2.2.2, 16, .inl gZ))] := by
  refine Ci.of (by decide) (Nat.le_of_ble_eq_true rfl) ?_
  intro p e s m below meth c A ls B hP hD hS hl
  have hl : lv_has ls 3 [(0, .ref r), (1, .int p0), (2, .int p1)] := hl
  have B : Bd p s m _ meth c cX3_half 3 (some .int) RX3 E A := B
  have hx := B.1
  have hb := B.2.1
  have hP : va_P E.1 classes [(r, .inr (3, [.int thr, .int rdr, .int mdr, .int msr, .ref bK, .ref bB, .ref bP, .ref bS, .ref bU, .ref bW, .ref bH, .ref bT, .ref bV, .ref bC, .ref bL, .int lcr, .ref bZ, .int wrr])), (bK, .inl (E.2.1, 16, .inl gK)), (bB, .inl (E.2.1, 16, .inl gB)), (bP, .inl (E.2.1, 16, .inl gP)), (bS, .inl (E.2.1, 256, .inl gS)), (bU, .inl (E.2.1, 256, .inl gU)), (bW, .inl (E.2.1, 176, .inl gW)), (bH, .inl (E.2.1, 32, .inl gH)), (bT, .inl (E.2.1, 16, .inl gT)), (bV, .inl (E.2.1, 16, .inl gV)), (bC, .inl (E.2.1, 16, .inl gC)), (bL, .inl (E.2.1, 16, .inl gL)), (bZ, .inl (E.2.2.2.2, 16, .inl gZ))] _ := hP
  have hD : va_D A [(r, .inr (3, [.int thr, .int rdr, .int mdr, .int msr, .ref bK, .ref bB, .ref bP, .ref bS, .ref bU, .ref bW, .ref bH, .ref bT, .ref bV, .ref bC, .ref bL, .int lcr, .ref bZ, .int wrr])), (bK, .inl (E.2.1, 16, .inl gK)), (bB, .inl (E.2.1, 16, .inl gB)), (bP, .inl (E.2.1, 16, .inl gP)), (bS, .inl (E.2.1, 256, .inl gS)), (bU, .inl (E.2.1, 256, .inl gU)), (bW, .inl (E.2.1, 176, .inl gW)), (bH, .inl (E.2.1, 32, .inl gH)), (bT, .inl (E.2.1, 16, .inl gT)), (bV, .inl (E.2.1, 16, .inl gV)), (bC, .inl (E.2.1, 16, .inl gC)), (bL, .inl (E.2.1, 16, .inl gL)), (bZ, .inl (E.2.2.2.2, 16, .inl gZ))] := hD
  refine lv_aload_n hx hb dX3_half_0 rfl (lv_at hl 0 rfl) ?_
  refine lv_iconst (v := 0) hx hb dX3_half_1 (by decide) ?_
  refine x_put B hP hD hS 0 rfl rfl i_X3 tyX3 tyX3_ok nmX3 0 (by decide) g_289 rfl rfl rfl (Nat.le_of_ble_eq_true rfl) dX3_half_2 (fun H locs hP hD hS => ?_)
  have hP : va_P E.1 classes [(r, .inr (3, [.int 0, .int rdr, .int mdr, .int msr, .ref bK, .ref bB, .ref bP, .ref bS, .ref bU, .ref bW, .ref bH, .ref bT, .ref bV, .ref bC, .ref bL, .int lcr, .ref bZ, .int wrr])), (bK, .inl (E.2.1, 16, .inl gK)), (bB, .inl (E.2.1, 16, .inl gB)), (bP, .inl (E.2.1, 16, .inl gP)), (bS, .inl (E.2.1, 256, .inl gS)), (bU, .inl (E.2.1, 256, .inl gU)), (bW, .inl (E.2.1, 176, .inl gW)), (bH, .inl (E.2.1, 32, .inl gH)), (bT, .inl (E.2.1, 16, .inl gT)), (bV, .inl (E.2.1, 16, .inl gV)), (bC, .inl (E.2.1, 16, .inl gC)), (bL, .inl (E.2.1, 16, .inl gL)), (bZ, .inl (E.2.2.2.2, 16, .inl gZ))] _ := hP
  have hD : va_D A [(r, .inr (3, [.int 0, .int rdr, .int mdr, .int msr, .ref bK, .ref bB, .ref bP, .ref bS, .ref bU, .ref bW, .ref bH, .ref bT, .ref bV, .ref bC, .ref bL, .int lcr, .ref bZ, .int wrr])), (bK, .inl (E.2.1, 16, .inl gK)), (bB, .inl (E.2.1, 16, .inl gB)), (bP, .inl (E.2.1, 16, .inl gP)), (bS, .inl (E.2.1, 256, .inl gS)), (bU, .inl (E.2.1, 256, .inl gU)), (bW, .inl (E.2.1, 176, .inl gW)), (bH, .inl (E.2.1, 32, .inl gH)), (bT, .inl (E.2.1, 16, .inl gT)), (bV, .inl (E.2.1, 16, .inl gV)), (bC, .inl (E.2.1, 16, .inl gC)), (bL, .inl (E.2.1, 16, .inl gL)), (bZ, .inl (E.2.2.2.2, 16, .inl gZ))] := hD
  refine lv_aload_n hx hb dX3_half_5 rfl (lv_at hl 0 rfl) ?_
  refine x_get B hP 0 rfl rfl i_X3 2 (by decide) g_291 rfl dX3_half_6 ?_
  refine lv_if_eq (tgt := 43) hx hb dX3_half_9 (by decide) (fun c_9 => ?_) (fun c_9 => ?_)
  · refine lv_iconst (v := (-1)) hx hb dX3_half_43 (by decide) ?_
    have hP : va_P E.1 classes [(r, .inr (3, [.int 0, .int rdr, .int mdr, .int msr, .ref bK, .ref bB, .ref bP, .ref bS, .ref bU, .ref bW, .ref bH, .ref bT, .ref bV, .ref bC, .ref bL, .int lcr, .ref bZ, .int wrr])), (bK, .inl (E.2.1, 16, .inl gK)), (bB, .inl (E.2.1, 16, .inl gB)), (bP, .inl (E.2.1, 16, .inl gP)), (bS, .inl (E.2.1, 256, .inl gS)), (bU, .inl (E.2.1, 256, .inl gU)), (bW, .inl (E.2.1, 176, .inl gW)), (bH, .inl (E.2.1, 32, .inl gH)), (bT, .inl (E.2.1, 16, .inl gT)), (bV, .inl (E.2.1, 16, .inl gV)), (bC, .inl (E.2.1, 16, .inl gC)), (bL, .inl (E.2.1, 16, .inl gL)), (bZ, .inl (E.2.2.2.2, 16, .inl gZ))] _ := hP
    have hD : va_D A [(r, .inr (3, [.int 0, .int rdr, .int mdr, .int msr, .ref bK, .ref bB, .ref bP, .ref bS, .ref bU, .ref bW, .ref bH, .ref bT, .ref bV, .ref bC, .ref bL, .int lcr, .ref bZ, .int wrr])), (bK, .inl (E.2.1, 16, .inl gK)), (bB, .inl (E.2.1, 16, .inl gB)), (bP, .inl (E.2.1, 16, .inl gP)), (bS, .inl (E.2.1, 256, .inl gS)), (bU, .inl (E.2.1, 256, .inl gU)), (bW, .inl (E.2.1, 176, .inl gW)), (bH, .inl (E.2.1, 32, .inl gH)), (bT, .inl (E.2.1, 16, .inl gT)), (bV, .inl (E.2.1, 16, .inl gV)), (bC, .inl (E.2.1, 16, .inl gC)), (bL, .inl (E.2.1, 16, .inl gL)), (bZ, .inl (E.2.2.2.2, 16, .inl gZ))] := hD
    exact x_iret B hP hD hS rfl rfl dX3_half_44
  · refine lv_iload_n hx hb dX3_half_12 rfl (lv_at hl 1 rfl) ?_
    refine lv_iconst (v := 1) hx hb dX3_half_13 (by decide) ?_
    refine x_Si (wr := [(r, .inr (3, [.int 0, .int rdr, .int mdr, .int msr, .ref bK, .ref bB, .ref bP, .ref bS, .ref bU, .ref bW, .ref bH, .ref bT, .ref bV, .ref bC, .ref bL, .int lcr, .ref bZ, .int wrr])), (bK, .inl (E.2.1, 16, .inl gK)), (bB, .inl (E.2.1, 16, .inl gB)), (bP, .inl (E.2.1, 16, .inl gP)), (bS, .inl (E.2.1, 256, .inl gS)), (bU, .inl (E.2.1, 256, .inl gU)), (bW, .inl (E.2.1, 176, .inl gW)), (bH, .inl (E.2.1, 32, .inl gH)), (bT, .inl (E.2.1, 16, .inl gT)), (bV, .inl (E.2.1, 16, .inl gV)), (bC, .inl (E.2.1, 16, .inl gC)), (bL, .inl (E.2.1, 16, .inl gL)), (bZ, .inl (E.2.2.2.2, 16, .inl gZ))]) (isC := []) (isR := [0, 1, 2, 3, 4, 5, 6, 7, 8, 9, 10, 11, 12]) (As := [.int p0, .int 1]) B (c_X3_isIn l E p0 1) k_X3_isIn g_353 s_X3_isIn ⟨by decide, by decide, rfl, rfl⟩ hP hD hS ⟨rfl, rfl, rfl, rfl, by decide⟩ rfl hl.1 rfl (Nat.le_of_ble_eq_true rfl) dX3_half_14 ⟨by decide, by decide⟩ (fun H locs hP hD hS => ?_)
    have hP : va_P E.1 classes [(r, .inr (3, [.int 0, .int rdr, .int mdr, .int msr, .ref bK, .ref bB, .ref bP, .ref bS, .ref bU, .ref bW, .ref bH, .ref bT, .ref bV, .ref bC, .ref bL, .int lcr, .ref bZ, .int wrr])), (bK, .inl (E.2.1, 16, .inl gK)), (bB, .inl (E.2.1, 16, .inl gB)), (bP, .inl (E.2.1, 16, .inl gP)), (bS, .inl (E.2.1, 256, .inl gS)), (bU, .inl (E.2.1, 256, .inl gU)), (bW, .inl (E.2.1, 176, .inl gW)), (bH, .inl (E.2.1, 32, .inl gH)), (bT, .inl (E.2.1, 16, .inl gT)), (bV, .inl (E.2.1, 16, .inl gV)), (bC, .inl (E.2.1, 16, .inl gC)), (bL, .inl (E.2.1, 16, .inl gL)), (bZ, .inl (E.2.2.2.2, 16, .inl gZ))] _ := hP
    have hD : va_D A [(r, .inr (3, [.int 0, .int rdr, .int mdr, .int msr, .ref bK, .ref bB, .ref bP, .ref bS, .ref bU, .ref bW, .ref bH, .ref bT, .ref bV, .ref bC, .ref bL, .int lcr, .ref bZ, .int wrr])), (bK, .inl (E.2.1, 16, .inl gK)), (bB, .inl (E.2.1, 16, .inl gB)), (bP, .inl (E.2.1, 16, .inl gP)), (bS, .inl (E.2.1, 256, .inl gS)), (bU, .inl (E.2.1, 256, .inl gU)), (bW, .inl (E.2.1, 176, .inl gW)), (bH, .inl (E.2.1, 32, .inl gH)), (bT, .inl (E.2.1, 16, .inl gT)), (bV, .inl (E.2.1, 16, .inl gV)), (bC, .inl (E.2.1, 16, .inl gC)), (bL, .inl (E.2.1, 16, .inl gL)), (bZ, .inl (E.2.2.2.2, 16, .inl gZ))] := hD
    refine lv_if_eq (tgt := 43) hx hb dX3_half_17 (by decide) (fun c_17 => ?_) (fun c_17 => ?_)
    · refine lv_iconst (v := (-1)) hx hb dX3_half_43 (by decide) ?_
      have hP : va_P E.1 classes [(r, .inr (3, [.int 0, .int rdr, .int mdr, .int msr, .ref bK, .ref bB, .ref bP, .ref bS, .ref bU, .ref bW, .ref bH, .ref bT, .ref bV, .ref bC, .ref bL, .int lcr, .ref bZ, .int wrr])), (bK, .inl (E.2.1, 16, .inl gK)), (bB, .inl (E.2.1, 16, .inl gB)), (bP, .inl (E.2.1, 16, .inl gP)), (bS, .inl (E.2.1, 256, .inl gS)), (bU, .inl (E.2.1, 256, .inl gU)), (bW, .inl (E.2.1, 176, .inl gW)), (bH, .inl (E.2.1, 32, .inl gH)), (bT, .inl (E.2.1, 16, .inl gT)), (bV, .inl (E.2.1, 16, .inl gV)), (bC, .inl (E.2.1, 16, .inl gC)), (bL, .inl (E.2.1, 16, .inl gL)), (bZ, .inl (E.2.2.2.2, 16, .inl gZ))] _ := hP
      have hD : va_D A [(r, .inr (3, [.int 0, .int rdr, .int mdr, .int msr, .ref bK, .ref bB, .ref bP, .ref bS, .ref bU, .ref bW, .ref bH, .ref bT, .ref bV, .ref bC, .ref bL, .int lcr, .ref bZ, .int wrr])), (bK, .inl (E.2.1, 16, .inl gK)), (bB, .inl (E.2.1, 16, .inl gB)), (bP, .inl (E.2.1, 16, .inl gP)), (bS, .inl (E.2.1, 256, .inl gS)), (bU, .inl (E.2.1, 256, .inl gU)), (bW, .inl (E.2.1, 176, .inl gW)), (bH, .inl (E.2.1, 32, .inl gH)), (bT, .inl (E.2.1, 16, .inl gT)), (bV, .inl (E.2.1, 16, .inl gV)), (bC, .inl (E.2.1, 16, .inl gC)), (bL, .inl (E.2.1, 16, .inl gL)), (bZ, .inl (E.2.2.2.2, 16, .inl gZ))] := hD
      exact x_iret B hP hD hS rfl rfl dX3_half_44
    · refine lv_iload_n hx hb dX3_half_20 rfl (lv_at hl 2 rfl) ?_
      refine lv_bipush (v := 15) hx hb dX3_half_21 (by decide) ?_
      refine x_Si (wr := [(r, .inr (3, [.int 0, .int rdr, .int mdr, .int msr, .ref bK, .ref bB, .ref bP, .ref bS, .ref bU, .ref bW, .ref bH, .ref bT, .ref bV, .ref bC, .ref bL, .int lcr, .ref bZ, .int wrr])), (bK, .inl (E.2.1, 16, .inl gK)), (bB, .inl (E.2.1, 16, .inl gB)), (bP, .inl (E.2.1, 16, .inl gP)), (bS, .inl (E.2.1, 256, .inl gS)), (bU, .inl (E.2.1, 256, .inl gU)), (bW, .inl (E.2.1, 176, .inl gW)), (bH, .inl (E.2.1, 32, .inl gH)), (bT, .inl (E.2.1, 16, .inl gT)), (bV, .inl (E.2.1, 16, .inl gV)), (bC, .inl (E.2.1, 16, .inl gC)), (bL, .inl (E.2.1, 16, .inl gL)), (bZ, .inl (E.2.2.2.2, 16, .inl gZ))]) (isC := []) (isR := [0, 1, 2, 3, 4, 5, 6, 7, 8, 9, 10, 11, 12]) (As := [.int p1, .int 15]) B (c_X3_isIn l E p1 15) k_X3_isIn g_353 s_X3_isIn ⟨by decide, by decide, rfl, rfl⟩ hP hD hS ⟨rfl, rfl, rfl, rfl, by decide⟩ rfl hl.1 rfl (Nat.le_of_ble_eq_true rfl) dX3_half_23 ⟨by decide, by decide⟩ (fun H locs hP hD hS => ?_)
      have hP : va_P E.1 classes [(r, .inr (3, [.int 0, .int rdr, .int mdr, .int msr, .ref bK, .ref bB, .ref bP, .ref bS, .ref bU, .ref bW, .ref bH, .ref bT, .ref bV, .ref bC, .ref bL, .int lcr, .ref bZ, .int wrr])), (bK, .inl (E.2.1, 16, .inl gK)), (bB, .inl (E.2.1, 16, .inl gB)), (bP, .inl (E.2.1, 16, .inl gP)), (bS, .inl (E.2.1, 256, .inl gS)), (bU, .inl (E.2.1, 256, .inl gU)), (bW, .inl (E.2.1, 176, .inl gW)), (bH, .inl (E.2.1, 32, .inl gH)), (bT, .inl (E.2.1, 16, .inl gT)), (bV, .inl (E.2.1, 16, .inl gV)), (bC, .inl (E.2.1, 16, .inl gC)), (bL, .inl (E.2.1, 16, .inl gL)), (bZ, .inl (E.2.2.2.2, 16, .inl gZ))] _ := hP
      have hD : va_D A [(r, .inr (3, [.int 0, .int rdr, .int mdr, .int msr, .ref bK, .ref bB, .ref bP, .ref bS, .ref bU, .ref bW, .ref bH, .ref bT, .ref bV, .ref bC, .ref bL, .int lcr, .ref bZ, .int wrr])), (bK, .inl (E.2.1, 16, .inl gK)), (bB, .inl (E.2.1, 16, .inl gB)), (bP, .inl (E.2.1, 16, .inl gP)), (bS, .inl (E.2.1, 256, .inl gS)), (bU, .inl (E.2.1, 256, .inl gU)), (bW, .inl (E.2.1, 176, .inl gW)), (bH, .inl (E.2.1, 32, .inl gH)), (bT, .inl (E.2.1, 16, .inl gT)), (bV, .inl (E.2.1, 16, .inl gV)), (bC, .inl (E.2.1, 16, .inl gC)), (bL, .inl (E.2.1, 16, .inl gL)), (bZ, .inl (E.2.2.2.2, 16, .inl gZ))] := hD
      refine lv_if_eq (tgt := 43) hx hb dX3_half_26 (by decide) (fun c_26 => ?_) (fun c_26 => ?_)
      · refine lv_iconst (v := (-1)) hx hb dX3_half_43 (by decide) ?_
        have hP : va_P E.1 classes [(r, .inr (3, [.int 0, .int rdr, .int mdr, .int msr, .ref bK, .ref bB, .ref bP, .ref bS, .ref bU, .ref bW, .ref bH, .ref bT, .ref bV, .ref bC, .ref bL, .int lcr, .ref bZ, .int wrr])), (bK, .inl (E.2.1, 16, .inl gK)), (bB, .inl (E.2.1, 16, .inl gB)), (bP, .inl (E.2.1, 16, .inl gP)), (bS, .inl (E.2.1, 256, .inl gS)), (bU, .inl (E.2.1, 256, .inl gU)), (bW, .inl (E.2.1, 176, .inl gW)), (bH, .inl (E.2.1, 32, .inl gH)), (bT, .inl (E.2.1, 16, .inl gT)), (bV, .inl (E.2.1, 16, .inl gV)), (bC, .inl (E.2.1, 16, .inl gC)), (bL, .inl (E.2.1, 16, .inl gL)), (bZ, .inl (E.2.2.2.2, 16, .inl gZ))] _ := hP
        have hD : va_D A [(r, .inr (3, [.int 0, .int rdr, .int mdr, .int msr, .ref bK, .ref bB, .ref bP, .ref bS, .ref bU, .ref bW, .ref bH, .ref bT, .ref bV, .ref bC, .ref bL, .int lcr, .ref bZ, .int wrr])), (bK, .inl (E.2.1, 16, .inl gK)), (bB, .inl (E.2.1, 16, .inl gB)), (bP, .inl (E.2.1, 16, .inl gP)), (bS, .inl (E.2.1, 256, .inl gS)), (bU, .inl (E.2.1, 256, .inl gU)), (bW, .inl (E.2.1, 176, .inl gW)), (bH, .inl (E.2.1, 32, .inl gH)), (bT, .inl (E.2.1, 16, .inl gT)), (bV, .inl (E.2.1, 16, .inl gV)), (bC, .inl (E.2.1, 16, .inl gC)), (bL, .inl (E.2.1, 16, .inl gL)), (bZ, .inl (E.2.2.2.2, 16, .inl gZ))] := hD
        exact x_iret B hP hD hS rfl rfl dX3_half_44
      · exact absurd h0 (fun h => by rcases h with h | h | h <;> contradiction)
set_option maxHeartbeats 4000000 in
set_option maxRecDepth 100000 in
theorem lp_verdict {p : Program} {l : Launch} {e : Env} {R : Room} {s : State} {m : MethodId} {args : Array Value} {below : List Frame} {meth : Method} {c : Code} {cells slots : Nat} {Q : State → Prop} {E : EE} {A : Nat → Prop} {r bK bB bP bS bU bW bH bT bV bC bL bZ : Nat} {gK gB gP gS gU gW gH gT gV gC gL gZ : Nat → Int32} {rdr mdr msr lcr wrr : Int32} {a : Int32} (B : Bd p s m args meth c cX3_macVerdict 3 (some .boolean) RX3 E A) (hf : cells ≤ R.cells ∧ slots ≤ R.slots) 
    (kk : ∀ (H : Heap) (locs : List Loc) (ls : Array Slot), va_P E.1 classes [(r, .inr (3, [.int 0, .int rdr, .int mdr, .int msr, .ref bK, .ref bB, .ref bP, .ref bS, .ref bU, .ref bW, .ref bH, .ref bT, .ref bV, .ref bC, .ref bL, .int lcr, .ref bZ, .int wrr])), (bK, .inl (E.2.1, 16, .inl gK)), (bB, .inl (E.2.1, 16, .inl gB)), (bP, .inl (E.2.1, 16, .inl gP)), (bS, .inl (E.2.1, 256, .inl gS)), (bU, .inl (E.2.1, 256, .inl gU)), (bW, .inl (E.2.1, 176, .inl gW)), (bH, .inl (E.2.1, 32, .inl gH)), (bT, .inl (E.2.1, 16, .inl gT)), (bV, .inl (E.2.1, 16, .inl gV)), (bC, .inl (E.2.1, 16, .inl gC)), (bL, .inl (E.2.1, 16, .inl gL)), (bZ, .inl (E.2.2.2.2, 16, .inl gZ))] H → va_D A [(r, .inr (3, [.int 0, .int rdr, .int mdr, .int msr, .ref bK, .ref bB, .ref bP, .ref bS, .ref bU, .ref bW, .ref bH, .ref bT, .ref bV, .ref bC, .ref bL, .int lcr, .ref bZ, .int wrr])), (bK, .inl (E.2.1, 16, .inl gK)), (bB, .inl (E.2.1, 16, .inl gB)), (bP, .inl (E.2.1, 16, .inl gP)), (bS, .inl (E.2.1, 256, .inl gS)), (bU, .inl (E.2.1, 256, .inl gU)), (bW, .inl (E.2.1, 176, .inl gW)), (bH, .inl (E.2.1, 32, .inl gH)), (bT, .inl (E.2.1, 16, .inl gT)), (bV, .inl (E.2.1, 16, .inl gV)), (bC, .inl (E.2.1, 16, .inl gC)), (bL, .inl (E.2.1, 16, .inl gL)), (bZ, .inl (E.2.2.2.2, 16, .inl gZ))] → va_S A s.heap H locs → lv_has ls 3 [(2, .int (nI 16)), (1, .int (vdM a gZ 16)), (0, .ref r)] → W p l e R s m args below meth c H locs cells slots Q (F0 m 59 ls [])) :
    ∀ (fu i : Nat), i ≤ 16 → 16 < i + fu → ∀ (H : Heap) (locs : List Loc) (ls : Array Slot), va_P E.1 classes [(r, .inr (3, [.int 0, .int rdr, .int mdr, .int msr, .ref bK, .ref bB, .ref bP, .ref bS, .ref bU, .ref bW, .ref bH, .ref bT, .ref bV, .ref bC, .ref bL, .int lcr, .ref bZ, .int wrr])), (bK, .inl (E.2.1, 16, .inl gK)), (bB, .inl (E.2.1, 16, .inl gB)), (bP, .inl (E.2.1, 16, .inl gP)), (bS, .inl (E.2.1, 256, .inl gS)), (bU, .inl (E.2.1, 256, .inl gU)), (bW, .inl (E.2.1, 176, .inl gW)), (bH, .inl (E.2.1, 32, .inl gH)), (bT, .inl (E.2.1, 16, .inl gT)), (bV, .inl (E.2.1, 16, .inl gV)), (bC, .inl (E.2.1, 16, .inl gC)), (bL, .inl (E.2.1, 16, .inl gL)), (bZ, .inl (E.2.2.2.2, 16, .inl gZ))] H → va_D A [(r, .inr (3, [.int 0, .int rdr, .int mdr, .int msr, .ref bK, .ref bB, .ref bP, .ref bS, .ref bU, .ref bW, .ref bH, .ref bT, .ref bV, .ref bC, .ref bL, .int lcr, .ref bZ, .int wrr])), (bK, .inl (E.2.1, 16, .inl gK)), (bB, .inl (E.2.1, 16, .inl gB)), (bP, .inl (E.2.1, 16, .inl gP)), (bS, .inl (E.2.1, 256, .inl gS)), (bU, .inl (E.2.1, 256, .inl gU)), (bW, .inl (E.2.1, 176, .inl gW)), (bH, .inl (E.2.1, 32, .inl gH)), (bT, .inl (E.2.1, 16, .inl gT)), (bV, .inl (E.2.1, 16, .inl gV)), (bC, .inl (E.2.1, 16, .inl gC)), (bL, .inl (E.2.1, 16, .inl gL)), (bZ, .inl (E.2.2.2.2, 16, .inl gZ))] → va_S A s.heap H locs → lv_has ls 3 [(2, .int (nI i)), (1, .int (vdM a gZ i)), (0, .ref r)] → W p l e R s m args below meth c H locs cells slots Q (F0 m 28 ls []) := by
  have hx := B.1
  have hb := B.2.1
  intro fu
  induction fu with
  | zero =>
    intro i h1 h2
    exact absurd h2 (by omega)
  | succ fu ih =>
    intro i hi hin H locs ls hP hD hS hl
    refine lv_iload_n hx hb dX3_macVerdict_28 rfl (lv_at hl 0 rfl) ?_
    refine lv_bipush (v := 16) hx hb dX3_macVerdict_29 (by decide) ?_
    refine lv_icmp_ge (tgt := 59) hx hb dX3_macVerdict_31 (by decide) (fun c_31 => ?_) (fun c_31 => ?_)
    · have hj : i = 16 := by have := ge_t (b := 16) c_31 (by omega) (by omega); omega
      subst hj
      exact kk _ _ _ hP hD hS hl
    · have hj : i < 16 := ge_f (b := 16) c_31 (by omega) (by omega)
      refine lv_iload_n hx hb dX3_macVerdict_34 rfl (lv_at hl 1 rfl) ?_
      refine lv_if_eq (tgt := 51) hx hb dX3_macVerdict_35 (by decide) (fun c_35 => ?_) (fun c_35 => ?_)
      · refine lv_iconst (v := 0) hx hb dX3_macVerdict_51 (by decide) ?_
        refine lv_istore_n (lv' := [(1, .int 0), (2, .int (nI i)), (0, .ref r)]) hx hb dX3_macVerdict_52 rfl hl (by decide) rfl (fun ls hl => ?_)
        refine lv_iinc (v := (nI (i + 1))) (lv' := [(2, .int (nI (i + 1))), (1, .int 0), (0, .ref r)]) hx hb dX3_macVerdict_53 hl (k := 1) rfl (ii_1 i) (by decide) rfl (fun ls hl => ?_)
        refine lv_goto (tgt := 28) hx hb dX3_macVerdict_56 (by decide) ?_
        have e1 : vdM a gZ (i + 1) = 0 := by unfold vdM; first | exact if_pos c_35 | (rw [if_neg c_35]; first | exact if_pos c_44 | exact if_neg c_44)
        have hP : va_P E.1 classes [(r, .inr (3, [.int 0, .int rdr, .int mdr, .int msr, .ref bK, .ref bB, .ref bP, .ref bS, .ref bU, .ref bW, .ref bH, .ref bT, .ref bV, .ref bC, .ref bL, .int lcr, .ref bZ, .int wrr])), (bK, .inl (E.2.1, 16, .inl gK)), (bB, .inl (E.2.1, 16, .inl gB)), (bP, .inl (E.2.1, 16, .inl gP)), (bS, .inl (E.2.1, 256, .inl gS)), (bU, .inl (E.2.1, 256, .inl gU)), (bW, .inl (E.2.1, 176, .inl gW)), (bH, .inl (E.2.1, 32, .inl gH)), (bT, .inl (E.2.1, 16, .inl gT)), (bV, .inl (E.2.1, 16, .inl gV)), (bC, .inl (E.2.1, 16, .inl gC)), (bL, .inl (E.2.1, 16, .inl gL)), (bZ, .inl (E.2.2.2.2, 16, .inl gZ))] _ := hP
        have hD : va_D A [(r, .inr (3, [.int 0, .int rdr, .int mdr, .int msr, .ref bK, .ref bB, .ref bP, .ref bS, .ref bU, .ref bW, .ref bH, .ref bT, .ref bV, .ref bC, .ref bL, .int lcr, .ref bZ, .int wrr])), (bK, .inl (E.2.1, 16, .inl gK)), (bB, .inl (E.2.1, 16, .inl gB)), (bP, .inl (E.2.1, 16, .inl gP)), (bS, .inl (E.2.1, 256, .inl gS)), (bU, .inl (E.2.1, 256, .inl gU)), (bW, .inl (E.2.1, 176, .inl gW)), (bH, .inl (E.2.1, 32, .inl gH)), (bT, .inl (E.2.1, 16, .inl gT)), (bV, .inl (E.2.1, 16, .inl gV)), (bC, .inl (E.2.1, 16, .inl gC)), (bL, .inl (E.2.1, 16, .inl gL)), (bZ, .inl (E.2.2.2.2, 16, .inl gZ))] := hD
        exact ih (i + 1) (by omega) (by omega) _ _ _ hP hD hS (by rw [e1]; exact lv_sub hl [0, 1, 2] rfl)
      · refine lv_aload_n hx hb dX3_macVerdict_38 rfl (lv_at hl 2 rfl) ?_
        refine x_get B hP 0 rfl rfl i_X3 16 (by decide) g_305 rfl dX3_macVerdict_39 ?_
        refine lv_iload_n hx hb dX3_macVerdict_42 rfl (lv_at hl 0 rfl) ?_
        refine x_zld B hP 12 rfl i rfl (by omega) (by decide) dX3_macVerdict_43 ?_
        refine lv_if_eq (tgt := 51) hx hb dX3_macVerdict_44 (by decide) (fun c_44 => ?_) (fun c_44 => ?_)
        · refine lv_iconst (v := 0) hx hb dX3_macVerdict_51 (by decide) ?_
          refine lv_istore_n (lv' := [(1, .int 0), (2, .int (nI i)), (0, .ref r)]) hx hb dX3_macVerdict_52 rfl hl (by decide) rfl (fun ls hl => ?_)
          refine lv_iinc (v := (nI (i + 1))) (lv' := [(2, .int (nI (i + 1))), (1, .int 0), (0, .ref r)]) hx hb dX3_macVerdict_53 hl (k := 1) rfl (ii_1 i) (by decide) rfl (fun ls hl => ?_)
          refine lv_goto (tgt := 28) hx hb dX3_macVerdict_56 (by decide) ?_
          have e1 : vdM a gZ (i + 1) = 0 := by unfold vdM; first | exact if_pos c_35 | (rw [if_neg c_35]; first | exact if_pos c_44 | exact if_neg c_44)
          have hP : va_P E.1 classes [(r, .inr (3, [.int 0, .int rdr, .int mdr, .int msr, .ref bK, .ref bB, .ref bP, .ref bS, .ref bU, .ref bW, .ref bH, .ref bT, .ref bV, .ref bC, .ref bL, .int lcr, .ref bZ, .int wrr])), (bK, .inl (E.2.1, 16, .inl gK)), (bB, .inl (E.2.1, 16, .inl gB)), (bP, .inl (E.2.1, 16, .inl gP)), (bS, .inl (E.2.1, 256, .inl gS)), (bU, .inl (E.2.1, 256, .inl gU)), (bW, .inl (E.2.1, 176, .inl gW)), (bH, .inl (E.2.1, 32, .inl gH)), (bT, .inl (E.2.1, 16, .inl gT)), (bV, .inl (E.2.1, 16, .inl gV)), (bC, .inl (E.2.1, 16, .inl gC)), (bL, .inl (E.2.1, 16, .inl gL)), (bZ, .inl (E.2.2.2.2, 16, .inl gZ))] _ := hP
          have hD : va_D A [(r, .inr (3, [.int 0, .int rdr, .int mdr, .int msr, .ref bK, .ref bB, .ref bP, .ref bS, .ref bU, .ref bW, .ref bH, .ref bT, .ref bV, .ref bC, .ref bL, .int lcr, .ref bZ, .int wrr])), (bK, .inl (E.2.1, 16, .inl gK)), (bB, .inl (E.2.1, 16, .inl gB)), (bP, .inl (E.2.1, 16, .inl gP)), (bS, .inl (E.2.1, 256, .inl gS)), (bU, .inl (E.2.1, 256, .inl gU)), (bW, .inl (E.2.1, 176, .inl gW)), (bH, .inl (E.2.1, 32, .inl gH)), (bT, .inl (E.2.1, 16, .inl gT)), (bV, .inl (E.2.1, 16, .inl gV)), (bC, .inl (E.2.1, 16, .inl gC)), (bL, .inl (E.2.1, 16, .inl gL)), (bZ, .inl (E.2.2.2.2, 16, .inl gZ))] := hD
          exact ih (i + 1) (by omega) (by omega) _ _ _ hP hD hS (by rw [e1]; exact lv_sub hl [0, 1, 2] rfl)
        · refine lv_iconst (v := 1) hx hb dX3_macVerdict_47 (by decide) ?_
          refine lv_goto (tgt := 52) hx hb dX3_macVerdict_48 (by decide) ?_
          refine lv_istore_n (lv' := [(1, .int 1), (2, .int (nI i)), (0, .ref r)]) hx hb dX3_macVerdict_52 rfl hl (by decide) rfl (fun ls hl => ?_)
          refine lv_iinc (v := (nI (i + 1))) (lv' := [(2, .int (nI (i + 1))), (1, .int 1), (0, .ref r)]) hx hb dX3_macVerdict_53 hl (k := 1) rfl (ii_1 i) (by decide) rfl (fun ls hl => ?_)
          refine lv_goto (tgt := 28) hx hb dX3_macVerdict_56 (by decide) ?_
          have e1 : vdM a gZ (i + 1) = 1 := by unfold vdM; first | exact if_pos c_35 | (rw [if_neg c_35]; first | exact if_pos c_44 | exact if_neg c_44)
          have hP : va_P E.1 classes [(r, .inr (3, [.int 0, .int rdr, .int mdr, .int msr, .ref bK, .ref bB, .ref bP, .ref bS, .ref bU, .ref bW, .ref bH, .ref bT, .ref bV, .ref bC, .ref bL, .int lcr, .ref bZ, .int wrr])), (bK, .inl (E.2.1, 16, .inl gK)), (bB, .inl (E.2.1, 16, .inl gB)), (bP, .inl (E.2.1, 16, .inl gP)), (bS, .inl (E.2.1, 256, .inl gS)), (bU, .inl (E.2.1, 256, .inl gU)), (bW, .inl (E.2.1, 176, .inl gW)), (bH, .inl (E.2.1, 32, .inl gH)), (bT, .inl (E.2.1, 16, .inl gT)), (bV, .inl (E.2.1, 16, .inl gV)), (bC, .inl (E.2.1, 16, .inl gC)), (bL, .inl (E.2.1, 16, .inl gL)), (bZ, .inl (E.2.2.2.2, 16, .inl gZ))] _ := hP
          have hD : va_D A [(r, .inr (3, [.int 0, .int rdr, .int mdr, .int msr, .ref bK, .ref bB, .ref bP, .ref bS, .ref bU, .ref bW, .ref bH, .ref bT, .ref bV, .ref bC, .ref bL, .int lcr, .ref bZ, .int wrr])), (bK, .inl (E.2.1, 16, .inl gK)), (bB, .inl (E.2.1, 16, .inl gB)), (bP, .inl (E.2.1, 16, .inl gP)), (bS, .inl (E.2.1, 256, .inl gS)), (bU, .inl (E.2.1, 256, .inl gU)), (bW, .inl (E.2.1, 176, .inl gW)), (bH, .inl (E.2.1, 32, .inl gH)), (bT, .inl (E.2.1, 16, .inl gT)), (bV, .inl (E.2.1, 16, .inl gV)), (bC, .inl (E.2.1, 16, .inl gC)), (bL, .inl (E.2.1, 16, .inl gL)), (bZ, .inl (E.2.2.2.2, 16, .inl gZ))] := hD
          exact ih (i + 1) (by omega) (by omega) _ _ _ hP hD hS (by rw [e1]; exact lv_sub hl [0, 1, 2] rfl)
def vd0 (msr wrr : Int32) : Int32 := if msr = 2 then (if wrr = 0 then 1 else 0) else 0
theorem vd0_bo (msr wrr : Int32) : vd0 msr wrr = 0 ∨ vd0 msr wrr = 1 := by
  unfold vd0
  split
  · split
    · exact Or.inr rfl
    · exact Or.inl rfl
  · exact Or.inl rfl
set_option maxHeartbeats 4000000 in
set_option maxRecDepth 100000 in
/-- the reference: macVerdict -/
theorem c_X3_macVerdict (l : Launch) (E : EE) (r bK bB bP bS bU bW bH bT bV bC bL bZ : Nat) (gK gB gP gS gU gW gH gT gV gC gL gZ : Nat → Int32) (thr rdr mdr msr lcr wrr : Int32) : Ci l yX3_macVerdict (.code yX3_macVerdict cX3_macVerdict 3 (some .boolean)) ({ frames := 0, cells := 0, slots := 0, locals := 0 }) E [.ref r] (vdM (vd0 msr wrr) gZ 16) [(r, .inr (3, [.int thr, .int rdr, .int mdr, .int msr, .ref bK, .ref bB, .ref bP, .ref bS, .ref bU, .ref bW, .ref bH, .ref bT, .ref bV, .ref bC, .ref bL, .int lcr, .ref bZ, .int wrr])), (bK, .inl (E.2.1, 16, .inl gK)), (bB, .inl (E.2.1, 16, .inl gB)), (bP, .inl (E.2.1, 16, .inl gP)), (bS, .inl (E.2.1, 256, .inl gS)), (bU, .inl (E.2.1, 256, .inl gU)), (bW, .inl (E.2.1, 176, .inl gW)), (bH, .inl (E.2.1, 32, .inl gH)), (bT, .inl (E.2.1, 16, .inl gT)), (bV, .inl (E.2.1, 16, .inl gV)), (bC, .inl (E.2.1, 16, .inl gC)), (bL, .inl (E.2.1, 16, .inl gL)), (bZ, .inl (E.2.2.2.2, 16, .inl gZ))] [(r, .inr (3, [.int 0, .int rdr, .int mdr, .int msr, .ref bK, .ref bB, .ref bP, .ref bS, .ref bU, .ref bW, .ref bH, .ref bT, .ref bV, .ref bC, .ref bL, .int lcr, .ref bZ, .int wrr])), (bK, .inl (E.2.1, 16, .inl gK)), (bB, .inl (E.2.1, 16, .inl gB)), (bP, .inl (E.2.1, 16, .inl gP)), (bS, .inl (E.2.1, 256, .inl gS)), (bU, .inl (E.2.1, 256, .inl gU)), (bW, .inl (E.2.1, 176, .inl gW)), (bH, .inl (E.2.1, 32, .inl gH)), (bT, .inl (E.2.1, 16, .inl gT)), (bV, .inl (E.2.1, 16, .inl gV)), (bC, .inl (E.2.1, 16, .inl gC)), (bL, .inl (E.2.1, 16, .inl gL)), (bZ, .inl (E.2.2.2.2, 16, .inl gZ))] := by
  refine Ci.of (by decide) (Nat.le_of_ble_eq_true rfl) ?_
  intro p e s m below meth c A ls B hP hD hS hl
  have hl : lv_has ls 3 [(0, .ref r)] := hl
  have B : Bd p s m _ meth c cX3_macVerdict 3 (some .boolean) RX3 E A := B
  have hx := B.1
  have hb := B.2.1
  have hP : va_P E.1 classes [(r, .inr (3, [.int thr, .int rdr, .int mdr, .int msr, .ref bK, .ref bB, .ref bP, .ref bS, .ref bU, .ref bW, .ref bH, .ref bT, .ref bV, .ref bC, .ref bL, .int lcr, .ref bZ, .int wrr])), (bK, .inl (E.2.1, 16, .inl gK)), (bB, .inl (E.2.1, 16, .inl gB)), (bP, .inl (E.2.1, 16, .inl gP)), (bS, .inl (E.2.1, 256, .inl gS)), (bU, .inl (E.2.1, 256, .inl gU)), (bW, .inl (E.2.1, 176, .inl gW)), (bH, .inl (E.2.1, 32, .inl gH)), (bT, .inl (E.2.1, 16, .inl gT)), (bV, .inl (E.2.1, 16, .inl gV)), (bC, .inl (E.2.1, 16, .inl gC)), (bL, .inl (E.2.1, 16, .inl gL)), (bZ, .inl (E.2.2.2.2, 16, .inl gZ))] _ := hP
  have hD : va_D A [(r, .inr (3, [.int thr, .int rdr, .int mdr, .int msr, .ref bK, .ref bB, .ref bP, .ref bS, .ref bU, .ref bW, .ref bH, .ref bT, .ref bV, .ref bC, .ref bL, .int lcr, .ref bZ, .int wrr])), (bK, .inl (E.2.1, 16, .inl gK)), (bB, .inl (E.2.1, 16, .inl gB)), (bP, .inl (E.2.1, 16, .inl gP)), (bS, .inl (E.2.1, 256, .inl gS)), (bU, .inl (E.2.1, 256, .inl gU)), (bW, .inl (E.2.1, 176, .inl gW)), (bH, .inl (E.2.1, 32, .inl gH)), (bT, .inl (E.2.1, 16, .inl gT)), (bV, .inl (E.2.1, 16, .inl gV)), (bC, .inl (E.2.1, 16, .inl gC)), (bL, .inl (E.2.1, 16, .inl gL)), (bZ, .inl (E.2.2.2.2, 16, .inl gZ))] := hD
  refine lv_aload_n hx hb dX3_macVerdict_0 rfl (lv_at hl 0 rfl) ?_
  refine lv_iconst (v := 0) hx hb dX3_macVerdict_1 (by decide) ?_
  refine x_put B hP hD hS 0 rfl rfl i_X3 tyX3 tyX3_ok nmX3 0 (by decide) g_289 rfl rfl rfl (Nat.le_of_ble_eq_true rfl) dX3_macVerdict_2 (fun H locs hP hD hS => ?_)
  have hP : va_P E.1 classes [(r, .inr (3, [.int 0, .int rdr, .int mdr, .int msr, .ref bK, .ref bB, .ref bP, .ref bS, .ref bU, .ref bW, .ref bH, .ref bT, .ref bV, .ref bC, .ref bL, .int lcr, .ref bZ, .int wrr])), (bK, .inl (E.2.1, 16, .inl gK)), (bB, .inl (E.2.1, 16, .inl gB)), (bP, .inl (E.2.1, 16, .inl gP)), (bS, .inl (E.2.1, 256, .inl gS)), (bU, .inl (E.2.1, 256, .inl gU)), (bW, .inl (E.2.1, 176, .inl gW)), (bH, .inl (E.2.1, 32, .inl gH)), (bT, .inl (E.2.1, 16, .inl gT)), (bV, .inl (E.2.1, 16, .inl gV)), (bC, .inl (E.2.1, 16, .inl gC)), (bL, .inl (E.2.1, 16, .inl gL)), (bZ, .inl (E.2.2.2.2, 16, .inl gZ))] _ := hP
  have hD : va_D A [(r, .inr (3, [.int 0, .int rdr, .int mdr, .int msr, .ref bK, .ref bB, .ref bP, .ref bS, .ref bU, .ref bW, .ref bH, .ref bT, .ref bV, .ref bC, .ref bL, .int lcr, .ref bZ, .int wrr])), (bK, .inl (E.2.1, 16, .inl gK)), (bB, .inl (E.2.1, 16, .inl gB)), (bP, .inl (E.2.1, 16, .inl gP)), (bS, .inl (E.2.1, 256, .inl gS)), (bU, .inl (E.2.1, 256, .inl gU)), (bW, .inl (E.2.1, 176, .inl gW)), (bH, .inl (E.2.1, 32, .inl gH)), (bT, .inl (E.2.1, 16, .inl gT)), (bV, .inl (E.2.1, 16, .inl gV)), (bC, .inl (E.2.1, 16, .inl gC)), (bL, .inl (E.2.1, 16, .inl gL)), (bZ, .inl (E.2.2.2.2, 16, .inl gZ))] := hD
  refine lv_aload_n hx hb dX3_macVerdict_5 rfl (lv_at hl 0 rfl) ?_
  refine x_get B hP 0 rfl rfl i_X3 3 (by decide) g_292 rfl dX3_macVerdict_6 ?_
  refine lv_iconst (v := 2) hx hb dX3_macVerdict_9 (by decide) ?_
  refine lv_icmp_ne (tgt := 24) hx hb dX3_macVerdict_10 (by decide) (fun c_10 => ?_) (fun c_10 => ?_)
  · refine lv_iconst (v := 0) hx hb dX3_macVerdict_24 (by decide) ?_
    refine lv_istore_n (lv' := [(1, .int 0), (0, .ref r)]) hx hb dX3_macVerdict_25 rfl hl (by decide) rfl (fun ls hl => ?_)
    refine lv_iconst (v := 0) hx hb dX3_macVerdict_26 (by decide) ?_
    refine lv_istore_n (lv' := [(2, .int 0), (1, .int 0), (0, .ref r)]) hx hb dX3_macVerdict_27 rfl hl (by decide) rfl (fun ls hl => ?_)
    have e0 : vd0 msr wrr = 0 := by unfold vd0; simp [*]
    refine lp_verdict (a := vd0 msr wrr) B ⟨by decide, by decide⟩ (fun H locs ls hP hD hS hl => ?_) 17 0 (by omega) (by omega) _ _ _ hP hD hS (show lv_has ls _ [(2, .int (nI 0)), (1, .int (vd0 msr wrr)), (0, .ref r)] from (by rw [e0]; exact lv_sub hl [0, 1, 2] rfl))
    refine lv_iload_n hx hb dX3_macVerdict_59 rfl (lv_at hl 1 rfl) ?_
    have hP : va_P E.1 classes [(r, .inr (3, [.int 0, .int rdr, .int mdr, .int msr, .ref bK, .ref bB, .ref bP, .ref bS, .ref bU, .ref bW, .ref bH, .ref bT, .ref bV, .ref bC, .ref bL, .int lcr, .ref bZ, .int wrr])), (bK, .inl (E.2.1, 16, .inl gK)), (bB, .inl (E.2.1, 16, .inl gB)), (bP, .inl (E.2.1, 16, .inl gP)), (bS, .inl (E.2.1, 256, .inl gS)), (bU, .inl (E.2.1, 256, .inl gU)), (bW, .inl (E.2.1, 176, .inl gW)), (bH, .inl (E.2.1, 32, .inl gH)), (bT, .inl (E.2.1, 16, .inl gT)), (bV, .inl (E.2.1, 16, .inl gV)), (bC, .inl (E.2.1, 16, .inl gC)), (bL, .inl (E.2.1, 16, .inl gL)), (bZ, .inl (E.2.2.2.2, 16, .inl gZ))] _ := hP
    have hD : va_D A [(r, .inr (3, [.int 0, .int rdr, .int mdr, .int msr, .ref bK, .ref bB, .ref bP, .ref bS, .ref bU, .ref bW, .ref bH, .ref bT, .ref bV, .ref bC, .ref bL, .int lcr, .ref bZ, .int wrr])), (bK, .inl (E.2.1, 16, .inl gK)), (bB, .inl (E.2.1, 16, .inl gB)), (bP, .inl (E.2.1, 16, .inl gP)), (bS, .inl (E.2.1, 256, .inl gS)), (bU, .inl (E.2.1, 256, .inl gU)), (bW, .inl (E.2.1, 176, .inl gW)), (bH, .inl (E.2.1, 32, .inl gH)), (bT, .inl (E.2.1, 16, .inl gT)), (bV, .inl (E.2.1, 16, .inl gV)), (bC, .inl (E.2.1, 16, .inl gC)), (bL, .inl (E.2.1, 16, .inl gL)), (bZ, .inl (E.2.2.2.2, 16, .inl gZ))] := hD
    exact x_iret B hP hD hS (nar_b (vdM_bo gZ (vd0_bo msr wrr) 16)) rfl dX3_macVerdict_60
  · refine lv_aload_n hx hb dX3_macVerdict_13 rfl (lv_at hl 0 rfl) ?_
    refine x_get B hP 0 rfl rfl i_X3 17 (by decide) g_306 rfl dX3_macVerdict_14 ?_
    refine lv_if_ne (tgt := 24) hx hb dX3_macVerdict_17 (by decide) (fun c_17 => ?_) (fun c_17 => ?_)
    · refine lv_iconst (v := 0) hx hb dX3_macVerdict_24 (by decide) ?_
      refine lv_istore_n (lv' := [(1, .int 0), (0, .ref r)]) hx hb dX3_macVerdict_25 rfl hl (by decide) rfl (fun ls hl => ?_)
      refine lv_iconst (v := 0) hx hb dX3_macVerdict_26 (by decide) ?_
      refine lv_istore_n (lv' := [(2, .int 0), (1, .int 0), (0, .ref r)]) hx hb dX3_macVerdict_27 rfl hl (by decide) rfl (fun ls hl => ?_)
      have e0 : vd0 msr wrr = 0 := by unfold vd0; simp [*]
      refine lp_verdict (a := vd0 msr wrr) B ⟨by decide, by decide⟩ (fun H locs ls hP hD hS hl => ?_) 17 0 (by omega) (by omega) _ _ _ hP hD hS (show lv_has ls _ [(2, .int (nI 0)), (1, .int (vd0 msr wrr)), (0, .ref r)] from (by rw [e0]; exact lv_sub hl [0, 1, 2] rfl))
      refine lv_iload_n hx hb dX3_macVerdict_59 rfl (lv_at hl 1 rfl) ?_
      have hP : va_P E.1 classes [(r, .inr (3, [.int 0, .int rdr, .int mdr, .int msr, .ref bK, .ref bB, .ref bP, .ref bS, .ref bU, .ref bW, .ref bH, .ref bT, .ref bV, .ref bC, .ref bL, .int lcr, .ref bZ, .int wrr])), (bK, .inl (E.2.1, 16, .inl gK)), (bB, .inl (E.2.1, 16, .inl gB)), (bP, .inl (E.2.1, 16, .inl gP)), (bS, .inl (E.2.1, 256, .inl gS)), (bU, .inl (E.2.1, 256, .inl gU)), (bW, .inl (E.2.1, 176, .inl gW)), (bH, .inl (E.2.1, 32, .inl gH)), (bT, .inl (E.2.1, 16, .inl gT)), (bV, .inl (E.2.1, 16, .inl gV)), (bC, .inl (E.2.1, 16, .inl gC)), (bL, .inl (E.2.1, 16, .inl gL)), (bZ, .inl (E.2.2.2.2, 16, .inl gZ))] _ := hP
      have hD : va_D A [(r, .inr (3, [.int 0, .int rdr, .int mdr, .int msr, .ref bK, .ref bB, .ref bP, .ref bS, .ref bU, .ref bW, .ref bH, .ref bT, .ref bV, .ref bC, .ref bL, .int lcr, .ref bZ, .int wrr])), (bK, .inl (E.2.1, 16, .inl gK)), (bB, .inl (E.2.1, 16, .inl gB)), (bP, .inl (E.2.1, 16, .inl gP)), (bS, .inl (E.2.1, 256, .inl gS)), (bU, .inl (E.2.1, 256, .inl gU)), (bW, .inl (E.2.1, 176, .inl gW)), (bH, .inl (E.2.1, 32, .inl gH)), (bT, .inl (E.2.1, 16, .inl gT)), (bV, .inl (E.2.1, 16, .inl gV)), (bC, .inl (E.2.1, 16, .inl gC)), (bL, .inl (E.2.1, 16, .inl gL)), (bZ, .inl (E.2.2.2.2, 16, .inl gZ))] := hD
      exact x_iret B hP hD hS (nar_b (vdM_bo gZ (vd0_bo msr wrr) 16)) rfl dX3_macVerdict_60
    · refine lv_iconst (v := 1) hx hb dX3_macVerdict_20 (by decide) ?_
      refine lv_goto (tgt := 25) hx hb dX3_macVerdict_21 (by decide) ?_
      refine lv_istore_n (lv' := [(1, .int 1), (0, .ref r)]) hx hb dX3_macVerdict_25 rfl hl (by decide) rfl (fun ls hl => ?_)
      refine lv_iconst (v := 0) hx hb dX3_macVerdict_26 (by decide) ?_
      refine lv_istore_n (lv' := [(2, .int 0), (1, .int 1), (0, .ref r)]) hx hb dX3_macVerdict_27 rfl hl (by decide) rfl (fun ls hl => ?_)
      have e0 : vd0 msr wrr = 1 := by unfold vd0; simp [*]
      refine lp_verdict (a := vd0 msr wrr) B ⟨by decide, by decide⟩ (fun H locs ls hP hD hS hl => ?_) 17 0 (by omega) (by omega) _ _ _ hP hD hS (show lv_has ls _ [(2, .int (nI 0)), (1, .int (vd0 msr wrr)), (0, .ref r)] from (by rw [e0]; exact lv_sub hl [0, 1, 2] rfl))
      refine lv_iload_n hx hb dX3_macVerdict_59 rfl (lv_at hl 1 rfl) ?_
      have hP : va_P E.1 classes [(r, .inr (3, [.int 0, .int rdr, .int mdr, .int msr, .ref bK, .ref bB, .ref bP, .ref bS, .ref bU, .ref bW, .ref bH, .ref bT, .ref bV, .ref bC, .ref bL, .int lcr, .ref bZ, .int wrr])), (bK, .inl (E.2.1, 16, .inl gK)), (bB, .inl (E.2.1, 16, .inl gB)), (bP, .inl (E.2.1, 16, .inl gP)), (bS, .inl (E.2.1, 256, .inl gS)), (bU, .inl (E.2.1, 256, .inl gU)), (bW, .inl (E.2.1, 176, .inl gW)), (bH, .inl (E.2.1, 32, .inl gH)), (bT, .inl (E.2.1, 16, .inl gT)), (bV, .inl (E.2.1, 16, .inl gV)), (bC, .inl (E.2.1, 16, .inl gC)), (bL, .inl (E.2.1, 16, .inl gL)), (bZ, .inl (E.2.2.2.2, 16, .inl gZ))] _ := hP
      have hD : va_D A [(r, .inr (3, [.int 0, .int rdr, .int mdr, .int msr, .ref bK, .ref bB, .ref bP, .ref bS, .ref bU, .ref bW, .ref bH, .ref bT, .ref bV, .ref bC, .ref bL, .int lcr, .ref bZ, .int wrr])), (bK, .inl (E.2.1, 16, .inl gK)), (bB, .inl (E.2.1, 16, .inl gB)), (bP, .inl (E.2.1, 16, .inl gP)), (bS, .inl (E.2.1, 256, .inl gS)), (bU, .inl (E.2.1, 256, .inl gU)), (bW, .inl (E.2.1, 176, .inl gW)), (bH, .inl (E.2.1, 32, .inl gH)), (bT, .inl (E.2.1, 16, .inl gT)), (bV, .inl (E.2.1, 16, .inl gV)), (bC, .inl (E.2.1, 16, .inl gC)), (bL, .inl (E.2.1, 16, .inl gL)), (bZ, .inl (E.2.2.2.2, 16, .inl gZ))] := hD
      exact x_iret B hP hD hS (nar_b (vdM_bo gZ (vd0_bo msr wrr) 16)) rfl dX3_macVerdict_60
end
