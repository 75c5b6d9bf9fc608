-- ===== PART A: goes FIRST, ahead of the names: the tables' words, and 'selects' of the private methods out of them =====
/-- a private method of a class that the tables say can be made, by its rows of tables_1 -/
def lw_okq (q : MethodName × Nat) : Prop := (q.1.cls ≠ "java/lang/invoke/MethodHandle" ∧ q.1.cls ≠ "java/lang/invoke/VarHandle") ∧ Cond.instantiable q.1.cls q.2 ∈ tables_1 ∧ Cond.privateMethod q.1 ∈ tables_1 ∧ Cond.instanceMethod q.1 ∈ tables_1
theorem lw_p0 : lw_okq (⟨"BlockCode$Key", "makeWords", "()V"⟩, 6) := ⟨⟨by decide +kernel, by decide +kernel⟩, List.mem_of_getElem? (i := 16) (by decide +kernel), List.mem_of_getElem? (i := 133) (by decide +kernel), List.mem_of_getElem? (i := 134) (by decide +kernel)⟩
theorem lw_p1 : lw_okq (⟨"BlockCode$Key", "makeTurnedWord", "(II)V"⟩, 6) := ⟨⟨by decide +kernel, by decide +kernel⟩, List.mem_of_getElem? (i := 16) (by decide +kernel), List.mem_of_getElem? (i := 140) (by decide +kernel), List.mem_of_getElem? (i := 141) (by decide +kernel)⟩
theorem lw_p2 : lw_okq (⟨"BlockCode$Key", "makePlainWord", "(I)V"⟩, 6) := ⟨⟨by decide +kernel, by decide +kernel⟩, List.mem_of_getElem? (i := 16) (by decide +kernel), List.mem_of_getElem? (i := 149) (by decide +kernel), List.mem_of_getElem? (i := 150) (by decide +kernel)⟩
theorem lw_p3 : lw_okq (⟨"BlockCode$Key", "makeHalves", "()V"⟩, 6) := ⟨⟨by decide +kernel, by decide +kernel⟩, List.mem_of_getElem? (i := 16) (by decide +kernel), List.mem_of_getElem? (i := 153) (by decide +kernel), List.mem_of_getElem? (i := 154) (by decide +kernel)⟩
theorem lw_p4 : lw_okq (⟨"BlockCode$Key", "replaceAndMove", "([I)V"⟩, 6) := ⟨⟨by decide +kernel, by decide +kernel⟩, List.mem_of_getElem? (i := 16) (by decide +kernel), List.mem_of_getElem? (i := 164) (by decide +kernel), List.mem_of_getElem? (i := 165) (by decide +kernel)⟩
theorem lw_p5 : lw_okq (⟨"BlockCode$Key", "moveAndReplaceBack", "([I)V"⟩, 6) := ⟨⟨by decide +kernel, by decide +kernel⟩, List.mem_of_getElem? (i := 16) (by decide +kernel), List.mem_of_getElem? (i := 248) (by decide +kernel), List.mem_of_getElem? (i := 249) (by decide +kernel)⟩
theorem lw_p6 : lw_okq (⟨"BlockCode", "chainBack", "()V"⟩, 6) := ⟨⟨by decide +kernel, by decide +kernel⟩, List.mem_of_getElem? (i := 8) (by decide +kernel), List.mem_of_getElem? (i := 258) (by decide +kernel), List.mem_of_getElem? (i := 259) (by decide +kernel)⟩
theorem lw_p7 : lw_okq (⟨"BlockCode", "chainForth", "()V"⟩, 6) := ⟨⟨by decide +kernel, by decide +kernel⟩, List.mem_of_getElem? (i := 8) (by decide +kernel), List.mem_of_getElem? (i := 264) (by decide +kernel), List.mem_of_getElem? (i := 265) (by decide +kernel)⟩
theorem lw_p8 : lw_okq (⟨"BlockCodeModel", "makeWords", "()V"⟩, 18) := ⟨⟨by decide +kernel, by decide +kernel⟩, List.mem_of_getElem? (i := 281) (by decide +kernel), List.mem_of_getElem? (i := 361) (by decide +kernel), List.mem_of_getElem? (i := 362) (by decide +kernel)⟩
theorem lw_p9 : lw_okq (⟨"BlockCodeModel", "forth", "()V"⟩, 18) := ⟨⟨by decide +kernel, by decide +kernel⟩, List.mem_of_getElem? (i := 281) (by decide +kernel), List.mem_of_getElem? (i := 365) (by decide +kernel), List.mem_of_getElem? (i := 366) (by decide +kernel)⟩
theorem lw_p10 : lw_okq (⟨"BlockCodeModel", "add", "(I)V"⟩, 18) := ⟨⟨by decide +kernel, by decide +kernel⟩, List.mem_of_getElem? (i := 281) (by decide +kernel), List.mem_of_getElem? (i := 369) (by decide +kernel), List.mem_of_getElem? (i := 370) (by decide +kernel)⟩
theorem lw_p11 : lw_okq (⟨"BlockCodeModel", "columns", "(IIII)V"⟩, 18) := ⟨⟨by decide +kernel, by decide +kernel⟩, List.mem_of_getElem? (i := 281) (by decide +kernel), List.mem_of_getElem? (i := 373) (by decide +kernel), List.mem_of_getElem? (i := 374) (by decide +kernel)⟩
theorem lw_p12 : lw_okq (⟨"BlockCodeModel", "twice", "(I)V"⟩, 18) := ⟨⟨by decide +kernel, by decide +kernel⟩, List.mem_of_getElem? (i := 281) (by decide +kernel), List.mem_of_getElem? (i := 377) (by decide +kernel), List.mem_of_getElem? (i := 378) (by decide +kernel)⟩
theorem lw_p13 : lw_okq (⟨"BlockCodeModel", "feed", "(I)V"⟩, 18) := ⟨⟨by decide +kernel, by decide +kernel⟩, List.mem_of_getElem? (i := 281) (by decide +kernel), List.mem_of_getElem? (i := 389) (by decide +kernel), List.mem_of_getElem? (i := 390) (by decide +kernel)⟩
theorem lw_p14 : lw_okq (⟨"BlockCodeModel", "take", "()V"⟩, 18) := ⟨⟨by decide +kernel, by decide +kernel⟩, List.mem_of_getElem? (i := 281) (by decide +kernel), List.mem_of_getElem? (i := 393) (by decide +kernel), List.mem_of_getElem? (i := 394) (by decide +kernel)⟩
theorem lw_p15 : lw_okq (⟨"BlockCodeModel", "load", "(Z)V"⟩, 18) := ⟨⟨by decide +kernel, by decide +kernel⟩, List.mem_of_getElem? (i := 281) (by decide +kernel), List.mem_of_getElem? (i := 425) (by decide +kernel), List.mem_of_getElem? (i := 426) (by decide +kernel)⟩
def lw_privs_1 : List (MethodName × Nat) := [(⟨"BlockCode$Key", "makeWords", "()V"⟩, 6), (⟨"BlockCode$Key", "makeTurnedWord", "(II)V"⟩, 6), (⟨"BlockCode$Key", "makePlainWord", "(I)V"⟩, 6), (⟨"BlockCode$Key", "makeHalves", "()V"⟩, 6), (⟨"BlockCode$Key", "replaceAndMove", "([I)V"⟩, 6), (⟨"BlockCode$Key", "moveAndReplaceBack", "([I)V"⟩, 6), (⟨"BlockCode", "chainBack", "()V"⟩, 6), (⟨"BlockCode", "chainForth", "()V"⟩, 6), (⟨"BlockCodeModel", "makeWords", "()V"⟩, 18), (⟨"BlockCodeModel", "forth", "()V"⟩, 18), (⟨"BlockCodeModel", "add", "(I)V"⟩, 18), (⟨"BlockCodeModel", "columns", "(IIII)V"⟩, 18), (⟨"BlockCodeModel", "twice", "(I)V"⟩, 18), (⟨"BlockCodeModel", "feed", "(I)V"⟩, 18), (⟨"BlockCodeModel", "take", "()V"⟩, 18), (⟨"BlockCodeModel", "load", "(Z)V"⟩, 18)]
theorem lw_r1 : ∀ q ∈ lw_privs_1, lw_okq q := List.forall_mem_cons.mpr ⟨lw_p0, List.forall_mem_cons.mpr ⟨lw_p1, List.forall_mem_cons.mpr ⟨lw_p2, List.forall_mem_cons.mpr ⟨lw_p3, List.forall_mem_cons.mpr ⟨lw_p4, List.forall_mem_cons.mpr ⟨lw_p5, List.forall_mem_cons.mpr ⟨lw_p6, List.forall_mem_cons.mpr ⟨lw_p7, List.forall_mem_cons.mpr ⟨lw_p8, List.forall_mem_cons.mpr ⟨lw_p9, List.forall_mem_cons.mpr ⟨lw_p10, List.forall_mem_cons.mpr ⟨lw_p11, List.forall_mem_cons.mpr ⟨lw_p12, List.forall_mem_cons.mpr ⟨lw_p13, List.forall_mem_cons.mpr ⟨lw_p14, List.forall_mem_cons.mpr ⟨lw_p15, fun _ h => absurd h List.not_mem_nil⟩⟩⟩⟩⟩⟩⟩⟩⟩⟩⟩⟩⟩⟩⟩⟩
theorem lw_p16 : lw_okq (⟨"BlockCodeModel", "back", "()V"⟩, 18) := ⟨⟨by decide +kernel, by decide +kernel⟩, List.mem_of_getElem? (i := 281) (by decide +kernel), List.mem_of_getElem? (i := 433) (by decide +kernel), List.mem_of_getElem? (i := 434) (by decide +kernel)⟩
def lw_privs_2 : List (MethodName × Nat) := [(⟨"BlockCodeModel", "back", "()V"⟩, 18)]
theorem lw_r2 : ∀ q ∈ lw_privs_2, lw_okq q := List.forall_mem_cons.mpr ⟨lw_p16, fun _ h => absurd h List.not_mem_nil⟩
def lw_privs : List (MethodName × Nat) := lw_privs_1 ++ (lw_privs_2)
def lw_tbl : List Cond := k2_sels lw_privs ++ tables_1
theorem lw_privs_ok : ∀ q ∈ lw_privs, lw_okq q := by
  show ∀ q ∈ lw_privs_1 ++ (lw_privs_2), lw_okq q
  exact List.forall_mem_append.mpr ⟨lw_r1, lw_r2⟩
def RX0 : String := "BlockCode$Key"
def TX0 : u_T := fun k => match k with
  | 0 => ("BlockCode$Key", "bytes", "[I", true)
  | 1 => ("BlockCode$Key", "words", "[I", true)
  | 2 => ("BlockCode$Key", "firstHalf", "[I", true)
  | 3 => ("BlockCode$Key", "secondHalf", "[I", true)
  | 4 => ("BlockCode$Key", "moved", "[I", true)
  | _ => ("BlockCode$Key", "made", "Z", false)
def tyX0 : Nat → FieldType := fun k => match k with
  | 0 => .array .int
  | 1 => .array .int
  | 2 => .array .int
  | 3 => .array .int
  | 4 => .array .int
  | _ => .boolean
abbrev wsX00 : List Cond := u_ws RX0 TX0 6
theorem nmX0 : ∀ a, a < 6 → ∀ b, b < 6 → a ≠ b → (TX0 a).2.1 ≠ (TX0 b).2.1 := by decide +kernel
theorem tyX0_ok : ∀ k, k < 6 → parseFieldDescriptor (TX0 k).2.2.1 = some (tyX0 k) := by decide +kernel
abbrev cX0_init : ByteArray := prog_2_method_1_code
def yX0_init : MethodName := ⟨RX0, "<init>", "()V"⟩
abbrev cX0_clear : ByteArray := prog_2_method_2_code
def yX0_clear : MethodName := ⟨RX0, "clear", "()V"⟩
abbrev cX0_put : ByteArray := prog_2_method_3_code
def yX0_put : MethodName := ⟨RX0, "put", "(II)V"⟩
abbrev cX0_make : ByteArray := prog_2_method_4_code
def yX0_make : MethodName := ⟨RX0, "make", "()V"⟩
abbrev cX0_makeWords : ByteArray := prog_2_method_5_code
def yX0_makeWords : MethodName := ⟨RX0, "makeWords", "()V"⟩
abbrev cX0_makePlainWord : ByteArray := prog_2_method_6_code
def yX0_makePlainWord : MethodName := ⟨RX0, "makePlainWord", "(I)V"⟩
abbrev cX0_makeTurnedWord : ByteArray := prog_2_method_7_code
def yX0_makeTurnedWord : MethodName := ⟨RX0, "makeTurnedWord", "(II)V"⟩
abbrev cX0_makeHalves : ByteArray := prog_2_method_8_code
def yX0_makeHalves : MethodName := ⟨RX0, "makeHalves", "()V"⟩
abbrev cX0_putDoubled : ByteArray := prog_2_method_9_code
def yX0_putDoubled : MethodName := ⟨RX0, "putDoubled", "([I[I)V"⟩
abbrev cX0_goForth : ByteArray := prog_2_method_10_code
def yX0_goForth : MethodName := ⟨RX0, "goForth", "([I)V"⟩
abbrev cX0_goBack : ByteArray := prog_2_method_11_code
def yX0_goBack : MethodName := ⟨RX0, "goBack", "([I)V"⟩
abbrev cX0_replaceAndMove : ByteArray := prog_2_method_12_code
def yX0_replaceAndMove : MethodName := ⟨RX0, "replaceAndMove", "([I)V"⟩
abbrev cX0_moveAndReplaceBack : ByteArray := prog_2_method_13_code
def yX0_moveAndReplaceBack : MethodName := ⟨RX0, "moveAndReplaceBack", "([I)V"⟩
abbrev cX0_source : ByteArray := prog_2_method_14_code
def yX0_source : MethodName := ⟨RX0, "source", "(I)I"⟩
abbrev cX0_mix : ByteArray := prog_2_method_15_code
def yX0_mix : MethodName := ⟨RX0, "mix", "([I)V"⟩
abbrev cX0_unmix : ByteArray := prog_2_method_16_code
def yX0_unmix : MethodName := ⟨RX0, "unmix", "([I)V"⟩
abbrev cX0_mixed : ByteArray := prog_2_method_17_code
def yX0_mixed : MethodName := ⟨RX0, "mixed", "(IIII)I"⟩
abbrev cX0_twice : ByteArray := prog_2_method_18_code
def yX0_twice : MethodName := ⟨RX0, "twice", "(I)I"⟩
def RX1 : String := "BlockCode$Message"
def TX1 : u_T := fun k => match k with
  | 0 => ("BlockCode$Message", "sum", "[I", true)
  | 1 => ("BlockCode$Message", "filled", "I", false)
  | 2 => ("BlockCode$Message", "open", "Z", false)
  | 3 => ("BlockCode$Message", "ended", "Z", false)
  | 4 => ("BlockCode$Message", "compared", "I", false)
  | _ => ("BlockCode$Message", "differed", "Z", false)
def tyX1 : Nat → FieldType := fun k => match k with
  | 0 => .array .int
  | 1 => .int
  | 2 => .boolean
  | 3 => .boolean
  | 4 => .int
  | _ => .boolean
abbrev wsX10 : List Cond := u_ws RX1 TX1 6
theorem nmX1 : ∀ a, a < 6 → ∀ b, b < 6 → a ≠ b → (TX1 a).2.1 ≠ (TX1 b).2.1 := by decide +kernel
theorem tyX1_ok : ∀ k, k < 6 → parseFieldDescriptor (TX1 k).2.2.1 = some (tyX1 k) := by decide +kernel
abbrev cX1_init : ByteArray := prog_3_method_1_code
def yX1_init : MethodName := ⟨RX1, "<init>", "()V"⟩
abbrev cX1_drop : ByteArray := prog_3_method_2_code
def yX1_drop : MethodName := ⟨RX1, "drop", "()V"⟩
abbrev cX1_begin : ByteArray := prog_3_method_3_code
def yX1_begin : MethodName := ⟨RX1, "begin", "()V"⟩
abbrev cX1_take : ByteArray := prog_3_method_4_code
def yX1_take : MethodName := ⟨RX1, "take", "(ILBlockCode$Key;)V"⟩
abbrev cX1_end : ByteArray := prog_3_method_5_code
def yX1_end : MethodName := ⟨RX1, "end", "(LBlockCode$Key;)V"⟩
abbrev cX1_compare : ByteArray := prog_3_method_6_code
def yX1_compare : MethodName := ⟨RX1, "compare", "(II)V"⟩
def RX2 : String := "BlockCode"
def TX2 : u_T := fun k => match k with
  | 0 => ("BlockCode", "key", "LBlockCode$Key;", true)
  | 1 => ("BlockCode", "message", "LBlockCode$Message;", true)
  | 2 => ("BlockCode", "block", "[I", true)
  | 3 => ("BlockCode", "before", "[I", true)
  | 4 => ("BlockCode", "kept", "[I", true)
  | _ => ("BlockCode", "ready", "Z", false)
def tyX2 : Nat → FieldType := fun k => match k with
  | 0 => .object "BlockCode$Key"
  | 1 => .object "BlockCode$Message"
  | 2 => .array .int
  | 3 => .array .int
  | 4 => .array .int
  | _ => .boolean
abbrev wsX20 : List Cond := u_ws RX2 TX2 6
theorem nmX2 : ∀ a, a < 6 → ∀ b, b < 6 → a ≠ b → (TX2 a).2.1 ≠ (TX2 b).2.1 := by decide +kernel
theorem tyX2_ok : ∀ k, k < 6 → parseFieldDescriptor (TX2 k).2.2.1 = some (tyX2 k) := by decide +kernel
abbrev cX2_init : ByteArray := prog_1_method_1_code
def yX2_init : MethodName := ⟨RX2, "<init>", "()V"⟩
abbrev cX2_init_ : ByteArray := prog_1_method_2_code
def yX2_init_ : MethodName := ⟨RX2, "init", "()V"⟩
abbrev cX2_setKeyByte : ByteArray := prog_1_method_3_code
def yX2_setKeyByte : MethodName := ⟨RX2, "setKeyByte", "(II)Z"⟩
abbrev cX2_expand : ByteArray := prog_1_method_4_code
def yX2_expand : MethodName := ⟨RX2, "expand", "()Z"⟩
abbrev cX2_macStart : ByteArray := prog_1_method_5_code
def yX2_macStart : MethodName := ⟨RX2, "macStart", "()Z"⟩
abbrev cX2_macUpdate : ByteArray := prog_1_method_6_code
def yX2_macUpdate : MethodName := ⟨RX2, "macUpdate", "(I)Z"⟩
abbrev cX2_macFill : ByteArray := prog_1_method_7_code
def yX2_macFill : MethodName := ⟨RX2, "macFill", "(III)Z"⟩
abbrev cX2_macFinish : ByteArray := prog_1_method_8_code
def yX2_macFinish : MethodName := ⟨RX2, "macFinish", "()Z"⟩
abbrev cX2_tagByte : ByteArray := prog_1_method_9_code
def yX2_tagByte : MethodName := ⟨RX2, "tagByte", "(I)I"⟩
abbrev cX2_macCheck : ByteArray := prog_1_method_10_code
def yX2_macCheck : MethodName := ⟨RX2, "macCheck", "(II)Z"⟩
abbrev cX2_macVerdict : ByteArray := prog_1_method_11_code
def yX2_macVerdict : MethodName := ⟨RX2, "macVerdict", "()Z"⟩
abbrev cX2_setBlockByte : ByteArray := prog_1_method_12_code
def yX2_setBlockByte : MethodName := ⟨RX2, "setBlockByte", "(II)Z"⟩
abbrev cX2_encryptBlock : ByteArray := prog_1_method_13_code
def yX2_encryptBlock : MethodName := ⟨RX2, "encryptBlock", "()Z"⟩
abbrev cX2_decryptBlock : ByteArray := prog_1_method_14_code
def yX2_decryptBlock : MethodName := ⟨RX2, "decryptBlock", "()Z"⟩
abbrev cX2_chain : ByteArray := prog_1_method_15_code
def yX2_chain : MethodName := ⟨RX2, "chain", "(Z)Z"⟩
abbrev cX2_unchain : ByteArray := prog_1_method_16_code
def yX2_unchain : MethodName := ⟨RX2, "unchain", "()Z"⟩
abbrev cX2_blockByte : ByteArray := prog_1_method_17_code
def yX2_blockByte : MethodName := ⟨RX2, "blockByte", "(I)I"⟩
abbrev cX2_half : ByteArray := prog_1_method_18_code
def yX2_half : MethodName := ⟨RX2, "half", "(II)I"⟩
abbrev cX2_chainForth : ByteArray := prog_1_method_19_code
def yX2_chainForth : MethodName := ⟨RX2, "chainForth", "()V"⟩
abbrev cX2_chainBack : ByteArray := prog_1_method_20_code
def yX2_chainBack : MethodName := ⟨RX2, "chainBack", "()V"⟩
abbrev cX2_isPlace : ByteArray := prog_1_method_21_code
def yX2_isPlace : MethodName := ⟨RX2, "isPlace", "(I)Z"⟩
abbrev cX2_isByte : ByteArray := prog_1_method_22_code
def yX2_isByte : MethodName := ⟨RX2, "isByte", "(I)Z"⟩
abbrev cX2_xor : ByteArray := prog_1_method_23_code
def yX2_xor : MethodName := ⟨RX2, "xor", "([I[II)V"⟩
def RX3 : String := "BlockCodeModel"
def TX3 : u_T := fun k => match k with
  | 0 => ("BlockCodeModel", "thrown", "I", false)
  | 1 => ("BlockCodeModel", "ready", "Z", false)
  | 2 => ("BlockCodeModel", "made", "Z", false)
  | 3 => ("BlockCodeModel", "message", "I", false)
  | 4 => ("BlockCodeModel", "key", "[I", true)
  | 5 => ("BlockCodeModel", "block", "[I", true)
  | 6 => ("BlockCodeModel", "before", "[I", true)
  | 7 => ("BlockCodeModel", "s", "[I", true)
  | 8 => ("BlockCodeModel", "unS", "[I", true)
  | 9 => ("BlockCodeModel", "words", "[I", true)
  | 10 => ("BlockCodeModel", "halves", "[I", true)
  | 11 => ("BlockCodeModel", "state", "[I", true)
  | 12 => ("BlockCodeModel", "moved", "[I", true)
  | 13 => ("BlockCodeModel", "code", "[I", true)
  | 14 => ("BlockCodeModel", "last", "[I", true)
  | 15 => ("BlockCodeModel", "lastCount", "I", false)
  | 16 => ("BlockCodeModel", "compared", "[Z", true)
  | _ => ("BlockCodeModel", "wrong", "Z", false)
def tyX3 : Nat → FieldType := fun k => match k with
  | 0 => .int
  | 1 => .boolean
  | 2 => .boolean
  | 3 => .int
  | 4 => .array .int
  | 5 => .array .int
  | 6 => .array .int
  | 7 => .array .int
  | 8 => .array .int
  | 9 => .array .int
  | 10 => .array .int
  | 11 => .array .int
  | 12 => .array .int
  | 13 => .array .int
  | 14 => .array .int
  | 15 => .int
  | 16 => .array .boolean
  | _ => .boolean
abbrev wsX30 : List Cond := u_ws RX3 TX3 18
theorem nmX3 : ∀ a, a < 18 → ∀ b, b < 18 → a ≠ b → (TX3 a).2.1 ≠ (TX3 b).2.1 := by decide +kernel
theorem tyX3_ok : ∀ k, k < 18 → parseFieldDescriptor (TX3 k).2.2.1 = some (tyX3 k) := by decide +kernel
abbrev cX3_init : ByteArray := prog_5_method_1_code
def yX3_init : MethodName := ⟨RX3, "<init>", "()V"⟩
abbrev cX3_times : ByteArray := prog_5_method_2_code
def yX3_times : MethodName := ⟨RX3, "times", "(II)I"⟩
abbrev cX3_isIn : ByteArray := prog_5_method_4_code
def yX3_isIn : MethodName := ⟨RX3, "isIn", "(II)Z"⟩
abbrev cX3_init_ : ByteArray := prog_5_method_5_code
def yX3_init_ : MethodName := ⟨RX3, "init", "()V"⟩
abbrev cX3_setKeyByte : ByteArray := prog_5_method_6_code
def yX3_setKeyByte : MethodName := ⟨RX3, "setKeyByte", "(II)Z"⟩
abbrev cX3_makeWords : ByteArray := prog_5_method_7_code
def yX3_makeWords : MethodName := ⟨RX3, "makeWords", "()V"⟩
abbrev cX3_add : ByteArray := prog_5_method_8_code
def yX3_add : MethodName := ⟨RX3, "add", "(I)V"⟩
abbrev cX3_columns : ByteArray := prog_5_method_9_code
def yX3_columns : MethodName := ⟨RX3, "columns", "(IIII)V"⟩
abbrev cX3_forth : ByteArray := prog_5_method_10_code
def yX3_forth : MethodName := ⟨RX3, "forth", "()V"⟩
abbrev cX3_back : ByteArray := prog_5_method_11_code
def yX3_back : MethodName := ⟨RX3, "back", "()V"⟩
abbrev cX3_twice : ByteArray := prog_5_method_12_code
def yX3_twice : MethodName := ⟨RX3, "twice", "(I)V"⟩
abbrev cX3_expand : ByteArray := prog_5_method_13_code
def yX3_expand : MethodName := ⟨RX3, "expand", "()Z"⟩
abbrev cX3_macStart : ByteArray := prog_5_method_14_code
def yX3_macStart : MethodName := ⟨RX3, "macStart", "()Z"⟩
abbrev cX3_take : ByteArray := prog_5_method_15_code
def yX3_take : MethodName := ⟨RX3, "take", "()V"⟩
abbrev cX3_feed : ByteArray := prog_5_method_16_code
def yX3_feed : MethodName := ⟨RX3, "feed", "(I)V"⟩
abbrev cX3_macUpdate : ByteArray := prog_5_method_17_code
def yX3_macUpdate : MethodName := ⟨RX3, "macUpdate", "(I)Z"⟩
abbrev cX3_macFill : ByteArray := prog_5_method_18_code
def yX3_macFill : MethodName := ⟨RX3, "macFill", "(III)Z"⟩
abbrev cX3_macFinish : ByteArray := prog_5_method_19_code
def yX3_macFinish : MethodName := ⟨RX3, "macFinish", "()Z"⟩
abbrev cX3_tagByte : ByteArray := prog_5_method_20_code
def yX3_tagByte : MethodName := ⟨RX3, "tagByte", "(I)I"⟩
abbrev cX3_macCheck : ByteArray := prog_5_method_21_code
def yX3_macCheck : MethodName := ⟨RX3, "macCheck", "(II)Z"⟩
abbrev cX3_macVerdict : ByteArray := prog_5_method_22_code
def yX3_macVerdict : MethodName := ⟨RX3, "macVerdict", "()Z"⟩
abbrev cX3_setBlockByte : ByteArray := prog_5_method_23_code
def yX3_setBlockByte : MethodName := ⟨RX3, "setBlockByte", "(II)Z"⟩
abbrev cX3_load : ByteArray := prog_5_method_24_code
def yX3_load : MethodName := ⟨RX3, "load", "(Z)V"⟩
abbrev cX3_encryptBlock : ByteArray := prog_5_method_25_code
def yX3_encryptBlock : MethodName := ⟨RX3, "encryptBlock", "()Z"⟩
abbrev cX3_decryptBlock : ByteArray := prog_5_method_26_code
def yX3_decryptBlock : MethodName := ⟨RX3, "decryptBlock", "()Z"⟩
abbrev cX3_chain : ByteArray := prog_5_method_27_code
def yX3_chain : MethodName := ⟨RX3, "chain", "(Z)Z"⟩
abbrev cX3_unchain : ByteArray := prog_5_method_28_code
def yX3_unchain : MethodName := ⟨RX3, "unchain", "()Z"⟩
abbrev cX3_blockByte : ByteArray := prog_5_method_29_code
def yX3_blockByte : MethodName := ⟨RX3, "blockByte", "(I)I"⟩
abbrev cX3_half : ByteArray := prog_5_method_30_code
def yX3_half : MethodName := ⟨RX3, "half", "(II)I"⟩
def RJ10 : String := "java/lang/System"
def TJ10 : u_T := fun k => match k with
  | _ => ("", "", "", false)
def tyJ10 : Nat → FieldType := fun k => match k with
  | _ => .int
abbrev wsJ100 : List Cond := u_ws RJ10 TJ10 0
theorem nmJ10 : ∀ a, a < 0 → ∀ b, b < 0 → a ≠ b → (TJ10 a).2.1 ≠ (TJ10 b).2.1 := by decide +kernel
theorem tyJ10_ok : ∀ k, k < 0 → parseFieldDescriptor (TJ10 k).2.2.1 = some (tyJ10 k) := by decide +kernel
def RJ7 : String := "java/util/Arrays"
def TJ7 : u_T := fun k => match k with
  | _ => ("", "", "", false)
def tyJ7 : Nat → FieldType := fun k => match k with
  | _ => .int
abbrev wsJ70 : List Cond := u_ws RJ7 TJ7 0
theorem nmJ7 : ∀ a, a < 0 → ∀ b, b < 0 → a ≠ b → (TJ7 a).2.1 ≠ (TJ7 b).2.1 := by decide +kernel
theorem tyJ7_ok : ∀ k, k < 0 → parseFieldDescriptor (TJ7 k).2.2.1 = some (tyJ7 k) := by decide +kernel
abbrev cJ7_fill_53178 : ByteArray := prog_7_method_103_code
def yJ7_fill_53178 : MethodName := ⟨RJ7, "fill", "([II)V"⟩
def RL : String := "BlockCodeLaw"
abbrev cL_law : ByteArray := code
def yL_law : MethodName := ⟨RL, "law", "([I)Z"⟩
theorem dX0_init_0 : decode cX0_init 0 = .ok (.aload_n 0, 1) := by decide +kernel
theorem dX0_init_1 : decode cX0_init 1 = .ok (.invokespecial 3, 3) := by decide +kernel
theorem dX0_init_4 : decode cX0_init 4 = .ok (.aload_n 0, 1) := by decide +kernel
theorem dX0_init_5 : decode cX0_init 5 = .ok (.bipush 16, 2) := by decide +kernel
theorem dX0_init_7 : decode cX0_init 7 = .ok (.newarray .int, 2) := by decide +kernel
theorem dX0_init_9 : decode cX0_init 9 = .ok (.putfield 9, 3) := by decide +kernel
theorem dX0_init_12 : decode cX0_init 12 = .ok (.aload_n 0, 1) := by decide +kernel
theorem dX0_init_13 : decode cX0_init 13 = .ok (.sipush 176, 3) := by decide +kernel
theorem dX0_init_16 : decode cX0_init 16 = .ok (.newarray .int, 2) := by decide +kernel
theorem dX0_init_18 : decode cX0_init 18 = .ok (.putfield 15, 3) := by decide +kernel
theorem dX0_init_21 : decode cX0_init 21 = .ok (.aload_n 0, 1) := by decide +kernel
theorem dX0_init_22 : decode cX0_init 22 = .ok (.bipush 16, 2) := by decide +kernel
theorem dX0_init_24 : decode cX0_init 24 = .ok (.newarray .int, 2) := by decide +kernel
theorem dX0_init_26 : decode cX0_init 26 = .ok (.putfield 18, 3) := by decide +kernel
theorem dX0_init_29 : decode cX0_init 29 = .ok (.aload_n 0, 1) := by decide +kernel
theorem dX0_init_30 : decode cX0_init 30 = .ok (.bipush 16, 2) := by decide +kernel
theorem dX0_init_32 : decode cX0_init 32 = .ok (.newarray .int, 2) := by decide +kernel
theorem dX0_init_34 : decode cX0_init 34 = .ok (.putfield 21, 3) := by decide +kernel
theorem dX0_init_37 : decode cX0_init 37 = .ok (.aload_n 0, 1) := by decide +kernel
theorem dX0_init_38 : decode cX0_init 38 = .ok (.bipush 16, 2) := by decide +kernel
theorem dX0_init_40 : decode cX0_init 40 = .ok (.newarray .int, 2) := by decide +kernel
theorem dX0_init_42 : decode cX0_init 42 = .ok (.putfield 24, 3) := by decide +kernel
theorem dX0_init_45 : decode cX0_init 45 = .ok (.aload_n 0, 1) := by decide +kernel
theorem dX0_init_46 : decode cX0_init 46 = .ok (.iconst 0, 1) := by decide +kernel
theorem dX0_init_47 : decode cX0_init 47 = .ok (.putfield 27, 3) := by decide +kernel
theorem dX0_init_50 : decode cX0_init 50 = .ok (.return_, 1) := by decide +kernel
theorem dX0_clear_0 : decode cX0_clear 0 = .ok (.aload_n 0, 1) := by decide +kernel
theorem dX0_clear_1 : decode cX0_clear 1 = .ok (.getfield 9, 3) := by decide +kernel
theorem dX0_clear_4 : decode cX0_clear 4 = .ok (.iconst 0, 1) := by decide +kernel
theorem dX0_clear_5 : decode cX0_clear 5 = .ok (.invokestatic 31, 3) := by decide +kernel
theorem dX0_clear_8 : decode cX0_clear 8 = .ok (.aload_n 0, 1) := by decide +kernel
theorem dX0_clear_9 : decode cX0_clear 9 = .ok (.iconst 0, 1) := by decide +kernel
theorem dX0_clear_10 : decode cX0_clear 10 = .ok (.putfield 27, 3) := by decide +kernel
theorem dX0_clear_13 : decode cX0_clear 13 = .ok (.return_, 1) := by decide +kernel
theorem dX0_put_0 : decode cX0_put 0 = .ok (.aload_n 0, 1) := by decide +kernel
theorem dX0_put_1 : decode cX0_put 1 = .ok (.getfield 9, 3) := by decide +kernel
theorem dX0_put_4 : decode cX0_put 4 = .ok (.iload_n 1, 1) := by decide +kernel
theorem dX0_put_5 : decode cX0_put 5 = .ok (.iload_n 2, 1) := by decide +kernel
theorem dX0_put_6 : decode cX0_put 6 = .ok (.iastore, 1) := by decide +kernel
theorem dX0_put_7 : decode cX0_put 7 = .ok (.aload_n 0, 1) := by decide +kernel
theorem dX0_put_8 : decode cX0_put 8 = .ok (.iconst 0, 1) := by decide +kernel
theorem dX0_put_9 : decode cX0_put 9 = .ok (.putfield 27, 3) := by decide +kernel
theorem dX0_put_12 : decode cX0_put 12 = .ok (.return_, 1) := by decide +kernel
theorem dX0_make_0 : decode cX0_make 0 = .ok (.aload_n 0, 1) := by decide +kernel
theorem dX0_make_1 : decode cX0_make 1 = .ok (.invokevirtual 37, 3) := by decide +kernel
theorem dX0_make_4 : decode cX0_make 4 = .ok (.aload_n 0, 1) := by decide +kernel
theorem dX0_make_5 : decode cX0_make 5 = .ok (.invokevirtual 40, 3) := by decide +kernel
theorem dX0_make_8 : decode cX0_make 8 = .ok (.aload_n 0, 1) := by decide +kernel
theorem dX0_make_9 : decode cX0_make 9 = .ok (.iconst 1, 1) := by decide +kernel
theorem dX0_make_10 : decode cX0_make 10 = .ok (.putfield 27, 3) := by decide +kernel
theorem dX0_make_13 : decode cX0_make 13 = .ok (.return_, 1) := by decide +kernel
theorem dX0_makeWords_0 : decode cX0_makeWords 0 = .ok (.aload_n 0, 1) := by decide +kernel
theorem dX0_makeWords_1 : decode cX0_makeWords 1 = .ok (.getfield 9, 3) := by decide +kernel
theorem dX0_makeWords_4 : decode cX0_makeWords 4 = .ok (.iconst 0, 1) := by decide +kernel
theorem dX0_makeWords_5 : decode cX0_makeWords 5 = .ok (.aload_n 0, 1) := by decide +kernel
theorem dX0_makeWords_6 : decode cX0_makeWords 6 = .ok (.getfield 15, 3) := by decide +kernel
theorem dX0_makeWords_9 : decode cX0_makeWords 9 = .ok (.iconst 0, 1) := by decide +kernel
theorem dX0_makeWords_10 : decode cX0_makeWords 10 = .ok (.bipush 16, 2) := by decide +kernel
theorem dX0_makeWords_12 : decode cX0_makeWords 12 = .ok (.invokestatic 43, 3) := by decide +kernel
theorem dX0_makeWords_15 : decode cX0_makeWords 15 = .ok (.iconst 1, 1) := by decide +kernel
theorem dX0_makeWords_16 : decode cX0_makeWords 16 = .ok (.istore_n 1, 1) := by decide +kernel
theorem dX0_makeWords_17 : decode cX0_makeWords 17 = .ok (.bipush 16, 2) := by decide +kernel
theorem dX0_makeWords_19 : decode cX0_makeWords 19 = .ok (.istore_n 2, 1) := by decide +kernel
theorem dX0_makeWords_20 : decode cX0_makeWords 20 = .ok (.iload_n 2, 1) := by decide +kernel
theorem dX0_makeWords_21 : decode cX0_makeWords 21 = .ok (.sipush 176, 3) := by decide +kernel
theorem dX0_makeWords_24 : decode cX0_makeWords 24 = .ok (.if_icmp .ge 35, 3) := by decide +kernel
theorem dX0_makeWords_27 : decode cX0_makeWords 27 = .ok (.iload_n 2, 1) := by decide +kernel
theorem dX0_makeWords_28 : decode cX0_makeWords 28 = .ok (.bipush 16, 2) := by decide +kernel
theorem dX0_makeWords_30 : decode cX0_makeWords 30 = .ok (.irem, 1) := by decide +kernel
theorem dX0_makeWords_31 : decode cX0_makeWords 31 = .ok (.ifCond .ne 17, 3) := by decide +kernel
theorem dX0_makeWords_34 : decode cX0_makeWords 34 = .ok (.aload_n 0, 1) := by decide +kernel
theorem dX0_makeWords_35 : decode cX0_makeWords 35 = .ok (.iload_n 2, 1) := by decide +kernel
theorem dX0_makeWords_36 : decode cX0_makeWords 36 = .ok (.iload_n 1, 1) := by decide +kernel
theorem dX0_makeWords_37 : decode cX0_makeWords 37 = .ok (.invokevirtual 49, 3) := by decide +kernel
theorem dX0_makeWords_40 : decode cX0_makeWords 40 = .ok (.iload_n 1, 1) := by decide +kernel
theorem dX0_makeWords_41 : decode cX0_makeWords 41 = .ok (.invokestatic 53, 3) := by decide +kernel
theorem dX0_makeWords_44 : decode cX0_makeWords 44 = .ok (.istore_n 1, 1) := by decide +kernel
theorem dX0_makeWords_45 : decode cX0_makeWords 45 = .ok (.goto 8, 3) := by decide +kernel
theorem dX0_makeWords_48 : decode cX0_makeWords 48 = .ok (.aload_n 0, 1) := by decide +kernel
theorem dX0_makeWords_49 : decode cX0_makeWords 49 = .ok (.iload_n 2, 1) := by decide +kernel
theorem dX0_makeWords_50 : decode cX0_makeWords 50 = .ok (.invokevirtual 57, 3) := by decide +kernel
theorem dX0_makeWords_53 : decode cX0_makeWords 53 = .ok (.iinc 2 4, 3) := by decide +kernel
theorem dX0_makeWords_56 : decode cX0_makeWords 56 = .ok (.goto (-36), 3) := by decide +kernel
theorem dX0_makeWords_59 : decode cX0_makeWords 59 = .ok (.return_, 1) := by decide +kernel
theorem dX0_makePlainWord_0 : decode cX0_makePlainWord 0 = .ok (.iconst 0, 1) := by decide +kernel
theorem dX0_makePlainWord_1 : decode cX0_makePlainWord 1 = .ok (.istore_n 2, 1) := by decide +kernel
theorem dX0_makePlainWord_2 : decode cX0_makePlainWord 2 = .ok (.iload_n 2, 1) := by decide +kernel
theorem dX0_makePlainWord_3 : decode cX0_makePlainWord 3 = .ok (.iconst 4, 1) := by decide +kernel
theorem dX0_makePlainWord_4 : decode cX0_makePlainWord 4 = .ok (.if_icmp .ge 39, 3) := by decide +kernel
theorem dX0_makePlainWord_7 : decode cX0_makePlainWord 7 = .ok (.aload_n 0, 1) := by decide +kernel
theorem dX0_makePlainWord_8 : decode cX0_makePlainWord 8 = .ok (.getfield 15, 3) := by decide +kernel
theorem dX0_makePlainWord_11 : decode cX0_makePlainWord 11 = .ok (.iload_n 1, 1) := by decide +kernel
theorem dX0_makePlainWord_12 : decode cX0_makePlainWord 12 = .ok (.iload_n 2, 1) := by decide +kernel
theorem dX0_makePlainWord_13 : decode cX0_makePlainWord 13 = .ok (.iadd, 1) := by decide +kernel
theorem dX0_makePlainWord_14 : decode cX0_makePlainWord 14 = .ok (.aload_n 0, 1) := by decide +kernel
theorem dX0_makePlainWord_15 : decode cX0_makePlainWord 15 = .ok (.getfield 15, 3) := by decide +kernel
theorem dX0_makePlainWord_18 : decode cX0_makePlainWord 18 = .ok (.iload_n 1, 1) := by decide +kernel
theorem dX0_makePlainWord_19 : decode cX0_makePlainWord 19 = .ok (.bipush 16, 2) := by decide +kernel
theorem dX0_makePlainWord_21 : decode cX0_makePlainWord 21 = .ok (.isub, 1) := by decide +kernel
theorem dX0_makePlainWord_22 : decode cX0_makePlainWord 22 = .ok (.iload_n 2, 1) := by decide +kernel
theorem dX0_makePlainWord_23 : decode cX0_makePlainWord 23 = .ok (.iadd, 1) := by decide +kernel
theorem dX0_makePlainWord_24 : decode cX0_makePlainWord 24 = .ok (.iaload, 1) := by decide +kernel
theorem dX0_makePlainWord_25 : decode cX0_makePlainWord 25 = .ok (.aload_n 0, 1) := by decide +kernel
theorem dX0_makePlainWord_26 : decode cX0_makePlainWord 26 = .ok (.getfield 15, 3) := by decide +kernel
theorem dX0_makePlainWord_29 : decode cX0_makePlainWord 29 = .ok (.iload_n 1, 1) := by decide +kernel
theorem dX0_makePlainWord_30 : decode cX0_makePlainWord 30 = .ok (.iconst 4, 1) := by decide +kernel
theorem dX0_makePlainWord_31 : decode cX0_makePlainWord 31 = .ok (.isub, 1) := by decide +kernel
theorem dX0_makePlainWord_32 : decode cX0_makePlainWord 32 = .ok (.iload_n 2, 1) := by decide +kernel
theorem dX0_makePlainWord_33 : decode cX0_makePlainWord 33 = .ok (.iadd, 1) := by decide +kernel
theorem dX0_makePlainWord_34 : decode cX0_makePlainWord 34 = .ok (.iaload, 1) := by decide +kernel
theorem dX0_makePlainWord_35 : decode cX0_makePlainWord 35 = .ok (.ixor, 1) := by decide +kernel
theorem dX0_makePlainWord_36 : decode cX0_makePlainWord 36 = .ok (.iastore, 1) := by decide +kernel
theorem dX0_makePlainWord_37 : decode cX0_makePlainWord 37 = .ok (.iinc 2 1, 3) := by decide +kernel
theorem dX0_makePlainWord_40 : decode cX0_makePlainWord 40 = .ok (.goto (-38), 3) := by decide +kernel
theorem dX0_makePlainWord_43 : decode cX0_makePlainWord 43 = .ok (.return_, 1) := by decide +kernel
theorem dX0_makeTurnedWord_0 : decode cX0_makeTurnedWord 0 = .ok (.iconst 0, 1) := by decide +kernel
theorem dX0_makeTurnedWord_1 : decode cX0_makeTurnedWord 1 = .ok (.istore_n 3, 1) := by decide +kernel
theorem dX0_makeTurnedWord_2 : decode cX0_makeTurnedWord 2 = .ok (.iload_n 3, 1) := by decide +kernel
theorem dX0_makeTurnedWord_3 : decode cX0_makeTurnedWord 3 = .ok (.iconst 4, 1) := by decide +kernel
theorem dX0_makeTurnedWord_4 : decode cX0_makeTurnedWord 4 = .ok (.if_icmp .ge 47, 3) := by decide +kernel
theorem dX0_makeTurnedWord_7 : decode cX0_makeTurnedWord 7 = .ok (.aload_n 0, 1) := by decide +kernel
theorem dX0_makeTurnedWord_8 : decode cX0_makeTurnedWord 8 = .ok (.getfield 15, 3) := by decide +kernel
theorem dX0_makeTurnedWord_11 : decode cX0_makeTurnedWord 11 = .ok (.iload_n 1, 1) := by decide +kernel
theorem dX0_makeTurnedWord_12 : decode cX0_makeTurnedWord 12 = .ok (.iload_n 3, 1) := by decide +kernel
theorem dX0_makeTurnedWord_13 : decode cX0_makeTurnedWord 13 = .ok (.iadd, 1) := by decide +kernel
theorem dX0_makeTurnedWord_14 : decode cX0_makeTurnedWord 14 = .ok (.aload_n 0, 1) := by decide +kernel
theorem dX0_makeTurnedWord_15 : decode cX0_makeTurnedWord 15 = .ok (.getfield 15, 3) := by decide +kernel
theorem dX0_makeTurnedWord_18 : decode cX0_makeTurnedWord 18 = .ok (.iload_n 1, 1) := by decide +kernel
theorem dX0_makeTurnedWord_19 : decode cX0_makeTurnedWord 19 = .ok (.bipush 16, 2) := by decide +kernel
theorem dX0_makeTurnedWord_21 : decode cX0_makeTurnedWord 21 = .ok (.isub, 1) := by decide +kernel
theorem dX0_makeTurnedWord_22 : decode cX0_makeTurnedWord 22 = .ok (.iload_n 3, 1) := by decide +kernel
theorem dX0_makeTurnedWord_23 : decode cX0_makeTurnedWord 23 = .ok (.iadd, 1) := by decide +kernel
theorem dX0_makeTurnedWord_24 : decode cX0_makeTurnedWord 24 = .ok (.iaload, 1) := by decide +kernel
theorem dX0_makeTurnedWord_25 : decode cX0_makeTurnedWord 25 = .ok (.getstatic 61, 3) := by decide +kernel
theorem dX0_makeTurnedWord_28 : decode cX0_makeTurnedWord 28 = .ok (.aload_n 0, 1) := by decide +kernel
theorem dX0_makeTurnedWord_29 : decode cX0_makeTurnedWord 29 = .ok (.getfield 15, 3) := by decide +kernel
theorem dX0_makeTurnedWord_32 : decode cX0_makeTurnedWord 32 = .ok (.iload_n 1, 1) := by decide +kernel
theorem dX0_makeTurnedWord_33 : decode cX0_makeTurnedWord 33 = .ok (.iconst 4, 1) := by decide +kernel
theorem dX0_makeTurnedWord_34 : decode cX0_makeTurnedWord 34 = .ok (.isub, 1) := by decide +kernel
theorem dX0_makeTurnedWord_35 : decode cX0_makeTurnedWord 35 = .ok (.iload_n 3, 1) := by decide +kernel
theorem dX0_makeTurnedWord_36 : decode cX0_makeTurnedWord 36 = .ok (.iconst 1, 1) := by decide +kernel
theorem dX0_makeTurnedWord_37 : decode cX0_makeTurnedWord 37 = .ok (.iadd, 1) := by decide +kernel
theorem dX0_makeTurnedWord_38 : decode cX0_makeTurnedWord 38 = .ok (.iconst 4, 1) := by decide +kernel
theorem dX0_makeTurnedWord_39 : decode cX0_makeTurnedWord 39 = .ok (.irem, 1) := by decide +kernel
theorem dX0_makeTurnedWord_40 : decode cX0_makeTurnedWord 40 = .ok (.iadd, 1) := by decide +kernel
theorem dX0_makeTurnedWord_41 : decode cX0_makeTurnedWord 41 = .ok (.iaload, 1) := by decide +kernel
theorem dX0_makeTurnedWord_42 : decode cX0_makeTurnedWord 42 = .ok (.iaload, 1) := by decide +kernel
theorem dX0_makeTurnedWord_43 : decode cX0_makeTurnedWord 43 = .ok (.ixor, 1) := by decide +kernel
theorem dX0_makeTurnedWord_44 : decode cX0_makeTurnedWord 44 = .ok (.iastore, 1) := by decide +kernel
theorem dX0_makeTurnedWord_45 : decode cX0_makeTurnedWord 45 = .ok (.iinc 3 1, 3) := by decide +kernel
theorem dX0_makeTurnedWord_48 : decode cX0_makeTurnedWord 48 = .ok (.goto (-46), 3) := by decide +kernel
theorem dX0_makeTurnedWord_51 : decode cX0_makeTurnedWord 51 = .ok (.aload_n 0, 1) := by decide +kernel
theorem dX0_makeTurnedWord_52 : decode cX0_makeTurnedWord 52 = .ok (.getfield 15, 3) := by decide +kernel
theorem dX0_makeTurnedWord_55 : decode cX0_makeTurnedWord 55 = .ok (.iload_n 1, 1) := by decide +kernel
theorem dX0_makeTurnedWord_56 : decode cX0_makeTurnedWord 56 = .ok (.dup2, 1) := by decide +kernel
theorem dX0_makeTurnedWord_57 : decode cX0_makeTurnedWord 57 = .ok (.iaload, 1) := by decide +kernel
theorem dX0_makeTurnedWord_58 : decode cX0_makeTurnedWord 58 = .ok (.iload_n 2, 1) := by decide +kernel
theorem dX0_makeTurnedWord_59 : decode cX0_makeTurnedWord 59 = .ok (.ixor, 1) := by decide +kernel
theorem dX0_makeTurnedWord_60 : decode cX0_makeTurnedWord 60 = .ok (.iastore, 1) := by decide +kernel
theorem dX0_makeTurnedWord_61 : decode cX0_makeTurnedWord 61 = .ok (.return_, 1) := by decide +kernel
theorem dX0_makeHalves_0 : decode cX0_makeHalves 0 = .ok (.aload_n 0, 1) := by decide +kernel
theorem dX0_makeHalves_1 : decode cX0_makeHalves 1 = .ok (.getfield 18, 3) := by decide +kernel
theorem dX0_makeHalves_4 : decode cX0_makeHalves 4 = .ok (.iconst 0, 1) := by decide +kernel
theorem dX0_makeHalves_5 : decode cX0_makeHalves 5 = .ok (.invokestatic 31, 3) := by decide +kernel
theorem dX0_makeHalves_8 : decode cX0_makeHalves 8 = .ok (.aload_n 0, 1) := by decide +kernel
theorem dX0_makeHalves_9 : decode cX0_makeHalves 9 = .ok (.aload_n 0, 1) := by decide +kernel
theorem dX0_makeHalves_10 : decode cX0_makeHalves 10 = .ok (.getfield 18, 3) := by decide +kernel
theorem dX0_makeHalves_13 : decode cX0_makeHalves 13 = .ok (.invokevirtual 64, 3) := by decide +kernel
theorem dX0_makeHalves_16 : decode cX0_makeHalves 16 = .ok (.aload_n 0, 1) := by decide +kernel
theorem dX0_makeHalves_17 : decode cX0_makeHalves 17 = .ok (.getfield 18, 3) := by decide +kernel
theorem dX0_makeHalves_20 : decode cX0_makeHalves 20 = .ok (.aload_n 0, 1) := by decide +kernel
theorem dX0_makeHalves_21 : decode cX0_makeHalves 21 = .ok (.getfield 18, 3) := by decide +kernel
theorem dX0_makeHalves_24 : decode cX0_makeHalves 24 = .ok (.invokestatic 68, 3) := by decide +kernel
theorem dX0_makeHalves_27 : decode cX0_makeHalves 27 = .ok (.aload_n 0, 1) := by decide +kernel
theorem dX0_makeHalves_28 : decode cX0_makeHalves 28 = .ok (.getfield 18, 3) := by decide +kernel
theorem dX0_makeHalves_31 : decode cX0_makeHalves 31 = .ok (.aload_n 0, 1) := by decide +kernel
theorem dX0_makeHalves_32 : decode cX0_makeHalves 32 = .ok (.getfield 21, 3) := by decide +kernel
theorem dX0_makeHalves_35 : decode cX0_makeHalves 35 = .ok (.invokestatic 68, 3) := by decide +kernel
theorem dX0_makeHalves_38 : decode cX0_makeHalves 38 = .ok (.return_, 1) := by decide +kernel
theorem dX0_putDoubled_0 : decode cX0_putDoubled 0 = .ok (.aload_n 0, 1) := by decide +kernel
theorem dX0_putDoubled_1 : decode cX0_putDoubled 1 = .ok (.iconst 0, 1) := by decide +kernel
theorem dX0_putDoubled_2 : decode cX0_putDoubled 2 = .ok (.iaload, 1) := by decide +kernel
theorem dX0_putDoubled_3 : decode cX0_putDoubled 3 = .ok (.sipush 128, 3) := by decide +kernel
theorem dX0_putDoubled_6 : decode cX0_putDoubled 6 = .ok (.if_icmp .lt 9, 3) := by decide +kernel
theorem dX0_putDoubled_9 : decode cX0_putDoubled 9 = .ok (.sipush 135, 3) := by decide +kernel
theorem dX0_putDoubled_12 : decode cX0_putDoubled 12 = .ok (.goto 4, 3) := by decide +kernel
theorem dX0_putDoubled_15 : decode cX0_putDoubled 15 = .ok (.iconst 0, 1) := by decide +kernel
theorem dX0_putDoubled_16 : decode cX0_putDoubled 16 = .ok (.istore_n 2, 1) := by decide +kernel
theorem dX0_putDoubled_17 : decode cX0_putDoubled 17 = .ok (.iconst 0, 1) := by decide +kernel
theorem dX0_putDoubled_18 : decode cX0_putDoubled 18 = .ok (.istore_n 3, 1) := by decide +kernel
theorem dX0_putDoubled_19 : decode cX0_putDoubled 19 = .ok (.iload_n 3, 1) := by decide +kernel
theorem dX0_putDoubled_20 : decode cX0_putDoubled 20 = .ok (.bipush 15, 2) := by decide +kernel
theorem dX0_putDoubled_22 : decode cX0_putDoubled 22 = .ok (.if_icmp .ge 30, 3) := by decide +kernel
theorem dX0_putDoubled_25 : decode cX0_putDoubled 25 = .ok (.aload_n 1, 1) := by decide +kernel
theorem dX0_putDoubled_26 : decode cX0_putDoubled 26 = .ok (.iload_n 3, 1) := by decide +kernel
theorem dX0_putDoubled_27 : decode cX0_putDoubled 27 = .ok (.aload_n 0, 1) := by decide +kernel
theorem dX0_putDoubled_28 : decode cX0_putDoubled 28 = .ok (.iload_n 3, 1) := by decide +kernel
theorem dX0_putDoubled_29 : decode cX0_putDoubled 29 = .ok (.iaload, 1) := by decide +kernel
theorem dX0_putDoubled_30 : decode cX0_putDoubled 30 = .ok (.iconst 1, 1) := by decide +kernel
theorem dX0_putDoubled_31 : decode cX0_putDoubled 31 = .ok (.ishl, 1) := by decide +kernel
theorem dX0_putDoubled_32 : decode cX0_putDoubled 32 = .ok (.sipush 255, 3) := by decide +kernel
theorem dX0_putDoubled_35 : decode cX0_putDoubled 35 = .ok (.iand, 1) := by decide +kernel
theorem dX0_putDoubled_36 : decode cX0_putDoubled 36 = .ok (.aload_n 0, 1) := by decide +kernel
theorem dX0_putDoubled_37 : decode cX0_putDoubled 37 = .ok (.iload_n 3, 1) := by decide +kernel
theorem dX0_putDoubled_38 : decode cX0_putDoubled 38 = .ok (.iconst 1, 1) := by decide +kernel
theorem dX0_putDoubled_39 : decode cX0_putDoubled 39 = .ok (.iadd, 1) := by decide +kernel
theorem dX0_putDoubled_40 : decode cX0_putDoubled 40 = .ok (.iaload, 1) := by decide +kernel
theorem dX0_putDoubled_41 : decode cX0_putDoubled 41 = .ok (.bipush 7, 2) := by decide +kernel
theorem dX0_putDoubled_43 : decode cX0_putDoubled 43 = .ok (.ishr, 1) := by decide +kernel
theorem dX0_putDoubled_44 : decode cX0_putDoubled 44 = .ok (.ior, 1) := by decide +kernel
theorem dX0_putDoubled_45 : decode cX0_putDoubled 45 = .ok (.iastore, 1) := by decide +kernel
theorem dX0_putDoubled_46 : decode cX0_putDoubled 46 = .ok (.iinc 3 1, 3) := by decide +kernel
theorem dX0_putDoubled_49 : decode cX0_putDoubled 49 = .ok (.goto (-30), 3) := by decide +kernel
theorem dX0_putDoubled_52 : decode cX0_putDoubled 52 = .ok (.aload_n 1, 1) := by decide +kernel
theorem dX0_putDoubled_53 : decode cX0_putDoubled 53 = .ok (.bipush 15, 2) := by decide +kernel
theorem dX0_putDoubled_55 : decode cX0_putDoubled 55 = .ok (.aload_n 0, 1) := by decide +kernel
theorem dX0_putDoubled_56 : decode cX0_putDoubled 56 = .ok (.bipush 15, 2) := by decide +kernel
theorem dX0_putDoubled_58 : decode cX0_putDoubled 58 = .ok (.iaload, 1) := by decide +kernel
theorem dX0_putDoubled_59 : decode cX0_putDoubled 59 = .ok (.iconst 1, 1) := by decide +kernel
theorem dX0_putDoubled_60 : decode cX0_putDoubled 60 = .ok (.ishl, 1) := by decide +kernel
theorem dX0_putDoubled_61 : decode cX0_putDoubled 61 = .ok (.sipush 255, 3) := by decide +kernel
theorem dX0_putDoubled_64 : decode cX0_putDoubled 64 = .ok (.iand, 1) := by decide +kernel
theorem dX0_putDoubled_65 : decode cX0_putDoubled 65 = .ok (.iload_n 2, 1) := by decide +kernel
theorem dX0_putDoubled_66 : decode cX0_putDoubled 66 = .ok (.ixor, 1) := by decide +kernel
theorem dX0_putDoubled_67 : decode cX0_putDoubled 67 = .ok (.iastore, 1) := by decide +kernel
theorem dX0_putDoubled_68 : decode cX0_putDoubled 68 = .ok (.return_, 1) := by decide +kernel
theorem dX0_goForth_0 : decode cX0_goForth 0 = .ok (.aload_n 1, 1) := by decide +kernel
theorem dX0_goForth_1 : decode cX0_goForth 1 = .ok (.aload_n 0, 1) := by decide +kernel
theorem dX0_goForth_2 : decode cX0_goForth 2 = .ok (.getfield 15, 3) := by decide +kernel
theorem dX0_goForth_5 : decode cX0_goForth 5 = .ok (.iconst 0, 1) := by decide +kernel
theorem dX0_goForth_6 : decode cX0_goForth 6 = .ok (.invokestatic 72, 3) := by decide +kernel
theorem dX0_goForth_9 : decode cX0_goForth 9 = .ok (.iconst 1, 1) := by decide +kernel
theorem dX0_goForth_10 : decode cX0_goForth 10 = .ok (.istore_n 2, 1) := by decide +kernel
theorem dX0_goForth_11 : decode cX0_goForth 11 = .ok (.iload_n 2, 1) := by decide +kernel
theorem dX0_goForth_12 : decode cX0_goForth 12 = .ok (.bipush 10, 2) := by decide +kernel
theorem dX0_goForth_14 : decode cX0_goForth 14 = .ok (.if_icmp .gt 36, 3) := by decide +kernel
theorem dX0_goForth_17 : decode cX0_goForth 17 = .ok (.aload_n 0, 1) := by decide +kernel
theorem dX0_goForth_18 : decode cX0_goForth 18 = .ok (.aload_n 1, 1) := by decide +kernel
theorem dX0_goForth_19 : decode cX0_goForth 19 = .ok (.invokevirtual 76, 3) := by decide +kernel
theorem dX0_goForth_22 : decode cX0_goForth 22 = .ok (.iload_n 2, 1) := by decide +kernel
theorem dX0_goForth_23 : decode cX0_goForth 23 = .ok (.bipush 10, 2) := by decide +kernel
theorem dX0_goForth_25 : decode cX0_goForth 25 = .ok (.if_icmp .ge 7, 3) := by decide +kernel
theorem dX0_goForth_28 : decode cX0_goForth 28 = .ok (.aload_n 1, 1) := by decide +kernel
theorem dX0_goForth_29 : decode cX0_goForth 29 = .ok (.invokestatic 79, 3) := by decide +kernel
theorem dX0_goForth_32 : decode cX0_goForth 32 = .ok (.aload_n 1, 1) := by decide +kernel
theorem dX0_goForth_33 : decode cX0_goForth 33 = .ok (.aload_n 0, 1) := by decide +kernel
theorem dX0_goForth_34 : decode cX0_goForth 34 = .ok (.getfield 15, 3) := by decide +kernel
theorem dX0_goForth_37 : decode cX0_goForth 37 = .ok (.bipush 16, 2) := by decide +kernel
theorem dX0_goForth_39 : decode cX0_goForth 39 = .ok (.iload_n 2, 1) := by decide +kernel
theorem dX0_goForth_40 : decode cX0_goForth 40 = .ok (.imul, 1) := by decide +kernel
theorem dX0_goForth_41 : decode cX0_goForth 41 = .ok (.invokestatic 72, 3) := by decide +kernel
theorem dX0_goForth_44 : decode cX0_goForth 44 = .ok (.iinc 2 1, 3) := by decide +kernel
theorem dX0_goForth_47 : decode cX0_goForth 47 = .ok (.goto (-36), 3) := by decide +kernel
theorem dX0_goForth_50 : decode cX0_goForth 50 = .ok (.return_, 1) := by decide +kernel
theorem dX0_goBack_0 : decode cX0_goBack 0 = .ok (.bipush 10, 2) := by decide +kernel
theorem dX0_goBack_2 : decode cX0_goBack 2 = .ok (.istore_n 2, 1) := by decide +kernel
theorem dX0_goBack_3 : decode cX0_goBack 3 = .ok (.iload_n 2, 1) := by decide +kernel
theorem dX0_goBack_4 : decode cX0_goBack 4 = .ok (.iconst 1, 1) := by decide +kernel
theorem dX0_goBack_5 : decode cX0_goBack 5 = .ok (.if_icmp .lt 36, 3) := by decide +kernel
theorem dX0_goBack_8 : decode cX0_goBack 8 = .ok (.aload_n 1, 1) := by decide +kernel
theorem dX0_goBack_9 : decode cX0_goBack 9 = .ok (.aload_n 0, 1) := by decide +kernel
theorem dX0_goBack_10 : decode cX0_goBack 10 = .ok (.getfield 15, 3) := by decide +kernel
theorem dX0_goBack_13 : decode cX0_goBack 13 = .ok (.bipush 16, 2) := by decide +kernel
theorem dX0_goBack_15 : decode cX0_goBack 15 = .ok (.iload_n 2, 1) := by decide +kernel
theorem dX0_goBack_16 : decode cX0_goBack 16 = .ok (.imul, 1) := by decide +kernel
theorem dX0_goBack_17 : decode cX0_goBack 17 = .ok (.invokestatic 72, 3) := by decide +kernel
theorem dX0_goBack_20 : decode cX0_goBack 20 = .ok (.iload_n 2, 1) := by decide +kernel
theorem dX0_goBack_21 : decode cX0_goBack 21 = .ok (.bipush 10, 2) := by decide +kernel
theorem dX0_goBack_23 : decode cX0_goBack 23 = .ok (.if_icmp .ge 7, 3) := by decide +kernel
theorem dX0_goBack_26 : decode cX0_goBack 26 = .ok (.aload_n 1, 1) := by decide +kernel
theorem dX0_goBack_27 : decode cX0_goBack 27 = .ok (.invokestatic 82, 3) := by decide +kernel
theorem dX0_goBack_30 : decode cX0_goBack 30 = .ok (.aload_n 0, 1) := by decide +kernel
theorem dX0_goBack_31 : decode cX0_goBack 31 = .ok (.aload_n 1, 1) := by decide +kernel
theorem dX0_goBack_32 : decode cX0_goBack 32 = .ok (.invokevirtual 85, 3) := by decide +kernel
theorem dX0_goBack_35 : decode cX0_goBack 35 = .ok (.iinc 2 (-1), 3) := by decide +kernel
theorem dX0_goBack_38 : decode cX0_goBack 38 = .ok (.goto (-35), 3) := by decide +kernel
theorem dX0_goBack_41 : decode cX0_goBack 41 = .ok (.aload_n 1, 1) := by decide +kernel
theorem dX0_goBack_42 : decode cX0_goBack 42 = .ok (.aload_n 0, 1) := by decide +kernel
theorem dX0_goBack_43 : decode cX0_goBack 43 = .ok (.getfield 15, 3) := by decide +kernel
theorem dX0_goBack_46 : decode cX0_goBack 46 = .ok (.iconst 0, 1) := by decide +kernel
theorem dX0_goBack_47 : decode cX0_goBack 47 = .ok (.invokestatic 72, 3) := by decide +kernel
theorem dX0_goBack_50 : decode cX0_goBack 50 = .ok (.return_, 1) := by decide +kernel
theorem dX0_replaceAndMove_0 : decode cX0_replaceAndMove 0 = .ok (.iconst 0, 1) := by decide +kernel
theorem dX0_replaceAndMove_1 : decode cX0_replaceAndMove 1 = .ok (.istore_n 2, 1) := by decide +kernel
theorem dX0_replaceAndMove_2 : decode cX0_replaceAndMove 2 = .ok (.iload_n 2, 1) := by decide +kernel
theorem dX0_replaceAndMove_3 : decode cX0_replaceAndMove 3 = .ok (.bipush 16, 2) := by decide +kernel
theorem dX0_replaceAndMove_5 : decode cX0_replaceAndMove 5 = .ok (.if_icmp .ge 25, 3) := by decide +kernel
theorem dX0_replaceAndMove_8 : decode cX0_replaceAndMove 8 = .ok (.aload_n 0, 1) := by decide +kernel
theorem dX0_replaceAndMove_9 : decode cX0_replaceAndMove 9 = .ok (.getfield 24, 3) := by decide +kernel
theorem dX0_replaceAndMove_12 : decode cX0_replaceAndMove 12 = .ok (.iload_n 2, 1) := by decide +kernel
theorem dX0_replaceAndMove_13 : decode cX0_replaceAndMove 13 = .ok (.getstatic 61, 3) := by decide +kernel
theorem dX0_replaceAndMove_16 : decode cX0_replaceAndMove 16 = .ok (.aload_n 1, 1) := by decide +kernel
theorem dX0_replaceAndMove_17 : decode cX0_replaceAndMove 17 = .ok (.iload_n 2, 1) := by decide +kernel
theorem dX0_replaceAndMove_18 : decode cX0_replaceAndMove 18 = .ok (.invokestatic 88, 3) := by decide +kernel
theorem dX0_replaceAndMove_21 : decode cX0_replaceAndMove 21 = .ok (.iaload, 1) := by decide +kernel
theorem dX0_replaceAndMove_22 : decode cX0_replaceAndMove 22 = .ok (.iaload, 1) := by decide +kernel
theorem dX0_replaceAndMove_23 : decode cX0_replaceAndMove 23 = .ok (.iastore, 1) := by decide +kernel
theorem dX0_replaceAndMove_24 : decode cX0_replaceAndMove 24 = .ok (.iinc 2 1, 3) := by decide +kernel
theorem dX0_replaceAndMove_27 : decode cX0_replaceAndMove 27 = .ok (.goto (-25), 3) := by decide +kernel
theorem dX0_replaceAndMove_30 : decode cX0_replaceAndMove 30 = .ok (.aload_n 0, 1) := by decide +kernel
theorem dX0_replaceAndMove_31 : decode cX0_replaceAndMove 31 = .ok (.getfield 24, 3) := by decide +kernel
theorem dX0_replaceAndMove_34 : decode cX0_replaceAndMove 34 = .ok (.iconst 0, 1) := by decide +kernel
theorem dX0_replaceAndMove_35 : decode cX0_replaceAndMove 35 = .ok (.aload_n 1, 1) := by decide +kernel
theorem dX0_replaceAndMove_36 : decode cX0_replaceAndMove 36 = .ok (.iconst 0, 1) := by decide +kernel
theorem dX0_replaceAndMove_37 : decode cX0_replaceAndMove 37 = .ok (.bipush 16, 2) := by decide +kernel
theorem dX0_replaceAndMove_39 : decode cX0_replaceAndMove 39 = .ok (.invokestatic 43, 3) := by decide +kernel
theorem dX0_replaceAndMove_42 : decode cX0_replaceAndMove 42 = .ok (.return_, 1) := by decide +kernel
theorem dX0_moveAndReplaceBack_0 : decode cX0_moveAndReplaceBack 0 = .ok (.iconst 0, 1) := by decide +kernel
theorem dX0_moveAndReplaceBack_1 : decode cX0_moveAndReplaceBack 1 = .ok (.istore_n 2, 1) := by decide +kernel
theorem dX0_moveAndReplaceBack_2 : decode cX0_moveAndReplaceBack 2 = .ok (.iload_n 2, 1) := by decide +kernel
theorem dX0_moveAndReplaceBack_3 : decode cX0_moveAndReplaceBack 3 = .ok (.bipush 16, 2) := by decide +kernel
theorem dX0_moveAndReplaceBack_5 : decode cX0_moveAndReplaceBack 5 = .ok (.if_icmp .ge 25, 3) := by decide +kernel
theorem dX0_moveAndReplaceBack_8 : decode cX0_moveAndReplaceBack 8 = .ok (.aload_n 0, 1) := by decide +kernel
theorem dX0_moveAndReplaceBack_9 : decode cX0_moveAndReplaceBack 9 = .ok (.getfield 24, 3) := by decide +kernel
theorem dX0_moveAndReplaceBack_12 : decode cX0_moveAndReplaceBack 12 = .ok (.iload_n 2, 1) := by decide +kernel
theorem dX0_moveAndReplaceBack_13 : decode cX0_moveAndReplaceBack 13 = .ok (.invokestatic 88, 3) := by decide +kernel
theorem dX0_moveAndReplaceBack_16 : decode cX0_moveAndReplaceBack 16 = .ok (.getstatic 91, 3) := by decide +kernel
theorem dX0_moveAndReplaceBack_19 : decode cX0_moveAndReplaceBack 19 = .ok (.aload_n 1, 1) := by decide +kernel
theorem dX0_moveAndReplaceBack_20 : decode cX0_moveAndReplaceBack 20 = .ok (.iload_n 2, 1) := by decide +kernel
theorem dX0_moveAndReplaceBack_21 : decode cX0_moveAndReplaceBack 21 = .ok (.iaload, 1) := by decide +kernel
theorem dX0_moveAndReplaceBack_22 : decode cX0_moveAndReplaceBack 22 = .ok (.iaload, 1) := by decide +kernel
theorem dX0_moveAndReplaceBack_23 : decode cX0_moveAndReplaceBack 23 = .ok (.iastore, 1) := by decide +kernel
theorem dX0_moveAndReplaceBack_24 : decode cX0_moveAndReplaceBack 24 = .ok (.iinc 2 1, 3) := by decide +kernel
theorem dX0_moveAndReplaceBack_27 : decode cX0_moveAndReplaceBack 27 = .ok (.goto (-25), 3) := by decide +kernel
theorem dX0_moveAndReplaceBack_30 : decode cX0_moveAndReplaceBack 30 = .ok (.aload_n 0, 1) := by decide +kernel
theorem dX0_moveAndReplaceBack_31 : decode cX0_moveAndReplaceBack 31 = .ok (.getfield 24, 3) := by decide +kernel
theorem dX0_moveAndReplaceBack_34 : decode cX0_moveAndReplaceBack 34 = .ok (.iconst 0, 1) := by decide +kernel
theorem dX0_moveAndReplaceBack_35 : decode cX0_moveAndReplaceBack 35 = .ok (.aload_n 1, 1) := by decide +kernel
theorem dX0_moveAndReplaceBack_36 : decode cX0_moveAndReplaceBack 36 = .ok (.iconst 0, 1) := by decide +kernel
theorem dX0_moveAndReplaceBack_37 : decode cX0_moveAndReplaceBack 37 = .ok (.bipush 16, 2) := by decide +kernel
theorem dX0_moveAndReplaceBack_39 : decode cX0_moveAndReplaceBack 39 = .ok (.invokestatic 43, 3) := by decide +kernel
theorem dX0_moveAndReplaceBack_42 : decode cX0_moveAndReplaceBack 42 = .ok (.return_, 1) := by decide +kernel
theorem dX0_source_0 : decode cX0_source 0 = .ok (.iload_n 0, 1) := by decide +kernel
theorem dX0_source_1 : decode cX0_source 1 = .ok (.iconst 4, 1) := by decide +kernel
theorem dX0_source_2 : decode cX0_source 2 = .ok (.iload_n 0, 1) := by decide +kernel
theorem dX0_source_3 : decode cX0_source 3 = .ok (.iconst 4, 1) := by decide +kernel
theorem dX0_source_4 : decode cX0_source 4 = .ok (.irem, 1) := by decide +kernel
theorem dX0_source_5 : decode cX0_source 5 = .ok (.imul, 1) := by decide +kernel
theorem dX0_source_6 : decode cX0_source 6 = .ok (.iadd, 1) := by decide +kernel
theorem dX0_source_7 : decode cX0_source 7 = .ok (.bipush 16, 2) := by decide +kernel
theorem dX0_source_9 : decode cX0_source 9 = .ok (.irem, 1) := by decide +kernel
theorem dX0_source_10 : decode cX0_source 10 = .ok (.ireturn, 1) := by decide +kernel
theorem dX0_mix_0 : decode cX0_mix 0 = .ok (.iconst 0, 1) := by decide +kernel
theorem dX0_mix_1 : decode cX0_mix 1 = .ok (.istore_n 1, 1) := by decide +kernel
theorem dX0_mix_2 : decode cX0_mix 2 = .ok (.iload_n 1, 1) := by decide +kernel
theorem dX0_mix_3 : decode cX0_mix 3 = .ok (.bipush 16, 2) := by decide +kernel
theorem dX0_mix_5 : decode cX0_mix 5 = .ok (.if_icmp .ge 87, 3) := by decide +kernel
theorem dX0_mix_8 : decode cX0_mix 8 = .ok (.aload_n 0, 1) := by decide +kernel
theorem dX0_mix_9 : decode cX0_mix 9 = .ok (.iload_n 1, 1) := by decide +kernel
theorem dX0_mix_10 : decode cX0_mix 10 = .ok (.iaload, 1) := by decide +kernel
theorem dX0_mix_11 : decode cX0_mix 11 = .ok (.istore_n 2, 1) := by decide +kernel
theorem dX0_mix_12 : decode cX0_mix 12 = .ok (.aload_n 0, 1) := by decide +kernel
theorem dX0_mix_13 : decode cX0_mix 13 = .ok (.iload_n 1, 1) := by decide +kernel
theorem dX0_mix_14 : decode cX0_mix 14 = .ok (.iconst 1, 1) := by decide +kernel
theorem dX0_mix_15 : decode cX0_mix 15 = .ok (.iadd, 1) := by decide +kernel
theorem dX0_mix_16 : decode cX0_mix 16 = .ok (.iaload, 1) := by decide +kernel
theorem dX0_mix_17 : decode cX0_mix 17 = .ok (.istore_n 3, 1) := by decide +kernel
theorem dX0_mix_18 : decode cX0_mix 18 = .ok (.aload_n 0, 1) := by decide +kernel
theorem dX0_mix_19 : decode cX0_mix 19 = .ok (.iload_n 1, 1) := by decide +kernel
theorem dX0_mix_20 : decode cX0_mix 20 = .ok (.iconst 2, 1) := by decide +kernel
theorem dX0_mix_21 : decode cX0_mix 21 = .ok (.iadd, 1) := by decide +kernel
theorem dX0_mix_22 : decode cX0_mix 22 = .ok (.iaload, 1) := by decide +kernel
theorem dX0_mix_23 : decode cX0_mix 23 = .ok (.istore 4, 2) := by decide +kernel
theorem dX0_mix_25 : decode cX0_mix 25 = .ok (.aload_n 0, 1) := by decide +kernel
theorem dX0_mix_26 : decode cX0_mix 26 = .ok (.iload_n 1, 1) := by decide +kernel
theorem dX0_mix_27 : decode cX0_mix 27 = .ok (.iconst 3, 1) := by decide +kernel
theorem dX0_mix_28 : decode cX0_mix 28 = .ok (.iadd, 1) := by decide +kernel
theorem dX0_mix_29 : decode cX0_mix 29 = .ok (.iaload, 1) := by decide +kernel
theorem dX0_mix_30 : decode cX0_mix 30 = .ok (.istore 5, 2) := by decide +kernel
theorem dX0_mix_32 : decode cX0_mix 32 = .ok (.aload_n 0, 1) := by decide +kernel
theorem dX0_mix_33 : decode cX0_mix 33 = .ok (.iload_n 1, 1) := by decide +kernel
theorem dX0_mix_34 : decode cX0_mix 34 = .ok (.iload_n 2, 1) := by decide +kernel
theorem dX0_mix_35 : decode cX0_mix 35 = .ok (.iload_n 3, 1) := by decide +kernel
theorem dX0_mix_36 : decode cX0_mix 36 = .ok (.iload 4, 2) := by decide +kernel
theorem dX0_mix_38 : decode cX0_mix 38 = .ok (.iload 5, 2) := by decide +kernel
theorem dX0_mix_40 : decode cX0_mix 40 = .ok (.invokestatic 94, 3) := by decide +kernel
theorem dX0_mix_43 : decode cX0_mix 43 = .ok (.iastore, 1) := by decide +kernel
theorem dX0_mix_44 : decode cX0_mix 44 = .ok (.aload_n 0, 1) := by decide +kernel
theorem dX0_mix_45 : decode cX0_mix 45 = .ok (.iload_n 1, 1) := by decide +kernel
theorem dX0_mix_46 : decode cX0_mix 46 = .ok (.iconst 1, 1) := by decide +kernel
theorem dX0_mix_47 : decode cX0_mix 47 = .ok (.iadd, 1) := by decide +kernel
theorem dX0_mix_48 : decode cX0_mix 48 = .ok (.iload_n 3, 1) := by decide +kernel
theorem dX0_mix_49 : decode cX0_mix 49 = .ok (.iload 4, 2) := by decide +kernel
theorem dX0_mix_51 : decode cX0_mix 51 = .ok (.iload 5, 2) := by decide +kernel
theorem dX0_mix_53 : decode cX0_mix 53 = .ok (.iload_n 2, 1) := by decide +kernel
theorem dX0_mix_54 : decode cX0_mix 54 = .ok (.invokestatic 94, 3) := by decide +kernel
theorem dX0_mix_57 : decode cX0_mix 57 = .ok (.iastore, 1) := by decide +kernel
theorem dX0_mix_58 : decode cX0_mix 58 = .ok (.aload_n 0, 1) := by decide +kernel
theorem dX0_mix_59 : decode cX0_mix 59 = .ok (.iload_n 1, 1) := by decide +kernel
theorem dX0_mix_60 : decode cX0_mix 60 = .ok (.iconst 2, 1) := by decide +kernel
theorem dX0_mix_61 : decode cX0_mix 61 = .ok (.iadd, 1) := by decide +kernel
theorem dX0_mix_62 : decode cX0_mix 62 = .ok (.iload 4, 2) := by decide +kernel
theorem dX0_mix_64 : decode cX0_mix 64 = .ok (.iload 5, 2) := by decide +kernel
theorem dX0_mix_66 : decode cX0_mix 66 = .ok (.iload_n 2, 1) := by decide +kernel
theorem dX0_mix_67 : decode cX0_mix 67 = .ok (.iload_n 3, 1) := by decide +kernel
theorem dX0_mix_68 : decode cX0_mix 68 = .ok (.invokestatic 94, 3) := by decide +kernel
theorem dX0_mix_71 : decode cX0_mix 71 = .ok (.iastore, 1) := by decide +kernel
theorem dX0_mix_72 : decode cX0_mix 72 = .ok (.aload_n 0, 1) := by decide +kernel
theorem dX0_mix_73 : decode cX0_mix 73 = .ok (.iload_n 1, 1) := by decide +kernel
theorem dX0_mix_74 : decode cX0_mix 74 = .ok (.iconst 3, 1) := by decide +kernel
theorem dX0_mix_75 : decode cX0_mix 75 = .ok (.iadd, 1) := by decide +kernel
theorem dX0_mix_76 : decode cX0_mix 76 = .ok (.iload 5, 2) := by decide +kernel
theorem dX0_mix_78 : decode cX0_mix 78 = .ok (.iload_n 2, 1) := by decide +kernel
theorem dX0_mix_79 : decode cX0_mix 79 = .ok (.iload_n 3, 1) := by decide +kernel
theorem dX0_mix_80 : decode cX0_mix 80 = .ok (.iload 4, 2) := by decide +kernel
theorem dX0_mix_82 : decode cX0_mix 82 = .ok (.invokestatic 94, 3) := by decide +kernel
theorem dX0_mix_85 : decode cX0_mix 85 = .ok (.iastore, 1) := by decide +kernel
theorem dX0_mix_86 : decode cX0_mix 86 = .ok (.iinc 1 4, 3) := by decide +kernel
theorem dX0_mix_89 : decode cX0_mix 89 = .ok (.goto (-87), 3) := by decide +kernel
theorem dX0_mix_92 : decode cX0_mix 92 = .ok (.return_, 1) := by decide +kernel
theorem dX0_unmix_0 : decode cX0_unmix 0 = .ok (.aload_n 0, 1) := by decide +kernel
theorem dX0_unmix_1 : decode cX0_unmix 1 = .ok (.invokestatic 79, 3) := by decide +kernel
theorem dX0_unmix_4 : decode cX0_unmix 4 = .ok (.aload_n 0, 1) := by decide +kernel
theorem dX0_unmix_5 : decode cX0_unmix 5 = .ok (.invokestatic 79, 3) := by decide +kernel
theorem dX0_unmix_8 : decode cX0_unmix 8 = .ok (.aload_n 0, 1) := by decide +kernel
theorem dX0_unmix_9 : decode cX0_unmix 9 = .ok (.invokestatic 79, 3) := by decide +kernel
theorem dX0_unmix_12 : decode cX0_unmix 12 = .ok (.return_, 1) := by decide +kernel
theorem dX0_mixed_0 : decode cX0_mixed 0 = .ok (.iload_n 0, 1) := by decide +kernel
theorem dX0_mixed_1 : decode cX0_mixed 1 = .ok (.iload_n 1, 1) := by decide +kernel
theorem dX0_mixed_2 : decode cX0_mixed 2 = .ok (.ixor, 1) := by decide +kernel
theorem dX0_mixed_3 : decode cX0_mixed 3 = .ok (.invokestatic 53, 3) := by decide +kernel
theorem dX0_mixed_6 : decode cX0_mixed 6 = .ok (.iload_n 1, 1) := by decide +kernel
theorem dX0_mixed_7 : decode cX0_mixed 7 = .ok (.ixor, 1) := by decide +kernel
theorem dX0_mixed_8 : decode cX0_mixed 8 = .ok (.iload_n 2, 1) := by decide +kernel
theorem dX0_mixed_9 : decode cX0_mixed 9 = .ok (.ixor, 1) := by decide +kernel
theorem dX0_mixed_10 : decode cX0_mixed 10 = .ok (.iload_n 3, 1) := by decide +kernel
theorem dX0_mixed_11 : decode cX0_mixed 11 = .ok (.ixor, 1) := by decide +kernel
theorem dX0_mixed_12 : decode cX0_mixed 12 = .ok (.ireturn, 1) := by decide +kernel
theorem dX0_twice_0 : decode cX0_twice 0 = .ok (.iload_n 0, 1) := by decide +kernel
theorem dX0_twice_1 : decode cX0_twice 1 = .ok (.sipush 128, 3) := by decide +kernel
theorem dX0_twice_4 : decode cX0_twice 4 = .ok (.if_icmp .ge 9, 3) := by decide +kernel
theorem dX0_twice_7 : decode cX0_twice 7 = .ok (.iload_n 0, 1) := by decide +kernel
theorem dX0_twice_8 : decode cX0_twice 8 = .ok (.iconst 1, 1) := by decide +kernel
theorem dX0_twice_9 : decode cX0_twice 9 = .ok (.ishl, 1) := by decide +kernel
theorem dX0_twice_10 : decode cX0_twice 10 = .ok (.goto 10, 3) := by decide +kernel
theorem dX0_twice_13 : decode cX0_twice 13 = .ok (.iload_n 0, 1) := by decide +kernel
theorem dX0_twice_14 : decode cX0_twice 14 = .ok (.iconst 1, 1) := by decide +kernel
theorem dX0_twice_15 : decode cX0_twice 15 = .ok (.ishl, 1) := by decide +kernel
theorem dX0_twice_16 : decode cX0_twice 16 = .ok (.sipush 283, 3) := by decide +kernel
theorem dX0_twice_19 : decode cX0_twice 19 = .ok (.ixor, 1) := by decide +kernel
theorem dX0_twice_20 : decode cX0_twice 20 = .ok (.ireturn, 1) := by decide +kernel
theorem dX1_init_0 : decode cX1_init 0 = .ok (.aload_n 0, 1) := by decide +kernel
theorem dX1_init_1 : decode cX1_init 1 = .ok (.invokespecial 3, 3) := by decide +kernel
theorem dX1_init_4 : decode cX1_init 4 = .ok (.aload_n 0, 1) := by decide +kernel
theorem dX1_init_5 : decode cX1_init 5 = .ok (.bipush 16, 2) := by decide +kernel
theorem dX1_init_7 : decode cX1_init 7 = .ok (.newarray .int, 2) := by decide +kernel
theorem dX1_init_9 : decode cX1_init 9 = .ok (.putfield 9, 3) := by decide +kernel
theorem dX1_init_12 : decode cX1_init 12 = .ok (.aload_n 0, 1) := by decide +kernel
theorem dX1_init_13 : decode cX1_init 13 = .ok (.iconst 0, 1) := by decide +kernel
theorem dX1_init_14 : decode cX1_init 14 = .ok (.putfield 15, 3) := by decide +kernel
theorem dX1_init_17 : decode cX1_init 17 = .ok (.aload_n 0, 1) := by decide +kernel
theorem dX1_init_18 : decode cX1_init 18 = .ok (.iconst 0, 1) := by decide +kernel
theorem dX1_init_19 : decode cX1_init 19 = .ok (.putfield 19, 3) := by decide +kernel
theorem dX1_init_22 : decode cX1_init 22 = .ok (.aload_n 0, 1) := by decide +kernel
theorem dX1_init_23 : decode cX1_init 23 = .ok (.iconst 0, 1) := by decide +kernel
theorem dX1_init_24 : decode cX1_init 24 = .ok (.putfield 23, 3) := by decide +kernel
theorem dX1_init_27 : decode cX1_init 27 = .ok (.aload_n 0, 1) := by decide +kernel
theorem dX1_init_28 : decode cX1_init 28 = .ok (.iconst 0, 1) := by decide +kernel
theorem dX1_init_29 : decode cX1_init 29 = .ok (.putfield 26, 3) := by decide +kernel
theorem dX1_init_32 : decode cX1_init 32 = .ok (.aload_n 0, 1) := by decide +kernel
theorem dX1_init_33 : decode cX1_init 33 = .ok (.iconst 0, 1) := by decide +kernel
theorem dX1_init_34 : decode cX1_init 34 = .ok (.putfield 29, 3) := by decide +kernel
theorem dX1_init_37 : decode cX1_init 37 = .ok (.return_, 1) := by decide +kernel
theorem dX1_drop_0 : decode cX1_drop 0 = .ok (.aload_n 0, 1) := by decide +kernel
theorem dX1_drop_1 : decode cX1_drop 1 = .ok (.iconst 0, 1) := by decide +kernel
theorem dX1_drop_2 : decode cX1_drop 2 = .ok (.putfield 19, 3) := by decide +kernel
theorem dX1_drop_5 : decode cX1_drop 5 = .ok (.aload_n 0, 1) := by decide +kernel
theorem dX1_drop_6 : decode cX1_drop 6 = .ok (.iconst 0, 1) := by decide +kernel
theorem dX1_drop_7 : decode cX1_drop 7 = .ok (.putfield 23, 3) := by decide +kernel
theorem dX1_drop_10 : decode cX1_drop 10 = .ok (.return_, 1) := by decide +kernel
theorem dX1_begin_0 : decode cX1_begin 0 = .ok (.aload_n 0, 1) := by decide +kernel
theorem dX1_begin_1 : decode cX1_begin 1 = .ok (.getfield 9, 3) := by decide +kernel
theorem dX1_begin_4 : decode cX1_begin 4 = .ok (.iconst 0, 1) := by decide +kernel
theorem dX1_begin_5 : decode cX1_begin 5 = .ok (.invokestatic 32, 3) := by decide +kernel
theorem dX1_begin_8 : decode cX1_begin 8 = .ok (.aload_n 0, 1) := by decide +kernel
theorem dX1_begin_9 : decode cX1_begin 9 = .ok (.iconst 0, 1) := by decide +kernel
theorem dX1_begin_10 : decode cX1_begin 10 = .ok (.putfield 15, 3) := by decide +kernel
theorem dX1_begin_13 : decode cX1_begin 13 = .ok (.aload_n 0, 1) := by decide +kernel
theorem dX1_begin_14 : decode cX1_begin 14 = .ok (.iconst 1, 1) := by decide +kernel
theorem dX1_begin_15 : decode cX1_begin 15 = .ok (.putfield 19, 3) := by decide +kernel
theorem dX1_begin_18 : decode cX1_begin 18 = .ok (.aload_n 0, 1) := by decide +kernel
theorem dX1_begin_19 : decode cX1_begin 19 = .ok (.iconst 0, 1) := by decide +kernel
theorem dX1_begin_20 : decode cX1_begin 20 = .ok (.putfield 23, 3) := by decide +kernel
theorem dX1_begin_23 : decode cX1_begin 23 = .ok (.return_, 1) := by decide +kernel
theorem dX1_take_0 : decode cX1_take 0 = .ok (.aload_n 0, 1) := by decide +kernel
theorem dX1_take_1 : decode cX1_take 1 = .ok (.getfield 15, 3) := by decide +kernel
theorem dX1_take_4 : decode cX1_take 4 = .ok (.bipush 16, 2) := by decide +kernel
theorem dX1_take_6 : decode cX1_take 6 = .ok (.if_icmp .ne 16, 3) := by decide +kernel
theorem dX1_take_9 : decode cX1_take 9 = .ok (.aload_n 2, 1) := by decide +kernel
theorem dX1_take_10 : decode cX1_take 10 = .ok (.aload_n 0, 1) := by decide +kernel
theorem dX1_take_11 : decode cX1_take 11 = .ok (.getfield 9, 3) := by decide +kernel
theorem dX1_take_14 : decode cX1_take 14 = .ok (.invokevirtual 38, 3) := by decide +kernel
theorem dX1_take_17 : decode cX1_take 17 = .ok (.aload_n 0, 1) := by decide +kernel
theorem dX1_take_18 : decode cX1_take 18 = .ok (.iconst 0, 1) := by decide +kernel
theorem dX1_take_19 : decode cX1_take 19 = .ok (.putfield 15, 3) := by decide +kernel
theorem dX1_take_22 : decode cX1_take 22 = .ok (.aload_n 0, 1) := by decide +kernel
theorem dX1_take_23 : decode cX1_take 23 = .ok (.getfield 9, 3) := by decide +kernel
theorem dX1_take_26 : decode cX1_take 26 = .ok (.aload_n 0, 1) := by decide +kernel
theorem dX1_take_27 : decode cX1_take 27 = .ok (.getfield 15, 3) := by decide +kernel
theorem dX1_take_30 : decode cX1_take 30 = .ok (.dup2, 1) := by decide +kernel
theorem dX1_take_31 : decode cX1_take 31 = .ok (.iaload, 1) := by decide +kernel
theorem dX1_take_32 : decode cX1_take 32 = .ok (.iload_n 1, 1) := by decide +kernel
theorem dX1_take_33 : decode cX1_take 33 = .ok (.ixor, 1) := by decide +kernel
theorem dX1_take_34 : decode cX1_take 34 = .ok (.iastore, 1) := by decide +kernel
theorem dX1_take_35 : decode cX1_take 35 = .ok (.aload_n 0, 1) := by decide +kernel
theorem dX1_take_36 : decode cX1_take 36 = .ok (.dup, 1) := by decide +kernel
theorem dX1_take_37 : decode cX1_take 37 = .ok (.getfield 15, 3) := by decide +kernel
theorem dX1_take_40 : decode cX1_take 40 = .ok (.iconst 1, 1) := by decide +kernel
theorem dX1_take_41 : decode cX1_take 41 = .ok (.iadd, 1) := by decide +kernel
theorem dX1_take_42 : decode cX1_take 42 = .ok (.putfield 15, 3) := by decide +kernel
theorem dX1_take_45 : decode cX1_take 45 = .ok (.return_, 1) := by decide +kernel
theorem dX1_end_0 : decode cX1_end 0 = .ok (.aload_n 0, 1) := by decide +kernel
theorem dX1_end_1 : decode cX1_end 1 = .ok (.getfield 15, 3) := by decide +kernel
theorem dX1_end_4 : decode cX1_end 4 = .ok (.bipush 16, 2) := by decide +kernel
theorem dX1_end_6 : decode cX1_end 6 = .ok (.if_icmp .ne 18, 3) := by decide +kernel
theorem dX1_end_9 : decode cX1_end 9 = .ok (.aload_n 0, 1) := by decide +kernel
theorem dX1_end_10 : decode cX1_end 10 = .ok (.getfield 9, 3) := by decide +kernel
theorem dX1_end_13 : decode cX1_end 13 = .ok (.aload_n 1, 1) := by decide +kernel
theorem dX1_end_14 : decode cX1_end 14 = .ok (.getfield 44, 3) := by decide +kernel
theorem dX1_end_17 : decode cX1_end 17 = .ok (.iconst 0, 1) := by decide +kernel
theorem dX1_end_18 : decode cX1_end 18 = .ok (.invokestatic 47, 3) := by decide +kernel
theorem dX1_end_21 : decode cX1_end 21 = .ok (.goto 30, 3) := by decide +kernel
theorem dX1_end_24 : decode cX1_end 24 = .ok (.aload_n 0, 1) := by decide +kernel
theorem dX1_end_25 : decode cX1_end 25 = .ok (.getfield 9, 3) := by decide +kernel
theorem dX1_end_28 : decode cX1_end 28 = .ok (.aload_n 0, 1) := by decide +kernel
theorem dX1_end_29 : decode cX1_end 29 = .ok (.getfield 15, 3) := by decide +kernel
theorem dX1_end_32 : decode cX1_end 32 = .ok (.dup2, 1) := by decide +kernel
theorem dX1_end_33 : decode cX1_end 33 = .ok (.iaload, 1) := by decide +kernel
theorem dX1_end_34 : decode cX1_end 34 = .ok (.sipush 128, 3) := by decide +kernel
theorem dX1_end_37 : decode cX1_end 37 = .ok (.ixor, 1) := by decide +kernel
theorem dX1_end_38 : decode cX1_end 38 = .ok (.iastore, 1) := by decide +kernel
theorem dX1_end_39 : decode cX1_end 39 = .ok (.aload_n 0, 1) := by decide +kernel
theorem dX1_end_40 : decode cX1_end 40 = .ok (.getfield 9, 3) := by decide +kernel
theorem dX1_end_43 : decode cX1_end 43 = .ok (.aload_n 1, 1) := by decide +kernel
theorem dX1_end_44 : decode cX1_end 44 = .ok (.getfield 51, 3) := by decide +kernel
theorem dX1_end_47 : decode cX1_end 47 = .ok (.iconst 0, 1) := by decide +kernel
theorem dX1_end_48 : decode cX1_end 48 = .ok (.invokestatic 47, 3) := by decide +kernel
theorem dX1_end_51 : decode cX1_end 51 = .ok (.aload_n 1, 1) := by decide +kernel
theorem dX1_end_52 : decode cX1_end 52 = .ok (.aload_n 0, 1) := by decide +kernel
theorem dX1_end_53 : decode cX1_end 53 = .ok (.getfield 9, 3) := by decide +kernel
theorem dX1_end_56 : decode cX1_end 56 = .ok (.invokevirtual 38, 3) := by decide +kernel
theorem dX1_end_59 : decode cX1_end 59 = .ok (.aload_n 0, 1) := by decide +kernel
theorem dX1_end_60 : decode cX1_end 60 = .ok (.iconst 0, 1) := by decide +kernel
theorem dX1_end_61 : decode cX1_end 61 = .ok (.putfield 19, 3) := by decide +kernel
theorem dX1_end_64 : decode cX1_end 64 = .ok (.aload_n 0, 1) := by decide +kernel
theorem dX1_end_65 : decode cX1_end 65 = .ok (.iconst 1, 1) := by decide +kernel
theorem dX1_end_66 : decode cX1_end 66 = .ok (.putfield 23, 3) := by decide +kernel
theorem dX1_end_69 : decode cX1_end 69 = .ok (.aload_n 0, 1) := by decide +kernel
theorem dX1_end_70 : decode cX1_end 70 = .ok (.iconst 0, 1) := by decide +kernel
theorem dX1_end_71 : decode cX1_end 71 = .ok (.putfield 26, 3) := by decide +kernel
theorem dX1_end_74 : decode cX1_end 74 = .ok (.aload_n 0, 1) := by decide +kernel
theorem dX1_end_75 : decode cX1_end 75 = .ok (.iconst 0, 1) := by decide +kernel
theorem dX1_end_76 : decode cX1_end 76 = .ok (.putfield 29, 3) := by decide +kernel
theorem dX1_end_79 : decode cX1_end 79 = .ok (.return_, 1) := by decide +kernel
theorem dX1_compare_0 : decode cX1_compare 0 = .ok (.aload_n 0, 1) := by decide +kernel
theorem dX1_compare_1 : decode cX1_compare 1 = .ok (.dup, 1) := by decide +kernel
theorem dX1_compare_2 : decode cX1_compare 2 = .ok (.getfield 26, 3) := by decide +kernel
theorem dX1_compare_5 : decode cX1_compare 5 = .ok (.iconst 1, 1) := by decide +kernel
theorem dX1_compare_6 : decode cX1_compare 6 = .ok (.iload_n 1, 1) := by decide +kernel
theorem dX1_compare_7 : decode cX1_compare 7 = .ok (.ishl, 1) := by decide +kernel
theorem dX1_compare_8 : decode cX1_compare 8 = .ok (.ior, 1) := by decide +kernel
theorem dX1_compare_9 : decode cX1_compare 9 = .ok (.putfield 26, 3) := by decide +kernel
theorem dX1_compare_12 : decode cX1_compare 12 = .ok (.aload_n 0, 1) := by decide +kernel
theorem dX1_compare_13 : decode cX1_compare 13 = .ok (.getfield 9, 3) := by decide +kernel
theorem dX1_compare_16 : decode cX1_compare 16 = .ok (.iload_n 1, 1) := by decide +kernel
theorem dX1_compare_17 : decode cX1_compare 17 = .ok (.iaload, 1) := by decide +kernel
theorem dX1_compare_18 : decode cX1_compare 18 = .ok (.iload_n 2, 1) := by decide +kernel
theorem dX1_compare_19 : decode cX1_compare 19 = .ok (.if_icmp .eq 8, 3) := by decide +kernel
theorem dX1_compare_22 : decode cX1_compare 22 = .ok (.aload_n 0, 1) := by decide +kernel
theorem dX1_compare_23 : decode cX1_compare 23 = .ok (.iconst 1, 1) := by decide +kernel
theorem dX1_compare_24 : decode cX1_compare 24 = .ok (.putfield 29, 3) := by decide +kernel
theorem dX1_compare_27 : decode cX1_compare 27 = .ok (.return_, 1) := by decide +kernel
theorem dX2_init_0 : decode cX2_init 0 = .ok (.aload_n 0, 1) := by decide +kernel
theorem dX2_init_1 : decode cX2_init 1 = .ok (.invokespecial 3, 3) := by decide +kernel
theorem dX2_init_4 : decode cX2_init 4 = .ok (.aload_n 0, 1) := by decide +kernel
theorem dX2_init_5 : decode cX2_init 5 = .ok (.new 9, 3) := by decide +kernel
theorem dX2_init_8 : decode cX2_init 8 = .ok (.dup, 1) := by decide +kernel
theorem dX2_init_9 : decode cX2_init 9 = .ok (.invokespecial 11, 3) := by decide +kernel
theorem dX2_init_12 : decode cX2_init 12 = .ok (.putfield 12, 3) := by decide +kernel
theorem dX2_init_15 : decode cX2_init 15 = .ok (.aload_n 0, 1) := by decide +kernel
theorem dX2_init_16 : decode cX2_init 16 = .ok (.new 16, 3) := by decide +kernel
theorem dX2_init_19 : decode cX2_init 19 = .ok (.dup, 1) := by decide +kernel
theorem dX2_init_20 : decode cX2_init 20 = .ok (.invokespecial 18, 3) := by decide +kernel
theorem dX2_init_23 : decode cX2_init 23 = .ok (.putfield 19, 3) := by decide +kernel
theorem dX2_init_26 : decode cX2_init 26 = .ok (.aload_n 0, 1) := by decide +kernel
theorem dX2_init_27 : decode cX2_init 27 = .ok (.bipush 16, 2) := by decide +kernel
theorem dX2_init_29 : decode cX2_init 29 = .ok (.newarray .int, 2) := by decide +kernel
theorem dX2_init_31 : decode cX2_init 31 = .ok (.putfield 23, 3) := by decide +kernel
theorem dX2_init_34 : decode cX2_init 34 = .ok (.aload_n 0, 1) := by decide +kernel
theorem dX2_init_35 : decode cX2_init 35 = .ok (.bipush 16, 2) := by decide +kernel
theorem dX2_init_37 : decode cX2_init 37 = .ok (.newarray .int, 2) := by decide +kernel
theorem dX2_init_39 : decode cX2_init 39 = .ok (.putfield 27, 3) := by decide +kernel
theorem dX2_init_42 : decode cX2_init 42 = .ok (.aload_n 0, 1) := by decide +kernel
theorem dX2_init_43 : decode cX2_init 43 = .ok (.bipush 16, 2) := by decide +kernel
theorem dX2_init_45 : decode cX2_init 45 = .ok (.newarray .int, 2) := by decide +kernel
theorem dX2_init_47 : decode cX2_init 47 = .ok (.putfield 30, 3) := by decide +kernel
theorem dX2_init_50 : decode cX2_init 50 = .ok (.aload_n 0, 1) := by decide +kernel
theorem dX2_init_51 : decode cX2_init 51 = .ok (.iconst 0, 1) := by decide +kernel
theorem dX2_init_52 : decode cX2_init 52 = .ok (.putfield 33, 3) := by decide +kernel
theorem dX2_init_55 : decode cX2_init 55 = .ok (.return_, 1) := by decide +kernel
theorem dX2_init__0 : decode cX2_init_ 0 = .ok (.aload_n 0, 1) := by decide +kernel
theorem dX2_init__1 : decode cX2_init_ 1 = .ok (.iconst 1, 1) := by decide +kernel
theorem dX2_init__2 : decode cX2_init_ 2 = .ok (.putfield 33, 3) := by decide +kernel
theorem dX2_init__5 : decode cX2_init_ 5 = .ok (.aload_n 0, 1) := by decide +kernel
theorem dX2_init__6 : decode cX2_init_ 6 = .ok (.getfield 12, 3) := by decide +kernel
theorem dX2_init__9 : decode cX2_init_ 9 = .ok (.invokevirtual 37, 3) := by decide +kernel
theorem dX2_init__12 : decode cX2_init_ 12 = .ok (.aload_n 0, 1) := by decide +kernel
theorem dX2_init__13 : decode cX2_init_ 13 = .ok (.getfield 19, 3) := by decide +kernel
theorem dX2_init__16 : decode cX2_init_ 16 = .ok (.invokevirtual 40, 3) := by decide +kernel
theorem dX2_init__19 : decode cX2_init_ 19 = .ok (.return_, 1) := by decide +kernel
theorem dX2_setKeyByte_0 : decode cX2_setKeyByte 0 = .ok (.aload_n 0, 1) := by decide +kernel
theorem dX2_setKeyByte_1 : decode cX2_setKeyByte 1 = .ok (.getfield 33, 3) := by decide +kernel
theorem dX2_setKeyByte_4 : decode cX2_setKeyByte 4 = .ok (.ifCond .eq 17, 3) := by decide +kernel
theorem dX2_setKeyByte_7 : decode cX2_setKeyByte 7 = .ok (.iload_n 1, 1) := by decide +kernel
theorem dX2_setKeyByte_8 : decode cX2_setKeyByte 8 = .ok (.invokestatic 43, 3) := by decide +kernel
theorem dX2_setKeyByte_11 : decode cX2_setKeyByte 11 = .ok (.ifCond .eq 10, 3) := by decide +kernel
theorem dX2_setKeyByte_14 : decode cX2_setKeyByte 14 = .ok (.iload_n 2, 1) := by decide +kernel
theorem dX2_setKeyByte_15 : decode cX2_setKeyByte 15 = .ok (.invokestatic 47, 3) := by decide +kernel
theorem dX2_setKeyByte_18 : decode cX2_setKeyByte 18 = .ok (.ifCond .ne 5, 3) := by decide +kernel
theorem dX2_setKeyByte_21 : decode cX2_setKeyByte 21 = .ok (.iconst 0, 1) := by decide +kernel
theorem dX2_setKeyByte_22 : decode cX2_setKeyByte 22 = .ok (.ireturn, 1) := by decide +kernel
theorem dX2_setKeyByte_23 : decode cX2_setKeyByte 23 = .ok (.aload_n 0, 1) := by decide +kernel
theorem dX2_setKeyByte_24 : decode cX2_setKeyByte 24 = .ok (.getfield 12, 3) := by decide +kernel
theorem dX2_setKeyByte_27 : decode cX2_setKeyByte 27 = .ok (.iload_n 1, 1) := by decide +kernel
theorem dX2_setKeyByte_28 : decode cX2_setKeyByte 28 = .ok (.iload_n 2, 1) := by decide +kernel
theorem dX2_setKeyByte_29 : decode cX2_setKeyByte 29 = .ok (.invokevirtual 50, 3) := by decide +kernel
theorem dX2_setKeyByte_32 : decode cX2_setKeyByte 32 = .ok (.aload_n 0, 1) := by decide +kernel
theorem dX2_setKeyByte_33 : decode cX2_setKeyByte 33 = .ok (.getfield 19, 3) := by decide +kernel
theorem dX2_setKeyByte_36 : decode cX2_setKeyByte 36 = .ok (.invokevirtual 40, 3) := by decide +kernel
theorem dX2_setKeyByte_39 : decode cX2_setKeyByte 39 = .ok (.iconst 1, 1) := by decide +kernel
theorem dX2_setKeyByte_40 : decode cX2_setKeyByte 40 = .ok (.ireturn, 1) := by decide +kernel
theorem dX2_expand_0 : decode cX2_expand 0 = .ok (.aload_n 0, 1) := by decide +kernel
theorem dX2_expand_1 : decode cX2_expand 1 = .ok (.getfield 33, 3) := by decide +kernel
theorem dX2_expand_4 : decode cX2_expand 4 = .ok (.ifCond .ne 5, 3) := by decide +kernel
theorem dX2_expand_7 : decode cX2_expand 7 = .ok (.iconst 0, 1) := by decide +kernel
theorem dX2_expand_8 : decode cX2_expand 8 = .ok (.ireturn, 1) := by decide +kernel
theorem dX2_expand_9 : decode cX2_expand 9 = .ok (.aload_n 0, 1) := by decide +kernel
theorem dX2_expand_10 : decode cX2_expand 10 = .ok (.getfield 12, 3) := by decide +kernel
theorem dX2_expand_13 : decode cX2_expand 13 = .ok (.invokevirtual 54, 3) := by decide +kernel
theorem dX2_expand_16 : decode cX2_expand 16 = .ok (.iconst 1, 1) := by decide +kernel
theorem dX2_expand_17 : decode cX2_expand 17 = .ok (.ireturn, 1) := by decide +kernel
theorem dX2_macStart_0 : decode cX2_macStart 0 = .ok (.aload_n 0, 1) := by decide +kernel
theorem dX2_macStart_1 : decode cX2_macStart 1 = .ok (.getfield 12, 3) := by decide +kernel
theorem dX2_macStart_4 : decode cX2_macStart 4 = .ok (.getfield 57, 3) := by decide +kernel
theorem dX2_macStart_7 : decode cX2_macStart 7 = .ok (.ifCond .ne 5, 3) := by decide +kernel
theorem dX2_macStart_10 : decode cX2_macStart 10 = .ok (.iconst 0, 1) := by decide +kernel
theorem dX2_macStart_11 : decode cX2_macStart 11 = .ok (.ireturn, 1) := by decide +kernel
theorem dX2_macStart_12 : decode cX2_macStart 12 = .ok (.aload_n 0, 1) := by decide +kernel
theorem dX2_macStart_13 : decode cX2_macStart 13 = .ok (.getfield 19, 3) := by decide +kernel
theorem dX2_macStart_16 : decode cX2_macStart 16 = .ok (.invokevirtual 60, 3) := by decide +kernel
theorem dX2_macStart_19 : decode cX2_macStart 19 = .ok (.iconst 1, 1) := by decide +kernel
theorem dX2_macStart_20 : decode cX2_macStart 20 = .ok (.ireturn, 1) := by decide +kernel
theorem dX2_macUpdate_0 : decode cX2_macUpdate 0 = .ok (.aload_n 0, 1) := by decide +kernel
theorem dX2_macUpdate_1 : decode cX2_macUpdate 1 = .ok (.getfield 19, 3) := by decide +kernel
theorem dX2_macUpdate_4 : decode cX2_macUpdate 4 = .ok (.getfield 63, 3) := by decide +kernel
theorem dX2_macUpdate_7 : decode cX2_macUpdate 7 = .ok (.ifCond .eq 10, 3) := by decide +kernel
theorem dX2_macUpdate_10 : decode cX2_macUpdate 10 = .ok (.iload_n 1, 1) := by decide +kernel
theorem dX2_macUpdate_11 : decode cX2_macUpdate 11 = .ok (.invokestatic 47, 3) := by decide +kernel
theorem dX2_macUpdate_14 : decode cX2_macUpdate 14 = .ok (.ifCond .ne 5, 3) := by decide +kernel
theorem dX2_macUpdate_17 : decode cX2_macUpdate 17 = .ok (.iconst 0, 1) := by decide +kernel
theorem dX2_macUpdate_18 : decode cX2_macUpdate 18 = .ok (.ireturn, 1) := by decide +kernel
theorem dX2_macUpdate_19 : decode cX2_macUpdate 19 = .ok (.aload_n 0, 1) := by decide +kernel
theorem dX2_macUpdate_20 : decode cX2_macUpdate 20 = .ok (.getfield 19, 3) := by decide +kernel
theorem dX2_macUpdate_23 : decode cX2_macUpdate 23 = .ok (.iload_n 1, 1) := by decide +kernel
theorem dX2_macUpdate_24 : decode cX2_macUpdate 24 = .ok (.aload_n 0, 1) := by decide +kernel
theorem dX2_macUpdate_25 : decode cX2_macUpdate 25 = .ok (.getfield 12, 3) := by decide +kernel
theorem dX2_macUpdate_28 : decode cX2_macUpdate 28 = .ok (.invokevirtual 66, 3) := by decide +kernel
theorem dX2_macUpdate_31 : decode cX2_macUpdate 31 = .ok (.iconst 1, 1) := by decide +kernel
theorem dX2_macUpdate_32 : decode cX2_macUpdate 32 = .ok (.ireturn, 1) := by decide +kernel
theorem dX2_macFill_0 : decode cX2_macFill 0 = .ok (.aload_n 0, 1) := by decide +kernel
theorem dX2_macFill_1 : decode cX2_macFill 1 = .ok (.getfield 19, 3) := by decide +kernel
theorem dX2_macFill_4 : decode cX2_macFill 4 = .ok (.getfield 63, 3) := by decide +kernel
theorem dX2_macFill_7 : decode cX2_macFill 7 = .ok (.ifCond .eq 14, 3) := by decide +kernel
theorem dX2_macFill_10 : decode cX2_macFill 10 = .ok (.iload_n 1, 1) := by decide +kernel
theorem dX2_macFill_11 : decode cX2_macFill 11 = .ok (.ifCond .lt 10, 3) := by decide +kernel
theorem dX2_macFill_14 : decode cX2_macFill 14 = .ok (.iload_n 1, 1) := by decide +kernel
theorem dX2_macFill_15 : decode cX2_macFill 15 = .ok (.sipush 10000, 3) := by decide +kernel
theorem dX2_macFill_18 : decode cX2_macFill 18 = .ok (.if_icmp .le 5, 3) := by decide +kernel
theorem dX2_macFill_21 : decode cX2_macFill 21 = .ok (.iconst 0, 1) := by decide +kernel
theorem dX2_macFill_22 : decode cX2_macFill 22 = .ok (.ireturn, 1) := by decide +kernel
theorem dX2_macFill_23 : decode cX2_macFill 23 = .ok (.iload_n 2, 1) := by decide +kernel
theorem dX2_macFill_24 : decode cX2_macFill 24 = .ok (.istore 4, 2) := by decide +kernel
theorem dX2_macFill_26 : decode cX2_macFill 26 = .ok (.iconst 0, 1) := by decide +kernel
theorem dX2_macFill_27 : decode cX2_macFill 27 = .ok (.istore 5, 2) := by decide +kernel
theorem dX2_macFill_29 : decode cX2_macFill 29 = .ok (.iload 5, 2) := by decide +kernel
theorem dX2_macFill_31 : decode cX2_macFill 31 = .ok (.iload_n 1, 1) := by decide +kernel
theorem dX2_macFill_32 : decode cX2_macFill 32 = .ok (.if_icmp .ge 32, 3) := by decide +kernel
theorem dX2_macFill_35 : decode cX2_macFill 35 = .ok (.aload_n 0, 1) := by decide +kernel
theorem dX2_macFill_36 : decode cX2_macFill 36 = .ok (.getfield 19, 3) := by decide +kernel
theorem dX2_macFill_39 : decode cX2_macFill 39 = .ok (.iload 4, 2) := by decide +kernel
theorem dX2_macFill_41 : decode cX2_macFill 41 = .ok (.sipush 255, 3) := by decide +kernel
theorem dX2_macFill_44 : decode cX2_macFill 44 = .ok (.iand, 1) := by decide +kernel
theorem dX2_macFill_45 : decode cX2_macFill 45 = .ok (.aload_n 0, 1) := by decide +kernel
theorem dX2_macFill_46 : decode cX2_macFill 46 = .ok (.getfield 12, 3) := by decide +kernel
theorem dX2_macFill_49 : decode cX2_macFill 49 = .ok (.invokevirtual 66, 3) := by decide +kernel
theorem dX2_macFill_52 : decode cX2_macFill 52 = .ok (.iload 4, 2) := by decide +kernel
theorem dX2_macFill_54 : decode cX2_macFill 54 = .ok (.iload_n 3, 1) := by decide +kernel
theorem dX2_macFill_55 : decode cX2_macFill 55 = .ok (.iadd, 1) := by decide +kernel
theorem dX2_macFill_56 : decode cX2_macFill 56 = .ok (.istore 4, 2) := by decide +kernel
theorem dX2_macFill_58 : decode cX2_macFill 58 = .ok (.iinc 5 1, 3) := by decide +kernel
theorem dX2_macFill_61 : decode cX2_macFill 61 = .ok (.goto (-32), 3) := by decide +kernel
theorem dX2_macFill_64 : decode cX2_macFill 64 = .ok (.iconst 1, 1) := by decide +kernel
theorem dX2_macFill_65 : decode cX2_macFill 65 = .ok (.ireturn, 1) := by decide +kernel
theorem dX2_macFinish_0 : decode cX2_macFinish 0 = .ok (.aload_n 0, 1) := by decide +kernel
theorem dX2_macFinish_1 : decode cX2_macFinish 1 = .ok (.getfield 19, 3) := by decide +kernel
theorem dX2_macFinish_4 : decode cX2_macFinish 4 = .ok (.getfield 63, 3) := by decide +kernel
theorem dX2_macFinish_7 : decode cX2_macFinish 7 = .ok (.ifCond .ne 5, 3) := by decide +kernel
theorem dX2_macFinish_10 : decode cX2_macFinish 10 = .ok (.iconst 0, 1) := by decide +kernel
theorem dX2_macFinish_11 : decode cX2_macFinish 11 = .ok (.ireturn, 1) := by decide +kernel
theorem dX2_macFinish_12 : decode cX2_macFinish 12 = .ok (.aload_n 0, 1) := by decide +kernel
theorem dX2_macFinish_13 : decode cX2_macFinish 13 = .ok (.getfield 19, 3) := by decide +kernel
theorem dX2_macFinish_16 : decode cX2_macFinish 16 = .ok (.aload_n 0, 1) := by decide +kernel
theorem dX2_macFinish_17 : decode cX2_macFinish 17 = .ok (.getfield 12, 3) := by decide +kernel
theorem dX2_macFinish_20 : decode cX2_macFinish 20 = .ok (.invokevirtual 70, 3) := by decide +kernel
theorem dX2_macFinish_23 : decode cX2_macFinish 23 = .ok (.iconst 1, 1) := by decide +kernel
theorem dX2_macFinish_24 : decode cX2_macFinish 24 = .ok (.ireturn, 1) := by decide +kernel
theorem dX2_tagByte_0 : decode cX2_tagByte 0 = .ok (.aload_n 0, 1) := by decide +kernel
theorem dX2_tagByte_1 : decode cX2_tagByte 1 = .ok (.getfield 19, 3) := by decide +kernel
theorem dX2_tagByte_4 : decode cX2_tagByte 4 = .ok (.getfield 74, 3) := by decide +kernel
theorem dX2_tagByte_7 : decode cX2_tagByte 7 = .ok (.ifCond .eq 22, 3) := by decide +kernel
theorem dX2_tagByte_10 : decode cX2_tagByte 10 = .ok (.iload_n 1, 1) := by decide +kernel
theorem dX2_tagByte_11 : decode cX2_tagByte 11 = .ok (.invokestatic 43, 3) := by decide +kernel
theorem dX2_tagByte_14 : decode cX2_tagByte 14 = .ok (.ifCond .eq 15, 3) := by decide +kernel
theorem dX2_tagByte_17 : decode cX2_tagByte 17 = .ok (.aload_n 0, 1) := by decide +kernel
theorem dX2_tagByte_18 : decode cX2_tagByte 18 = .ok (.getfield 19, 3) := by decide +kernel
theorem dX2_tagByte_21 : decode cX2_tagByte 21 = .ok (.getfield 77, 3) := by decide +kernel
theorem dX2_tagByte_24 : decode cX2_tagByte 24 = .ok (.iload_n 1, 1) := by decide +kernel
theorem dX2_tagByte_25 : decode cX2_tagByte 25 = .ok (.iaload, 1) := by decide +kernel
theorem dX2_tagByte_26 : decode cX2_tagByte 26 = .ok (.goto 4, 3) := by decide +kernel
theorem dX2_tagByte_29 : decode cX2_tagByte 29 = .ok (.iconst (-1), 1) := by decide +kernel
theorem dX2_tagByte_30 : decode cX2_tagByte 30 = .ok (.ireturn, 1) := by decide +kernel
theorem dX2_macCheck_0 : decode cX2_macCheck 0 = .ok (.aload_n 0, 1) := by decide +kernel
theorem dX2_macCheck_1 : decode cX2_macCheck 1 = .ok (.getfield 19, 3) := by decide +kernel
theorem dX2_macCheck_4 : decode cX2_macCheck 4 = .ok (.getfield 74, 3) := by decide +kernel
theorem dX2_macCheck_7 : decode cX2_macCheck 7 = .ok (.ifCond .eq 10, 3) := by decide +kernel
theorem dX2_macCheck_10 : decode cX2_macCheck 10 = .ok (.iload_n 1, 1) := by decide +kernel
theorem dX2_macCheck_11 : decode cX2_macCheck 11 = .ok (.invokestatic 43, 3) := by decide +kernel
theorem dX2_macCheck_14 : decode cX2_macCheck 14 = .ok (.ifCond .ne 5, 3) := by decide +kernel
theorem dX2_macCheck_17 : decode cX2_macCheck 17 = .ok (.iconst 0, 1) := by decide +kernel
theorem dX2_macCheck_18 : decode cX2_macCheck 18 = .ok (.ireturn, 1) := by decide +kernel
theorem dX2_macCheck_19 : decode cX2_macCheck 19 = .ok (.aload_n 0, 1) := by decide +kernel
theorem dX2_macCheck_20 : decode cX2_macCheck 20 = .ok (.getfield 19, 3) := by decide +kernel
theorem dX2_macCheck_23 : decode cX2_macCheck 23 = .ok (.iload_n 1, 1) := by decide +kernel
theorem dX2_macCheck_24 : decode cX2_macCheck 24 = .ok (.iload_n 2, 1) := by decide +kernel
theorem dX2_macCheck_25 : decode cX2_macCheck 25 = .ok (.invokevirtual 80, 3) := by decide +kernel
theorem dX2_macCheck_28 : decode cX2_macCheck 28 = .ok (.iconst 1, 1) := by decide +kernel
theorem dX2_macCheck_29 : decode cX2_macCheck 29 = .ok (.ireturn, 1) := by decide +kernel
theorem dX2_macVerdict_0 : decode cX2_macVerdict 0 = .ok (.aload_n 0, 1) := by decide +kernel
theorem dX2_macVerdict_1 : decode cX2_macVerdict 1 = .ok (.getfield 19, 3) := by decide +kernel
theorem dX2_macVerdict_4 : decode cX2_macVerdict 4 = .ok (.getfield 74, 3) := by decide +kernel
theorem dX2_macVerdict_7 : decode cX2_macVerdict 7 = .ok (.ifCond .eq 29, 3) := by decide +kernel
theorem dX2_macVerdict_10 : decode cX2_macVerdict 10 = .ok (.aload_n 0, 1) := by decide +kernel
theorem dX2_macVerdict_11 : decode cX2_macVerdict 11 = .ok (.getfield 19, 3) := by decide +kernel
theorem dX2_macVerdict_14 : decode cX2_macVerdict 14 = .ok (.getfield 83, 3) := by decide +kernel
theorem dX2_macVerdict_17 : decode cX2_macVerdict 17 = .ok (.ldc 87, 2) := by decide +kernel
theorem dX2_macVerdict_19 : decode cX2_macVerdict 19 = .ok (.if_icmp .ne 17, 3) := by decide +kernel
theorem dX2_macVerdict_22 : decode cX2_macVerdict 22 = .ok (.aload_n 0, 1) := by decide +kernel
theorem dX2_macVerdict_23 : decode cX2_macVerdict 23 = .ok (.getfield 19, 3) := by decide +kernel
theorem dX2_macVerdict_26 : decode cX2_macVerdict 26 = .ok (.getfield 88, 3) := by decide +kernel
theorem dX2_macVerdict_29 : decode cX2_macVerdict 29 = .ok (.ifCond .ne 7, 3) := by decide +kernel
theorem dX2_macVerdict_32 : decode cX2_macVerdict 32 = .ok (.iconst 1, 1) := by decide +kernel
theorem dX2_macVerdict_33 : decode cX2_macVerdict 33 = .ok (.goto 4, 3) := by decide +kernel
theorem dX2_macVerdict_36 : decode cX2_macVerdict 36 = .ok (.iconst 0, 1) := by decide +kernel
theorem dX2_macVerdict_37 : decode cX2_macVerdict 37 = .ok (.ireturn, 1) := by decide +kernel
theorem dX2_setBlockByte_0 : decode cX2_setBlockByte 0 = .ok (.aload_n 0, 1) := by decide +kernel
theorem dX2_setBlockByte_1 : decode cX2_setBlockByte 1 = .ok (.getfield 33, 3) := by decide +kernel
theorem dX2_setBlockByte_4 : decode cX2_setBlockByte 4 = .ok (.ifCond .eq 17, 3) := by decide +kernel
theorem dX2_setBlockByte_7 : decode cX2_setBlockByte 7 = .ok (.iload_n 1, 1) := by decide +kernel
theorem dX2_setBlockByte_8 : decode cX2_setBlockByte 8 = .ok (.invokestatic 43, 3) := by decide +kernel
theorem dX2_setBlockByte_11 : decode cX2_setBlockByte 11 = .ok (.ifCond .eq 10, 3) := by decide +kernel
theorem dX2_setBlockByte_14 : decode cX2_setBlockByte 14 = .ok (.iload_n 2, 1) := by decide +kernel
theorem dX2_setBlockByte_15 : decode cX2_setBlockByte 15 = .ok (.invokestatic 47, 3) := by decide +kernel
theorem dX2_setBlockByte_18 : decode cX2_setBlockByte 18 = .ok (.ifCond .ne 5, 3) := by decide +kernel
theorem dX2_setBlockByte_21 : decode cX2_setBlockByte 21 = .ok (.iconst 0, 1) := by decide +kernel
theorem dX2_setBlockByte_22 : decode cX2_setBlockByte 22 = .ok (.ireturn, 1) := by decide +kernel
theorem dX2_setBlockByte_23 : decode cX2_setBlockByte 23 = .ok (.aload_n 0, 1) := by decide +kernel
theorem dX2_setBlockByte_24 : decode cX2_setBlockByte 24 = .ok (.getfield 23, 3) := by decide +kernel
theorem dX2_setBlockByte_27 : decode cX2_setBlockByte 27 = .ok (.iload_n 1, 1) := by decide +kernel
theorem dX2_setBlockByte_28 : decode cX2_setBlockByte 28 = .ok (.iload_n 2, 1) := by decide +kernel
theorem dX2_setBlockByte_29 : decode cX2_setBlockByte 29 = .ok (.iastore, 1) := by decide +kernel
theorem dX2_setBlockByte_30 : decode cX2_setBlockByte 30 = .ok (.iconst 1, 1) := by decide +kernel
theorem dX2_setBlockByte_31 : decode cX2_setBlockByte 31 = .ok (.ireturn, 1) := by decide +kernel
theorem dX2_encryptBlock_0 : decode cX2_encryptBlock 0 = .ok (.aload_n 0, 1) := by decide +kernel
theorem dX2_encryptBlock_1 : decode cX2_encryptBlock 1 = .ok (.getfield 12, 3) := by decide +kernel
theorem dX2_encryptBlock_4 : decode cX2_encryptBlock 4 = .ok (.getfield 57, 3) := by decide +kernel
theorem dX2_encryptBlock_7 : decode cX2_encryptBlock 7 = .ok (.ifCond .ne 5, 3) := by decide +kernel
theorem dX2_encryptBlock_10 : decode cX2_encryptBlock 10 = .ok (.iconst 0, 1) := by decide +kernel
theorem dX2_encryptBlock_11 : decode cX2_encryptBlock 11 = .ok (.ireturn, 1) := by decide +kernel
theorem dX2_encryptBlock_12 : decode cX2_encryptBlock 12 = .ok (.aload_n 0, 1) := by decide +kernel
theorem dX2_encryptBlock_13 : decode cX2_encryptBlock 13 = .ok (.getfield 12, 3) := by decide +kernel
theorem dX2_encryptBlock_16 : decode cX2_encryptBlock 16 = .ok (.aload_n 0, 1) := by decide +kernel
theorem dX2_encryptBlock_17 : decode cX2_encryptBlock 17 = .ok (.getfield 23, 3) := by decide +kernel
theorem dX2_encryptBlock_20 : decode cX2_encryptBlock 20 = .ok (.invokevirtual 91, 3) := by decide +kernel
theorem dX2_encryptBlock_23 : decode cX2_encryptBlock 23 = .ok (.iconst 1, 1) := by decide +kernel
theorem dX2_encryptBlock_24 : decode cX2_encryptBlock 24 = .ok (.ireturn, 1) := by decide +kernel
theorem dX2_decryptBlock_0 : decode cX2_decryptBlock 0 = .ok (.aload_n 0, 1) := by decide +kernel
theorem dX2_decryptBlock_1 : decode cX2_decryptBlock 1 = .ok (.getfield 12, 3) := by decide +kernel
theorem dX2_decryptBlock_4 : decode cX2_decryptBlock 4 = .ok (.getfield 57, 3) := by decide +kernel
theorem dX2_decryptBlock_7 : decode cX2_decryptBlock 7 = .ok (.ifCond .ne 5, 3) := by decide +kernel
theorem dX2_decryptBlock_10 : decode cX2_decryptBlock 10 = .ok (.iconst 0, 1) := by decide +kernel
theorem dX2_decryptBlock_11 : decode cX2_decryptBlock 11 = .ok (.ireturn, 1) := by decide +kernel
theorem dX2_decryptBlock_12 : decode cX2_decryptBlock 12 = .ok (.aload_n 0, 1) := by decide +kernel
theorem dX2_decryptBlock_13 : decode cX2_decryptBlock 13 = .ok (.getfield 12, 3) := by decide +kernel
theorem dX2_decryptBlock_16 : decode cX2_decryptBlock 16 = .ok (.aload_n 0, 1) := by decide +kernel
theorem dX2_decryptBlock_17 : decode cX2_decryptBlock 17 = .ok (.getfield 23, 3) := by decide +kernel
theorem dX2_decryptBlock_20 : decode cX2_decryptBlock 20 = .ok (.invokevirtual 95, 3) := by decide +kernel
theorem dX2_decryptBlock_23 : decode cX2_decryptBlock 23 = .ok (.iconst 1, 1) := by decide +kernel
theorem dX2_decryptBlock_24 : decode cX2_decryptBlock 24 = .ok (.ireturn, 1) := by decide +kernel
theorem dX2_chain_0 : decode cX2_chain 0 = .ok (.aload_n 0, 1) := by decide +kernel
theorem dX2_chain_1 : decode cX2_chain 1 = .ok (.getfield 12, 3) := by decide +kernel
theorem dX2_chain_4 : decode cX2_chain 4 = .ok (.getfield 57, 3) := by decide +kernel
theorem dX2_chain_7 : decode cX2_chain 7 = .ok (.ifCond .ne 5, 3) := by decide +kernel
theorem dX2_chain_10 : decode cX2_chain 10 = .ok (.iconst 0, 1) := by decide +kernel
theorem dX2_chain_11 : decode cX2_chain 11 = .ok (.ireturn, 1) := by decide +kernel
theorem dX2_chain_12 : decode cX2_chain 12 = .ok (.iload_n 1, 1) := by decide +kernel
theorem dX2_chain_13 : decode cX2_chain 13 = .ok (.ifCond .eq 10, 3) := by decide +kernel
theorem dX2_chain_16 : decode cX2_chain 16 = .ok (.aload_n 0, 1) := by decide +kernel
theorem dX2_chain_17 : decode cX2_chain 17 = .ok (.invokevirtual 98, 3) := by decide +kernel
theorem dX2_chain_20 : decode cX2_chain 20 = .ok (.goto 7, 3) := by decide +kernel
theorem dX2_chain_23 : decode cX2_chain 23 = .ok (.aload_n 0, 1) := by decide +kernel
theorem dX2_chain_24 : decode cX2_chain 24 = .ok (.invokevirtual 101, 3) := by decide +kernel
theorem dX2_chain_27 : decode cX2_chain 27 = .ok (.iconst 1, 1) := by decide +kernel
theorem dX2_chain_28 : decode cX2_chain 28 = .ok (.ireturn, 1) := by decide +kernel
theorem dX2_unchain_0 : decode cX2_unchain 0 = .ok (.aload_n 0, 1) := by decide +kernel
theorem dX2_unchain_1 : decode cX2_unchain 1 = .ok (.getfield 33, 3) := by decide +kernel
theorem dX2_unchain_4 : decode cX2_unchain 4 = .ok (.ifCond .ne 5, 3) := by decide +kernel
theorem dX2_unchain_7 : decode cX2_unchain 7 = .ok (.iconst 0, 1) := by decide +kernel
theorem dX2_unchain_8 : decode cX2_unchain 8 = .ok (.ireturn, 1) := by decide +kernel
theorem dX2_unchain_9 : decode cX2_unchain 9 = .ok (.aload_n 0, 1) := by decide +kernel
theorem dX2_unchain_10 : decode cX2_unchain 10 = .ok (.getfield 27, 3) := by decide +kernel
theorem dX2_unchain_13 : decode cX2_unchain 13 = .ok (.iconst 0, 1) := by decide +kernel
theorem dX2_unchain_14 : decode cX2_unchain 14 = .ok (.invokestatic 104, 3) := by decide +kernel
theorem dX2_unchain_17 : decode cX2_unchain 17 = .ok (.iconst 1, 1) := by decide +kernel
theorem dX2_unchain_18 : decode cX2_unchain 18 = .ok (.ireturn, 1) := by decide +kernel
theorem dX2_blockByte_0 : decode cX2_blockByte 0 = .ok (.aload_n 0, 1) := by decide +kernel
theorem dX2_blockByte_1 : decode cX2_blockByte 1 = .ok (.getfield 33, 3) := by decide +kernel
theorem dX2_blockByte_4 : decode cX2_blockByte 4 = .ok (.ifCond .eq 19, 3) := by decide +kernel
theorem dX2_blockByte_7 : decode cX2_blockByte 7 = .ok (.iload_n 1, 1) := by decide +kernel
theorem dX2_blockByte_8 : decode cX2_blockByte 8 = .ok (.invokestatic 43, 3) := by decide +kernel
theorem dX2_blockByte_11 : decode cX2_blockByte 11 = .ok (.ifCond .eq 12, 3) := by decide +kernel
theorem dX2_blockByte_14 : decode cX2_blockByte 14 = .ok (.aload_n 0, 1) := by decide +kernel
theorem dX2_blockByte_15 : decode cX2_blockByte 15 = .ok (.getfield 23, 3) := by decide +kernel
theorem dX2_blockByte_18 : decode cX2_blockByte 18 = .ok (.iload_n 1, 1) := by decide +kernel
theorem dX2_blockByte_19 : decode cX2_blockByte 19 = .ok (.iaload, 1) := by decide +kernel
theorem dX2_blockByte_20 : decode cX2_blockByte 20 = .ok (.goto 4, 3) := by decide +kernel
theorem dX2_blockByte_23 : decode cX2_blockByte 23 = .ok (.iconst (-1), 1) := by decide +kernel
theorem dX2_blockByte_24 : decode cX2_blockByte 24 = .ok (.ireturn, 1) := by decide +kernel
theorem dX2_half_0 : decode cX2_half 0 = .ok (.aload_n 0, 1) := by decide +kernel
theorem dX2_half_1 : decode cX2_half 1 = .ok (.getfield 12, 3) := by decide +kernel
theorem dX2_half_4 : decode cX2_half 4 = .ok (.getfield 57, 3) := by decide +kernel
theorem dX2_half_7 : decode cX2_half 7 = .ok (.ifCond .eq 10, 3) := by decide +kernel
theorem dX2_half_10 : decode cX2_half 10 = .ok (.iload_n 2, 1) := by decide +kernel
theorem dX2_half_11 : decode cX2_half 11 = .ok (.invokestatic 43, 3) := by decide +kernel
theorem dX2_half_14 : decode cX2_half 14 = .ok (.ifCond .ne 5, 3) := by decide +kernel
theorem dX2_half_17 : decode cX2_half 17 = .ok (.iconst (-1), 1) := by decide +kernel
theorem dX2_half_18 : decode cX2_half 18 = .ok (.ireturn, 1) := by decide +kernel
theorem dX2_half_19 : decode cX2_half 19 = .ok (.iload_n 1, 1) := by decide +kernel
theorem dX2_half_20 : decode cX2_half 20 = .ok (.ifCond .ne 13, 3) := by decide +kernel
theorem dX2_half_23 : decode cX2_half 23 = .ok (.aload_n 0, 1) := by decide +kernel
theorem dX2_half_24 : decode cX2_half 24 = .ok (.getfield 12, 3) := by decide +kernel
theorem dX2_half_27 : decode cX2_half 27 = .ok (.getfield 110, 3) := by decide +kernel
theorem dX2_half_30 : decode cX2_half 30 = .ok (.iload_n 2, 1) := by decide +kernel
theorem dX2_half_31 : decode cX2_half 31 = .ok (.iaload, 1) := by decide +kernel
theorem dX2_half_32 : decode cX2_half 32 = .ok (.ireturn, 1) := by decide +kernel
theorem dX2_half_33 : decode cX2_half 33 = .ok (.iload_n 1, 1) := by decide +kernel
theorem dX2_half_34 : decode cX2_half 34 = .ok (.iconst 1, 1) := by decide +kernel
theorem dX2_half_35 : decode cX2_half 35 = .ok (.if_icmp .ne 15, 3) := by decide +kernel
theorem dX2_half_38 : decode cX2_half 38 = .ok (.aload_n 0, 1) := by decide +kernel
theorem dX2_half_39 : decode cX2_half 39 = .ok (.getfield 12, 3) := by decide +kernel
theorem dX2_half_42 : decode cX2_half 42 = .ok (.getfield 113, 3) := by decide +kernel
theorem dX2_half_45 : decode cX2_half 45 = .ok (.iload_n 2, 1) := by decide +kernel
theorem dX2_half_46 : decode cX2_half 46 = .ok (.iaload, 1) := by decide +kernel
theorem dX2_half_47 : decode cX2_half 47 = .ok (.goto 4, 3) := by decide +kernel
theorem dX2_half_50 : decode cX2_half 50 = .ok (.iconst (-1), 1) := by decide +kernel
theorem dX2_half_51 : decode cX2_half 51 = .ok (.ireturn, 1) := by decide +kernel
theorem dX2_chainForth_0 : decode cX2_chainForth 0 = .ok (.aload_n 0, 1) := by decide +kernel
theorem dX2_chainForth_1 : decode cX2_chainForth 1 = .ok (.getfield 23, 3) := by decide +kernel
theorem dX2_chainForth_4 : decode cX2_chainForth 4 = .ok (.aload_n 0, 1) := by decide +kernel
theorem dX2_chainForth_5 : decode cX2_chainForth 5 = .ok (.getfield 27, 3) := by decide +kernel
theorem dX2_chainForth_8 : decode cX2_chainForth 8 = .ok (.iconst 0, 1) := by decide +kernel
theorem dX2_chainForth_9 : decode cX2_chainForth 9 = .ok (.invokestatic 116, 3) := by decide +kernel
theorem dX2_chainForth_12 : decode cX2_chainForth 12 = .ok (.aload_n 0, 1) := by decide +kernel
theorem dX2_chainForth_13 : decode cX2_chainForth 13 = .ok (.getfield 12, 3) := by decide +kernel
theorem dX2_chainForth_16 : decode cX2_chainForth 16 = .ok (.aload_n 0, 1) := by decide +kernel
theorem dX2_chainForth_17 : decode cX2_chainForth 17 = .ok (.getfield 23, 3) := by decide +kernel
theorem dX2_chainForth_20 : decode cX2_chainForth 20 = .ok (.invokevirtual 91, 3) := by decide +kernel
theorem dX2_chainForth_23 : decode cX2_chainForth 23 = .ok (.aload_n 0, 1) := by decide +kernel
theorem dX2_chainForth_24 : decode cX2_chainForth 24 = .ok (.getfield 23, 3) := by decide +kernel
theorem dX2_chainForth_27 : decode cX2_chainForth 27 = .ok (.iconst 0, 1) := by decide +kernel
theorem dX2_chainForth_28 : decode cX2_chainForth 28 = .ok (.aload_n 0, 1) := by decide +kernel
theorem dX2_chainForth_29 : decode cX2_chainForth 29 = .ok (.getfield 27, 3) := by decide +kernel
theorem dX2_chainForth_32 : decode cX2_chainForth 32 = .ok (.iconst 0, 1) := by decide +kernel
theorem dX2_chainForth_33 : decode cX2_chainForth 33 = .ok (.bipush 16, 2) := by decide +kernel
theorem dX2_chainForth_35 : decode cX2_chainForth 35 = .ok (.invokestatic 120, 3) := by decide +kernel
theorem dX2_chainForth_38 : decode cX2_chainForth 38 = .ok (.return_, 1) := by decide +kernel
theorem dX2_chainBack_0 : decode cX2_chainBack 0 = .ok (.aload_n 0, 1) := by decide +kernel
theorem dX2_chainBack_1 : decode cX2_chainBack 1 = .ok (.getfield 23, 3) := by decide +kernel
theorem dX2_chainBack_4 : decode cX2_chainBack 4 = .ok (.iconst 0, 1) := by decide +kernel
theorem dX2_chainBack_5 : decode cX2_chainBack 5 = .ok (.aload_n 0, 1) := by decide +kernel
theorem dX2_chainBack_6 : decode cX2_chainBack 6 = .ok (.getfield 30, 3) := by decide +kernel
theorem dX2_chainBack_9 : decode cX2_chainBack 9 = .ok (.iconst 0, 1) := by decide +kernel
theorem dX2_chainBack_10 : decode cX2_chainBack 10 = .ok (.bipush 16, 2) := by decide +kernel
theorem dX2_chainBack_12 : decode cX2_chainBack 12 = .ok (.invokestatic 120, 3) := by decide +kernel
theorem dX2_chainBack_15 : decode cX2_chainBack 15 = .ok (.aload_n 0, 1) := by decide +kernel
theorem dX2_chainBack_16 : decode cX2_chainBack 16 = .ok (.getfield 12, 3) := by decide +kernel
theorem dX2_chainBack_19 : decode cX2_chainBack 19 = .ok (.aload_n 0, 1) := by decide +kernel
theorem dX2_chainBack_20 : decode cX2_chainBack 20 = .ok (.getfield 23, 3) := by decide +kernel
theorem dX2_chainBack_23 : decode cX2_chainBack 23 = .ok (.invokevirtual 95, 3) := by decide +kernel
theorem dX2_chainBack_26 : decode cX2_chainBack 26 = .ok (.aload_n 0, 1) := by decide +kernel
theorem dX2_chainBack_27 : decode cX2_chainBack 27 = .ok (.getfield 23, 3) := by decide +kernel
theorem dX2_chainBack_30 : decode cX2_chainBack 30 = .ok (.aload_n 0, 1) := by decide +kernel
theorem dX2_chainBack_31 : decode cX2_chainBack 31 = .ok (.getfield 27, 3) := by decide +kernel
theorem dX2_chainBack_34 : decode cX2_chainBack 34 = .ok (.iconst 0, 1) := by decide +kernel
theorem dX2_chainBack_35 : decode cX2_chainBack 35 = .ok (.invokestatic 116, 3) := by decide +kernel
theorem dX2_chainBack_38 : decode cX2_chainBack 38 = .ok (.aload_n 0, 1) := by decide +kernel
theorem dX2_chainBack_39 : decode cX2_chainBack 39 = .ok (.getfield 30, 3) := by decide +kernel
theorem dX2_chainBack_42 : decode cX2_chainBack 42 = .ok (.iconst 0, 1) := by decide +kernel
theorem dX2_chainBack_43 : decode cX2_chainBack 43 = .ok (.aload_n 0, 1) := by decide +kernel
theorem dX2_chainBack_44 : decode cX2_chainBack 44 = .ok (.getfield 27, 3) := by decide +kernel
theorem dX2_chainBack_47 : decode cX2_chainBack 47 = .ok (.iconst 0, 1) := by decide +kernel
theorem dX2_chainBack_48 : decode cX2_chainBack 48 = .ok (.bipush 16, 2) := by decide +kernel
theorem dX2_chainBack_50 : decode cX2_chainBack 50 = .ok (.invokestatic 120, 3) := by decide +kernel
theorem dX2_chainBack_53 : decode cX2_chainBack 53 = .ok (.return_, 1) := by decide +kernel
theorem dX2_isPlace_0 : decode cX2_isPlace 0 = .ok (.iload_n 0, 1) := by decide +kernel
theorem dX2_isPlace_1 : decode cX2_isPlace 1 = .ok (.ifCond .lt 13, 3) := by decide +kernel
theorem dX2_isPlace_4 : decode cX2_isPlace 4 = .ok (.iload_n 0, 1) := by decide +kernel
theorem dX2_isPlace_5 : decode cX2_isPlace 5 = .ok (.bipush 16, 2) := by decide +kernel
theorem dX2_isPlace_7 : decode cX2_isPlace 7 = .ok (.if_icmp .ge 7, 3) := by decide +kernel
theorem dX2_isPlace_10 : decode cX2_isPlace 10 = .ok (.iconst 1, 1) := by decide +kernel
theorem dX2_isPlace_11 : decode cX2_isPlace 11 = .ok (.goto 4, 3) := by decide +kernel
theorem dX2_isPlace_14 : decode cX2_isPlace 14 = .ok (.iconst 0, 1) := by decide +kernel
theorem dX2_isPlace_15 : decode cX2_isPlace 15 = .ok (.ireturn, 1) := by decide +kernel
theorem dX2_isByte_0 : decode cX2_isByte 0 = .ok (.iload_n 0, 1) := by decide +kernel
theorem dX2_isByte_1 : decode cX2_isByte 1 = .ok (.ifCond .lt 14, 3) := by decide +kernel
theorem dX2_isByte_4 : decode cX2_isByte 4 = .ok (.iload_n 0, 1) := by decide +kernel
theorem dX2_isByte_5 : decode cX2_isByte 5 = .ok (.sipush 255, 3) := by decide +kernel
theorem dX2_isByte_8 : decode cX2_isByte 8 = .ok (.if_icmp .gt 7, 3) := by decide +kernel
theorem dX2_isByte_11 : decode cX2_isByte 11 = .ok (.iconst 1, 1) := by decide +kernel
theorem dX2_isByte_12 : decode cX2_isByte 12 = .ok (.goto 4, 3) := by decide +kernel
theorem dX2_isByte_15 : decode cX2_isByte 15 = .ok (.iconst 0, 1) := by decide +kernel
theorem dX2_isByte_16 : decode cX2_isByte 16 = .ok (.ireturn, 1) := by decide +kernel
theorem dX2_xor_0 : decode cX2_xor 0 = .ok (.iconst 0, 1) := by decide +kernel
theorem dX2_xor_1 : decode cX2_xor 1 = .ok (.istore_n 3, 1) := by decide +kernel
theorem dX2_xor_2 : decode cX2_xor 2 = .ok (.iload_n 3, 1) := by decide +kernel
theorem dX2_xor_3 : decode cX2_xor 3 = .ok (.bipush 16, 2) := by decide +kernel
theorem dX2_xor_5 : decode cX2_xor 5 = .ok (.if_icmp .ge 20, 3) := by decide +kernel
theorem dX2_xor_8 : decode cX2_xor 8 = .ok (.aload_n 0, 1) := by decide +kernel
theorem dX2_xor_9 : decode cX2_xor 9 = .ok (.iload_n 3, 1) := by decide +kernel
theorem dX2_xor_10 : decode cX2_xor 10 = .ok (.dup2, 1) := by decide +kernel
theorem dX2_xor_11 : decode cX2_xor 11 = .ok (.iaload, 1) := by decide +kernel
theorem dX2_xor_12 : decode cX2_xor 12 = .ok (.aload_n 1, 1) := by decide +kernel
theorem dX2_xor_13 : decode cX2_xor 13 = .ok (.iload_n 2, 1) := by decide +kernel
theorem dX2_xor_14 : decode cX2_xor 14 = .ok (.iload_n 3, 1) := by decide +kernel
theorem dX2_xor_15 : decode cX2_xor 15 = .ok (.iadd, 1) := by decide +kernel
theorem dX2_xor_16 : decode cX2_xor 16 = .ok (.iaload, 1) := by decide +kernel
theorem dX2_xor_17 : decode cX2_xor 17 = .ok (.ixor, 1) := by decide +kernel
theorem dX2_xor_18 : decode cX2_xor 18 = .ok (.iastore, 1) := by decide +kernel
theorem dX2_xor_19 : decode cX2_xor 19 = .ok (.iinc 3 1, 3) := by decide +kernel
theorem dX2_xor_22 : decode cX2_xor 22 = .ok (.goto (-20), 3) := by decide +kernel
theorem dX2_xor_25 : decode cX2_xor 25 = .ok (.return_, 1) := by decide +kernel
theorem dX3_init_0 : decode cX3_init 0 = .ok (.aload_n 0, 1) := by decide +kernel
theorem dX3_init_1 : decode cX3_init 1 = .ok (.invokespecial 1, 3) := by decide +kernel
theorem dX3_init_4 : decode cX3_init 4 = .ok (.aload_n 0, 1) := by decide +kernel
theorem dX3_init_5 : decode cX3_init 5 = .ok (.bipush 16, 2) := by decide +kernel
theorem dX3_init_7 : decode cX3_init 7 = .ok (.newarray .int, 2) := by decide +kernel
theorem dX3_init_9 : decode cX3_init 9 = .ok (.putfield 7, 3) := by decide +kernel
theorem dX3_init_12 : decode cX3_init 12 = .ok (.aload_n 0, 1) := by decide +kernel
theorem dX3_init_13 : decode cX3_init 13 = .ok (.bipush 16, 2) := by decide +kernel
theorem dX3_init_15 : decode cX3_init 15 = .ok (.newarray .int, 2) := by decide +kernel
theorem dX3_init_17 : decode cX3_init 17 = .ok (.putfield 13, 3) := by decide +kernel
theorem dX3_init_20 : decode cX3_init 20 = .ok (.aload_n 0, 1) := by decide +kernel
theorem dX3_init_21 : decode cX3_init 21 = .ok (.bipush 16, 2) := by decide +kernel
theorem dX3_init_23 : decode cX3_init 23 = .ok (.newarray .int, 2) := by decide +kernel
theorem dX3_init_25 : decode cX3_init 25 = .ok (.putfield 16, 3) := by decide +kernel
theorem dX3_init_28 : decode cX3_init 28 = .ok (.aload_n 0, 1) := by decide +kernel
theorem dX3_init_29 : decode cX3_init 29 = .ok (.sipush 256, 3) := by decide +kernel
theorem dX3_init_32 : decode cX3_init 32 = .ok (.newarray .int, 2) := by decide +kernel
theorem dX3_init_34 : decode cX3_init 34 = .ok (.putfield 19, 3) := by decide +kernel
theorem dX3_init_37 : decode cX3_init 37 = .ok (.aload_n 0, 1) := by decide +kernel
theorem dX3_init_38 : decode cX3_init 38 = .ok (.sipush 256, 3) := by decide +kernel
theorem dX3_init_41 : decode cX3_init 41 = .ok (.newarray .int, 2) := by decide +kernel
theorem dX3_init_43 : decode cX3_init 43 = .ok (.putfield 22, 3) := by decide +kernel
theorem dX3_init_46 : decode cX3_init 46 = .ok (.aload_n 0, 1) := by decide +kernel
theorem dX3_init_47 : decode cX3_init 47 = .ok (.sipush 176, 3) := by decide +kernel
theorem dX3_init_50 : decode cX3_init 50 = .ok (.newarray .int, 2) := by decide +kernel
theorem dX3_init_52 : decode cX3_init 52 = .ok (.putfield 25, 3) := by decide +kernel
theorem dX3_init_55 : decode cX3_init 55 = .ok (.aload_n 0, 1) := by decide +kernel
theorem dX3_init_56 : decode cX3_init 56 = .ok (.bipush 32, 2) := by decide +kernel
theorem dX3_init_58 : decode cX3_init 58 = .ok (.newarray .int, 2) := by decide +kernel
theorem dX3_init_60 : decode cX3_init 60 = .ok (.putfield 28, 3) := by decide +kernel
theorem dX3_init_63 : decode cX3_init 63 = .ok (.aload_n 0, 1) := by decide +kernel
theorem dX3_init_64 : decode cX3_init 64 = .ok (.bipush 16, 2) := by decide +kernel
theorem dX3_init_66 : decode cX3_init 66 = .ok (.newarray .int, 2) := by decide +kernel
theorem dX3_init_68 : decode cX3_init 68 = .ok (.putfield 31, 3) := by decide +kernel
theorem dX3_init_71 : decode cX3_init 71 = .ok (.aload_n 0, 1) := by decide +kernel
theorem dX3_init_72 : decode cX3_init 72 = .ok (.bipush 16, 2) := by decide +kernel
theorem dX3_init_74 : decode cX3_init 74 = .ok (.newarray .int, 2) := by decide +kernel
theorem dX3_init_76 : decode cX3_init 76 = .ok (.putfield 34, 3) := by decide +kernel
theorem dX3_init_79 : decode cX3_init 79 = .ok (.aload_n 0, 1) := by decide +kernel
theorem dX3_init_80 : decode cX3_init 80 = .ok (.bipush 16, 2) := by decide +kernel
theorem dX3_init_82 : decode cX3_init 82 = .ok (.newarray .int, 2) := by decide +kernel
theorem dX3_init_84 : decode cX3_init 84 = .ok (.putfield 37, 3) := by decide +kernel
theorem dX3_init_87 : decode cX3_init 87 = .ok (.aload_n 0, 1) := by decide +kernel
theorem dX3_init_88 : decode cX3_init 88 = .ok (.bipush 16, 2) := by decide +kernel
theorem dX3_init_90 : decode cX3_init 90 = .ok (.newarray .int, 2) := by decide +kernel
theorem dX3_init_92 : decode cX3_init 92 = .ok (.putfield 40, 3) := by decide +kernel
theorem dX3_init_95 : decode cX3_init 95 = .ok (.aload_n 0, 1) := by decide +kernel
theorem dX3_init_96 : decode cX3_init 96 = .ok (.bipush 16, 2) := by decide +kernel
theorem dX3_init_98 : decode cX3_init 98 = .ok (.newarray .boolean, 2) := by decide +kernel
theorem dX3_init_100 : decode cX3_init 100 = .ok (.putfield 43, 3) := by decide +kernel
theorem dX3_init_103 : decode cX3_init 103 = .ok (.iconst 0, 1) := by decide +kernel
theorem dX3_init_104 : decode cX3_init 104 = .ok (.istore_n 1, 1) := by decide +kernel
theorem dX3_init_105 : decode cX3_init 105 = .ok (.iload_n 1, 1) := by decide +kernel
theorem dX3_init_106 : decode cX3_init 106 = .ok (.sipush 256, 3) := by decide +kernel
theorem dX3_init_109 : decode cX3_init 109 = .ok (.if_icmp .ge 145, 3) := by decide +kernel
theorem dX3_init_112 : decode cX3_init 112 = .ok (.iconst 0, 1) := by decide +kernel
theorem dX3_init_113 : decode cX3_init 113 = .ok (.istore_n 2, 1) := by decide +kernel
theorem dX3_init_114 : decode cX3_init 114 = .ok (.iconst 1, 1) := by decide +kernel
theorem dX3_init_115 : decode cX3_init 115 = .ok (.istore_n 3, 1) := by decide +kernel
theorem dX3_init_116 : decode cX3_init 116 = .ok (.iload_n 3, 1) := by decide +kernel
theorem dX3_init_117 : decode cX3_init 117 = .ok (.sipush 256, 3) := by decide +kernel
theorem dX3_init_120 : decode cX3_init 120 = .ok (.if_icmp .ge 32, 3) := by decide +kernel
theorem dX3_init_123 : decode cX3_init 123 = .ok (.iload_n 2, 1) := by decide +kernel
theorem dX3_init_124 : decode cX3_init 124 = .ok (.ifCond .ne 28, 3) := by decide +kernel
theorem dX3_init_127 : decode cX3_init 127 = .ok (.iload_n 1, 1) := by decide +kernel
theorem dX3_init_128 : decode cX3_init 128 = .ok (.ifCond .le 16, 3) := by decide +kernel
theorem dX3_init_131 : decode cX3_init 131 = .ok (.iload_n 1, 1) := by decide +kernel
theorem dX3_init_132 : decode cX3_init 132 = .ok (.iload_n 3, 1) := by decide +kernel
theorem dX3_init_133 : decode cX3_init 133 = .ok (.invokestatic 47, 3) := by decide +kernel
theorem dX3_init_136 : decode cX3_init 136 = .ok (.iconst 1, 1) := by decide +kernel
theorem dX3_init_137 : decode cX3_init 137 = .ok (.if_icmp .ne 7, 3) := by decide +kernel
theorem dX3_init_140 : decode cX3_init 140 = .ok (.iload_n 3, 1) := by decide +kernel
theorem dX3_init_141 : decode cX3_init 141 = .ok (.goto 4, 3) := by decide +kernel
theorem dX3_init_144 : decode cX3_init 144 = .ok (.iconst 0, 1) := by decide +kernel
theorem dX3_init_145 : decode cX3_init 145 = .ok (.istore_n 2, 1) := by decide +kernel
theorem dX3_init_146 : decode cX3_init 146 = .ok (.iinc 3 1, 3) := by decide +kernel
theorem dX3_init_149 : decode cX3_init 149 = .ok (.goto (-33), 3) := by decide +kernel
theorem dX3_init_152 : decode cX3_init 152 = .ok (.iconst 0, 1) := by decide +kernel
theorem dX3_init_153 : decode cX3_init 153 = .ok (.istore_n 3, 1) := by decide +kernel
theorem dX3_init_154 : decode cX3_init 154 = .ok (.iconst 0, 1) := by decide +kernel
theorem dX3_init_155 : decode cX3_init 155 = .ok (.istore 4, 2) := by decide +kernel
theorem dX3_init_157 : decode cX3_init 157 = .ok (.iload 4, 2) := by decide +kernel
theorem dX3_init_159 : decode cX3_init 159 = .ok (.bipush 8, 2) := by decide +kernel
theorem dX3_init_161 : decode cX3_init 161 = .ok (.if_icmp .ge 73, 3) := by decide +kernel
theorem dX3_init_164 : decode cX3_init 164 = .ok (.iload_n 2, 1) := by decide +kernel
theorem dX3_init_165 : decode cX3_init 165 = .ok (.iload 4, 2) := by decide +kernel
theorem dX3_init_167 : decode cX3_init 167 = .ok (.ishr, 1) := by decide +kernel
theorem dX3_init_168 : decode cX3_init 168 = .ok (.iload_n 2, 1) := by decide +kernel
theorem dX3_init_169 : decode cX3_init 169 = .ok (.iload 4, 2) := by decide +kernel
theorem dX3_init_171 : decode cX3_init 171 = .ok (.iconst 4, 1) := by decide +kernel
theorem dX3_init_172 : decode cX3_init 172 = .ok (.iadd, 1) := by decide +kernel
theorem dX3_init_173 : decode cX3_init 173 = .ok (.bipush 8, 2) := by decide +kernel
theorem dX3_init_175 : decode cX3_init 175 = .ok (.irem, 1) := by decide +kernel
theorem dX3_init_176 : decode cX3_init 176 = .ok (.ishr, 1) := by decide +kernel
theorem dX3_init_177 : decode cX3_init 177 = .ok (.iadd, 1) := by decide +kernel
theorem dX3_init_178 : decode cX3_init 178 = .ok (.iload_n 2, 1) := by decide +kernel
theorem dX3_init_179 : decode cX3_init 179 = .ok (.iload 4, 2) := by decide +kernel
theorem dX3_init_181 : decode cX3_init 181 = .ok (.iconst 5, 1) := by decide +kernel
theorem dX3_init_182 : decode cX3_init 182 = .ok (.iadd, 1) := by decide +kernel
theorem dX3_init_183 : decode cX3_init 183 = .ok (.bipush 8, 2) := by decide +kernel
theorem dX3_init_185 : decode cX3_init 185 = .ok (.irem, 1) := by decide +kernel
theorem dX3_init_186 : decode cX3_init 186 = .ok (.ishr, 1) := by decide +kernel
theorem dX3_init_187 : decode cX3_init 187 = .ok (.iadd, 1) := by decide +kernel
theorem dX3_init_188 : decode cX3_init 188 = .ok (.iload_n 2, 1) := by decide +kernel
theorem dX3_init_189 : decode cX3_init 189 = .ok (.iload 4, 2) := by decide +kernel
theorem dX3_init_191 : decode cX3_init 191 = .ok (.bipush 6, 2) := by decide +kernel
theorem dX3_init_193 : decode cX3_init 193 = .ok (.iadd, 1) := by decide +kernel
theorem dX3_init_194 : decode cX3_init 194 = .ok (.bipush 8, 2) := by decide +kernel
theorem dX3_init_196 : decode cX3_init 196 = .ok (.irem, 1) := by decide +kernel
theorem dX3_init_197 : decode cX3_init 197 = .ok (.ishr, 1) := by decide +kernel
theorem dX3_init_198 : decode cX3_init 198 = .ok (.iadd, 1) := by decide +kernel
theorem dX3_init_199 : decode cX3_init 199 = .ok (.iload_n 2, 1) := by decide +kernel
theorem dX3_init_200 : decode cX3_init 200 = .ok (.iload 4, 2) := by decide +kernel
theorem dX3_init_202 : decode cX3_init 202 = .ok (.bipush 7, 2) := by decide +kernel
theorem dX3_init_204 : decode cX3_init 204 = .ok (.iadd, 1) := by decide +kernel
theorem dX3_init_205 : decode cX3_init 205 = .ok (.bipush 8, 2) := by decide +kernel
theorem dX3_init_207 : decode cX3_init 207 = .ok (.irem, 1) := by decide +kernel
theorem dX3_init_208 : decode cX3_init 208 = .ok (.ishr, 1) := by decide +kernel
theorem dX3_init_209 : decode cX3_init 209 = .ok (.iadd, 1) := by decide +kernel
theorem dX3_init_210 : decode cX3_init 210 = .ok (.bipush 99, 2) := by decide +kernel
theorem dX3_init_212 : decode cX3_init 212 = .ok (.iload 4, 2) := by decide +kernel
theorem dX3_init_214 : decode cX3_init 214 = .ok (.ishr, 1) := by decide +kernel
theorem dX3_init_215 : decode cX3_init 215 = .ok (.iadd, 1) := by decide +kernel
theorem dX3_init_216 : decode cX3_init 216 = .ok (.istore 5, 2) := by decide +kernel
theorem dX3_init_218 : decode cX3_init 218 = .ok (.iload_n 3, 1) := by decide +kernel
theorem dX3_init_219 : decode cX3_init 219 = .ok (.iload 5, 2) := by decide +kernel
theorem dX3_init_221 : decode cX3_init 221 = .ok (.iconst 2, 1) := by decide +kernel
theorem dX3_init_222 : decode cX3_init 222 = .ok (.irem, 1) := by decide +kernel
theorem dX3_init_223 : decode cX3_init 223 = .ok (.iload 4, 2) := by decide +kernel
theorem dX3_init_225 : decode cX3_init 225 = .ok (.ishl, 1) := by decide +kernel
theorem dX3_init_226 : decode cX3_init 226 = .ok (.iadd, 1) := by decide +kernel
theorem dX3_init_227 : decode cX3_init 227 = .ok (.istore_n 3, 1) := by decide +kernel
theorem dX3_init_228 : decode cX3_init 228 = .ok (.iinc 4 1, 3) := by decide +kernel
theorem dX3_init_231 : decode cX3_init 231 = .ok (.goto (-74), 3) := by decide +kernel
theorem dX3_init_234 : decode cX3_init 234 = .ok (.aload_n 0, 1) := by decide +kernel
theorem dX3_init_235 : decode cX3_init 235 = .ok (.getfield 19, 3) := by decide +kernel
theorem dX3_init_238 : decode cX3_init 238 = .ok (.iload_n 1, 1) := by decide +kernel
theorem dX3_init_239 : decode cX3_init 239 = .ok (.iload_n 3, 1) := by decide +kernel
theorem dX3_init_240 : decode cX3_init 240 = .ok (.iastore, 1) := by decide +kernel
theorem dX3_init_241 : decode cX3_init 241 = .ok (.aload_n 0, 1) := by decide +kernel
theorem dX3_init_242 : decode cX3_init 242 = .ok (.getfield 22, 3) := by decide +kernel
theorem dX3_init_245 : decode cX3_init 245 = .ok (.iload_n 3, 1) := by decide +kernel
theorem dX3_init_246 : decode cX3_init 246 = .ok (.iload_n 1, 1) := by decide +kernel
theorem dX3_init_247 : decode cX3_init 247 = .ok (.iastore, 1) := by decide +kernel
theorem dX3_init_248 : decode cX3_init 248 = .ok (.iinc 1 1, 3) := by decide +kernel
theorem dX3_init_251 : decode cX3_init 251 = .ok (.goto (-146), 3) := by decide +kernel
theorem dX3_init_254 : decode cX3_init 254 = .ok (.return_, 1) := by decide +kernel
theorem dX3_times_0 : decode cX3_times 0 = .ok (.iconst 0, 1) := by decide +kernel
theorem dX3_times_1 : decode cX3_times 1 = .ok (.istore_n 2, 1) := by decide +kernel
theorem dX3_times_2 : decode cX3_times 2 = .ok (.iload_n 0, 1) := by decide +kernel
theorem dX3_times_3 : decode cX3_times 3 = .ok (.istore_n 3, 1) := by decide +kernel
theorem dX3_times_4 : decode cX3_times 4 = .ok (.iconst 0, 1) := by decide +kernel
theorem dX3_times_5 : decode cX3_times 5 = .ok (.istore 4, 2) := by decide +kernel
theorem dX3_times_7 : decode cX3_times 7 = .ok (.iload 4, 2) := by decide +kernel
theorem dX3_times_9 : decode cX3_times 9 = .ok (.bipush 8, 2) := by decide +kernel
theorem dX3_times_11 : decode cX3_times 11 = .ok (.if_icmp .ge 51, 3) := by decide +kernel
theorem dX3_times_14 : decode cX3_times 14 = .ok (.iload_n 1, 1) := by decide +kernel
theorem dX3_times_15 : decode cX3_times 15 = .ok (.iload 4, 2) := by decide +kernel
theorem dX3_times_17 : decode cX3_times 17 = .ok (.ishr, 1) := by decide +kernel
theorem dX3_times_18 : decode cX3_times 18 = .ok (.iconst 1, 1) := by decide +kernel
theorem dX3_times_19 : decode cX3_times 19 = .ok (.iand, 1) := by decide +kernel
theorem dX3_times_20 : decode cX3_times 20 = .ok (.iconst 1, 1) := by decide +kernel
theorem dX3_times_21 : decode cX3_times 21 = .ok (.if_icmp .ne 9, 3) := by decide +kernel
theorem dX3_times_24 : decode cX3_times 24 = .ok (.iload_n 2, 1) := by decide +kernel
theorem dX3_times_25 : decode cX3_times 25 = .ok (.iload_n 3, 1) := by decide +kernel
theorem dX3_times_26 : decode cX3_times 26 = .ok (.ixor, 1) := by decide +kernel
theorem dX3_times_27 : decode cX3_times 27 = .ok (.goto 4, 3) := by decide +kernel
theorem dX3_times_30 : decode cX3_times 30 = .ok (.iload_n 2, 1) := by decide +kernel
theorem dX3_times_31 : decode cX3_times 31 = .ok (.istore_n 2, 1) := by decide +kernel
theorem dX3_times_32 : decode cX3_times 32 = .ok (.iload_n 3, 1) := by decide +kernel
theorem dX3_times_33 : decode cX3_times 33 = .ok (.sipush 128, 3) := by decide +kernel
theorem dX3_times_36 : decode cX3_times 36 = .ok (.if_icmp .ge 9, 3) := by decide +kernel
theorem dX3_times_39 : decode cX3_times 39 = .ok (.iconst 2, 1) := by decide +kernel
theorem dX3_times_40 : decode cX3_times 40 = .ok (.iload_n 3, 1) := by decide +kernel
theorem dX3_times_41 : decode cX3_times 41 = .ok (.imul, 1) := by decide +kernel
theorem dX3_times_42 : decode cX3_times 42 = .ok (.goto 13, 3) := by decide +kernel
theorem dX3_times_45 : decode cX3_times 45 = .ok (.iconst 2, 1) := by decide +kernel
theorem dX3_times_46 : decode cX3_times 46 = .ok (.iload_n 3, 1) := by decide +kernel
theorem dX3_times_47 : decode cX3_times 47 = .ok (.imul, 1) := by decide +kernel
theorem dX3_times_48 : decode cX3_times 48 = .ok (.sipush 256, 3) := by decide +kernel
theorem dX3_times_51 : decode cX3_times 51 = .ok (.isub, 1) := by decide +kernel
theorem dX3_times_52 : decode cX3_times 52 = .ok (.bipush 27, 2) := by decide +kernel
theorem dX3_times_54 : decode cX3_times 54 = .ok (.ixor, 1) := by decide +kernel
theorem dX3_times_55 : decode cX3_times 55 = .ok (.istore_n 3, 1) := by decide +kernel
theorem dX3_times_56 : decode cX3_times 56 = .ok (.iinc 4 1, 3) := by decide +kernel
theorem dX3_times_59 : decode cX3_times 59 = .ok (.goto (-52), 3) := by decide +kernel
theorem dX3_times_62 : decode cX3_times 62 = .ok (.iload_n 2, 1) := by decide +kernel
theorem dX3_times_63 : decode cX3_times 63 = .ok (.ireturn, 1) := by decide +kernel
theorem dX3_isIn_0 : decode cX3_isIn 0 = .ok (.iload_n 0, 1) := by decide +kernel
theorem dX3_isIn_1 : decode cX3_isIn 1 = .ok (.ifCond .lt 12, 3) := by decide +kernel
theorem dX3_isIn_4 : decode cX3_isIn 4 = .ok (.iload_n 0, 1) := by decide +kernel
theorem dX3_isIn_5 : decode cX3_isIn 5 = .ok (.iload_n 1, 1) := by decide +kernel
theorem dX3_isIn_6 : decode cX3_isIn 6 = .ok (.if_icmp .gt 7, 3) := by decide +kernel
theorem dX3_isIn_9 : decode cX3_isIn 9 = .ok (.iconst 1, 1) := by decide +kernel
theorem dX3_isIn_10 : decode cX3_isIn 10 = .ok (.goto 4, 3) := by decide +kernel
theorem dX3_isIn_13 : decode cX3_isIn 13 = .ok (.iconst 0, 1) := by decide +kernel
theorem dX3_isIn_14 : decode cX3_isIn 14 = .ok (.ireturn, 1) := by decide +kernel
theorem dX3_init__0 : decode cX3_init_ 0 = .ok (.aload_n 0, 1) := by decide +kernel
theorem dX3_init__1 : decode cX3_init_ 1 = .ok (.iconst 0, 1) := by decide +kernel
theorem dX3_init__2 : decode cX3_init_ 2 = .ok (.putfield 51, 3) := by decide +kernel
theorem dX3_init__5 : decode cX3_init_ 5 = .ok (.iconst 0, 1) := by decide +kernel
theorem dX3_init__6 : decode cX3_init_ 6 = .ok (.istore_n 1, 1) := by decide +kernel
theorem dX3_init__7 : decode cX3_init_ 7 = .ok (.iload_n 1, 1) := by decide +kernel
theorem dX3_init__8 : decode cX3_init_ 8 = .ok (.bipush 16, 2) := by decide +kernel
theorem dX3_init__10 : decode cX3_init_ 10 = .ok (.if_icmp .ge 16, 3) := by decide +kernel
theorem dX3_init__13 : decode cX3_init_ 13 = .ok (.aload_n 0, 1) := by decide +kernel
theorem dX3_init__14 : decode cX3_init_ 14 = .ok (.getfield 7, 3) := by decide +kernel
theorem dX3_init__17 : decode cX3_init_ 17 = .ok (.iload_n 1, 1) := by decide +kernel
theorem dX3_init__18 : decode cX3_init_ 18 = .ok (.iconst 0, 1) := by decide +kernel
theorem dX3_init__19 : decode cX3_init_ 19 = .ok (.iastore, 1) := by decide +kernel
theorem dX3_init__20 : decode cX3_init_ 20 = .ok (.iinc 1 1, 3) := by decide +kernel
theorem dX3_init__23 : decode cX3_init_ 23 = .ok (.goto (-16), 3) := by decide +kernel
theorem dX3_init__26 : decode cX3_init_ 26 = .ok (.aload_n 0, 1) := by decide +kernel
theorem dX3_init__27 : decode cX3_init_ 27 = .ok (.iconst 1, 1) := by decide +kernel
theorem dX3_init__28 : decode cX3_init_ 28 = .ok (.putfield 55, 3) := by decide +kernel
theorem dX3_init__31 : decode cX3_init_ 31 = .ok (.aload_n 0, 1) := by decide +kernel
theorem dX3_init__32 : decode cX3_init_ 32 = .ok (.iconst 0, 1) := by decide +kernel
theorem dX3_init__33 : decode cX3_init_ 33 = .ok (.putfield 59, 3) := by decide +kernel
theorem dX3_init__36 : decode cX3_init_ 36 = .ok (.aload_n 0, 1) := by decide +kernel
theorem dX3_init__37 : decode cX3_init_ 37 = .ok (.iconst 0, 1) := by decide +kernel
theorem dX3_init__38 : decode cX3_init_ 38 = .ok (.putfield 62, 3) := by decide +kernel
theorem dX3_init__41 : decode cX3_init_ 41 = .ok (.return_, 1) := by decide +kernel
theorem dX3_setKeyByte_0 : decode cX3_setKeyByte 0 = .ok (.aload_n 0, 1) := by decide +kernel
theorem dX3_setKeyByte_1 : decode cX3_setKeyByte 1 = .ok (.iconst 0, 1) := by decide +kernel
theorem dX3_setKeyByte_2 : decode cX3_setKeyByte 2 = .ok (.putfield 51, 3) := by decide +kernel
theorem dX3_setKeyByte_5 : decode cX3_setKeyByte 5 = .ok (.aload_n 0, 1) := by decide +kernel
theorem dX3_setKeyByte_6 : decode cX3_setKeyByte 6 = .ok (.getfield 55, 3) := by decide +kernel
theorem dX3_setKeyByte_9 : decode cX3_setKeyByte 9 = .ok (.ifCond .eq 22, 3) := by decide +kernel
theorem dX3_setKeyByte_12 : decode cX3_setKeyByte 12 = .ok (.iload_n 1, 1) := by decide +kernel
theorem dX3_setKeyByte_13 : decode cX3_setKeyByte 13 = .ok (.bipush 15, 2) := by decide +kernel
theorem dX3_setKeyByte_15 : decode cX3_setKeyByte 15 = .ok (.invokestatic 65, 3) := by decide +kernel
theorem dX3_setKeyByte_18 : decode cX3_setKeyByte 18 = .ok (.ifCond .eq 13, 3) := by decide +kernel
theorem dX3_setKeyByte_21 : decode cX3_setKeyByte 21 = .ok (.iload_n 2, 1) := by decide +kernel
theorem dX3_setKeyByte_22 : decode cX3_setKeyByte 22 = .ok (.sipush 255, 3) := by decide +kernel
theorem dX3_setKeyByte_25 : decode cX3_setKeyByte 25 = .ok (.invokestatic 65, 3) := by decide +kernel
theorem dX3_setKeyByte_28 : decode cX3_setKeyByte 28 = .ok (.ifCond .ne 5, 3) := by decide +kernel
theorem dX3_setKeyByte_31 : decode cX3_setKeyByte 31 = .ok (.iconst 0, 1) := by decide +kernel
theorem dX3_setKeyByte_32 : decode cX3_setKeyByte 32 = .ok (.ireturn, 1) := by decide +kernel
theorem dX3_setKeyByte_33 : decode cX3_setKeyByte 33 = .ok (.aload_n 0, 1) := by decide +kernel
theorem dX3_setKeyByte_34 : decode cX3_setKeyByte 34 = .ok (.getfield 7, 3) := by decide +kernel
theorem dX3_setKeyByte_37 : decode cX3_setKeyByte 37 = .ok (.iload_n 1, 1) := by decide +kernel
theorem dX3_setKeyByte_38 : decode cX3_setKeyByte 38 = .ok (.iload_n 2, 1) := by decide +kernel
theorem dX3_setKeyByte_39 : decode cX3_setKeyByte 39 = .ok (.iastore, 1) := by decide +kernel
theorem dX3_setKeyByte_40 : decode cX3_setKeyByte 40 = .ok (.aload_n 0, 1) := by decide +kernel
theorem dX3_setKeyByte_41 : decode cX3_setKeyByte 41 = .ok (.iconst 0, 1) := by decide +kernel
theorem dX3_setKeyByte_42 : decode cX3_setKeyByte 42 = .ok (.putfield 59, 3) := by decide +kernel
theorem dX3_setKeyByte_45 : decode cX3_setKeyByte 45 = .ok (.aload_n 0, 1) := by decide +kernel
theorem dX3_setKeyByte_46 : decode cX3_setKeyByte 46 = .ok (.iconst 0, 1) := by decide +kernel
theorem dX3_setKeyByte_47 : decode cX3_setKeyByte 47 = .ok (.putfield 62, 3) := by decide +kernel
theorem dX3_setKeyByte_50 : decode cX3_setKeyByte 50 = .ok (.iconst 1, 1) := by decide +kernel
theorem dX3_setKeyByte_51 : decode cX3_setKeyByte 51 = .ok (.ireturn, 1) := by decide +kernel
theorem dX3_makeWords_0 : decode cX3_makeWords 0 = .ok (.iconst 1, 1) := by decide +kernel
theorem dX3_makeWords_1 : decode cX3_makeWords 1 = .ok (.istore_n 1, 1) := by decide +kernel
theorem dX3_makeWords_2 : decode cX3_makeWords 2 = .ok (.iconst 0, 1) := by decide +kernel
theorem dX3_makeWords_3 : decode cX3_makeWords 3 = .ok (.istore_n 2, 1) := by decide +kernel
theorem dX3_makeWords_4 : decode cX3_makeWords 4 = .ok (.iload_n 2, 1) := by decide +kernel
theorem dX3_makeWords_5 : decode cX3_makeWords 5 = .ok (.sipush 176, 3) := by decide +kernel
theorem dX3_makeWords_8 : decode cX3_makeWords 8 = .ok (.if_icmp .ge 141, 3) := by decide +kernel
theorem dX3_makeWords_11 : decode cX3_makeWords 11 = .ok (.iload_n 2, 1) := by decide +kernel
theorem dX3_makeWords_12 : decode cX3_makeWords 12 = .ok (.bipush 16, 2) := by decide +kernel
theorem dX3_makeWords_14 : decode cX3_makeWords 14 = .ok (.if_icmp .ge 18, 3) := by decide +kernel
theorem dX3_makeWords_17 : decode cX3_makeWords 17 = .ok (.aload_n 0, 1) := by decide +kernel
theorem dX3_makeWords_18 : decode cX3_makeWords 18 = .ok (.getfield 25, 3) := by decide +kernel
theorem dX3_makeWords_21 : decode cX3_makeWords 21 = .ok (.iload_n 2, 1) := by decide +kernel
theorem dX3_makeWords_22 : decode cX3_makeWords 22 = .ok (.aload_n 0, 1) := by decide +kernel
theorem dX3_makeWords_23 : decode cX3_makeWords 23 = .ok (.getfield 7, 3) := by decide +kernel
theorem dX3_makeWords_26 : decode cX3_makeWords 26 = .ok (.iload_n 2, 1) := by decide +kernel
theorem dX3_makeWords_27 : decode cX3_makeWords 27 = .ok (.iaload, 1) := by decide +kernel
theorem dX3_makeWords_28 : decode cX3_makeWords 28 = .ok (.iastore, 1) := by decide +kernel
theorem dX3_makeWords_29 : decode cX3_makeWords 29 = .ok (.goto 114, 3) := by decide +kernel
theorem dX3_makeWords_32 : decode cX3_makeWords 32 = .ok (.iload_n 2, 1) := by decide +kernel
theorem dX3_makeWords_33 : decode cX3_makeWords 33 = .ok (.bipush 16, 2) := by decide +kernel
theorem dX3_makeWords_35 : decode cX3_makeWords 35 = .ok (.irem, 1) := by decide +kernel
theorem dX3_makeWords_36 : decode cX3_makeWords 36 = .ok (.iconst 4, 1) := by decide +kernel
theorem dX3_makeWords_37 : decode cX3_makeWords 37 = .ok (.if_icmp .ge 82, 3) := by decide +kernel
theorem dX3_makeWords_40 : decode cX3_makeWords 40 = .ok (.iload_n 2, 1) := by decide +kernel
theorem dX3_makeWords_41 : decode cX3_makeWords 41 = .ok (.iconst 4, 1) := by decide +kernel
theorem dX3_makeWords_42 : decode cX3_makeWords 42 = .ok (.irem, 1) := by decide +kernel
theorem dX3_makeWords_43 : decode cX3_makeWords 43 = .ok (.iconst 3, 1) := by decide +kernel
theorem dX3_makeWords_44 : decode cX3_makeWords 44 = .ok (.if_icmp .ge 9, 3) := by decide +kernel
theorem dX3_makeWords_47 : decode cX3_makeWords 47 = .ok (.iload_n 2, 1) := by decide +kernel
theorem dX3_makeWords_48 : decode cX3_makeWords 48 = .ok (.iconst 3, 1) := by decide +kernel
theorem dX3_makeWords_49 : decode cX3_makeWords 49 = .ok (.isub, 1) := by decide +kernel
theorem dX3_makeWords_50 : decode cX3_makeWords 50 = .ok (.goto 7, 3) := by decide +kernel
theorem dX3_makeWords_53 : decode cX3_makeWords 53 = .ok (.iload_n 2, 1) := by decide +kernel
theorem dX3_makeWords_54 : decode cX3_makeWords 54 = .ok (.bipush 7, 2) := by decide +kernel
theorem dX3_makeWords_56 : decode cX3_makeWords 56 = .ok (.isub, 1) := by decide +kernel
theorem dX3_makeWords_57 : decode cX3_makeWords 57 = .ok (.istore_n 3, 1) := by decide +kernel
theorem dX3_makeWords_58 : decode cX3_makeWords 58 = .ok (.aload_n 0, 1) := by decide +kernel
theorem dX3_makeWords_59 : decode cX3_makeWords 59 = .ok (.getfield 25, 3) := by decide +kernel
theorem dX3_makeWords_62 : decode cX3_makeWords 62 = .ok (.iload_n 2, 1) := by decide +kernel
theorem dX3_makeWords_63 : decode cX3_makeWords 63 = .ok (.aload_n 0, 1) := by decide +kernel
theorem dX3_makeWords_64 : decode cX3_makeWords 64 = .ok (.getfield 25, 3) := by decide +kernel
theorem dX3_makeWords_67 : decode cX3_makeWords 67 = .ok (.iload_n 2, 1) := by decide +kernel
theorem dX3_makeWords_68 : decode cX3_makeWords 68 = .ok (.bipush 16, 2) := by decide +kernel
theorem dX3_makeWords_70 : decode cX3_makeWords 70 = .ok (.isub, 1) := by decide +kernel
theorem dX3_makeWords_71 : decode cX3_makeWords 71 = .ok (.iaload, 1) := by decide +kernel
theorem dX3_makeWords_72 : decode cX3_makeWords 72 = .ok (.aload_n 0, 1) := by decide +kernel
theorem dX3_makeWords_73 : decode cX3_makeWords 73 = .ok (.getfield 19, 3) := by decide +kernel
theorem dX3_makeWords_76 : decode cX3_makeWords 76 = .ok (.aload_n 0, 1) := by decide +kernel
theorem dX3_makeWords_77 : decode cX3_makeWords 77 = .ok (.getfield 25, 3) := by decide +kernel
theorem dX3_makeWords_80 : decode cX3_makeWords 80 = .ok (.iload_n 3, 1) := by decide +kernel
theorem dX3_makeWords_81 : decode cX3_makeWords 81 = .ok (.iaload, 1) := by decide +kernel
theorem dX3_makeWords_82 : decode cX3_makeWords 82 = .ok (.iaload, 1) := by decide +kernel
theorem dX3_makeWords_83 : decode cX3_makeWords 83 = .ok (.ixor, 1) := by decide +kernel
theorem dX3_makeWords_84 : decode cX3_makeWords 84 = .ok (.iload_n 2, 1) := by decide +kernel
theorem dX3_makeWords_85 : decode cX3_makeWords 85 = .ok (.bipush 16, 2) := by decide +kernel
theorem dX3_makeWords_87 : decode cX3_makeWords 87 = .ok (.irem, 1) := by decide +kernel
theorem dX3_makeWords_88 : decode cX3_makeWords 88 = .ok (.ifCond .ne 7, 3) := by decide +kernel
theorem dX3_makeWords_91 : decode cX3_makeWords 91 = .ok (.iload_n 1, 1) := by decide +kernel
theorem dX3_makeWords_92 : decode cX3_makeWords 92 = .ok (.goto 4, 3) := by decide +kernel
theorem dX3_makeWords_95 : decode cX3_makeWords 95 = .ok (.iconst 0, 1) := by decide +kernel
theorem dX3_makeWords_96 : decode cX3_makeWords 96 = .ok (.ixor, 1) := by decide +kernel
theorem dX3_makeWords_97 : decode cX3_makeWords 97 = .ok (.iastore, 1) := by decide +kernel
theorem dX3_makeWords_98 : decode cX3_makeWords 98 = .ok (.iload_n 2, 1) := by decide +kernel
theorem dX3_makeWords_99 : decode cX3_makeWords 99 = .ok (.bipush 16, 2) := by decide +kernel
theorem dX3_makeWords_101 : decode cX3_makeWords 101 = .ok (.irem, 1) := by decide +kernel
theorem dX3_makeWords_102 : decode cX3_makeWords 102 = .ok (.iconst 3, 1) := by decide +kernel
theorem dX3_makeWords_103 : decode cX3_makeWords 103 = .ok (.if_icmp .ne 11, 3) := by decide +kernel
theorem dX3_makeWords_106 : decode cX3_makeWords 106 = .ok (.iload_n 1, 1) := by decide +kernel
theorem dX3_makeWords_107 : decode cX3_makeWords 107 = .ok (.iconst 2, 1) := by decide +kernel
theorem dX3_makeWords_108 : decode cX3_makeWords 108 = .ok (.invokestatic 47, 3) := by decide +kernel
theorem dX3_makeWords_111 : decode cX3_makeWords 111 = .ok (.goto 4, 3) := by decide +kernel
theorem dX3_makeWords_114 : decode cX3_makeWords 114 = .ok (.iload_n 1, 1) := by decide +kernel
theorem dX3_makeWords_115 : decode cX3_makeWords 115 = .ok (.istore_n 1, 1) := by decide +kernel
theorem dX3_makeWords_116 : decode cX3_makeWords 116 = .ok (.goto 27, 3) := by decide +kernel
theorem dX3_makeWords_119 : decode cX3_makeWords 119 = .ok (.aload_n 0, 1) := by decide +kernel
theorem dX3_makeWords_120 : decode cX3_makeWords 120 = .ok (.getfield 25, 3) := by decide +kernel
theorem dX3_makeWords_123 : decode cX3_makeWords 123 = .ok (.iload_n 2, 1) := by decide +kernel
theorem dX3_makeWords_124 : decode cX3_makeWords 124 = .ok (.aload_n 0, 1) := by decide +kernel
theorem dX3_makeWords_125 : decode cX3_makeWords 125 = .ok (.getfield 25, 3) := by decide +kernel
theorem dX3_makeWords_128 : decode cX3_makeWords 128 = .ok (.iload_n 2, 1) := by decide +kernel
theorem dX3_makeWords_129 : decode cX3_makeWords 129 = .ok (.bipush 16, 2) := by decide +kernel
theorem dX3_makeWords_131 : decode cX3_makeWords 131 = .ok (.isub, 1) := by decide +kernel
theorem dX3_makeWords_132 : decode cX3_makeWords 132 = .ok (.iaload, 1) := by decide +kernel
theorem dX3_makeWords_133 : decode cX3_makeWords 133 = .ok (.aload_n 0, 1) := by decide +kernel
theorem dX3_makeWords_134 : decode cX3_makeWords 134 = .ok (.getfield 25, 3) := by decide +kernel
theorem dX3_makeWords_137 : decode cX3_makeWords 137 = .ok (.iload_n 2, 1) := by decide +kernel
theorem dX3_makeWords_138 : decode cX3_makeWords 138 = .ok (.iconst 4, 1) := by decide +kernel
theorem dX3_makeWords_139 : decode cX3_makeWords 139 = .ok (.isub, 1) := by decide +kernel
theorem dX3_makeWords_140 : decode cX3_makeWords 140 = .ok (.iaload, 1) := by decide +kernel
theorem dX3_makeWords_141 : decode cX3_makeWords 141 = .ok (.ixor, 1) := by decide +kernel
theorem dX3_makeWords_142 : decode cX3_makeWords 142 = .ok (.iastore, 1) := by decide +kernel
theorem dX3_makeWords_143 : decode cX3_makeWords 143 = .ok (.iinc 2 1, 3) := by decide +kernel
theorem dX3_makeWords_146 : decode cX3_makeWords 146 = .ok (.goto (-142), 3) := by decide +kernel
theorem dX3_makeWords_149 : decode cX3_makeWords 149 = .ok (.return_, 1) := by decide +kernel
theorem dX3_add_0 : decode cX3_add 0 = .ok (.iconst 0, 1) := by decide +kernel
theorem dX3_add_1 : decode cX3_add 1 = .ok (.istore_n 2, 1) := by decide +kernel
theorem dX3_add_2 : decode cX3_add 2 = .ok (.iload_n 2, 1) := by decide +kernel
theorem dX3_add_3 : decode cX3_add 3 = .ok (.bipush 16, 2) := by decide +kernel
theorem dX3_add_5 : decode cX3_add 5 = .ok (.if_icmp .ge 33, 3) := by decide +kernel
theorem dX3_add_8 : decode cX3_add 8 = .ok (.aload_n 0, 1) := by decide +kernel
theorem dX3_add_9 : decode cX3_add 9 = .ok (.getfield 31, 3) := by decide +kernel
theorem dX3_add_12 : decode cX3_add 12 = .ok (.iload_n 2, 1) := by decide +kernel
theorem dX3_add_13 : decode cX3_add 13 = .ok (.aload_n 0, 1) := by decide +kernel
theorem dX3_add_14 : decode cX3_add 14 = .ok (.getfield 31, 3) := by decide +kernel
theorem dX3_add_17 : decode cX3_add 17 = .ok (.iload_n 2, 1) := by decide +kernel
theorem dX3_add_18 : decode cX3_add 18 = .ok (.iaload, 1) := by decide +kernel
theorem dX3_add_19 : decode cX3_add 19 = .ok (.aload_n 0, 1) := by decide +kernel
theorem dX3_add_20 : decode cX3_add 20 = .ok (.getfield 25, 3) := by decide +kernel
theorem dX3_add_23 : decode cX3_add 23 = .ok (.bipush 16, 2) := by decide +kernel
theorem dX3_add_25 : decode cX3_add 25 = .ok (.iload_n 1, 1) := by decide +kernel
theorem dX3_add_26 : decode cX3_add 26 = .ok (.imul, 1) := by decide +kernel
theorem dX3_add_27 : decode cX3_add 27 = .ok (.iload_n 2, 1) := by decide +kernel
theorem dX3_add_28 : decode cX3_add 28 = .ok (.iadd, 1) := by decide +kernel
theorem dX3_add_29 : decode cX3_add 29 = .ok (.iaload, 1) := by decide +kernel
theorem dX3_add_30 : decode cX3_add 30 = .ok (.ixor, 1) := by decide +kernel
theorem dX3_add_31 : decode cX3_add 31 = .ok (.iastore, 1) := by decide +kernel
theorem dX3_add_32 : decode cX3_add 32 = .ok (.iinc 2 1, 3) := by decide +kernel
theorem dX3_add_35 : decode cX3_add 35 = .ok (.goto (-33), 3) := by decide +kernel
theorem dX3_add_38 : decode cX3_add 38 = .ok (.return_, 1) := by decide +kernel
theorem dX3_columns_0 : decode cX3_columns 0 = .ok (.iconst 0, 1) := by decide +kernel
theorem dX3_columns_1 : decode cX3_columns 1 = .ok (.istore 5, 2) := by decide +kernel
theorem dX3_columns_3 : decode cX3_columns 3 = .ok (.iload 5, 2) := by decide +kernel
theorem dX3_columns_5 : decode cX3_columns 5 = .ok (.bipush 16, 2) := by decide +kernel
theorem dX3_columns_7 : decode cX3_columns 7 = .ok (.if_icmp .ge 94, 3) := by decide +kernel
theorem dX3_columns_10 : decode cX3_columns 10 = .ok (.iload 5, 2) := by decide +kernel
theorem dX3_columns_12 : decode cX3_columns 12 = .ok (.iload 5, 2) := by decide +kernel
theorem dX3_columns_14 : decode cX3_columns 14 = .ok (.iconst 4, 1) := by decide +kernel
theorem dX3_columns_15 : decode cX3_columns 15 = .ok (.irem, 1) := by decide +kernel
theorem dX3_columns_16 : decode cX3_columns 16 = .ok (.isub, 1) := by decide +kernel
theorem dX3_columns_17 : decode cX3_columns 17 = .ok (.istore 6, 2) := by decide +kernel
theorem dX3_columns_19 : decode cX3_columns 19 = .ok (.aload_n 0, 1) := by decide +kernel
theorem dX3_columns_20 : decode cX3_columns 20 = .ok (.getfield 34, 3) := by decide +kernel
theorem dX3_columns_23 : decode cX3_columns 23 = .ok (.iload 5, 2) := by decide +kernel
theorem dX3_columns_25 : decode cX3_columns 25 = .ok (.aload_n 0, 1) := by decide +kernel
theorem dX3_columns_26 : decode cX3_columns 26 = .ok (.getfield 31, 3) := by decide +kernel
theorem dX3_columns_29 : decode cX3_columns 29 = .ok (.iload 5, 2) := by decide +kernel
theorem dX3_columns_31 : decode cX3_columns 31 = .ok (.iaload, 1) := by decide +kernel
theorem dX3_columns_32 : decode cX3_columns 32 = .ok (.iload_n 1, 1) := by decide +kernel
theorem dX3_columns_33 : decode cX3_columns 33 = .ok (.invokestatic 47, 3) := by decide +kernel
theorem dX3_columns_36 : decode cX3_columns 36 = .ok (.aload_n 0, 1) := by decide +kernel
theorem dX3_columns_37 : decode cX3_columns 37 = .ok (.getfield 31, 3) := by decide +kernel
theorem dX3_columns_40 : decode cX3_columns 40 = .ok (.iload 6, 2) := by decide +kernel
theorem dX3_columns_42 : decode cX3_columns 42 = .ok (.iload 5, 2) := by decide +kernel
theorem dX3_columns_44 : decode cX3_columns 44 = .ok (.iconst 1, 1) := by decide +kernel
theorem dX3_columns_45 : decode cX3_columns 45 = .ok (.iadd, 1) := by decide +kernel
theorem dX3_columns_46 : decode cX3_columns 46 = .ok (.iconst 4, 1) := by decide +kernel
theorem dX3_columns_47 : decode cX3_columns 47 = .ok (.irem, 1) := by decide +kernel
theorem dX3_columns_48 : decode cX3_columns 48 = .ok (.iadd, 1) := by decide +kernel
theorem dX3_columns_49 : decode cX3_columns 49 = .ok (.iaload, 1) := by decide +kernel
theorem dX3_columns_50 : decode cX3_columns 50 = .ok (.iload_n 2, 1) := by decide +kernel
theorem dX3_columns_51 : decode cX3_columns 51 = .ok (.invokestatic 47, 3) := by decide +kernel
theorem dX3_columns_54 : decode cX3_columns 54 = .ok (.ixor, 1) := by decide +kernel
theorem dX3_columns_55 : decode cX3_columns 55 = .ok (.aload_n 0, 1) := by decide +kernel
theorem dX3_columns_56 : decode cX3_columns 56 = .ok (.getfield 31, 3) := by decide +kernel
theorem dX3_columns_59 : decode cX3_columns 59 = .ok (.iload 6, 2) := by decide +kernel
theorem dX3_columns_61 : decode cX3_columns 61 = .ok (.iload 5, 2) := by decide +kernel
theorem dX3_columns_63 : decode cX3_columns 63 = .ok (.iconst 2, 1) := by decide +kernel
theorem dX3_columns_64 : decode cX3_columns 64 = .ok (.iadd, 1) := by decide +kernel
theorem dX3_columns_65 : decode cX3_columns 65 = .ok (.iconst 4, 1) := by decide +kernel
theorem dX3_columns_66 : decode cX3_columns 66 = .ok (.irem, 1) := by decide +kernel
theorem dX3_columns_67 : decode cX3_columns 67 = .ok (.iadd, 1) := by decide +kernel
theorem dX3_columns_68 : decode cX3_columns 68 = .ok (.iaload, 1) := by decide +kernel
theorem dX3_columns_69 : decode cX3_columns 69 = .ok (.iload_n 3, 1) := by decide +kernel
theorem dX3_columns_70 : decode cX3_columns 70 = .ok (.invokestatic 47, 3) := by decide +kernel
theorem dX3_columns_73 : decode cX3_columns 73 = .ok (.ixor, 1) := by decide +kernel
theorem dX3_columns_74 : decode cX3_columns 74 = .ok (.aload_n 0, 1) := by decide +kernel
theorem dX3_columns_75 : decode cX3_columns 75 = .ok (.getfield 31, 3) := by decide +kernel
theorem dX3_columns_78 : decode cX3_columns 78 = .ok (.iload 6, 2) := by decide +kernel
theorem dX3_columns_80 : decode cX3_columns 80 = .ok (.iload 5, 2) := by decide +kernel
theorem dX3_columns_82 : decode cX3_columns 82 = .ok (.iconst 3, 1) := by decide +kernel
theorem dX3_columns_83 : decode cX3_columns 83 = .ok (.iadd, 1) := by decide +kernel
theorem dX3_columns_84 : decode cX3_columns 84 = .ok (.iconst 4, 1) := by decide +kernel
theorem dX3_columns_85 : decode cX3_columns 85 = .ok (.irem, 1) := by decide +kernel
theorem dX3_columns_86 : decode cX3_columns 86 = .ok (.iadd, 1) := by decide +kernel
theorem dX3_columns_87 : decode cX3_columns 87 = .ok (.iaload, 1) := by decide +kernel
theorem dX3_columns_88 : decode cX3_columns 88 = .ok (.iload 4, 2) := by decide +kernel
theorem dX3_columns_90 : decode cX3_columns 90 = .ok (.invokestatic 47, 3) := by decide +kernel
theorem dX3_columns_93 : decode cX3_columns 93 = .ok (.ixor, 1) := by decide +kernel
theorem dX3_columns_94 : decode cX3_columns 94 = .ok (.iastore, 1) := by decide +kernel
theorem dX3_columns_95 : decode cX3_columns 95 = .ok (.iinc 5 1, 3) := by decide +kernel
theorem dX3_columns_98 : decode cX3_columns 98 = .ok (.goto (-95), 3) := by decide +kernel
theorem dX3_columns_101 : decode cX3_columns 101 = .ok (.iconst 0, 1) := by decide +kernel
theorem dX3_columns_102 : decode cX3_columns 102 = .ok (.istore 5, 2) := by decide +kernel
theorem dX3_columns_104 : decode cX3_columns 104 = .ok (.iload 5, 2) := by decide +kernel
theorem dX3_columns_106 : decode cX3_columns 106 = .ok (.bipush 16, 2) := by decide +kernel
theorem dX3_columns_108 : decode cX3_columns 108 = .ok (.if_icmp .ge 23, 3) := by decide +kernel
theorem dX3_columns_111 : decode cX3_columns 111 = .ok (.aload_n 0, 1) := by decide +kernel
theorem dX3_columns_112 : decode cX3_columns 112 = .ok (.getfield 31, 3) := by decide +kernel
theorem dX3_columns_115 : decode cX3_columns 115 = .ok (.iload 5, 2) := by decide +kernel
theorem dX3_columns_117 : decode cX3_columns 117 = .ok (.aload_n 0, 1) := by decide +kernel
theorem dX3_columns_118 : decode cX3_columns 118 = .ok (.getfield 34, 3) := by decide +kernel
theorem dX3_columns_121 : decode cX3_columns 121 = .ok (.iload 5, 2) := by decide +kernel
theorem dX3_columns_123 : decode cX3_columns 123 = .ok (.iaload, 1) := by decide +kernel
theorem dX3_columns_124 : decode cX3_columns 124 = .ok (.iastore, 1) := by decide +kernel
theorem dX3_columns_125 : decode cX3_columns 125 = .ok (.iinc 5 1, 3) := by decide +kernel
theorem dX3_columns_128 : decode cX3_columns 128 = .ok (.goto (-24), 3) := by decide +kernel
theorem dX3_columns_131 : decode cX3_columns 131 = .ok (.return_, 1) := by decide +kernel
theorem dX3_forth_0 : decode cX3_forth 0 = .ok (.aload_n 0, 1) := by decide +kernel
theorem dX3_forth_1 : decode cX3_forth 1 = .ok (.iconst 0, 1) := by decide +kernel
theorem dX3_forth_2 : decode cX3_forth 2 = .ok (.invokevirtual 69, 3) := by decide +kernel
theorem dX3_forth_5 : decode cX3_forth 5 = .ok (.iconst 1, 1) := by decide +kernel
theorem dX3_forth_6 : decode cX3_forth 6 = .ok (.istore_n 1, 1) := by decide +kernel
theorem dX3_forth_7 : decode cX3_forth 7 = .ok (.iload_n 1, 1) := by decide +kernel
theorem dX3_forth_8 : decode cX3_forth 8 = .ok (.bipush 10, 2) := by decide +kernel
theorem dX3_forth_10 : decode cX3_forth 10 = .ok (.if_icmp .gt 99, 3) := by decide +kernel
theorem dX3_forth_13 : decode cX3_forth 13 = .ok (.iconst 0, 1) := by decide +kernel
theorem dX3_forth_14 : decode cX3_forth 14 = .ok (.istore_n 2, 1) := by decide +kernel
theorem dX3_forth_15 : decode cX3_forth 15 = .ok (.iload_n 2, 1) := by decide +kernel
theorem dX3_forth_16 : decode cX3_forth 16 = .ok (.bipush 16, 2) := by decide +kernel
theorem dX3_forth_18 : decode cX3_forth 18 = .ok (.if_icmp .ge 40, 3) := by decide +kernel
theorem dX3_forth_21 : decode cX3_forth 21 = .ok (.aload_n 0, 1) := by decide +kernel
theorem dX3_forth_22 : decode cX3_forth 22 = .ok (.getfield 34, 3) := by decide +kernel
theorem dX3_forth_25 : decode cX3_forth 25 = .ok (.iload_n 2, 1) := by decide +kernel
theorem dX3_forth_26 : decode cX3_forth 26 = .ok (.aload_n 0, 1) := by decide +kernel
theorem dX3_forth_27 : decode cX3_forth 27 = .ok (.getfield 19, 3) := by decide +kernel
theorem dX3_forth_30 : decode cX3_forth 30 = .ok (.aload_n 0, 1) := by decide +kernel
theorem dX3_forth_31 : decode cX3_forth 31 = .ok (.getfield 31, 3) := by decide +kernel
theorem dX3_forth_34 : decode cX3_forth 34 = .ok (.iload_n 2, 1) := by decide +kernel
theorem dX3_forth_35 : decode cX3_forth 35 = .ok (.iconst 4, 1) := by decide +kernel
theorem dX3_forth_36 : decode cX3_forth 36 = .ok (.idiv, 1) := by decide +kernel
theorem dX3_forth_37 : decode cX3_forth 37 = .ok (.iload_n 2, 1) := by decide +kernel
theorem dX3_forth_38 : decode cX3_forth 38 = .ok (.iconst 4, 1) := by decide +kernel
theorem dX3_forth_39 : decode cX3_forth 39 = .ok (.irem, 1) := by decide +kernel
theorem dX3_forth_40 : decode cX3_forth 40 = .ok (.iadd, 1) := by decide +kernel
theorem dX3_forth_41 : decode cX3_forth 41 = .ok (.iconst 4, 1) := by decide +kernel
theorem dX3_forth_42 : decode cX3_forth 42 = .ok (.irem, 1) := by decide +kernel
theorem dX3_forth_43 : decode cX3_forth 43 = .ok (.iconst 4, 1) := by decide +kernel
theorem dX3_forth_44 : decode cX3_forth 44 = .ok (.imul, 1) := by decide +kernel
theorem dX3_forth_45 : decode cX3_forth 45 = .ok (.iload_n 2, 1) := by decide +kernel
theorem dX3_forth_46 : decode cX3_forth 46 = .ok (.iconst 4, 1) := by decide +kernel
theorem dX3_forth_47 : decode cX3_forth 47 = .ok (.irem, 1) := by decide +kernel
theorem dX3_forth_48 : decode cX3_forth 48 = .ok (.iadd, 1) := by decide +kernel
theorem dX3_forth_49 : decode cX3_forth 49 = .ok (.iaload, 1) := by decide +kernel
theorem dX3_forth_50 : decode cX3_forth 50 = .ok (.iaload, 1) := by decide +kernel
theorem dX3_forth_51 : decode cX3_forth 51 = .ok (.iastore, 1) := by decide +kernel
theorem dX3_forth_52 : decode cX3_forth 52 = .ok (.iinc 2 1, 3) := by decide +kernel
theorem dX3_forth_55 : decode cX3_forth 55 = .ok (.goto (-40), 3) := by decide +kernel
theorem dX3_forth_58 : decode cX3_forth 58 = .ok (.iconst 0, 1) := by decide +kernel
theorem dX3_forth_59 : decode cX3_forth 59 = .ok (.istore_n 2, 1) := by decide +kernel
theorem dX3_forth_60 : decode cX3_forth 60 = .ok (.iload_n 2, 1) := by decide +kernel
theorem dX3_forth_61 : decode cX3_forth 61 = .ok (.bipush 16, 2) := by decide +kernel
theorem dX3_forth_63 : decode cX3_forth 63 = .ok (.if_icmp .ge 21, 3) := by decide +kernel
theorem dX3_forth_66 : decode cX3_forth 66 = .ok (.aload_n 0, 1) := by decide +kernel
theorem dX3_forth_67 : decode cX3_forth 67 = .ok (.getfield 31, 3) := by decide +kernel
theorem dX3_forth_70 : decode cX3_forth 70 = .ok (.iload_n 2, 1) := by decide +kernel
theorem dX3_forth_71 : decode cX3_forth 71 = .ok (.aload_n 0, 1) := by decide +kernel
theorem dX3_forth_72 : decode cX3_forth 72 = .ok (.getfield 34, 3) := by decide +kernel
theorem dX3_forth_75 : decode cX3_forth 75 = .ok (.iload_n 2, 1) := by decide +kernel
theorem dX3_forth_76 : decode cX3_forth 76 = .ok (.iaload, 1) := by decide +kernel
theorem dX3_forth_77 : decode cX3_forth 77 = .ok (.iastore, 1) := by decide +kernel
theorem dX3_forth_78 : decode cX3_forth 78 = .ok (.iinc 2 1, 3) := by decide +kernel
theorem dX3_forth_81 : decode cX3_forth 81 = .ok (.goto (-21), 3) := by decide +kernel
theorem dX3_forth_84 : decode cX3_forth 84 = .ok (.iload_n 1, 1) := by decide +kernel
theorem dX3_forth_85 : decode cX3_forth 85 = .ok (.bipush 10, 2) := by decide +kernel
theorem dX3_forth_87 : decode cX3_forth 87 = .ok (.if_icmp .ge 11, 3) := by decide +kernel
theorem dX3_forth_90 : decode cX3_forth 90 = .ok (.aload_n 0, 1) := by decide +kernel
theorem dX3_forth_91 : decode cX3_forth 91 = .ok (.iconst 2, 1) := by decide +kernel
theorem dX3_forth_92 : decode cX3_forth 92 = .ok (.iconst 3, 1) := by decide +kernel
theorem dX3_forth_93 : decode cX3_forth 93 = .ok (.iconst 1, 1) := by decide +kernel
theorem dX3_forth_94 : decode cX3_forth 94 = .ok (.iconst 1, 1) := by decide +kernel
theorem dX3_forth_95 : decode cX3_forth 95 = .ok (.invokevirtual 73, 3) := by decide +kernel
theorem dX3_forth_98 : decode cX3_forth 98 = .ok (.aload_n 0, 1) := by decide +kernel
theorem dX3_forth_99 : decode cX3_forth 99 = .ok (.iload_n 1, 1) := by decide +kernel
theorem dX3_forth_100 : decode cX3_forth 100 = .ok (.invokevirtual 69, 3) := by decide +kernel
theorem dX3_forth_103 : decode cX3_forth 103 = .ok (.iinc 1 1, 3) := by decide +kernel
theorem dX3_forth_106 : decode cX3_forth 106 = .ok (.goto (-99), 3) := by decide +kernel
theorem dX3_forth_109 : decode cX3_forth 109 = .ok (.return_, 1) := by decide +kernel
theorem dX3_back_0 : decode cX3_back 0 = .ok (.bipush 10, 2) := by decide +kernel
theorem dX3_back_2 : decode cX3_back 2 = .ok (.istore_n 1, 1) := by decide +kernel
theorem dX3_back_3 : decode cX3_back 3 = .ok (.iload_n 1, 1) := by decide +kernel
theorem dX3_back_4 : decode cX3_back 4 = .ok (.ifCond .le 103, 3) := by decide +kernel
theorem dX3_back_7 : decode cX3_back 7 = .ok (.aload_n 0, 1) := by decide +kernel
theorem dX3_back_8 : decode cX3_back 8 = .ok (.iload_n 1, 1) := by decide +kernel
theorem dX3_back_9 : decode cX3_back 9 = .ok (.invokevirtual 69, 3) := by decide +kernel
theorem dX3_back_12 : decode cX3_back 12 = .ok (.iload_n 1, 1) := by decide +kernel
theorem dX3_back_13 : decode cX3_back 13 = .ok (.bipush 10, 2) := by decide +kernel
theorem dX3_back_15 : decode cX3_back 15 = .ok (.if_icmp .ge 15, 3) := by decide +kernel
theorem dX3_back_18 : decode cX3_back 18 = .ok (.aload_n 0, 1) := by decide +kernel
theorem dX3_back_19 : decode cX3_back 19 = .ok (.bipush 14, 2) := by decide +kernel
theorem dX3_back_21 : decode cX3_back 21 = .ok (.bipush 11, 2) := by decide +kernel
theorem dX3_back_23 : decode cX3_back 23 = .ok (.bipush 13, 2) := by decide +kernel
theorem dX3_back_25 : decode cX3_back 25 = .ok (.bipush 9, 2) := by decide +kernel
theorem dX3_back_27 : decode cX3_back 27 = .ok (.invokevirtual 73, 3) := by decide +kernel
theorem dX3_back_30 : decode cX3_back 30 = .ok (.iconst 0, 1) := by decide +kernel
theorem dX3_back_31 : decode cX3_back 31 = .ok (.istore_n 2, 1) := by decide +kernel
theorem dX3_back_32 : decode cX3_back 32 = .ok (.iload_n 2, 1) := by decide +kernel
theorem dX3_back_33 : decode cX3_back 33 = .ok (.bipush 16, 2) := by decide +kernel
theorem dX3_back_35 : decode cX3_back 35 = .ok (.if_icmp .ge 40, 3) := by decide +kernel
theorem dX3_back_38 : decode cX3_back 38 = .ok (.aload_n 0, 1) := by decide +kernel
theorem dX3_back_39 : decode cX3_back 39 = .ok (.getfield 34, 3) := by decide +kernel
theorem dX3_back_42 : decode cX3_back 42 = .ok (.iload_n 2, 1) := by decide +kernel
theorem dX3_back_43 : decode cX3_back 43 = .ok (.iconst 4, 1) := by decide +kernel
theorem dX3_back_44 : decode cX3_back 44 = .ok (.idiv, 1) := by decide +kernel
theorem dX3_back_45 : decode cX3_back 45 = .ok (.iload_n 2, 1) := by decide +kernel
theorem dX3_back_46 : decode cX3_back 46 = .ok (.iconst 4, 1) := by decide +kernel
theorem dX3_back_47 : decode cX3_back 47 = .ok (.irem, 1) := by decide +kernel
theorem dX3_back_48 : decode cX3_back 48 = .ok (.iadd, 1) := by decide +kernel
theorem dX3_back_49 : decode cX3_back 49 = .ok (.iconst 4, 1) := by decide +kernel
theorem dX3_back_50 : decode cX3_back 50 = .ok (.irem, 1) := by decide +kernel
theorem dX3_back_51 : decode cX3_back 51 = .ok (.iconst 4, 1) := by decide +kernel
theorem dX3_back_52 : decode cX3_back 52 = .ok (.imul, 1) := by decide +kernel
theorem dX3_back_53 : decode cX3_back 53 = .ok (.iload_n 2, 1) := by decide +kernel
theorem dX3_back_54 : decode cX3_back 54 = .ok (.iconst 4, 1) := by decide +kernel
theorem dX3_back_55 : decode cX3_back 55 = .ok (.irem, 1) := by decide +kernel
theorem dX3_back_56 : decode cX3_back 56 = .ok (.iadd, 1) := by decide +kernel
theorem dX3_back_57 : decode cX3_back 57 = .ok (.aload_n 0, 1) := by decide +kernel
theorem dX3_back_58 : decode cX3_back 58 = .ok (.getfield 22, 3) := by decide +kernel
theorem dX3_back_61 : decode cX3_back 61 = .ok (.aload_n 0, 1) := by decide +kernel
theorem dX3_back_62 : decode cX3_back 62 = .ok (.getfield 31, 3) := by decide +kernel
theorem dX3_back_65 : decode cX3_back 65 = .ok (.iload_n 2, 1) := by decide +kernel
theorem dX3_back_66 : decode cX3_back 66 = .ok (.iaload, 1) := by decide +kernel
theorem dX3_back_67 : decode cX3_back 67 = .ok (.iaload, 1) := by decide +kernel
theorem dX3_back_68 : decode cX3_back 68 = .ok (.iastore, 1) := by decide +kernel
theorem dX3_back_69 : decode cX3_back 69 = .ok (.iinc 2 1, 3) := by decide +kernel
theorem dX3_back_72 : decode cX3_back 72 = .ok (.goto (-40), 3) := by decide +kernel
theorem dX3_back_75 : decode cX3_back 75 = .ok (.iconst 0, 1) := by decide +kernel
theorem dX3_back_76 : decode cX3_back 76 = .ok (.istore_n 2, 1) := by decide +kernel
theorem dX3_back_77 : decode cX3_back 77 = .ok (.iload_n 2, 1) := by decide +kernel
theorem dX3_back_78 : decode cX3_back 78 = .ok (.bipush 16, 2) := by decide +kernel
theorem dX3_back_80 : decode cX3_back 80 = .ok (.if_icmp .ge 21, 3) := by decide +kernel
theorem dX3_back_83 : decode cX3_back 83 = .ok (.aload_n 0, 1) := by decide +kernel
theorem dX3_back_84 : decode cX3_back 84 = .ok (.getfield 31, 3) := by decide +kernel
theorem dX3_back_87 : decode cX3_back 87 = .ok (.iload_n 2, 1) := by decide +kernel
theorem dX3_back_88 : decode cX3_back 88 = .ok (.aload_n 0, 1) := by decide +kernel
theorem dX3_back_89 : decode cX3_back 89 = .ok (.getfield 34, 3) := by decide +kernel
theorem dX3_back_92 : decode cX3_back 92 = .ok (.iload_n 2, 1) := by decide +kernel
theorem dX3_back_93 : decode cX3_back 93 = .ok (.iaload, 1) := by decide +kernel
theorem dX3_back_94 : decode cX3_back 94 = .ok (.iastore, 1) := by decide +kernel
theorem dX3_back_95 : decode cX3_back 95 = .ok (.iinc 2 1, 3) := by decide +kernel
theorem dX3_back_98 : decode cX3_back 98 = .ok (.goto (-21), 3) := by decide +kernel
theorem dX3_back_101 : decode cX3_back 101 = .ok (.iinc 1 (-1), 3) := by decide +kernel
theorem dX3_back_104 : decode cX3_back 104 = .ok (.goto (-101), 3) := by decide +kernel
theorem dX3_back_107 : decode cX3_back 107 = .ok (.aload_n 0, 1) := by decide +kernel
theorem dX3_back_108 : decode cX3_back 108 = .ok (.iconst 0, 1) := by decide +kernel
theorem dX3_back_109 : decode cX3_back 109 = .ok (.invokevirtual 69, 3) := by decide +kernel
theorem dX3_back_112 : decode cX3_back 112 = .ok (.return_, 1) := by decide +kernel
theorem dX3_twice_0 : decode cX3_twice 0 = .ok (.iconst 0, 1) := by decide +kernel
theorem dX3_twice_1 : decode cX3_twice 1 = .ok (.istore_n 2, 1) := by decide +kernel
theorem dX3_twice_2 : decode cX3_twice 2 = .ok (.bipush 15, 2) := by decide +kernel
theorem dX3_twice_4 : decode cX3_twice 4 = .ok (.istore_n 3, 1) := by decide +kernel
theorem dX3_twice_5 : decode cX3_twice 5 = .ok (.iload_n 3, 1) := by decide +kernel
theorem dX3_twice_6 : decode cX3_twice 6 = .ok (.ifCond .lt 58, 3) := by decide +kernel
theorem dX3_twice_9 : decode cX3_twice 9 = .ok (.iconst 2, 1) := by decide +kernel
theorem dX3_twice_10 : decode cX3_twice 10 = .ok (.iload_n 1, 1) := by decide +kernel
theorem dX3_twice_11 : decode cX3_twice 11 = .ok (.ifCond .ne 12, 3) := by decide +kernel
theorem dX3_twice_14 : decode cX3_twice 14 = .ok (.aload_n 0, 1) := by decide +kernel
theorem dX3_twice_15 : decode cX3_twice 15 = .ok (.getfield 31, 3) := by decide +kernel
theorem dX3_twice_18 : decode cX3_twice 18 = .ok (.iload_n 3, 1) := by decide +kernel
theorem dX3_twice_19 : decode cX3_twice 19 = .ok (.iaload, 1) := by decide +kernel
theorem dX3_twice_20 : decode cX3_twice 20 = .ok (.goto 9, 3) := by decide +kernel
theorem dX3_twice_23 : decode cX3_twice 23 = .ok (.aload_n 0, 1) := by decide +kernel
theorem dX3_twice_24 : decode cX3_twice 24 = .ok (.getfield 28, 3) := by decide +kernel
theorem dX3_twice_27 : decode cX3_twice 27 = .ok (.iload_n 3, 1) := by decide +kernel
theorem dX3_twice_28 : decode cX3_twice 28 = .ok (.iaload, 1) := by decide +kernel
theorem dX3_twice_29 : decode cX3_twice 29 = .ok (.imul, 1) := by decide +kernel
theorem dX3_twice_30 : decode cX3_twice 30 = .ok (.iload_n 2, 1) := by decide +kernel
theorem dX3_twice_31 : decode cX3_twice 31 = .ok (.iadd, 1) := by decide +kernel
theorem dX3_twice_32 : decode cX3_twice 32 = .ok (.istore 4, 2) := by decide +kernel
theorem dX3_twice_34 : decode cX3_twice 34 = .ok (.aload_n 0, 1) := by decide +kernel
theorem dX3_twice_35 : decode cX3_twice 35 = .ok (.getfield 28, 3) := by decide +kernel
theorem dX3_twice_38 : decode cX3_twice 38 = .ok (.bipush 16, 2) := by decide +kernel
theorem dX3_twice_40 : decode cX3_twice 40 = .ok (.iload_n 1, 1) := by decide +kernel
theorem dX3_twice_41 : decode cX3_twice 41 = .ok (.imul, 1) := by decide +kernel
theorem dX3_twice_42 : decode cX3_twice 42 = .ok (.iload_n 3, 1) := by decide +kernel
theorem dX3_twice_43 : decode cX3_twice 43 = .ok (.iadd, 1) := by decide +kernel
theorem dX3_twice_44 : decode cX3_twice 44 = .ok (.iload 4, 2) := by decide +kernel
theorem dX3_twice_46 : decode cX3_twice 46 = .ok (.sipush 256, 3) := by decide +kernel
theorem dX3_twice_49 : decode cX3_twice 49 = .ok (.irem, 1) := by decide +kernel
theorem dX3_twice_50 : decode cX3_twice 50 = .ok (.iastore, 1) := by decide +kernel
theorem dX3_twice_51 : decode cX3_twice 51 = .ok (.iload 4, 2) := by decide +kernel
theorem dX3_twice_53 : decode cX3_twice 53 = .ok (.sipush 256, 3) := by decide +kernel
theorem dX3_twice_56 : decode cX3_twice 56 = .ok (.idiv, 1) := by decide +kernel
theorem dX3_twice_57 : decode cX3_twice 57 = .ok (.istore_n 2, 1) := by decide +kernel
theorem dX3_twice_58 : decode cX3_twice 58 = .ok (.iinc 3 (-1), 3) := by decide +kernel
theorem dX3_twice_61 : decode cX3_twice 61 = .ok (.goto (-56), 3) := by decide +kernel
theorem dX3_twice_64 : decode cX3_twice 64 = .ok (.aload_n 0, 1) := by decide +kernel
theorem dX3_twice_65 : decode cX3_twice 65 = .ok (.getfield 28, 3) := by decide +kernel
theorem dX3_twice_68 : decode cX3_twice 68 = .ok (.bipush 16, 2) := by decide +kernel
theorem dX3_twice_70 : decode cX3_twice 70 = .ok (.iload_n 1, 1) := by decide +kernel
theorem dX3_twice_71 : decode cX3_twice 71 = .ok (.imul, 1) := by decide +kernel
theorem dX3_twice_72 : decode cX3_twice 72 = .ok (.bipush 15, 2) := by decide +kernel
theorem dX3_twice_74 : decode cX3_twice 74 = .ok (.iadd, 1) := by decide +kernel
theorem dX3_twice_75 : decode cX3_twice 75 = .ok (.aload_n 0, 1) := by decide +kernel
theorem dX3_twice_76 : decode cX3_twice 76 = .ok (.getfield 28, 3) := by decide +kernel
theorem dX3_twice_79 : decode cX3_twice 79 = .ok (.bipush 16, 2) := by decide +kernel
theorem dX3_twice_81 : decode cX3_twice 81 = .ok (.iload_n 1, 1) := by decide +kernel
theorem dX3_twice_82 : decode cX3_twice 82 = .ok (.imul, 1) := by decide +kernel
theorem dX3_twice_83 : decode cX3_twice 83 = .ok (.bipush 15, 2) := by decide +kernel
theorem dX3_twice_85 : decode cX3_twice 85 = .ok (.iadd, 1) := by decide +kernel
theorem dX3_twice_86 : decode cX3_twice 86 = .ok (.iaload, 1) := by decide +kernel
theorem dX3_twice_87 : decode cX3_twice 87 = .ok (.sipush 135, 3) := by decide +kernel
theorem dX3_twice_90 : decode cX3_twice 90 = .ok (.iload_n 2, 1) := by decide +kernel
theorem dX3_twice_91 : decode cX3_twice 91 = .ok (.imul, 1) := by decide +kernel
theorem dX3_twice_92 : decode cX3_twice 92 = .ok (.ixor, 1) := by decide +kernel
theorem dX3_twice_93 : decode cX3_twice 93 = .ok (.iastore, 1) := by decide +kernel
theorem dX3_twice_94 : decode cX3_twice 94 = .ok (.return_, 1) := by decide +kernel
theorem dX3_expand_0 : decode cX3_expand 0 = .ok (.aload_n 0, 1) := by decide +kernel
theorem dX3_expand_1 : decode cX3_expand 1 = .ok (.iconst 0, 1) := by decide +kernel
theorem dX3_expand_2 : decode cX3_expand 2 = .ok (.putfield 51, 3) := by decide +kernel
theorem dX3_expand_5 : decode cX3_expand 5 = .ok (.aload_n 0, 1) := by decide +kernel
theorem dX3_expand_6 : decode cX3_expand 6 = .ok (.getfield 55, 3) := by decide +kernel
theorem dX3_expand_9 : decode cX3_expand 9 = .ok (.ifCond .ne 5, 3) := by decide +kernel
theorem dX3_expand_12 : decode cX3_expand 12 = .ok (.iconst 0, 1) := by decide +kernel
theorem dX3_expand_13 : decode cX3_expand 13 = .ok (.ireturn, 1) := by decide +kernel
theorem dX3_expand_14 : decode cX3_expand 14 = .ok (.aload_n 0, 1) := by decide +kernel
theorem dX3_expand_15 : decode cX3_expand 15 = .ok (.invokevirtual 77, 3) := by decide +kernel
theorem dX3_expand_18 : decode cX3_expand 18 = .ok (.iconst 0, 1) := by decide +kernel
theorem dX3_expand_19 : decode cX3_expand 19 = .ok (.istore_n 1, 1) := by decide +kernel
theorem dX3_expand_20 : decode cX3_expand 20 = .ok (.iload_n 1, 1) := by decide +kernel
theorem dX3_expand_21 : decode cX3_expand 21 = .ok (.bipush 16, 2) := by decide +kernel
theorem dX3_expand_23 : decode cX3_expand 23 = .ok (.if_icmp .ge 16, 3) := by decide +kernel
theorem dX3_expand_26 : decode cX3_expand 26 = .ok (.aload_n 0, 1) := by decide +kernel
theorem dX3_expand_27 : decode cX3_expand 27 = .ok (.getfield 31, 3) := by decide +kernel
theorem dX3_expand_30 : decode cX3_expand 30 = .ok (.iload_n 1, 1) := by decide +kernel
theorem dX3_expand_31 : decode cX3_expand 31 = .ok (.iconst 0, 1) := by decide +kernel
theorem dX3_expand_32 : decode cX3_expand 32 = .ok (.iastore, 1) := by decide +kernel
theorem dX3_expand_33 : decode cX3_expand 33 = .ok (.iinc 1 1, 3) := by decide +kernel
theorem dX3_expand_36 : decode cX3_expand 36 = .ok (.goto (-16), 3) := by decide +kernel
theorem dX3_expand_39 : decode cX3_expand 39 = .ok (.aload_n 0, 1) := by decide +kernel
theorem dX3_expand_40 : decode cX3_expand 40 = .ok (.invokevirtual 80, 3) := by decide +kernel
theorem dX3_expand_43 : decode cX3_expand 43 = .ok (.aload_n 0, 1) := by decide +kernel
theorem dX3_expand_44 : decode cX3_expand 44 = .ok (.iconst 0, 1) := by decide +kernel
theorem dX3_expand_45 : decode cX3_expand 45 = .ok (.invokevirtual 83, 3) := by decide +kernel
theorem dX3_expand_48 : decode cX3_expand 48 = .ok (.aload_n 0, 1) := by decide +kernel
theorem dX3_expand_49 : decode cX3_expand 49 = .ok (.iconst 1, 1) := by decide +kernel
theorem dX3_expand_50 : decode cX3_expand 50 = .ok (.invokevirtual 83, 3) := by decide +kernel
theorem dX3_expand_53 : decode cX3_expand 53 = .ok (.aload_n 0, 1) := by decide +kernel
theorem dX3_expand_54 : decode cX3_expand 54 = .ok (.iconst 1, 1) := by decide +kernel
theorem dX3_expand_55 : decode cX3_expand 55 = .ok (.putfield 59, 3) := by decide +kernel
theorem dX3_expand_58 : decode cX3_expand 58 = .ok (.aload_n 0, 1) := by decide +kernel
theorem dX3_expand_59 : decode cX3_expand 59 = .ok (.iconst 0, 1) := by decide +kernel
theorem dX3_expand_60 : decode cX3_expand 60 = .ok (.putfield 62, 3) := by decide +kernel
theorem dX3_expand_63 : decode cX3_expand 63 = .ok (.iconst 1, 1) := by decide +kernel
theorem dX3_expand_64 : decode cX3_expand 64 = .ok (.ireturn, 1) := by decide +kernel
theorem dX3_macStart_0 : decode cX3_macStart 0 = .ok (.aload_n 0, 1) := by decide +kernel
theorem dX3_macStart_1 : decode cX3_macStart 1 = .ok (.iconst 0, 1) := by decide +kernel
theorem dX3_macStart_2 : decode cX3_macStart 2 = .ok (.putfield 51, 3) := by decide +kernel
theorem dX3_macStart_5 : decode cX3_macStart 5 = .ok (.aload_n 0, 1) := by decide +kernel
theorem dX3_macStart_6 : decode cX3_macStart 6 = .ok (.getfield 59, 3) := by decide +kernel
theorem dX3_macStart_9 : decode cX3_macStart 9 = .ok (.ifCond .ne 5, 3) := by decide +kernel
theorem dX3_macStart_12 : decode cX3_macStart 12 = .ok (.iconst 0, 1) := by decide +kernel
theorem dX3_macStart_13 : decode cX3_macStart 13 = .ok (.ireturn, 1) := by decide +kernel
theorem dX3_macStart_14 : decode cX3_macStart 14 = .ok (.iconst 0, 1) := by decide +kernel
theorem dX3_macStart_15 : decode cX3_macStart 15 = .ok (.istore_n 1, 1) := by decide +kernel
theorem dX3_macStart_16 : decode cX3_macStart 16 = .ok (.iload_n 1, 1) := by decide +kernel
theorem dX3_macStart_17 : decode cX3_macStart 17 = .ok (.bipush 16, 2) := by decide +kernel
theorem dX3_macStart_19 : decode cX3_macStart 19 = .ok (.if_icmp .ge 16, 3) := by decide +kernel
theorem dX3_macStart_22 : decode cX3_macStart 22 = .ok (.aload_n 0, 1) := by decide +kernel
theorem dX3_macStart_23 : decode cX3_macStart 23 = .ok (.getfield 37, 3) := by decide +kernel
theorem dX3_macStart_26 : decode cX3_macStart 26 = .ok (.iload_n 1, 1) := by decide +kernel
theorem dX3_macStart_27 : decode cX3_macStart 27 = .ok (.iconst 0, 1) := by decide +kernel
theorem dX3_macStart_28 : decode cX3_macStart 28 = .ok (.iastore, 1) := by decide +kernel
theorem dX3_macStart_29 : decode cX3_macStart 29 = .ok (.iinc 1 1, 3) := by decide +kernel
theorem dX3_macStart_32 : decode cX3_macStart 32 = .ok (.goto (-16), 3) := by decide +kernel
theorem dX3_macStart_35 : decode cX3_macStart 35 = .ok (.aload_n 0, 1) := by decide +kernel
theorem dX3_macStart_36 : decode cX3_macStart 36 = .ok (.iconst 0, 1) := by decide +kernel
theorem dX3_macStart_37 : decode cX3_macStart 37 = .ok (.putfield 86, 3) := by decide +kernel
theorem dX3_macStart_40 : decode cX3_macStart 40 = .ok (.aload_n 0, 1) := by decide +kernel
theorem dX3_macStart_41 : decode cX3_macStart 41 = .ok (.iconst 1, 1) := by decide +kernel
theorem dX3_macStart_42 : decode cX3_macStart 42 = .ok (.putfield 62, 3) := by decide +kernel
theorem dX3_macStart_45 : decode cX3_macStart 45 = .ok (.iconst 1, 1) := by decide +kernel
theorem dX3_macStart_46 : decode cX3_macStart 46 = .ok (.ireturn, 1) := by decide +kernel
theorem dX3_take_0 : decode cX3_take 0 = .ok (.iconst 0, 1) := by decide +kernel
theorem dX3_take_1 : decode cX3_take 1 = .ok (.istore_n 1, 1) := by decide +kernel
theorem dX3_take_2 : decode cX3_take 2 = .ok (.iload_n 1, 1) := by decide +kernel
theorem dX3_take_3 : decode cX3_take 3 = .ok (.bipush 16, 2) := by decide +kernel
theorem dX3_take_5 : decode cX3_take 5 = .ok (.if_icmp .ge 28, 3) := by decide +kernel
theorem dX3_take_8 : decode cX3_take 8 = .ok (.aload_n 0, 1) := by decide +kernel
theorem dX3_take_9 : decode cX3_take 9 = .ok (.getfield 31, 3) := by decide +kernel
theorem dX3_take_12 : decode cX3_take 12 = .ok (.iload_n 1, 1) := by decide +kernel
theorem dX3_take_13 : decode cX3_take 13 = .ok (.aload_n 0, 1) := by decide +kernel
theorem dX3_take_14 : decode cX3_take 14 = .ok (.getfield 37, 3) := by decide +kernel
theorem dX3_take_17 : decode cX3_take 17 = .ok (.iload_n 1, 1) := by decide +kernel
theorem dX3_take_18 : decode cX3_take 18 = .ok (.iaload, 1) := by decide +kernel
theorem dX3_take_19 : decode cX3_take 19 = .ok (.aload_n 0, 1) := by decide +kernel
theorem dX3_take_20 : decode cX3_take 20 = .ok (.getfield 40, 3) := by decide +kernel
theorem dX3_take_23 : decode cX3_take 23 = .ok (.iload_n 1, 1) := by decide +kernel
theorem dX3_take_24 : decode cX3_take 24 = .ok (.iaload, 1) := by decide +kernel
theorem dX3_take_25 : decode cX3_take 25 = .ok (.ixor, 1) := by decide +kernel
theorem dX3_take_26 : decode cX3_take 26 = .ok (.iastore, 1) := by decide +kernel
theorem dX3_take_27 : decode cX3_take 27 = .ok (.iinc 1 1, 3) := by decide +kernel
theorem dX3_take_30 : decode cX3_take 30 = .ok (.goto (-28), 3) := by decide +kernel
theorem dX3_take_33 : decode cX3_take 33 = .ok (.aload_n 0, 1) := by decide +kernel
theorem dX3_take_34 : decode cX3_take 34 = .ok (.invokevirtual 80, 3) := by decide +kernel
theorem dX3_take_37 : decode cX3_take 37 = .ok (.iconst 0, 1) := by decide +kernel
theorem dX3_take_38 : decode cX3_take 38 = .ok (.istore_n 1, 1) := by decide +kernel
theorem dX3_take_39 : decode cX3_take 39 = .ok (.iload_n 1, 1) := by decide +kernel
theorem dX3_take_40 : decode cX3_take 40 = .ok (.bipush 16, 2) := by decide +kernel
theorem dX3_take_42 : decode cX3_take 42 = .ok (.if_icmp .ge 21, 3) := by decide +kernel
theorem dX3_take_45 : decode cX3_take 45 = .ok (.aload_n 0, 1) := by decide +kernel
theorem dX3_take_46 : decode cX3_take 46 = .ok (.getfield 37, 3) := by decide +kernel
theorem dX3_take_49 : decode cX3_take 49 = .ok (.iload_n 1, 1) := by decide +kernel
theorem dX3_take_50 : decode cX3_take 50 = .ok (.aload_n 0, 1) := by decide +kernel
theorem dX3_take_51 : decode cX3_take 51 = .ok (.getfield 31, 3) := by decide +kernel
theorem dX3_take_54 : decode cX3_take 54 = .ok (.iload_n 1, 1) := by decide +kernel
theorem dX3_take_55 : decode cX3_take 55 = .ok (.iaload, 1) := by decide +kernel
theorem dX3_take_56 : decode cX3_take 56 = .ok (.iastore, 1) := by decide +kernel
theorem dX3_take_57 : decode cX3_take 57 = .ok (.iinc 1 1, 3) := by decide +kernel
theorem dX3_take_60 : decode cX3_take 60 = .ok (.goto (-21), 3) := by decide +kernel
theorem dX3_take_63 : decode cX3_take 63 = .ok (.aload_n 0, 1) := by decide +kernel
theorem dX3_take_64 : decode cX3_take 64 = .ok (.iconst 0, 1) := by decide +kernel
theorem dX3_take_65 : decode cX3_take 65 = .ok (.putfield 86, 3) := by decide +kernel
theorem dX3_take_68 : decode cX3_take 68 = .ok (.return_, 1) := by decide +kernel
theorem dX3_feed_0 : decode cX3_feed 0 = .ok (.aload_n 0, 1) := by decide +kernel
theorem dX3_feed_1 : decode cX3_feed 1 = .ok (.getfield 86, 3) := by decide +kernel
theorem dX3_feed_4 : decode cX3_feed 4 = .ok (.bipush 16, 2) := by decide +kernel
theorem dX3_feed_6 : decode cX3_feed 6 = .ok (.if_icmp .ne 7, 3) := by decide +kernel
theorem dX3_feed_9 : decode cX3_feed 9 = .ok (.aload_n 0, 1) := by decide +kernel
theorem dX3_feed_10 : decode cX3_feed 10 = .ok (.invokevirtual 89, 3) := by decide +kernel
theorem dX3_feed_13 : decode cX3_feed 13 = .ok (.aload_n 0, 1) := by decide +kernel
theorem dX3_feed_14 : decode cX3_feed 14 = .ok (.getfield 40, 3) := by decide +kernel
theorem dX3_feed_17 : decode cX3_feed 17 = .ok (.aload_n 0, 1) := by decide +kernel
theorem dX3_feed_18 : decode cX3_feed 18 = .ok (.getfield 86, 3) := by decide +kernel
theorem dX3_feed_21 : decode cX3_feed 21 = .ok (.iload_n 1, 1) := by decide +kernel
theorem dX3_feed_22 : decode cX3_feed 22 = .ok (.iastore, 1) := by decide +kernel
theorem dX3_feed_23 : decode cX3_feed 23 = .ok (.aload_n 0, 1) := by decide +kernel
theorem dX3_feed_24 : decode cX3_feed 24 = .ok (.dup, 1) := by decide +kernel
theorem dX3_feed_25 : decode cX3_feed 25 = .ok (.getfield 86, 3) := by decide +kernel
theorem dX3_feed_28 : decode cX3_feed 28 = .ok (.iconst 1, 1) := by decide +kernel
theorem dX3_feed_29 : decode cX3_feed 29 = .ok (.iadd, 1) := by decide +kernel
theorem dX3_feed_30 : decode cX3_feed 30 = .ok (.putfield 86, 3) := by decide +kernel
theorem dX3_feed_33 : decode cX3_feed 33 = .ok (.return_, 1) := by decide +kernel
theorem dX3_macUpdate_0 : decode cX3_macUpdate 0 = .ok (.aload_n 0, 1) := by decide +kernel
theorem dX3_macUpdate_1 : decode cX3_macUpdate 1 = .ok (.iconst 0, 1) := by decide +kernel
theorem dX3_macUpdate_2 : decode cX3_macUpdate 2 = .ok (.putfield 51, 3) := by decide +kernel
theorem dX3_macUpdate_5 : decode cX3_macUpdate 5 = .ok (.aload_n 0, 1) := by decide +kernel
theorem dX3_macUpdate_6 : decode cX3_macUpdate 6 = .ok (.getfield 62, 3) := by decide +kernel
theorem dX3_macUpdate_9 : decode cX3_macUpdate 9 = .ok (.iconst 1, 1) := by decide +kernel
theorem dX3_macUpdate_10 : decode cX3_macUpdate 10 = .ok (.if_icmp .ne 13, 3) := by decide +kernel
theorem dX3_macUpdate_13 : decode cX3_macUpdate 13 = .ok (.iload_n 1, 1) := by decide +kernel
theorem dX3_macUpdate_14 : decode cX3_macUpdate 14 = .ok (.sipush 255, 3) := by decide +kernel
theorem dX3_macUpdate_17 : decode cX3_macUpdate 17 = .ok (.invokestatic 65, 3) := by decide +kernel
theorem dX3_macUpdate_20 : decode cX3_macUpdate 20 = .ok (.ifCond .ne 5, 3) := by decide +kernel
theorem dX3_macUpdate_23 : decode cX3_macUpdate 23 = .ok (.iconst 0, 1) := by decide +kernel
theorem dX3_macUpdate_24 : decode cX3_macUpdate 24 = .ok (.ireturn, 1) := by decide +kernel
theorem dX3_macUpdate_25 : decode cX3_macUpdate 25 = .ok (.aload_n 0, 1) := by decide +kernel
theorem dX3_macUpdate_26 : decode cX3_macUpdate 26 = .ok (.iload_n 1, 1) := by decide +kernel
theorem dX3_macUpdate_27 : decode cX3_macUpdate 27 = .ok (.invokevirtual 92, 3) := by decide +kernel
theorem dX3_macUpdate_30 : decode cX3_macUpdate 30 = .ok (.iconst 1, 1) := by decide +kernel
theorem dX3_macUpdate_31 : decode cX3_macUpdate 31 = .ok (.ireturn, 1) := by decide +kernel
theorem dX3_macFill_0 : decode cX3_macFill 0 = .ok (.aload_n 0, 1) := by decide +kernel
theorem dX3_macFill_1 : decode cX3_macFill 1 = .ok (.iconst 0, 1) := by decide +kernel
theorem dX3_macFill_2 : decode cX3_macFill 2 = .ok (.putfield 51, 3) := by decide +kernel
theorem dX3_macFill_5 : decode cX3_macFill 5 = .ok (.aload_n 0, 1) := by decide +kernel
theorem dX3_macFill_6 : decode cX3_macFill 6 = .ok (.getfield 62, 3) := by decide +kernel
theorem dX3_macFill_9 : decode cX3_macFill 9 = .ok (.iconst 1, 1) := by decide +kernel
theorem dX3_macFill_10 : decode cX3_macFill 10 = .ok (.if_icmp .ne 13, 3) := by decide +kernel
theorem dX3_macFill_13 : decode cX3_macFill 13 = .ok (.iload_n 1, 1) := by decide +kernel
theorem dX3_macFill_14 : decode cX3_macFill 14 = .ok (.sipush 10000, 3) := by decide +kernel
theorem dX3_macFill_17 : decode cX3_macFill 17 = .ok (.invokestatic 65, 3) := by decide +kernel
theorem dX3_macFill_20 : decode cX3_macFill 20 = .ok (.ifCond .ne 5, 3) := by decide +kernel
theorem dX3_macFill_23 : decode cX3_macFill 23 = .ok (.iconst 0, 1) := by decide +kernel
theorem dX3_macFill_24 : decode cX3_macFill 24 = .ok (.ireturn, 1) := by decide +kernel
theorem dX3_macFill_25 : decode cX3_macFill 25 = .ok (.iload_n 2, 1) := by decide +kernel
theorem dX3_macFill_26 : decode cX3_macFill 26 = .ok (.istore 4, 2) := by decide +kernel
theorem dX3_macFill_28 : decode cX3_macFill 28 = .ok (.iconst 0, 1) := by decide +kernel
theorem dX3_macFill_29 : decode cX3_macFill 29 = .ok (.istore 5, 2) := by decide +kernel
theorem dX3_macFill_31 : decode cX3_macFill 31 = .ok (.iload 5, 2) := by decide +kernel
theorem dX3_macFill_33 : decode cX3_macFill 33 = .ok (.iload_n 1, 1) := by decide +kernel
theorem dX3_macFill_34 : decode cX3_macFill 34 = .ok (.if_icmp .ge 25, 3) := by decide +kernel
theorem dX3_macFill_37 : decode cX3_macFill 37 = .ok (.aload_n 0, 1) := by decide +kernel
theorem dX3_macFill_38 : decode cX3_macFill 38 = .ok (.iload 4, 2) := by decide +kernel
theorem dX3_macFill_40 : decode cX3_macFill 40 = .ok (.sipush 255, 3) := by decide +kernel
theorem dX3_macFill_43 : decode cX3_macFill 43 = .ok (.iand, 1) := by decide +kernel
theorem dX3_macFill_44 : decode cX3_macFill 44 = .ok (.invokevirtual 92, 3) := by decide +kernel
theorem dX3_macFill_47 : decode cX3_macFill 47 = .ok (.iload 4, 2) := by decide +kernel
theorem dX3_macFill_49 : decode cX3_macFill 49 = .ok (.iload_n 3, 1) := by decide +kernel
theorem dX3_macFill_50 : decode cX3_macFill 50 = .ok (.iadd, 1) := by decide +kernel
theorem dX3_macFill_51 : decode cX3_macFill 51 = .ok (.istore 4, 2) := by decide +kernel
theorem dX3_macFill_53 : decode cX3_macFill 53 = .ok (.iinc 5 1, 3) := by decide +kernel
theorem dX3_macFill_56 : decode cX3_macFill 56 = .ok (.goto (-25), 3) := by decide +kernel
theorem dX3_macFill_59 : decode cX3_macFill 59 = .ok (.iconst 1, 1) := by decide +kernel
theorem dX3_macFill_60 : decode cX3_macFill 60 = .ok (.ireturn, 1) := by decide +kernel
theorem dX3_macFinish_0 : decode cX3_macFinish 0 = .ok (.aload_n 0, 1) := by decide +kernel
theorem dX3_macFinish_1 : decode cX3_macFinish 1 = .ok (.iconst 0, 1) := by decide +kernel
theorem dX3_macFinish_2 : decode cX3_macFinish 2 = .ok (.putfield 51, 3) := by decide +kernel
theorem dX3_macFinish_5 : decode cX3_macFinish 5 = .ok (.aload_n 0, 1) := by decide +kernel
theorem dX3_macFinish_6 : decode cX3_macFinish 6 = .ok (.getfield 62, 3) := by decide +kernel
theorem dX3_macFinish_9 : decode cX3_macFinish 9 = .ok (.iconst 1, 1) := by decide +kernel
theorem dX3_macFinish_10 : decode cX3_macFinish 10 = .ok (.if_icmp .eq 5, 3) := by decide +kernel
theorem dX3_macFinish_13 : decode cX3_macFinish 13 = .ok (.iconst 0, 1) := by decide +kernel
theorem dX3_macFinish_14 : decode cX3_macFinish 14 = .ok (.ireturn, 1) := by decide +kernel
theorem dX3_macFinish_15 : decode cX3_macFinish 15 = .ok (.aload_n 0, 1) := by decide +kernel
theorem dX3_macFinish_16 : decode cX3_macFinish 16 = .ok (.getfield 86, 3) := by decide +kernel
theorem dX3_macFinish_19 : decode cX3_macFinish 19 = .ok (.bipush 16, 2) := by decide +kernel
theorem dX3_macFinish_21 : decode cX3_macFinish 21 = .ok (.if_icmp .ne 7, 3) := by decide +kernel
theorem dX3_macFinish_24 : decode cX3_macFinish 24 = .ok (.iconst 0, 1) := by decide +kernel
theorem dX3_macFinish_25 : decode cX3_macFinish 25 = .ok (.goto 5, 3) := by decide +kernel
theorem dX3_macFinish_28 : decode cX3_macFinish 28 = .ok (.bipush 16, 2) := by decide +kernel
theorem dX3_macFinish_30 : decode cX3_macFinish 30 = .ok (.istore_n 1, 1) := by decide +kernel
theorem dX3_macFinish_31 : decode cX3_macFinish 31 = .ok (.aload_n 0, 1) := by decide +kernel
theorem dX3_macFinish_32 : decode cX3_macFinish 32 = .ok (.getfield 86, 3) := by decide +kernel
theorem dX3_macFinish_35 : decode cX3_macFinish 35 = .ok (.istore_n 2, 1) := by decide +kernel
theorem dX3_macFinish_36 : decode cX3_macFinish 36 = .ok (.iload_n 2, 1) := by decide +kernel
theorem dX3_macFinish_37 : decode cX3_macFinish 37 = .ok (.bipush 16, 2) := by decide +kernel
theorem dX3_macFinish_39 : decode cX3_macFinish 39 = .ok (.if_icmp .ge 30, 3) := by decide +kernel
theorem dX3_macFinish_42 : decode cX3_macFinish 42 = .ok (.aload_n 0, 1) := by decide +kernel
theorem dX3_macFinish_43 : decode cX3_macFinish 43 = .ok (.getfield 40, 3) := by decide +kernel
theorem dX3_macFinish_46 : decode cX3_macFinish 46 = .ok (.iload_n 2, 1) := by decide +kernel
theorem dX3_macFinish_47 : decode cX3_macFinish 47 = .ok (.iload_n 2, 1) := by decide +kernel
theorem dX3_macFinish_48 : decode cX3_macFinish 48 = .ok (.aload_n 0, 1) := by decide +kernel
theorem dX3_macFinish_49 : decode cX3_macFinish 49 = .ok (.getfield 86, 3) := by decide +kernel
theorem dX3_macFinish_52 : decode cX3_macFinish 52 = .ok (.if_icmp .ne 9, 3) := by decide +kernel
theorem dX3_macFinish_55 : decode cX3_macFinish 55 = .ok (.sipush 128, 3) := by decide +kernel
theorem dX3_macFinish_58 : decode cX3_macFinish 58 = .ok (.goto 4, 3) := by decide +kernel
theorem dX3_macFinish_61 : decode cX3_macFinish 61 = .ok (.iconst 0, 1) := by decide +kernel
theorem dX3_macFinish_62 : decode cX3_macFinish 62 = .ok (.iastore, 1) := by decide +kernel
theorem dX3_macFinish_63 : decode cX3_macFinish 63 = .ok (.iinc 2 1, 3) := by decide +kernel
theorem dX3_macFinish_66 : decode cX3_macFinish 66 = .ok (.goto (-30), 3) := by decide +kernel
theorem dX3_macFinish_69 : decode cX3_macFinish 69 = .ok (.iconst 0, 1) := by decide +kernel
theorem dX3_macFinish_70 : decode cX3_macFinish 70 = .ok (.istore_n 2, 1) := by decide +kernel
theorem dX3_macFinish_71 : decode cX3_macFinish 71 = .ok (.iload_n 2, 1) := by decide +kernel
theorem dX3_macFinish_72 : decode cX3_macFinish 72 = .ok (.bipush 16, 2) := by decide +kernel
theorem dX3_macFinish_74 : decode cX3_macFinish 74 = .ok (.if_icmp .ge 37, 3) := by decide +kernel
theorem dX3_macFinish_77 : decode cX3_macFinish 77 = .ok (.aload_n 0, 1) := by decide +kernel
theorem dX3_macFinish_78 : decode cX3_macFinish 78 = .ok (.getfield 40, 3) := by decide +kernel
theorem dX3_macFinish_81 : decode cX3_macFinish 81 = .ok (.iload_n 2, 1) := by decide +kernel
theorem dX3_macFinish_82 : decode cX3_macFinish 82 = .ok (.aload_n 0, 1) := by decide +kernel
theorem dX3_macFinish_83 : decode cX3_macFinish 83 = .ok (.getfield 40, 3) := by decide +kernel
theorem dX3_macFinish_86 : decode cX3_macFinish 86 = .ok (.iload_n 2, 1) := by decide +kernel
theorem dX3_macFinish_87 : decode cX3_macFinish 87 = .ok (.iaload, 1) := by decide +kernel
theorem dX3_macFinish_88 : decode cX3_macFinish 88 = .ok (.aload_n 0, 1) := by decide +kernel
theorem dX3_macFinish_89 : decode cX3_macFinish 89 = .ok (.getfield 28, 3) := by decide +kernel
theorem dX3_macFinish_92 : decode cX3_macFinish 92 = .ok (.iload_n 1, 1) := by decide +kernel
theorem dX3_macFinish_93 : decode cX3_macFinish 93 = .ok (.iload_n 2, 1) := by decide +kernel
theorem dX3_macFinish_94 : decode cX3_macFinish 94 = .ok (.iadd, 1) := by decide +kernel
theorem dX3_macFinish_95 : decode cX3_macFinish 95 = .ok (.iaload, 1) := by decide +kernel
theorem dX3_macFinish_96 : decode cX3_macFinish 96 = .ok (.ixor, 1) := by decide +kernel
theorem dX3_macFinish_97 : decode cX3_macFinish 97 = .ok (.iastore, 1) := by decide +kernel
theorem dX3_macFinish_98 : decode cX3_macFinish 98 = .ok (.aload_n 0, 1) := by decide +kernel
theorem dX3_macFinish_99 : decode cX3_macFinish 99 = .ok (.getfield 43, 3) := by decide +kernel
theorem dX3_macFinish_102 : decode cX3_macFinish 102 = .ok (.iload_n 2, 1) := by decide +kernel
theorem dX3_macFinish_103 : decode cX3_macFinish 103 = .ok (.iconst 0, 1) := by decide +kernel
theorem dX3_macFinish_104 : decode cX3_macFinish 104 = .ok (.bastore, 1) := by decide +kernel
theorem dX3_macFinish_105 : decode cX3_macFinish 105 = .ok (.iinc 2 1, 3) := by decide +kernel
theorem dX3_macFinish_108 : decode cX3_macFinish 108 = .ok (.goto (-37), 3) := by decide +kernel
theorem dX3_macFinish_111 : decode cX3_macFinish 111 = .ok (.aload_n 0, 1) := by decide +kernel
theorem dX3_macFinish_112 : decode cX3_macFinish 112 = .ok (.invokevirtual 89, 3) := by decide +kernel
theorem dX3_macFinish_115 : decode cX3_macFinish 115 = .ok (.aload_n 0, 1) := by decide +kernel
theorem dX3_macFinish_116 : decode cX3_macFinish 116 = .ok (.iconst 0, 1) := by decide +kernel
theorem dX3_macFinish_117 : decode cX3_macFinish 117 = .ok (.putfield 95, 3) := by decide +kernel
theorem dX3_macFinish_120 : decode cX3_macFinish 120 = .ok (.aload_n 0, 1) := by decide +kernel
theorem dX3_macFinish_121 : decode cX3_macFinish 121 = .ok (.iconst 2, 1) := by decide +kernel
theorem dX3_macFinish_122 : decode cX3_macFinish 122 = .ok (.putfield 62, 3) := by decide +kernel
theorem dX3_macFinish_125 : decode cX3_macFinish 125 = .ok (.iconst 1, 1) := by decide +kernel
theorem dX3_macFinish_126 : decode cX3_macFinish 126 = .ok (.ireturn, 1) := by decide +kernel
theorem dX3_tagByte_0 : decode cX3_tagByte 0 = .ok (.aload_n 0, 1) := by decide +kernel
theorem dX3_tagByte_1 : decode cX3_tagByte 1 = .ok (.iconst 0, 1) := by decide +kernel
theorem dX3_tagByte_2 : decode cX3_tagByte 2 = .ok (.putfield 51, 3) := by decide +kernel
theorem dX3_tagByte_5 : decode cX3_tagByte 5 = .ok (.aload_n 0, 1) := by decide +kernel
theorem dX3_tagByte_6 : decode cX3_tagByte 6 = .ok (.getfield 62, 3) := by decide +kernel
theorem dX3_tagByte_9 : decode cX3_tagByte 9 = .ok (.iconst 2, 1) := by decide +kernel
theorem dX3_tagByte_10 : decode cX3_tagByte 10 = .ok (.if_icmp .ne 21, 3) := by decide +kernel
theorem dX3_tagByte_13 : decode cX3_tagByte 13 = .ok (.iload_n 1, 1) := by decide +kernel
theorem dX3_tagByte_14 : decode cX3_tagByte 14 = .ok (.bipush 15, 2) := by decide +kernel
theorem dX3_tagByte_16 : decode cX3_tagByte 16 = .ok (.invokestatic 65, 3) := by decide +kernel
theorem dX3_tagByte_19 : decode cX3_tagByte 19 = .ok (.ifCond .eq 12, 3) := by decide +kernel
theorem dX3_tagByte_22 : decode cX3_tagByte 22 = .ok (.aload_n 0, 1) := by decide +kernel
theorem dX3_tagByte_23 : decode cX3_tagByte 23 = .ok (.getfield 37, 3) := by decide +kernel
theorem dX3_tagByte_26 : decode cX3_tagByte 26 = .ok (.iload_n 1, 1) := by decide +kernel
theorem dX3_tagByte_27 : decode cX3_tagByte 27 = .ok (.iaload, 1) := by decide +kernel
theorem dX3_tagByte_28 : decode cX3_tagByte 28 = .ok (.goto 4, 3) := by decide +kernel
theorem dX3_tagByte_31 : decode cX3_tagByte 31 = .ok (.iconst (-1), 1) := by decide +kernel
theorem dX3_tagByte_32 : decode cX3_tagByte 32 = .ok (.ireturn, 1) := by decide +kernel
theorem dX3_macCheck_0 : decode cX3_macCheck 0 = .ok (.aload_n 0, 1) := by decide +kernel
theorem dX3_macCheck_1 : decode cX3_macCheck 1 = .ok (.iconst 0, 1) := by decide +kernel
theorem dX3_macCheck_2 : decode cX3_macCheck 2 = .ok (.putfield 51, 3) := by decide +kernel
theorem dX3_macCheck_5 : decode cX3_macCheck 5 = .ok (.aload_n 0, 1) := by decide +kernel
theorem dX3_macCheck_6 : decode cX3_macCheck 6 = .ok (.getfield 62, 3) := by decide +kernel
theorem dX3_macCheck_9 : decode cX3_macCheck 9 = .ok (.iconst 2, 1) := by decide +kernel
theorem dX3_macCheck_10 : decode cX3_macCheck 10 = .ok (.if_icmp .ne 12, 3) := by decide +kernel
theorem dX3_macCheck_13 : decode cX3_macCheck 13 = .ok (.iload_n 1, 1) := by decide +kernel
theorem dX3_macCheck_14 : decode cX3_macCheck 14 = .ok (.bipush 15, 2) := by decide +kernel
theorem dX3_macCheck_16 : decode cX3_macCheck 16 = .ok (.invokestatic 65, 3) := by decide +kernel
theorem dX3_macCheck_19 : decode cX3_macCheck 19 = .ok (.ifCond .ne 5, 3) := by decide +kernel
theorem dX3_macCheck_22 : decode cX3_macCheck 22 = .ok (.iconst 0, 1) := by decide +kernel
theorem dX3_macCheck_23 : decode cX3_macCheck 23 = .ok (.ireturn, 1) := by decide +kernel
theorem dX3_macCheck_24 : decode cX3_macCheck 24 = .ok (.aload_n 0, 1) := by decide +kernel
theorem dX3_macCheck_25 : decode cX3_macCheck 25 = .ok (.getfield 43, 3) := by decide +kernel
theorem dX3_macCheck_28 : decode cX3_macCheck 28 = .ok (.iload_n 1, 1) := by decide +kernel
theorem dX3_macCheck_29 : decode cX3_macCheck 29 = .ok (.iconst 1, 1) := by decide +kernel
theorem dX3_macCheck_30 : decode cX3_macCheck 30 = .ok (.bastore, 1) := by decide +kernel
theorem dX3_macCheck_31 : decode cX3_macCheck 31 = .ok (.aload_n 0, 1) := by decide +kernel
theorem dX3_macCheck_32 : decode cX3_macCheck 32 = .ok (.aload_n 0, 1) := by decide +kernel
theorem dX3_macCheck_33 : decode cX3_macCheck 33 = .ok (.getfield 95, 3) := by decide +kernel
theorem dX3_macCheck_36 : decode cX3_macCheck 36 = .ok (.ifCond .ne 13, 3) := by decide +kernel
theorem dX3_macCheck_39 : decode cX3_macCheck 39 = .ok (.aload_n 0, 1) := by decide +kernel
theorem dX3_macCheck_40 : decode cX3_macCheck 40 = .ok (.getfield 37, 3) := by decide +kernel
theorem dX3_macCheck_43 : decode cX3_macCheck 43 = .ok (.iload_n 1, 1) := by decide +kernel
theorem dX3_macCheck_44 : decode cX3_macCheck 44 = .ok (.iaload, 1) := by decide +kernel
theorem dX3_macCheck_45 : decode cX3_macCheck 45 = .ok (.iload_n 2, 1) := by decide +kernel
theorem dX3_macCheck_46 : decode cX3_macCheck 46 = .ok (.if_icmp .eq 7, 3) := by decide +kernel
theorem dX3_macCheck_49 : decode cX3_macCheck 49 = .ok (.iconst 1, 1) := by decide +kernel
theorem dX3_macCheck_50 : decode cX3_macCheck 50 = .ok (.goto 4, 3) := by decide +kernel
theorem dX3_macCheck_53 : decode cX3_macCheck 53 = .ok (.iconst 0, 1) := by decide +kernel
theorem dX3_macCheck_54 : decode cX3_macCheck 54 = .ok (.putfield 95, 3) := by decide +kernel
theorem dX3_macCheck_57 : decode cX3_macCheck 57 = .ok (.iconst 1, 1) := by decide +kernel
theorem dX3_macCheck_58 : decode cX3_macCheck 58 = .ok (.ireturn, 1) := by decide +kernel
theorem dX3_macVerdict_0 : decode cX3_macVerdict 0 = .ok (.aload_n 0, 1) := by decide +kernel
theorem dX3_macVerdict_1 : decode cX3_macVerdict 1 = .ok (.iconst 0, 1) := by decide +kernel
theorem dX3_macVerdict_2 : decode cX3_macVerdict 2 = .ok (.putfield 51, 3) := by decide +kernel
theorem dX3_macVerdict_5 : decode cX3_macVerdict 5 = .ok (.aload_n 0, 1) := by decide +kernel
theorem dX3_macVerdict_6 : decode cX3_macVerdict 6 = .ok (.getfield 62, 3) := by decide +kernel
theorem dX3_macVerdict_9 : decode cX3_macVerdict 9 = .ok (.iconst 2, 1) := by decide +kernel
theorem dX3_macVerdict_10 : decode cX3_macVerdict 10 = .ok (.if_icmp .ne 14, 3) := by decide +kernel
theorem dX3_macVerdict_13 : decode cX3_macVerdict 13 = .ok (.aload_n 0, 1) := by decide +kernel
theorem dX3_macVerdict_14 : decode cX3_macVerdict 14 = .ok (.getfield 95, 3) := by decide +kernel
theorem dX3_macVerdict_17 : decode cX3_macVerdict 17 = .ok (.ifCond .ne 7, 3) := by decide +kernel
theorem dX3_macVerdict_20 : decode cX3_macVerdict 20 = .ok (.iconst 1, 1) := by decide +kernel
theorem dX3_macVerdict_21 : decode cX3_macVerdict 21 = .ok (.goto 4, 3) := by decide +kernel
theorem dX3_macVerdict_24 : decode cX3_macVerdict 24 = .ok (.iconst 0, 1) := by decide +kernel
theorem dX3_macVerdict_25 : decode cX3_macVerdict 25 = .ok (.istore_n 1, 1) := by decide +kernel
theorem dX3_macVerdict_26 : decode cX3_macVerdict 26 = .ok (.iconst 0, 1) := by decide +kernel
theorem dX3_macVerdict_27 : decode cX3_macVerdict 27 = .ok (.istore_n 2, 1) := by decide +kernel
theorem dX3_macVerdict_28 : decode cX3_macVerdict 28 = .ok (.iload_n 2, 1) := by decide +kernel
theorem dX3_macVerdict_29 : decode cX3_macVerdict 29 = .ok (.bipush 16, 2) := by decide +kernel
theorem dX3_macVerdict_31 : decode cX3_macVerdict 31 = .ok (.if_icmp .ge 28, 3) := by decide +kernel
theorem dX3_macVerdict_34 : decode cX3_macVerdict 34 = .ok (.iload_n 1, 1) := by decide +kernel
theorem dX3_macVerdict_35 : decode cX3_macVerdict 35 = .ok (.ifCond .eq 16, 3) := by decide +kernel
theorem dX3_macVerdict_38 : decode cX3_macVerdict 38 = .ok (.aload_n 0, 1) := by decide +kernel
theorem dX3_macVerdict_39 : decode cX3_macVerdict 39 = .ok (.getfield 43, 3) := by decide +kernel
theorem dX3_macVerdict_42 : decode cX3_macVerdict 42 = .ok (.iload_n 2, 1) := by decide +kernel
theorem dX3_macVerdict_43 : decode cX3_macVerdict 43 = .ok (.baload, 1) := by decide +kernel
theorem dX3_macVerdict_44 : decode cX3_macVerdict 44 = .ok (.ifCond .eq 7, 3) := by decide +kernel
theorem dX3_macVerdict_47 : decode cX3_macVerdict 47 = .ok (.iconst 1, 1) := by decide +kernel
theorem dX3_macVerdict_48 : decode cX3_macVerdict 48 = .ok (.goto 4, 3) := by decide +kernel
theorem dX3_macVerdict_51 : decode cX3_macVerdict 51 = .ok (.iconst 0, 1) := by decide +kernel
theorem dX3_macVerdict_52 : decode cX3_macVerdict 52 = .ok (.istore_n 1, 1) := by decide +kernel
theorem dX3_macVerdict_53 : decode cX3_macVerdict 53 = .ok (.iinc 2 1, 3) := by decide +kernel
theorem dX3_macVerdict_56 : decode cX3_macVerdict 56 = .ok (.goto (-28), 3) := by decide +kernel
theorem dX3_macVerdict_59 : decode cX3_macVerdict 59 = .ok (.iload_n 1, 1) := by decide +kernel
theorem dX3_macVerdict_60 : decode cX3_macVerdict 60 = .ok (.ireturn, 1) := by decide +kernel
theorem dX3_setBlockByte_0 : decode cX3_setBlockByte 0 = .ok (.aload_n 0, 1) := by decide +kernel
theorem dX3_setBlockByte_1 : decode cX3_setBlockByte 1 = .ok (.iconst 0, 1) := by decide +kernel
theorem dX3_setBlockByte_2 : decode cX3_setBlockByte 2 = .ok (.putfield 51, 3) := by decide +kernel
theorem dX3_setBlockByte_5 : decode cX3_setBlockByte 5 = .ok (.aload_n 0, 1) := by decide +kernel
theorem dX3_setBlockByte_6 : decode cX3_setBlockByte 6 = .ok (.getfield 55, 3) := by decide +kernel
theorem dX3_setBlockByte_9 : decode cX3_setBlockByte 9 = .ok (.ifCond .eq 22, 3) := by decide +kernel
theorem dX3_setBlockByte_12 : decode cX3_setBlockByte 12 = .ok (.iload_n 1, 1) := by decide +kernel
theorem dX3_setBlockByte_13 : decode cX3_setBlockByte 13 = .ok (.bipush 15, 2) := by decide +kernel
theorem dX3_setBlockByte_15 : decode cX3_setBlockByte 15 = .ok (.invokestatic 65, 3) := by decide +kernel
theorem dX3_setBlockByte_18 : decode cX3_setBlockByte 18 = .ok (.ifCond .eq 13, 3) := by decide +kernel
theorem dX3_setBlockByte_21 : decode cX3_setBlockByte 21 = .ok (.iload_n 2, 1) := by decide +kernel
theorem dX3_setBlockByte_22 : decode cX3_setBlockByte 22 = .ok (.sipush 255, 3) := by decide +kernel
theorem dX3_setBlockByte_25 : decode cX3_setBlockByte 25 = .ok (.invokestatic 65, 3) := by decide +kernel
theorem dX3_setBlockByte_28 : decode cX3_setBlockByte 28 = .ok (.ifCond .ne 5, 3) := by decide +kernel
theorem dX3_setBlockByte_31 : decode cX3_setBlockByte 31 = .ok (.iconst 0, 1) := by decide +kernel
theorem dX3_setBlockByte_32 : decode cX3_setBlockByte 32 = .ok (.ireturn, 1) := by decide +kernel
theorem dX3_setBlockByte_33 : decode cX3_setBlockByte 33 = .ok (.aload_n 0, 1) := by decide +kernel
theorem dX3_setBlockByte_34 : decode cX3_setBlockByte 34 = .ok (.getfield 13, 3) := by decide +kernel
theorem dX3_setBlockByte_37 : decode cX3_setBlockByte 37 = .ok (.iload_n 1, 1) := by decide +kernel
theorem dX3_setBlockByte_38 : decode cX3_setBlockByte 38 = .ok (.iload_n 2, 1) := by decide +kernel
theorem dX3_setBlockByte_39 : decode cX3_setBlockByte 39 = .ok (.iastore, 1) := by decide +kernel
theorem dX3_setBlockByte_40 : decode cX3_setBlockByte 40 = .ok (.iconst 1, 1) := by decide +kernel
theorem dX3_setBlockByte_41 : decode cX3_setBlockByte 41 = .ok (.ireturn, 1) := by decide +kernel
theorem dX3_load_0 : decode cX3_load 0 = .ok (.iconst 0, 1) := by decide +kernel
theorem dX3_load_1 : decode cX3_load 1 = .ok (.istore_n 2, 1) := by decide +kernel
theorem dX3_load_2 : decode cX3_load 2 = .ok (.iload_n 2, 1) := by decide +kernel
theorem dX3_load_3 : decode cX3_load 3 = .ok (.bipush 16, 2) := by decide +kernel
theorem dX3_load_5 : decode cX3_load 5 = .ok (.if_icmp .ge 41, 3) := by decide +kernel
theorem dX3_load_8 : decode cX3_load 8 = .ok (.aload_n 0, 1) := by decide +kernel
theorem dX3_load_9 : decode cX3_load 9 = .ok (.getfield 31, 3) := by decide +kernel
theorem dX3_load_12 : decode cX3_load 12 = .ok (.iload_n 2, 1) := by decide +kernel
theorem dX3_load_13 : decode cX3_load 13 = .ok (.iload_n 1, 1) := by decide +kernel
theorem dX3_load_14 : decode cX3_load 14 = .ok (.ifCond .eq 19, 3) := by decide +kernel
theorem dX3_load_17 : decode cX3_load 17 = .ok (.aload_n 0, 1) := by decide +kernel
theorem dX3_load_18 : decode cX3_load 18 = .ok (.getfield 13, 3) := by decide +kernel
theorem dX3_load_21 : decode cX3_load 21 = .ok (.iload_n 2, 1) := by decide +kernel
theorem dX3_load_22 : decode cX3_load 22 = .ok (.iaload, 1) := by decide +kernel
theorem dX3_load_23 : decode cX3_load 23 = .ok (.aload_n 0, 1) := by decide +kernel
theorem dX3_load_24 : decode cX3_load 24 = .ok (.getfield 16, 3) := by decide +kernel
theorem dX3_load_27 : decode cX3_load 27 = .ok (.iload_n 2, 1) := by decide +kernel
theorem dX3_load_28 : decode cX3_load 28 = .ok (.iaload, 1) := by decide +kernel
theorem dX3_load_29 : decode cX3_load 29 = .ok (.ixor, 1) := by decide +kernel
theorem dX3_load_30 : decode cX3_load 30 = .ok (.goto 9, 3) := by decide +kernel
theorem dX3_load_33 : decode cX3_load 33 = .ok (.aload_n 0, 1) := by decide +kernel
theorem dX3_load_34 : decode cX3_load 34 = .ok (.getfield 13, 3) := by decide +kernel
theorem dX3_load_37 : decode cX3_load 37 = .ok (.iload_n 2, 1) := by decide +kernel
theorem dX3_load_38 : decode cX3_load 38 = .ok (.iaload, 1) := by decide +kernel
theorem dX3_load_39 : decode cX3_load 39 = .ok (.iastore, 1) := by decide +kernel
theorem dX3_load_40 : decode cX3_load 40 = .ok (.iinc 2 1, 3) := by decide +kernel
theorem dX3_load_43 : decode cX3_load 43 = .ok (.goto (-41), 3) := by decide +kernel
theorem dX3_load_46 : decode cX3_load 46 = .ok (.return_, 1) := by decide +kernel
theorem dX3_encryptBlock_0 : decode cX3_encryptBlock 0 = .ok (.aload_n 0, 1) := by decide +kernel
theorem dX3_encryptBlock_1 : decode cX3_encryptBlock 1 = .ok (.iconst 0, 1) := by decide +kernel
theorem dX3_encryptBlock_2 : decode cX3_encryptBlock 2 = .ok (.putfield 51, 3) := by decide +kernel
theorem dX3_encryptBlock_5 : decode cX3_encryptBlock 5 = .ok (.aload_n 0, 1) := by decide +kernel
theorem dX3_encryptBlock_6 : decode cX3_encryptBlock 6 = .ok (.getfield 59, 3) := by decide +kernel
theorem dX3_encryptBlock_9 : decode cX3_encryptBlock 9 = .ok (.ifCond .eq 38, 3) := by decide +kernel
theorem dX3_encryptBlock_12 : decode cX3_encryptBlock 12 = .ok (.aload_n 0, 1) := by decide +kernel
theorem dX3_encryptBlock_13 : decode cX3_encryptBlock 13 = .ok (.iconst 0, 1) := by decide +kernel
theorem dX3_encryptBlock_14 : decode cX3_encryptBlock 14 = .ok (.invokevirtual 98, 3) := by decide +kernel
theorem dX3_encryptBlock_17 : decode cX3_encryptBlock 17 = .ok (.aload_n 0, 1) := by decide +kernel
theorem dX3_encryptBlock_18 : decode cX3_encryptBlock 18 = .ok (.invokevirtual 80, 3) := by decide +kernel
theorem dX3_encryptBlock_21 : decode cX3_encryptBlock 21 = .ok (.iconst 0, 1) := by decide +kernel
theorem dX3_encryptBlock_22 : decode cX3_encryptBlock 22 = .ok (.istore_n 1, 1) := by decide +kernel
theorem dX3_encryptBlock_23 : decode cX3_encryptBlock 23 = .ok (.iload_n 1, 1) := by decide +kernel
theorem dX3_encryptBlock_24 : decode cX3_encryptBlock 24 = .ok (.bipush 16, 2) := by decide +kernel
theorem dX3_encryptBlock_26 : decode cX3_encryptBlock 26 = .ok (.if_icmp .ge 21, 3) := by decide +kernel
theorem dX3_encryptBlock_29 : decode cX3_encryptBlock 29 = .ok (.aload_n 0, 1) := by decide +kernel
theorem dX3_encryptBlock_30 : decode cX3_encryptBlock 30 = .ok (.getfield 13, 3) := by decide +kernel
theorem dX3_encryptBlock_33 : decode cX3_encryptBlock 33 = .ok (.iload_n 1, 1) := by decide +kernel
theorem dX3_encryptBlock_34 : decode cX3_encryptBlock 34 = .ok (.aload_n 0, 1) := by decide +kernel
theorem dX3_encryptBlock_35 : decode cX3_encryptBlock 35 = .ok (.getfield 31, 3) := by decide +kernel
theorem dX3_encryptBlock_38 : decode cX3_encryptBlock 38 = .ok (.iload_n 1, 1) := by decide +kernel
theorem dX3_encryptBlock_39 : decode cX3_encryptBlock 39 = .ok (.iaload, 1) := by decide +kernel
theorem dX3_encryptBlock_40 : decode cX3_encryptBlock 40 = .ok (.iastore, 1) := by decide +kernel
theorem dX3_encryptBlock_41 : decode cX3_encryptBlock 41 = .ok (.iinc 1 1, 3) := by decide +kernel
theorem dX3_encryptBlock_44 : decode cX3_encryptBlock 44 = .ok (.goto (-21), 3) := by decide +kernel
theorem dX3_encryptBlock_47 : decode cX3_encryptBlock 47 = .ok (.aload_n 0, 1) := by decide +kernel
theorem dX3_encryptBlock_48 : decode cX3_encryptBlock 48 = .ok (.getfield 59, 3) := by decide +kernel
theorem dX3_encryptBlock_51 : decode cX3_encryptBlock 51 = .ok (.ireturn, 1) := by decide +kernel
theorem dX3_decryptBlock_0 : decode cX3_decryptBlock 0 = .ok (.aload_n 0, 1) := by decide +kernel
theorem dX3_decryptBlock_1 : decode cX3_decryptBlock 1 = .ok (.iconst 0, 1) := by decide +kernel
theorem dX3_decryptBlock_2 : decode cX3_decryptBlock 2 = .ok (.putfield 51, 3) := by decide +kernel
theorem dX3_decryptBlock_5 : decode cX3_decryptBlock 5 = .ok (.aload_n 0, 1) := by decide +kernel
theorem dX3_decryptBlock_6 : decode cX3_decryptBlock 6 = .ok (.getfield 59, 3) := by decide +kernel
theorem dX3_decryptBlock_9 : decode cX3_decryptBlock 9 = .ok (.ifCond .eq 38, 3) := by decide +kernel
theorem dX3_decryptBlock_12 : decode cX3_decryptBlock 12 = .ok (.aload_n 0, 1) := by decide +kernel
theorem dX3_decryptBlock_13 : decode cX3_decryptBlock 13 = .ok (.iconst 0, 1) := by decide +kernel
theorem dX3_decryptBlock_14 : decode cX3_decryptBlock 14 = .ok (.invokevirtual 98, 3) := by decide +kernel
theorem dX3_decryptBlock_17 : decode cX3_decryptBlock 17 = .ok (.aload_n 0, 1) := by decide +kernel
theorem dX3_decryptBlock_18 : decode cX3_decryptBlock 18 = .ok (.invokevirtual 102, 3) := by decide +kernel
theorem dX3_decryptBlock_21 : decode cX3_decryptBlock 21 = .ok (.iconst 0, 1) := by decide +kernel
theorem dX3_decryptBlock_22 : decode cX3_decryptBlock 22 = .ok (.istore_n 1, 1) := by decide +kernel
theorem dX3_decryptBlock_23 : decode cX3_decryptBlock 23 = .ok (.iload_n 1, 1) := by decide +kernel
theorem dX3_decryptBlock_24 : decode cX3_decryptBlock 24 = .ok (.bipush 16, 2) := by decide +kernel
theorem dX3_decryptBlock_26 : decode cX3_decryptBlock 26 = .ok (.if_icmp .ge 21, 3) := by decide +kernel
theorem dX3_decryptBlock_29 : decode cX3_decryptBlock 29 = .ok (.aload_n 0, 1) := by decide +kernel
theorem dX3_decryptBlock_30 : decode cX3_decryptBlock 30 = .ok (.getfield 13, 3) := by decide +kernel
theorem dX3_decryptBlock_33 : decode cX3_decryptBlock 33 = .ok (.iload_n 1, 1) := by decide +kernel
theorem dX3_decryptBlock_34 : decode cX3_decryptBlock 34 = .ok (.aload_n 0, 1) := by decide +kernel
theorem dX3_decryptBlock_35 : decode cX3_decryptBlock 35 = .ok (.getfield 31, 3) := by decide +kernel
theorem dX3_decryptBlock_38 : decode cX3_decryptBlock 38 = .ok (.iload_n 1, 1) := by decide +kernel
theorem dX3_decryptBlock_39 : decode cX3_decryptBlock 39 = .ok (.iaload, 1) := by decide +kernel
theorem dX3_decryptBlock_40 : decode cX3_decryptBlock 40 = .ok (.iastore, 1) := by decide +kernel
theorem dX3_decryptBlock_41 : decode cX3_decryptBlock 41 = .ok (.iinc 1 1, 3) := by decide +kernel
theorem dX3_decryptBlock_44 : decode cX3_decryptBlock 44 = .ok (.goto (-21), 3) := by decide +kernel
theorem dX3_decryptBlock_47 : decode cX3_decryptBlock 47 = .ok (.aload_n 0, 1) := by decide +kernel
theorem dX3_decryptBlock_48 : decode cX3_decryptBlock 48 = .ok (.getfield 59, 3) := by decide +kernel
theorem dX3_decryptBlock_51 : decode cX3_decryptBlock 51 = .ok (.ireturn, 1) := by decide +kernel
theorem dX3_chain_0 : decode cX3_chain 0 = .ok (.aload_n 0, 1) := by decide +kernel
theorem dX3_chain_1 : decode cX3_chain 1 = .ok (.iconst 0, 1) := by decide +kernel
theorem dX3_chain_2 : decode cX3_chain 2 = .ok (.putfield 51, 3) := by decide +kernel
theorem dX3_chain_5 : decode cX3_chain 5 = .ok (.aload_n 0, 1) := by decide +kernel
theorem dX3_chain_6 : decode cX3_chain 6 = .ok (.getfield 59, 3) := by decide +kernel
theorem dX3_chain_9 : decode cX3_chain 9 = .ok (.ifCond .ne 5, 3) := by decide +kernel
theorem dX3_chain_12 : decode cX3_chain 12 = .ok (.iconst 0, 1) := by decide +kernel
theorem dX3_chain_13 : decode cX3_chain 13 = .ok (.ireturn, 1) := by decide +kernel
theorem dX3_chain_14 : decode cX3_chain 14 = .ok (.aload_n 0, 1) := by decide +kernel
theorem dX3_chain_15 : decode cX3_chain 15 = .ok (.iload_n 1, 1) := by decide +kernel
theorem dX3_chain_16 : decode cX3_chain 16 = .ok (.ifCond .ne 7, 3) := by decide +kernel
theorem dX3_chain_19 : decode cX3_chain 19 = .ok (.iconst 1, 1) := by decide +kernel
theorem dX3_chain_20 : decode cX3_chain 20 = .ok (.goto 4, 3) := by decide +kernel
theorem dX3_chain_23 : decode cX3_chain 23 = .ok (.iconst 0, 1) := by decide +kernel
theorem dX3_chain_24 : decode cX3_chain 24 = .ok (.invokevirtual 98, 3) := by decide +kernel
theorem dX3_chain_27 : decode cX3_chain 27 = .ok (.iload_n 1, 1) := by decide +kernel
theorem dX3_chain_28 : decode cX3_chain 28 = .ok (.ifCond .eq 10, 3) := by decide +kernel
theorem dX3_chain_31 : decode cX3_chain 31 = .ok (.aload_n 0, 1) := by decide +kernel
theorem dX3_chain_32 : decode cX3_chain 32 = .ok (.invokevirtual 102, 3) := by decide +kernel
theorem dX3_chain_35 : decode cX3_chain 35 = .ok (.goto 7, 3) := by decide +kernel
theorem dX3_chain_38 : decode cX3_chain 38 = .ok (.aload_n 0, 1) := by decide +kernel
theorem dX3_chain_39 : decode cX3_chain 39 = .ok (.invokevirtual 80, 3) := by decide +kernel
theorem dX3_chain_42 : decode cX3_chain 42 = .ok (.iconst 0, 1) := by decide +kernel
theorem dX3_chain_43 : decode cX3_chain 43 = .ok (.istore_n 2, 1) := by decide +kernel
theorem dX3_chain_44 : decode cX3_chain 44 = .ok (.iload_n 2, 1) := by decide +kernel
theorem dX3_chain_45 : decode cX3_chain 45 = .ok (.bipush 16, 2) := by decide +kernel
theorem dX3_chain_47 : decode cX3_chain 47 = .ok (.if_icmp .ge 68, 3) := by decide +kernel
theorem dX3_chain_50 : decode cX3_chain 50 = .ok (.aload_n 0, 1) := by decide +kernel
theorem dX3_chain_51 : decode cX3_chain 51 = .ok (.getfield 13, 3) := by decide +kernel
theorem dX3_chain_54 : decode cX3_chain 54 = .ok (.iload_n 2, 1) := by decide +kernel
theorem dX3_chain_55 : decode cX3_chain 55 = .ok (.iaload, 1) := by decide +kernel
theorem dX3_chain_56 : decode cX3_chain 56 = .ok (.istore_n 3, 1) := by decide +kernel
theorem dX3_chain_57 : decode cX3_chain 57 = .ok (.aload_n 0, 1) := by decide +kernel
theorem dX3_chain_58 : decode cX3_chain 58 = .ok (.getfield 13, 3) := by decide +kernel
theorem dX3_chain_61 : decode cX3_chain 61 = .ok (.iload_n 2, 1) := by decide +kernel
theorem dX3_chain_62 : decode cX3_chain 62 = .ok (.iload_n 1, 1) := by decide +kernel
theorem dX3_chain_63 : decode cX3_chain 63 = .ok (.ifCond .eq 19, 3) := by decide +kernel
theorem dX3_chain_66 : decode cX3_chain 66 = .ok (.aload_n 0, 1) := by decide +kernel
theorem dX3_chain_67 : decode cX3_chain 67 = .ok (.getfield 31, 3) := by decide +kernel
theorem dX3_chain_70 : decode cX3_chain 70 = .ok (.iload_n 2, 1) := by decide +kernel
theorem dX3_chain_71 : decode cX3_chain 71 = .ok (.iaload, 1) := by decide +kernel
theorem dX3_chain_72 : decode cX3_chain 72 = .ok (.aload_n 0, 1) := by decide +kernel
theorem dX3_chain_73 : decode cX3_chain 73 = .ok (.getfield 16, 3) := by decide +kernel
theorem dX3_chain_76 : decode cX3_chain 76 = .ok (.iload_n 2, 1) := by decide +kernel
theorem dX3_chain_77 : decode cX3_chain 77 = .ok (.iaload, 1) := by decide +kernel
theorem dX3_chain_78 : decode cX3_chain 78 = .ok (.ixor, 1) := by decide +kernel
theorem dX3_chain_79 : decode cX3_chain 79 = .ok (.goto 9, 3) := by decide +kernel
theorem dX3_chain_82 : decode cX3_chain 82 = .ok (.aload_n 0, 1) := by decide +kernel
theorem dX3_chain_83 : decode cX3_chain 83 = .ok (.getfield 31, 3) := by decide +kernel
theorem dX3_chain_86 : decode cX3_chain 86 = .ok (.iload_n 2, 1) := by decide +kernel
theorem dX3_chain_87 : decode cX3_chain 87 = .ok (.iaload, 1) := by decide +kernel
theorem dX3_chain_88 : decode cX3_chain 88 = .ok (.iastore, 1) := by decide +kernel
theorem dX3_chain_89 : decode cX3_chain 89 = .ok (.aload_n 0, 1) := by decide +kernel
theorem dX3_chain_90 : decode cX3_chain 90 = .ok (.getfield 16, 3) := by decide +kernel
theorem dX3_chain_93 : decode cX3_chain 93 = .ok (.iload_n 2, 1) := by decide +kernel
theorem dX3_chain_94 : decode cX3_chain 94 = .ok (.iload_n 1, 1) := by decide +kernel
theorem dX3_chain_95 : decode cX3_chain 95 = .ok (.ifCond .eq 7, 3) := by decide +kernel
theorem dX3_chain_98 : decode cX3_chain 98 = .ok (.iload_n 3, 1) := by decide +kernel
theorem dX3_chain_99 : decode cX3_chain 99 = .ok (.goto 9, 3) := by decide +kernel
theorem dX3_chain_102 : decode cX3_chain 102 = .ok (.aload_n 0, 1) := by decide +kernel
theorem dX3_chain_103 : decode cX3_chain 103 = .ok (.getfield 31, 3) := by decide +kernel
theorem dX3_chain_106 : decode cX3_chain 106 = .ok (.iload_n 2, 1) := by decide +kernel
theorem dX3_chain_107 : decode cX3_chain 107 = .ok (.iaload, 1) := by decide +kernel
theorem dX3_chain_108 : decode cX3_chain 108 = .ok (.iastore, 1) := by decide +kernel
theorem dX3_chain_109 : decode cX3_chain 109 = .ok (.iinc 2 1, 3) := by decide +kernel
theorem dX3_chain_112 : decode cX3_chain 112 = .ok (.goto (-68), 3) := by decide +kernel
theorem dX3_chain_115 : decode cX3_chain 115 = .ok (.iconst 1, 1) := by decide +kernel
theorem dX3_chain_116 : decode cX3_chain 116 = .ok (.ireturn, 1) := by decide +kernel
theorem dX3_unchain_0 : decode cX3_unchain 0 = .ok (.aload_n 0, 1) := by decide +kernel
theorem dX3_unchain_1 : decode cX3_unchain 1 = .ok (.iconst 0, 1) := by decide +kernel
theorem dX3_unchain_2 : decode cX3_unchain 2 = .ok (.putfield 51, 3) := by decide +kernel
theorem dX3_unchain_5 : decode cX3_unchain 5 = .ok (.iconst 0, 1) := by decide +kernel
theorem dX3_unchain_6 : decode cX3_unchain 6 = .ok (.istore_n 1, 1) := by decide +kernel
theorem dX3_unchain_7 : decode cX3_unchain 7 = .ok (.iload_n 1, 1) := by decide +kernel
theorem dX3_unchain_8 : decode cX3_unchain 8 = .ok (.bipush 16, 2) := by decide +kernel
theorem dX3_unchain_10 : decode cX3_unchain 10 = .ok (.if_icmp .ge 23, 3) := by decide +kernel
theorem dX3_unchain_13 : decode cX3_unchain 13 = .ok (.aload_n 0, 1) := by decide +kernel
theorem dX3_unchain_14 : decode cX3_unchain 14 = .ok (.getfield 55, 3) := by decide +kernel
theorem dX3_unchain_17 : decode cX3_unchain 17 = .ok (.ifCond .eq 16, 3) := by decide +kernel
theorem dX3_unchain_20 : decode cX3_unchain 20 = .ok (.aload_n 0, 1) := by decide +kernel
theorem dX3_unchain_21 : decode cX3_unchain 21 = .ok (.getfield 16, 3) := by decide +kernel
theorem dX3_unchain_24 : decode cX3_unchain 24 = .ok (.iload_n 1, 1) := by decide +kernel
theorem dX3_unchain_25 : decode cX3_unchain 25 = .ok (.iconst 0, 1) := by decide +kernel
theorem dX3_unchain_26 : decode cX3_unchain 26 = .ok (.iastore, 1) := by decide +kernel
theorem dX3_unchain_27 : decode cX3_unchain 27 = .ok (.iinc 1 1, 3) := by decide +kernel
theorem dX3_unchain_30 : decode cX3_unchain 30 = .ok (.goto (-23), 3) := by decide +kernel
theorem dX3_unchain_33 : decode cX3_unchain 33 = .ok (.aload_n 0, 1) := by decide +kernel
theorem dX3_unchain_34 : decode cX3_unchain 34 = .ok (.getfield 55, 3) := by decide +kernel
theorem dX3_unchain_37 : decode cX3_unchain 37 = .ok (.ireturn, 1) := by decide +kernel
theorem dX3_blockByte_0 : decode cX3_blockByte 0 = .ok (.aload_n 0, 1) := by decide +kernel
theorem dX3_blockByte_1 : decode cX3_blockByte 1 = .ok (.iconst 0, 1) := by decide +kernel
theorem dX3_blockByte_2 : decode cX3_blockByte 2 = .ok (.putfield 51, 3) := by decide +kernel
theorem dX3_blockByte_5 : decode cX3_blockByte 5 = .ok (.aload_n 0, 1) := by decide +kernel
theorem dX3_blockByte_6 : decode cX3_blockByte 6 = .ok (.getfield 55, 3) := by decide +kernel
theorem dX3_blockByte_9 : decode cX3_blockByte 9 = .ok (.ifCond .eq 21, 3) := by decide +kernel
theorem dX3_blockByte_12 : decode cX3_blockByte 12 = .ok (.iload_n 1, 1) := by decide +kernel
theorem dX3_blockByte_13 : decode cX3_blockByte 13 = .ok (.bipush 15, 2) := by decide +kernel
theorem dX3_blockByte_15 : decode cX3_blockByte 15 = .ok (.invokestatic 65, 3) := by decide +kernel
theorem dX3_blockByte_18 : decode cX3_blockByte 18 = .ok (.ifCond .eq 12, 3) := by decide +kernel
theorem dX3_blockByte_21 : decode cX3_blockByte 21 = .ok (.aload_n 0, 1) := by decide +kernel
theorem dX3_blockByte_22 : decode cX3_blockByte 22 = .ok (.getfield 13, 3) := by decide +kernel
theorem dX3_blockByte_25 : decode cX3_blockByte 25 = .ok (.iload_n 1, 1) := by decide +kernel
theorem dX3_blockByte_26 : decode cX3_blockByte 26 = .ok (.iaload, 1) := by decide +kernel
theorem dX3_blockByte_27 : decode cX3_blockByte 27 = .ok (.goto 4, 3) := by decide +kernel
theorem dX3_blockByte_30 : decode cX3_blockByte 30 = .ok (.iconst (-1), 1) := by decide +kernel
theorem dX3_blockByte_31 : decode cX3_blockByte 31 = .ok (.ireturn, 1) := by decide +kernel
theorem dX3_half_0 : decode cX3_half 0 = .ok (.aload_n 0, 1) := by decide +kernel
theorem dX3_half_1 : decode cX3_half 1 = .ok (.iconst 0, 1) := by decide +kernel
theorem dX3_half_2 : decode cX3_half 2 = .ok (.putfield 51, 3) := by decide +kernel
theorem dX3_half_5 : decode cX3_half 5 = .ok (.aload_n 0, 1) := by decide +kernel
theorem dX3_half_6 : decode cX3_half 6 = .ok (.getfield 59, 3) := by decide +kernel
theorem dX3_half_9 : decode cX3_half 9 = .ok (.ifCond .eq 34, 3) := by decide +kernel
theorem dX3_half_12 : decode cX3_half 12 = .ok (.iload_n 1, 1) := by decide +kernel
theorem dX3_half_13 : decode cX3_half 13 = .ok (.iconst 1, 1) := by decide +kernel
theorem dX3_half_14 : decode cX3_half 14 = .ok (.invokestatic 65, 3) := by decide +kernel
theorem dX3_half_17 : decode cX3_half 17 = .ok (.ifCond .eq 26, 3) := by decide +kernel
theorem dX3_half_20 : decode cX3_half 20 = .ok (.iload_n 2, 1) := by decide +kernel
theorem dX3_half_21 : decode cX3_half 21 = .ok (.bipush 15, 2) := by decide +kernel
theorem dX3_half_23 : decode cX3_half 23 = .ok (.invokestatic 65, 3) := by decide +kernel
theorem dX3_half_26 : decode cX3_half 26 = .ok (.ifCond .eq 17, 3) := by decide +kernel
theorem dX3_half_29 : decode cX3_half 29 = .ok (.aload_n 0, 1) := by decide +kernel
theorem dX3_half_30 : decode cX3_half 30 = .ok (.getfield 28, 3) := by decide +kernel
theorem dX3_half_33 : decode cX3_half 33 = .ok (.bipush 16, 2) := by decide +kernel
theorem dX3_half_35 : decode cX3_half 35 = .ok (.iload_n 1, 1) := by decide +kernel
theorem dX3_half_36 : decode cX3_half 36 = .ok (.imul, 1) := by decide +kernel
theorem dX3_half_37 : decode cX3_half 37 = .ok (.iload_n 2, 1) := by decide +kernel
theorem dX3_half_38 : decode cX3_half 38 = .ok (.iadd, 1) := by decide +kernel
theorem dX3_half_39 : decode cX3_half 39 = .ok (.iaload, 1) := by decide +kernel
theorem dX3_half_40 : decode cX3_half 40 = .ok (.goto 4, 3) := by decide +kernel
theorem dX3_half_43 : decode cX3_half 43 = .ok (.iconst (-1), 1) := by decide +kernel
theorem dX3_half_44 : decode cX3_half 44 = .ok (.ireturn, 1) := by decide +kernel
theorem dJ7_fill_53178_0 : decode cJ7_fill_53178 0 = .ok (.iconst 0, 1) := by decide +kernel
theorem dJ7_fill_53178_1 : decode cJ7_fill_53178 1 = .ok (.istore_n 2, 1) := by decide +kernel
theorem dJ7_fill_53178_2 : decode cJ7_fill_53178 2 = .ok (.aload_n 0, 1) := by decide +kernel
theorem dJ7_fill_53178_3 : decode cJ7_fill_53178 3 = .ok (.arraylength, 1) := by decide +kernel
theorem dJ7_fill_53178_4 : decode cJ7_fill_53178 4 = .ok (.istore_n 3, 1) := by decide +kernel
theorem dJ7_fill_53178_5 : decode cJ7_fill_53178 5 = .ok (.iload_n 2, 1) := by decide +kernel
theorem dJ7_fill_53178_6 : decode cJ7_fill_53178 6 = .ok (.iload_n 3, 1) := by decide +kernel
theorem dJ7_fill_53178_7 : decode cJ7_fill_53178 7 = .ok (.if_icmp .ge 13, 3) := by decide +kernel
theorem dJ7_fill_53178_10 : decode cJ7_fill_53178 10 = .ok (.aload_n 0, 1) := by decide +kernel
theorem dJ7_fill_53178_11 : decode cJ7_fill_53178 11 = .ok (.iload_n 2, 1) := by decide +kernel
theorem dJ7_fill_53178_12 : decode cJ7_fill_53178 12 = .ok (.iload_n 1, 1) := by decide +kernel
theorem dJ7_fill_53178_13 : decode cJ7_fill_53178 13 = .ok (.iastore, 1) := by decide +kernel
theorem dJ7_fill_53178_14 : decode cJ7_fill_53178 14 = .ok (.iinc 2 1, 3) := by decide +kernel
theorem dJ7_fill_53178_17 : decode cJ7_fill_53178 17 = .ok (.goto (-12), 3) := by decide +kernel
theorem dJ7_fill_53178_20 : decode cJ7_fill_53178 20 = .ok (.return_, 1) := by decide +kernel
theorem dL_law_0 : decode cL_law 0 = .ok (.new 7, 3) := by decide +kernel
theorem dL_law_3 : decode cL_law 3 = .ok (.dup, 1) := by decide +kernel
theorem dL_law_4 : decode cL_law 4 = .ok (.invokespecial 9, 3) := by decide +kernel
theorem dL_law_7 : decode cL_law 7 = .ok (.astore_n 1, 1) := by decide +kernel
theorem dL_law_8 : decode cL_law 8 = .ok (.new 10, 3) := by decide +kernel
theorem dL_law_11 : decode cL_law 11 = .ok (.dup, 1) := by decide +kernel
theorem dL_law_12 : decode cL_law 12 = .ok (.invokespecial 12, 3) := by decide +kernel
theorem dL_law_15 : decode cL_law 15 = .ok (.astore_n 2, 1) := by decide +kernel
theorem dL_law_16 : decode cL_law 16 = .ok (.iconst 0, 1) := by decide +kernel
theorem dL_law_17 : decode cL_law 17 = .ok (.istore_n 3, 1) := by decide +kernel
theorem dL_law_18 : decode cL_law 18 = .ok (.iload_n 3, 1) := by decide +kernel
theorem dL_law_19 : decode cL_law 19 = .ok (.aload_n 0, 1) := by decide +kernel
theorem dL_law_20 : decode cL_law 20 = .ok (.arraylength, 1) := by decide +kernel
theorem dL_law_21 : decode cL_law 21 = .ok (.iconst 4, 1) := by decide +kernel
theorem dL_law_22 : decode cL_law 22 = .ok (.isub, 1) := by decide +kernel
theorem dL_law_23 : decode cL_law 23 = .ok (.if_icmp .gt 484, 3) := by decide +kernel
theorem dL_law_26 : decode cL_law 26 = .ok (.aload_n 0, 1) := by decide +kernel
theorem dL_law_27 : decode cL_law 27 = .ok (.iload_n 3, 1) := by decide +kernel
theorem dL_law_28 : decode cL_law 28 = .ok (.iaload, 1) := by decide +kernel
theorem dL_law_29 : decode cL_law 29 = .ok (.bipush 31, 2) := by decide +kernel
theorem dL_law_31 : decode cL_law 31 = .ok (.iand, 1) := by decide +kernel
theorem dL_law_32 : decode cL_law 32 = .ok (.tableswitch 469 0 16 #[84, 95, 128, 141, 154, 177, 220, 233, 256, 289, 302, 335, 348, 361, 400, 413, 436], 84) := by decide +kernel
theorem dL_law_116 : decode cL_law 116 = .ok (.aload_n 1, 1) := by decide +kernel
theorem dL_law_117 : decode cL_law 117 = .ok (.invokevirtual 13, 3) := by decide +kernel
theorem dL_law_120 : decode cL_law 120 = .ok (.aload_n 2, 1) := by decide +kernel
theorem dL_law_121 : decode cL_law 121 = .ok (.invokevirtual 16, 3) := by decide +kernel
theorem dL_law_124 : decode cL_law 124 = .ok (.goto 377, 3) := by decide +kernel
theorem dL_law_127 : decode cL_law 127 = .ok (.aload_n 1, 1) := by decide +kernel
theorem dL_law_128 : decode cL_law 128 = .ok (.aload_n 0, 1) := by decide +kernel
theorem dL_law_129 : decode cL_law 129 = .ok (.iload_n 3, 1) := by decide +kernel
theorem dL_law_130 : decode cL_law 130 = .ok (.iconst 1, 1) := by decide +kernel
theorem dL_law_131 : decode cL_law 131 = .ok (.iadd, 1) := by decide +kernel
theorem dL_law_132 : decode cL_law 132 = .ok (.iaload, 1) := by decide +kernel
theorem dL_law_133 : decode cL_law 133 = .ok (.aload_n 0, 1) := by decide +kernel
theorem dL_law_134 : decode cL_law 134 = .ok (.iload_n 3, 1) := by decide +kernel
theorem dL_law_135 : decode cL_law 135 = .ok (.iconst 2, 1) := by decide +kernel
theorem dL_law_136 : decode cL_law 136 = .ok (.iadd, 1) := by decide +kernel
theorem dL_law_137 : decode cL_law 137 = .ok (.iaload, 1) := by decide +kernel
theorem dL_law_138 : decode cL_law 138 = .ok (.invokevirtual 17, 3) := by decide +kernel
theorem dL_law_141 : decode cL_law 141 = .ok (.pop, 1) := by decide +kernel
theorem dL_law_142 : decode cL_law 142 = .ok (.aload_n 2, 1) := by decide +kernel
theorem dL_law_143 : decode cL_law 143 = .ok (.aload_n 0, 1) := by decide +kernel
theorem dL_law_144 : decode cL_law 144 = .ok (.iload_n 3, 1) := by decide +kernel
theorem dL_law_145 : decode cL_law 145 = .ok (.iconst 1, 1) := by decide +kernel
theorem dL_law_146 : decode cL_law 146 = .ok (.iadd, 1) := by decide +kernel
theorem dL_law_147 : decode cL_law 147 = .ok (.iaload, 1) := by decide +kernel
theorem dL_law_148 : decode cL_law 148 = .ok (.aload_n 0, 1) := by decide +kernel
theorem dL_law_149 : decode cL_law 149 = .ok (.iload_n 3, 1) := by decide +kernel
theorem dL_law_150 : decode cL_law 150 = .ok (.iconst 2, 1) := by decide +kernel
theorem dL_law_151 : decode cL_law 151 = .ok (.iadd, 1) := by decide +kernel
theorem dL_law_152 : decode cL_law 152 = .ok (.iaload, 1) := by decide +kernel
theorem dL_law_153 : decode cL_law 153 = .ok (.invokevirtual 21, 3) := by decide +kernel
theorem dL_law_156 : decode cL_law 156 = .ok (.pop, 1) := by decide +kernel
theorem dL_law_157 : decode cL_law 157 = .ok (.goto 344, 3) := by decide +kernel
theorem dL_law_160 : decode cL_law 160 = .ok (.aload_n 1, 1) := by decide +kernel
theorem dL_law_161 : decode cL_law 161 = .ok (.invokevirtual 22, 3) := by decide +kernel
theorem dL_law_164 : decode cL_law 164 = .ok (.pop, 1) := by decide +kernel
theorem dL_law_165 : decode cL_law 165 = .ok (.aload_n 2, 1) := by decide +kernel
theorem dL_law_166 : decode cL_law 166 = .ok (.invokevirtual 26, 3) := by decide +kernel
theorem dL_law_169 : decode cL_law 169 = .ok (.pop, 1) := by decide +kernel
theorem dL_law_170 : decode cL_law 170 = .ok (.goto 331, 3) := by decide +kernel
theorem dL_law_173 : decode cL_law 173 = .ok (.aload_n 1, 1) := by decide +kernel
theorem dL_law_174 : decode cL_law 174 = .ok (.invokevirtual 27, 3) := by decide +kernel
theorem dL_law_177 : decode cL_law 177 = .ok (.pop, 1) := by decide +kernel
theorem dL_law_178 : decode cL_law 178 = .ok (.aload_n 2, 1) := by decide +kernel
theorem dL_law_179 : decode cL_law 179 = .ok (.invokevirtual 30, 3) := by decide +kernel
theorem dL_law_182 : decode cL_law 182 = .ok (.pop, 1) := by decide +kernel
theorem dL_law_183 : decode cL_law 183 = .ok (.goto 318, 3) := by decide +kernel
theorem dL_law_186 : decode cL_law 186 = .ok (.aload_n 1, 1) := by decide +kernel
theorem dL_law_187 : decode cL_law 187 = .ok (.aload_n 0, 1) := by decide +kernel
theorem dL_law_188 : decode cL_law 188 = .ok (.iload_n 3, 1) := by decide +kernel
theorem dL_law_189 : decode cL_law 189 = .ok (.iconst 1, 1) := by decide +kernel
theorem dL_law_190 : decode cL_law 190 = .ok (.iadd, 1) := by decide +kernel
theorem dL_law_191 : decode cL_law 191 = .ok (.iaload, 1) := by decide +kernel
theorem dL_law_192 : decode cL_law 192 = .ok (.invokevirtual 31, 3) := by decide +kernel
theorem dL_law_195 : decode cL_law 195 = .ok (.pop, 1) := by decide +kernel
theorem dL_law_196 : decode cL_law 196 = .ok (.aload_n 2, 1) := by decide +kernel
theorem dL_law_197 : decode cL_law 197 = .ok (.aload_n 0, 1) := by decide +kernel
theorem dL_law_198 : decode cL_law 198 = .ok (.iload_n 3, 1) := by decide +kernel
theorem dL_law_199 : decode cL_law 199 = .ok (.iconst 1, 1) := by decide +kernel
theorem dL_law_200 : decode cL_law 200 = .ok (.iadd, 1) := by decide +kernel
theorem dL_law_201 : decode cL_law 201 = .ok (.iaload, 1) := by decide +kernel
theorem dL_law_202 : decode cL_law 202 = .ok (.invokevirtual 35, 3) := by decide +kernel
theorem dL_law_205 : decode cL_law 205 = .ok (.pop, 1) := by decide +kernel
theorem dL_law_206 : decode cL_law 206 = .ok (.goto 295, 3) := by decide +kernel
theorem dL_law_209 : decode cL_law 209 = .ok (.aload_n 1, 1) := by decide +kernel
theorem dL_law_210 : decode cL_law 210 = .ok (.aload_n 0, 1) := by decide +kernel
theorem dL_law_211 : decode cL_law 211 = .ok (.iload_n 3, 1) := by decide +kernel
theorem dL_law_212 : decode cL_law 212 = .ok (.iconst 1, 1) := by decide +kernel
theorem dL_law_213 : decode cL_law 213 = .ok (.iadd, 1) := by decide +kernel
theorem dL_law_214 : decode cL_law 214 = .ok (.iaload, 1) := by decide +kernel
theorem dL_law_215 : decode cL_law 215 = .ok (.aload_n 0, 1) := by decide +kernel
theorem dL_law_216 : decode cL_law 216 = .ok (.iload_n 3, 1) := by decide +kernel
theorem dL_law_217 : decode cL_law 217 = .ok (.iconst 2, 1) := by decide +kernel
theorem dL_law_218 : decode cL_law 218 = .ok (.iadd, 1) := by decide +kernel
theorem dL_law_219 : decode cL_law 219 = .ok (.iaload, 1) := by decide +kernel
theorem dL_law_220 : decode cL_law 220 = .ok (.aload_n 0, 1) := by decide +kernel
theorem dL_law_221 : decode cL_law 221 = .ok (.iload_n 3, 1) := by decide +kernel
theorem dL_law_222 : decode cL_law 222 = .ok (.iconst 3, 1) := by decide +kernel
theorem dL_law_223 : decode cL_law 223 = .ok (.iadd, 1) := by decide +kernel
theorem dL_law_224 : decode cL_law 224 = .ok (.iaload, 1) := by decide +kernel
theorem dL_law_225 : decode cL_law 225 = .ok (.invokevirtual 36, 3) := by decide +kernel
theorem dL_law_228 : decode cL_law 228 = .ok (.pop, 1) := by decide +kernel
theorem dL_law_229 : decode cL_law 229 = .ok (.aload_n 2, 1) := by decide +kernel
theorem dL_law_230 : decode cL_law 230 = .ok (.aload_n 0, 1) := by decide +kernel
theorem dL_law_231 : decode cL_law 231 = .ok (.iload_n 3, 1) := by decide +kernel
theorem dL_law_232 : decode cL_law 232 = .ok (.iconst 1, 1) := by decide +kernel
theorem dL_law_233 : decode cL_law 233 = .ok (.iadd, 1) := by decide +kernel
theorem dL_law_234 : decode cL_law 234 = .ok (.iaload, 1) := by decide +kernel
theorem dL_law_235 : decode cL_law 235 = .ok (.aload_n 0, 1) := by decide +kernel
theorem dL_law_236 : decode cL_law 236 = .ok (.iload_n 3, 1) := by decide +kernel
theorem dL_law_237 : decode cL_law 237 = .ok (.iconst 2, 1) := by decide +kernel
theorem dL_law_238 : decode cL_law 238 = .ok (.iadd, 1) := by decide +kernel
theorem dL_law_239 : decode cL_law 239 = .ok (.iaload, 1) := by decide +kernel
theorem dL_law_240 : decode cL_law 240 = .ok (.aload_n 0, 1) := by decide +kernel
theorem dL_law_241 : decode cL_law 241 = .ok (.iload_n 3, 1) := by decide +kernel
theorem dL_law_242 : decode cL_law 242 = .ok (.iconst 3, 1) := by decide +kernel
theorem dL_law_243 : decode cL_law 243 = .ok (.iadd, 1) := by decide +kernel
theorem dL_law_244 : decode cL_law 244 = .ok (.iaload, 1) := by decide +kernel
theorem dL_law_245 : decode cL_law 245 = .ok (.invokevirtual 40, 3) := by decide +kernel
theorem dL_law_248 : decode cL_law 248 = .ok (.pop, 1) := by decide +kernel
theorem dL_law_249 : decode cL_law 249 = .ok (.goto 252, 3) := by decide +kernel
theorem dL_law_252 : decode cL_law 252 = .ok (.aload_n 1, 1) := by decide +kernel
theorem dL_law_253 : decode cL_law 253 = .ok (.invokevirtual 41, 3) := by decide +kernel
theorem dL_law_256 : decode cL_law 256 = .ok (.pop, 1) := by decide +kernel
theorem dL_law_257 : decode cL_law 257 = .ok (.aload_n 2, 1) := by decide +kernel
theorem dL_law_258 : decode cL_law 258 = .ok (.invokevirtual 44, 3) := by decide +kernel
theorem dL_law_261 : decode cL_law 261 = .ok (.pop, 1) := by decide +kernel
theorem dL_law_262 : decode cL_law 262 = .ok (.goto 239, 3) := by decide +kernel
theorem dL_law_265 : decode cL_law 265 = .ok (.aload_n 1, 1) := by decide +kernel
theorem dL_law_266 : decode cL_law 266 = .ok (.aload_n 0, 1) := by decide +kernel
theorem dL_law_267 : decode cL_law 267 = .ok (.iload_n 3, 1) := by decide +kernel
theorem dL_law_268 : decode cL_law 268 = .ok (.iconst 1, 1) := by decide +kernel
theorem dL_law_269 : decode cL_law 269 = .ok (.iadd, 1) := by decide +kernel
theorem dL_law_270 : decode cL_law 270 = .ok (.iaload, 1) := by decide +kernel
theorem dL_law_271 : decode cL_law 271 = .ok (.invokevirtual 45, 3) := by decide +kernel
theorem dL_law_274 : decode cL_law 274 = .ok (.pop, 1) := by decide +kernel
theorem dL_law_275 : decode cL_law 275 = .ok (.aload_n 2, 1) := by decide +kernel
theorem dL_law_276 : decode cL_law 276 = .ok (.aload_n 0, 1) := by decide +kernel
theorem dL_law_277 : decode cL_law 277 = .ok (.iload_n 3, 1) := by decide +kernel
theorem dL_law_278 : decode cL_law 278 = .ok (.iconst 1, 1) := by decide +kernel
theorem dL_law_279 : decode cL_law 279 = .ok (.iadd, 1) := by decide +kernel
theorem dL_law_280 : decode cL_law 280 = .ok (.iaload, 1) := by decide +kernel
theorem dL_law_281 : decode cL_law 281 = .ok (.invokevirtual 49, 3) := by decide +kernel
theorem dL_law_284 : decode cL_law 284 = .ok (.pop, 1) := by decide +kernel
theorem dL_law_285 : decode cL_law 285 = .ok (.goto 216, 3) := by decide +kernel
theorem dL_law_288 : decode cL_law 288 = .ok (.aload_n 1, 1) := by decide +kernel
theorem dL_law_289 : decode cL_law 289 = .ok (.aload_n 0, 1) := by decide +kernel
theorem dL_law_290 : decode cL_law 290 = .ok (.iload_n 3, 1) := by decide +kernel
theorem dL_law_291 : decode cL_law 291 = .ok (.iconst 1, 1) := by decide +kernel
theorem dL_law_292 : decode cL_law 292 = .ok (.iadd, 1) := by decide +kernel
theorem dL_law_293 : decode cL_law 293 = .ok (.iaload, 1) := by decide +kernel
theorem dL_law_294 : decode cL_law 294 = .ok (.aload_n 0, 1) := by decide +kernel
theorem dL_law_295 : decode cL_law 295 = .ok (.iload_n 3, 1) := by decide +kernel
theorem dL_law_296 : decode cL_law 296 = .ok (.iconst 2, 1) := by decide +kernel
theorem dL_law_297 : decode cL_law 297 = .ok (.iadd, 1) := by decide +kernel
theorem dL_law_298 : decode cL_law 298 = .ok (.iaload, 1) := by decide +kernel
theorem dL_law_299 : decode cL_law 299 = .ok (.invokevirtual 50, 3) := by decide +kernel
theorem dL_law_302 : decode cL_law 302 = .ok (.pop, 1) := by decide +kernel
theorem dL_law_303 : decode cL_law 303 = .ok (.aload_n 2, 1) := by decide +kernel
theorem dL_law_304 : decode cL_law 304 = .ok (.aload_n 0, 1) := by decide +kernel
theorem dL_law_305 : decode cL_law 305 = .ok (.iload_n 3, 1) := by decide +kernel
theorem dL_law_306 : decode cL_law 306 = .ok (.iconst 1, 1) := by decide +kernel
theorem dL_law_307 : decode cL_law 307 = .ok (.iadd, 1) := by decide +kernel
theorem dL_law_308 : decode cL_law 308 = .ok (.iaload, 1) := by decide +kernel
theorem dL_law_309 : decode cL_law 309 = .ok (.aload_n 0, 1) := by decide +kernel
theorem dL_law_310 : decode cL_law 310 = .ok (.iload_n 3, 1) := by decide +kernel
theorem dL_law_311 : decode cL_law 311 = .ok (.iconst 2, 1) := by decide +kernel
theorem dL_law_312 : decode cL_law 312 = .ok (.iadd, 1) := by decide +kernel
theorem dL_law_313 : decode cL_law 313 = .ok (.iaload, 1) := by decide +kernel
theorem dL_law_314 : decode cL_law 314 = .ok (.invokevirtual 53, 3) := by decide +kernel
theorem dL_law_317 : decode cL_law 317 = .ok (.pop, 1) := by decide +kernel
theorem dL_law_318 : decode cL_law 318 = .ok (.goto 183, 3) := by decide +kernel
theorem dL_law_321 : decode cL_law 321 = .ok (.aload_n 1, 1) := by decide +kernel
theorem dL_law_322 : decode cL_law 322 = .ok (.invokevirtual 54, 3) := by decide +kernel
theorem dL_law_325 : decode cL_law 325 = .ok (.pop, 1) := by decide +kernel
theorem dL_law_326 : decode cL_law 326 = .ok (.aload_n 2, 1) := by decide +kernel
theorem dL_law_327 : decode cL_law 327 = .ok (.invokevirtual 57, 3) := by decide +kernel
theorem dL_law_330 : decode cL_law 330 = .ok (.pop, 1) := by decide +kernel
theorem dL_law_331 : decode cL_law 331 = .ok (.goto 170, 3) := by decide +kernel
theorem dL_law_334 : decode cL_law 334 = .ok (.aload_n 1, 1) := by decide +kernel
theorem dL_law_335 : decode cL_law 335 = .ok (.aload_n 0, 1) := by decide +kernel
theorem dL_law_336 : decode cL_law 336 = .ok (.iload_n 3, 1) := by decide +kernel
theorem dL_law_337 : decode cL_law 337 = .ok (.iconst 1, 1) := by decide +kernel
theorem dL_law_338 : decode cL_law 338 = .ok (.iadd, 1) := by decide +kernel
theorem dL_law_339 : decode cL_law 339 = .ok (.iaload, 1) := by decide +kernel
theorem dL_law_340 : decode cL_law 340 = .ok (.aload_n 0, 1) := by decide +kernel
theorem dL_law_341 : decode cL_law 341 = .ok (.iload_n 3, 1) := by decide +kernel
theorem dL_law_342 : decode cL_law 342 = .ok (.iconst 2, 1) := by decide +kernel
theorem dL_law_343 : decode cL_law 343 = .ok (.iadd, 1) := by decide +kernel
theorem dL_law_344 : decode cL_law 344 = .ok (.iaload, 1) := by decide +kernel
theorem dL_law_345 : decode cL_law 345 = .ok (.invokevirtual 58, 3) := by decide +kernel
theorem dL_law_348 : decode cL_law 348 = .ok (.pop, 1) := by decide +kernel
theorem dL_law_349 : decode cL_law 349 = .ok (.aload_n 2, 1) := by decide +kernel
theorem dL_law_350 : decode cL_law 350 = .ok (.aload_n 0, 1) := by decide +kernel
theorem dL_law_351 : decode cL_law 351 = .ok (.iload_n 3, 1) := by decide +kernel
theorem dL_law_352 : decode cL_law 352 = .ok (.iconst 1, 1) := by decide +kernel
theorem dL_law_353 : decode cL_law 353 = .ok (.iadd, 1) := by decide +kernel
theorem dL_law_354 : decode cL_law 354 = .ok (.iaload, 1) := by decide +kernel
theorem dL_law_355 : decode cL_law 355 = .ok (.aload_n 0, 1) := by decide +kernel
theorem dL_law_356 : decode cL_law 356 = .ok (.iload_n 3, 1) := by decide +kernel
theorem dL_law_357 : decode cL_law 357 = .ok (.iconst 2, 1) := by decide +kernel
theorem dL_law_358 : decode cL_law 358 = .ok (.iadd, 1) := by decide +kernel
theorem dL_law_359 : decode cL_law 359 = .ok (.iaload, 1) := by decide +kernel
theorem dL_law_360 : decode cL_law 360 = .ok (.invokevirtual 61, 3) := by decide +kernel
theorem dL_law_363 : decode cL_law 363 = .ok (.pop, 1) := by decide +kernel
theorem dL_law_364 : decode cL_law 364 = .ok (.goto 137, 3) := by decide +kernel
theorem dL_law_367 : decode cL_law 367 = .ok (.aload_n 1, 1) := by decide +kernel
theorem dL_law_368 : decode cL_law 368 = .ok (.invokevirtual 62, 3) := by decide +kernel
theorem dL_law_371 : decode cL_law 371 = .ok (.pop, 1) := by decide +kernel
theorem dL_law_372 : decode cL_law 372 = .ok (.aload_n 2, 1) := by decide +kernel
theorem dL_law_373 : decode cL_law 373 = .ok (.invokevirtual 65, 3) := by decide +kernel
theorem dL_law_376 : decode cL_law 376 = .ok (.pop, 1) := by decide +kernel
theorem dL_law_377 : decode cL_law 377 = .ok (.goto 124, 3) := by decide +kernel
theorem dL_law_380 : decode cL_law 380 = .ok (.aload_n 1, 1) := by decide +kernel
theorem dL_law_381 : decode cL_law 381 = .ok (.invokevirtual 66, 3) := by decide +kernel
theorem dL_law_384 : decode cL_law 384 = .ok (.pop, 1) := by decide +kernel
theorem dL_law_385 : decode cL_law 385 = .ok (.aload_n 2, 1) := by decide +kernel
theorem dL_law_386 : decode cL_law 386 = .ok (.invokevirtual 69, 3) := by decide +kernel
theorem dL_law_389 : decode cL_law 389 = .ok (.pop, 1) := by decide +kernel
theorem dL_law_390 : decode cL_law 390 = .ok (.goto 111, 3) := by decide +kernel
theorem dL_law_393 : decode cL_law 393 = .ok (.aload_n 1, 1) := by decide +kernel
theorem dL_law_394 : decode cL_law 394 = .ok (.aload_n 0, 1) := by decide +kernel
theorem dL_law_395 : decode cL_law 395 = .ok (.iload_n 3, 1) := by decide +kernel
theorem dL_law_396 : decode cL_law 396 = .ok (.iconst 1, 1) := by decide +kernel
theorem dL_law_397 : decode cL_law 397 = .ok (.iadd, 1) := by decide +kernel
theorem dL_law_398 : decode cL_law 398 = .ok (.iaload, 1) := by decide +kernel
theorem dL_law_399 : decode cL_law 399 = .ok (.ifCond .eq 7, 3) := by decide +kernel
theorem dL_law_402 : decode cL_law 402 = .ok (.iconst 1, 1) := by decide +kernel
theorem dL_law_403 : decode cL_law 403 = .ok (.goto 4, 3) := by decide +kernel
theorem dL_law_406 : decode cL_law 406 = .ok (.iconst 0, 1) := by decide +kernel
theorem dL_law_407 : decode cL_law 407 = .ok (.invokevirtual 70, 3) := by decide +kernel
theorem dL_law_410 : decode cL_law 410 = .ok (.pop, 1) := by decide +kernel
theorem dL_law_411 : decode cL_law 411 = .ok (.aload_n 2, 1) := by decide +kernel
theorem dL_law_412 : decode cL_law 412 = .ok (.aload_n 0, 1) := by decide +kernel
theorem dL_law_413 : decode cL_law 413 = .ok (.iload_n 3, 1) := by decide +kernel
theorem dL_law_414 : decode cL_law 414 = .ok (.iconst 1, 1) := by decide +kernel
theorem dL_law_415 : decode cL_law 415 = .ok (.iadd, 1) := by decide +kernel
theorem dL_law_416 : decode cL_law 416 = .ok (.iaload, 1) := by decide +kernel
theorem dL_law_417 : decode cL_law 417 = .ok (.ifCond .eq 7, 3) := by decide +kernel
theorem dL_law_420 : decode cL_law 420 = .ok (.iconst 1, 1) := by decide +kernel
theorem dL_law_421 : decode cL_law 421 = .ok (.goto 4, 3) := by decide +kernel
theorem dL_law_424 : decode cL_law 424 = .ok (.iconst 0, 1) := by decide +kernel
theorem dL_law_425 : decode cL_law 425 = .ok (.invokevirtual 74, 3) := by decide +kernel
theorem dL_law_428 : decode cL_law 428 = .ok (.pop, 1) := by decide +kernel
theorem dL_law_429 : decode cL_law 429 = .ok (.goto 72, 3) := by decide +kernel
theorem dL_law_432 : decode cL_law 432 = .ok (.aload_n 1, 1) := by decide +kernel
theorem dL_law_433 : decode cL_law 433 = .ok (.invokevirtual 75, 3) := by decide +kernel
theorem dL_law_436 : decode cL_law 436 = .ok (.aload_n 2, 1) := by decide +kernel
theorem dL_law_437 : decode cL_law 437 = .ok (.invokevirtual 78, 3) := by decide +kernel
theorem dL_law_440 : decode cL_law 440 = .ok (.if_icmp .eq 61, 3) := by decide +kernel
theorem dL_law_443 : decode cL_law 443 = .ok (.iconst 0, 1) := by decide +kernel
theorem dL_law_444 : decode cL_law 444 = .ok (.ireturn, 1) := by decide +kernel
theorem dL_law_445 : decode cL_law 445 = .ok (.aload_n 1, 1) := by decide +kernel
theorem dL_law_446 : decode cL_law 446 = .ok (.aload_n 0, 1) := by decide +kernel
theorem dL_law_447 : decode cL_law 447 = .ok (.iload_n 3, 1) := by decide +kernel
theorem dL_law_448 : decode cL_law 448 = .ok (.iconst 1, 1) := by decide +kernel
theorem dL_law_449 : decode cL_law 449 = .ok (.iadd, 1) := by decide +kernel
theorem dL_law_450 : decode cL_law 450 = .ok (.iaload, 1) := by decide +kernel
theorem dL_law_451 : decode cL_law 451 = .ok (.invokevirtual 79, 3) := by decide +kernel
theorem dL_law_454 : decode cL_law 454 = .ok (.pop, 1) := by decide +kernel
theorem dL_law_455 : decode cL_law 455 = .ok (.aload_n 2, 1) := by decide +kernel
theorem dL_law_456 : decode cL_law 456 = .ok (.aload_n 0, 1) := by decide +kernel
theorem dL_law_457 : decode cL_law 457 = .ok (.iload_n 3, 1) := by decide +kernel
theorem dL_law_458 : decode cL_law 458 = .ok (.iconst 1, 1) := by decide +kernel
theorem dL_law_459 : decode cL_law 459 = .ok (.iadd, 1) := by decide +kernel
theorem dL_law_460 : decode cL_law 460 = .ok (.iaload, 1) := by decide +kernel
theorem dL_law_461 : decode cL_law 461 = .ok (.invokevirtual 82, 3) := by decide +kernel
theorem dL_law_464 : decode cL_law 464 = .ok (.pop, 1) := by decide +kernel
theorem dL_law_465 : decode cL_law 465 = .ok (.goto 36, 3) := by decide +kernel
theorem dL_law_468 : decode cL_law 468 = .ok (.aload_n 1, 1) := by decide +kernel
theorem dL_law_469 : decode cL_law 469 = .ok (.aload_n 0, 1) := by decide +kernel
theorem dL_law_470 : decode cL_law 470 = .ok (.iload_n 3, 1) := by decide +kernel
theorem dL_law_471 : decode cL_law 471 = .ok (.iconst 1, 1) := by decide +kernel
theorem dL_law_472 : decode cL_law 472 = .ok (.iadd, 1) := by decide +kernel
theorem dL_law_473 : decode cL_law 473 = .ok (.iaload, 1) := by decide +kernel
theorem dL_law_474 : decode cL_law 474 = .ok (.aload_n 0, 1) := by decide +kernel
theorem dL_law_475 : decode cL_law 475 = .ok (.iload_n 3, 1) := by decide +kernel
theorem dL_law_476 : decode cL_law 476 = .ok (.iconst 2, 1) := by decide +kernel
theorem dL_law_477 : decode cL_law 477 = .ok (.iadd, 1) := by decide +kernel
theorem dL_law_478 : decode cL_law 478 = .ok (.iaload, 1) := by decide +kernel
theorem dL_law_479 : decode cL_law 479 = .ok (.invokevirtual 83, 3) := by decide +kernel
theorem dL_law_482 : decode cL_law 482 = .ok (.pop, 1) := by decide +kernel
theorem dL_law_483 : decode cL_law 483 = .ok (.aload_n 2, 1) := by decide +kernel
theorem dL_law_484 : decode cL_law 484 = .ok (.aload_n 0, 1) := by decide +kernel
theorem dL_law_485 : decode cL_law 485 = .ok (.iload_n 3, 1) := by decide +kernel
theorem dL_law_486 : decode cL_law 486 = .ok (.iconst 1, 1) := by decide +kernel
theorem dL_law_487 : decode cL_law 487 = .ok (.iadd, 1) := by decide +kernel
theorem dL_law_488 : decode cL_law 488 = .ok (.iaload, 1) := by decide +kernel
theorem dL_law_489 : decode cL_law 489 = .ok (.aload_n 0, 1) := by decide +kernel
theorem dL_law_490 : decode cL_law 490 = .ok (.iload_n 3, 1) := by decide +kernel
theorem dL_law_491 : decode cL_law 491 = .ok (.iconst 2, 1) := by decide +kernel
theorem dL_law_492 : decode cL_law 492 = .ok (.iadd, 1) := by decide +kernel
theorem dL_law_493 : decode cL_law 493 = .ok (.iaload, 1) := by decide +kernel
theorem dL_law_494 : decode cL_law 494 = .ok (.invokevirtual 87, 3) := by decide +kernel
theorem dL_law_497 : decode cL_law 497 = .ok (.pop, 1) := by decide +kernel
theorem dL_law_498 : decode cL_law 498 = .ok (.goto 3, 3) := by decide +kernel
theorem dL_law_501 : decode cL_law 501 = .ok (.iinc 3 4, 3) := by decide +kernel
theorem dL_law_504 : decode cL_law 504 = .ok (.goto (-486), 3) := by decide +kernel
theorem dL_law_507 : decode cL_law 507 = .ok (.iconst 1, 1) := by decide +kernel
theorem dL_law_508 : decode cL_law 508 = .ok (.ireturn, 1) := by decide +kernel
