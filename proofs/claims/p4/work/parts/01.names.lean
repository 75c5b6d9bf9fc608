-- ===== PART A: goes FIRST, ahead of the names: the tables' words, and 'selects' of the private methods out of them =====
/-- a private method of a class that the tables say can be made, by its rows of tables_1 -/
def lw_okq (q : MethodName × Nat) : Prop := (q.1.cls ≠ "java/lang/invoke/MethodHandle" ∧ q.1.cls ≠ "java/lang/invoke/VarHandle") ∧ Cond.instantiable q.1.cls q.2 ∈ tables_1 ∧ Cond.privateMethod q.1 ∈ tables_1 ∧ Cond.instanceMethod q.1 ∈ tables_1
theorem lw_p0 : lw_okq (⟨"BlockCode$Key", "makeWords", "()V"⟩, 6) := ⟨⟨by decide +kernel, by decide +kernel⟩, List.mem_of_getElem? (i := 16) (by decide +kernel), List.mem_of_getElem? (i := 133) (by decide +kernel), List.mem_of_getElem? (i := 134) (by decide +kernel)⟩
theorem lw_p1 : lw_okq (⟨"BlockCode$Key", "makeTurnedWord", "(II)V"⟩, 6) := ⟨⟨by decide +kernel, by decide +kernel⟩, List.mem_of_getElem? (i := 16) (by decide +kernel), List.mem_of_getElem? (i := 140) (by decide +kernel), List.mem_of_getElem? (i := 141) (by decide +kernel)⟩
theorem lw_p2 : lw_okq (⟨"BlockCode$Key", "makePlainWord", "(I)V"⟩, 6) := ⟨⟨by decide +kernel, by decide +kernel⟩, List.mem_of_getElem? (i := 16) (by decide +kernel), List.mem_of_getElem? (i := 149) (by decide +kernel), List.mem_of_getElem? (i := 150) (by decide +kernel)⟩
theorem lw_p3 : lw_okq (⟨"BlockCode$Key", "makeHalves", "()V"⟩, 6) := ⟨⟨by decide +kernel, by decide +kernel⟩, List.mem_of_getElem? (i := 16) (by decide +kernel), List.mem_of_getElem? (i := 153) (by decide +kernel), List.mem_of_getElem? (i := 154) (by decide +kernel)⟩
theorem lw_p4 : lw_okq (⟨"BlockCode$Key", "replaceAndMove", "([I)V"⟩, 6) := ⟨⟨by decide +kernel, by decide +kernel⟩, List.mem_of_getElem? (i := 16) (by decide +kernel), List.mem_of_getElem? (i := 164) (by decide +kernel), List.mem_of_getElem? (i := 165) (by decide +kernel)⟩
theorem lw_p5 : lw_okq (⟨"BlockCode$Key", "moveAndReplaceBack", "([I)V"⟩, 6) := ⟨⟨by decide +kernel, by decide +kernel⟩, List.mem_of_getElem? (i := 16) (by decide +kernel), List.mem_of_getElem? (i := 248) (by decide +kernel), List.mem_of_getElem? (i := 249) (by decide +kernel)⟩
theorem lw_p6 : lw_okq (⟨"BlockCode", "chainBack", "()V"⟩, 6) := ⟨⟨by decide +kernel, by decide +kernel⟩, List.mem_of_getElem? (i := 8) (by decide +kernel), List.mem_of_getElem? (i := 258) (by decide +kernel), List.mem_of_getElem? (i := 259) (by decide +kernel)⟩
theorem lw_p7 : lw_okq (⟨"BlockCode", "chainForth", "()V"⟩, 6) := ⟨⟨by decide +kernel, by decide +kernel⟩, List.mem_of_getElem? (i := 8) (by decide +kernel), List.mem_of_getElem? (i := 264) (by decide +kernel), List.mem_of_getElem? (i := 265) (by decide +kernel)⟩
theorem lw_p8 : lw_okq (⟨"BlockCodeModel", "makeWords", "()V"⟩, 18) := ⟨⟨by decide +kernel, by decide +kernel⟩, List.mem_of_getElem? (i := 281) (by decide +kernel), List.mem_of_getElem? (i := 361) (by decide +kernel), List.mem_of_getElem? (i := 362) (by decide +kernel)⟩
theorem lw_p9 : lw_okq (⟨"BlockCodeModel", "forth", "()V"⟩, 18) := ⟨⟨by decide +kernel, by decide +kernel⟩, List.mem_of_getElem? (i := 281) (by decide +kernel), List.mem_of_getElem? (i := 365) (by decide +kernel), List.mem_of_getElem? (i := 366) (by decide +kernel)⟩
theorem lw_p10 : lw_okq (⟨"BlockCodeModel", "add", "(I)V"⟩, 18) := ⟨⟨by decide +kernel, by decide +kernel⟩, List.mem_of_getElem? (i := 281) (by decide +kernel), List.mem_of_getElem? (i := 369) (by decide +kernel), List.mem_of_getElem? (i := 370) (by decide +kernel)⟩
theorem lw_p11 : lw_okq (⟨"BlockCodeModel", "columns", "(IIII)V"⟩, 18) := ⟨⟨by decide +kernel, by decide +kernel⟩, List.mem_of_getElem? (i := 281) (by decide +kernel), List.mem_of_getElem? (i := 373) (by decide +kernel), List.mem_of_getElem? (i := 374) (by decide +kernel)⟩
theorem lw_p12 : lw_okq (⟨"BlockCodeModel", "twice", "(I)V"⟩, 18) := ⟨⟨by decide +kernel, by decide +kernel⟩, List.mem_of_getElem? (i := 281) (by decide +kernel), List.mem_of_getElem? (i := 377) (by decide +kernel), List.mem_of_getElem? (i := 378) (by decide +kernel)⟩
theorem lw_p13 : lw_okq (⟨"BlockCodeModel", "feed", "(I)V"⟩, 18) := ⟨⟨by decide +kernel, by decide +kernel⟩, List.mem_of_getElem? (i := 281) (by decide +kernel), List.mem_of_getElem? (i := 389) (by decide +kernel), List.mem_of_getElem? (i := 390) (by decide +kernel)⟩
theorem lw_p14 : lw_okq (⟨"BlockCodeModel", "take", "()V"⟩, 18) := ⟨⟨by decide +kernel, by decide +kernel⟩, List.mem_of_getElem? (i := 281) (by decide +kernel), List.mem_of_getElem? (i := 393) (by decide +kernel), List.mem_of_getElem? (i := 394) (by decide +kernel)⟩
theorem lw_p15 : lw_okq (⟨"BlockCodeModel", "load", "(Z)V"⟩, 18) := ⟨⟨by decide +kernel, by decide +kernel⟩, List.mem_of_getElem? (i := 281) (by decide +kernel), List.mem_of_getElem? (i := 425) (by decide +kernel), List.mem_of_getElem? (i := 426) (by decide +kernel)⟩
def lw_privs_1 : List (MethodName × Nat) := [(⟨"BlockCode$Key", "makeWords", "()V"⟩, 6), (⟨"BlockCode$Key", "makeTurnedWord", "(II)V"⟩, 6), (⟨"BlockCode$Key", "makePlainWord", "(I)V"⟩, 6), (⟨"BlockCode$Key", "makeHalves", "()V"⟩, 6), (⟨"BlockCode$Key", "replaceAndMove", "([I)V"⟩, 6), (⟨"BlockCode$Key", "moveAndReplaceBack", "([I)V"⟩, 6), (⟨"BlockCode", "chainBack", "()V"⟩, 6), (⟨"BlockCode", "chainForth", "()V"⟩, 6), (⟨"BlockCodeModel", "makeWords", "()V"⟩, 18), (⟨"BlockCodeModel", "forth", "()V"⟩, 18), (⟨"BlockCodeModel", "add", "(I)V"⟩, 18), (⟨"BlockCodeModel", "columns", "(IIII)V"⟩, 18), (⟨"BlockCodeModel", "twice", "(I)V"⟩, 18), (⟨"BlockCodeModel", "feed", "(I)V"⟩, 18), (⟨"BlockCodeModel", "take", "()V"⟩, 18), (⟨"BlockCodeModel", "load", "(Z)V"⟩, 18)]
theorem lw_r1 : ∀ q ∈ lw_privs_1, lw_okq q := List.forall_mem_cons.mpr ⟨lw_p0, List.forall_mem_cons.mpr ⟨lw_p1, List.forall_mem_cons.mpr ⟨lw_p2, List.forall_mem_cons.mpr ⟨lw_p3, List.forall_mem_cons.mpr ⟨lw_p4, List.forall_mem_cons.mpr ⟨lw_p5, List.forall_mem_cons.mpr ⟨lw_p6, List.forall_mem_cons.mpr ⟨lw_p7, List.forall_mem_cons.mpr ⟨lw_p8, List.forall_mem_cons.mpr ⟨lw_p9, List.forall_mem_cons.mpr ⟨lw_p10, List.forall_mem_cons.mpr ⟨lw_p11, List.forall_mem_cons.mpr ⟨lw_p12, List.forall_mem_cons.mpr ⟨lw_p13, List.forall_mem_cons.mpr ⟨lw_p14, List.forall_mem_cons.mpr ⟨lw_p15, fun _ h => absurd h List.not_mem_nil⟩⟩⟩⟩⟩⟩⟩⟩⟩⟩⟩⟩⟩⟩⟩⟩
theorem lw_p16 : lw_okq (⟨"BlockCodeModel", "back", "()V"⟩, 18) := ⟨⟨by decide +kernel, by decide +kernel⟩, List.mem_of_getElem? (i := 281) (by decide +kernel), List.mem_of_getElem? (i := 433) (by decide +kernel), List.mem_of_getElem? (i := 434) (by decide +kernel)⟩
def lw_privs_2 : List (MethodName × Nat) := [(⟨"BlockCodeModel", "back", "()V"⟩, 18)]
theorem lw_r2 : ∀ q ∈ lw_privs_2, lw_okq q := List.forall_mem_cons.mpr ⟨lw_p16, fun _ h => absurd h List.not_mem_nil⟩
def lw_privs : List (MethodName × Nat) := lw_privs_1 ++ (lw_privs_2)
def lw_tbl : List Cond := k2_sels lw_privs ++ tables_1
theorem lw_privs_ok : ∀ q ∈ lw_privs, lw_okq q := by
  show ∀ q ∈ lw_privs_1 ++ (lw_privs_2), lw_okq q
  exact List.forall_mem_append.mpr ⟨lw_r1, lw_r2⟩
def RX0 : String := "BlockCode$Key"
def TX0 : u_T := fun k => match k with
  | 0 => ("BlockCode$Key", "bytes", "[I", true)
  | 1 => ("BlockCode$Key", "words", "[I", true)
  | 2 => ("BlockCode$Key", "firstHalf", "[I", true)
  | 3 => ("BlockCode$Key", "secondHalf", "[I", true)
  | 4 => ("BlockCode$Key", "moved", "[I", true)
  | _ => ("BlockCode$Key", "made", "Z", false)
def tyX0 : Nat → FieldType := fun k => match k with
  | 0 => .array .int
  | 1 => .array .int
  | 2 => .array .int
  | 3 => .array .int
  | 4 => .array .int
  | _ => .boolean
abbrev wsX00 : List Cond := u_ws RX0 TX0 6
theorem nmX0 : ∀ a, a < 6 → ∀ b, b < 6 → a ≠ b → (TX0 a).2.1 ≠ (TX0 b).2.1 := by decide +kernel
theorem tyX0_ok : ∀ k, k < 6 → parseFieldDescriptor (TX0 k).2.2.1 = some (tyX0 k) := by decide +kernel
abbrev cX0_init : ByteArray := prog_2_method_1_code
def yX0_init : MethodName := ⟨RX0, "<init>", "()V"⟩
abbrev cX0_clear : ByteArray := prog_2_method_2_code
def yX0_clear : MethodName := ⟨RX0, "clear", "()V"⟩
abbrev cX0_put : ByteArray := prog_2_method_3_code
def yX0_put : MethodName := ⟨RX0, "put", "(II)V"⟩
abbrev cX0_make : ByteArray := prog_2_method_4_code
def yX0_make : MethodName := ⟨RX0, "make", "()V"⟩
abbrev cX0_makeWords : ByteArray := prog_2_method_5_code
def yX0_makeWords : MethodName := ⟨RX0, "makeWords", "()V"⟩
abbrev cX0_makePlainWord : ByteArray := prog_2_method_6_code
def yX0_makePlainWord : MethodName := ⟨RX0, "makePlainWord", "(I)V"⟩
abbrev cX0_makeTurnedWord : ByteArray := prog_2_method_7_code
def yX0_makeTurnedWord : MethodName := ⟨RX0, "makeTurnedWord", "(II)V"⟩
abbrev cX0_makeHalves : ByteArray := prog_2_method_8_code
def yX0_makeHalves : MethodName := ⟨RX0, "makeHalves", "()V"⟩
abbrev cX0_putDoubled : ByteArray := prog_2_method_9_code
def yX0_putDoubled : MethodName := ⟨RX0, "putDoubled", "([I[I)V"⟩
abbrev cX0_goForth : ByteArray := prog_2_method_10_code
def yX0_goForth : MethodName := ⟨RX0, "goForth", "([I)V"⟩
abbrev cX0_goBack : ByteArray := prog_2_method_11_code
def yX0_goBack : MethodName := ⟨RX0, "goBack", "([I)V"⟩
abbrev cX0_replaceAndMove : ByteArray := prog_2_method_12_code
def yX0_replaceAndMove : MethodName := ⟨RX0, "replaceAndMove", "([I)V"⟩
abbrev cX0_moveAndReplaceBack : ByteArray := prog_2_method_13_code
def yX0_moveAndReplaceBack : MethodName := ⟨RX0, "moveAndReplaceBack", "([I)V"⟩
abbrev cX0_source : ByteArray := prog_2_method_14_code
def yX0_source : MethodName := ⟨RX0, "source", "(I)I"⟩
abbrev cX0_mix : ByteArray := prog_2_method_15_code
def yX0_mix : MethodName := ⟨RX0, "mix", "([I)V"⟩
abbrev cX0_unmix : ByteArray := prog_2_method_16_code
def yX0_unmix : MethodName := ⟨RX0, "unmix", "([I)V"⟩
abbrev cX0_mixed : ByteArray := prog_2_method_17_code
def yX0_mixed : MethodName := ⟨RX0, "mixed", "(IIII)I"⟩
abbrev cX0_twice : ByteArray := prog_2_method_18_code
def yX0_twice : MethodName := ⟨RX0, "twice", "(I)I"⟩
def RX1 : String := "BlockCode$Message"
def TX1 : u_T := fun k => match k with
  | 0 => ("BlockCode$Message", "sum", "[I", true)
  | 1 => ("BlockCode$Message", "filled", "I", false)
  | 2 => ("BlockCode$Message", "open", "Z", false)
  | 3 => ("BlockCode$Message", "ended", "Z", false)
  | 4 => ("BlockCode$Message", "compared", "I", false)
  | _ => ("BlockCode$Message", "differed", "Z", false)
def tyX1 : Nat → FieldType := fun k => match k with
  | 0 => .array .int
  | 1 => .int
  | 2 => .boolean
  | 3 => .boolean
  | 4 => .int
  | _ => .boolean
abbrev wsX10 : List Cond := u_ws RX1 TX1 6
theorem nmX1 : ∀ a, a < 6 → ∀ b, b < 6 → a ≠ b → (TX1 a).2.1 ≠ (TX1 b).2.1 := by decide +kernel
theorem tyX1_ok : ∀ k, k < 6 → parseFieldDescriptor (TX1 k).2.2.1 = some (tyX1 k) := by decide +kernel
abbrev cX1_init : ByteArray := prog_3_method_1_code
def yX1_init : MethodName := ⟨RX1, "<init>", "()V"⟩
abbrev cX1_drop : ByteArray := prog_3_method_2_code
def yX1_drop : MethodName := ⟨RX1, "drop", "()V"⟩
abbrev cX1_begin : ByteArray := prog_3_method_3_code
def yX1_begin : MethodName := ⟨RX1, "begin", "()V"⟩
abbrev cX1_take : ByteArray := prog_3_method_4_code
def yX1_take : MethodName := ⟨RX1, "take", "(ILBlockCode$Key;)V"⟩
abbrev cX1_end : ByteArray := prog_3_method_5_code
def yX1_end : MethodName := ⟨RX1, "end", "(LBlockCode$Key;)V"⟩
abbrev cX1_compare : ByteArray := prog_3_method_6_code
def yX1_compare : MethodName := ⟨RX1, "compare", "(II)V"⟩
def RX2 : String := "BlockCode"
def TX2 : u_T := fun k => match k with
  | 0 => ("BlockCode", "key", "LBlockCode$Key;", true)
  | 1 => ("BlockCode", "message", "LBlockCode$Message;", true)
  | 2 => ("BlockCode", "block", "[I", true)
  | 3 => ("BlockCode", "before", "[I", true)
  | 4 => ("BlockCode", "kept", "[I", true)
  | _ => ("BlockCode", "ready", "Z", false)
def tyX2 : Nat → FieldType := fun k => match k with
  | 0 => .object "BlockCode$Key"
  | 1 => .object "BlockCode$Message"
  | 2 => .array .int
  | 3 => .array .int
  | 4 => .array .int
  | _ => .boolean
abbrev wsX20 : List Cond := u_ws RX2 TX2 6
theorem nmX2 : ∀ a, a < 6 → ∀ b, b < 6 → a ≠ b → (TX2 a).2.1 ≠ (TX2 b).2.1 := by decide +kernel
theorem tyX2_ok : ∀ k, k < 6 → parseFieldDescriptor (TX2 k).2.2.1 = some (tyX2 k) := by decide +kernel
abbrev cX2_init : ByteArray := prog_1_method_1_code
def yX2_init : MethodName := ⟨RX2, "<init>", "()V"⟩
abbrev cX2_init_ : ByteArray := prog_1_method_2_code
def yX2_init_ : MethodName := ⟨RX2, "init", "()V"⟩
abbrev cX2_setKeyByte : ByteArray := prog_1_method_3_code
def yX2_setKeyByte : MethodName := ⟨RX2, "setKeyByte", "(II)Z"⟩
abbrev cX2_expand : ByteArray := prog_1_method_4_code
def yX2_expand : MethodName := ⟨RX2, "expand", "()Z"⟩
abbrev cX2_macStart : ByteArray := prog_1_method_5_code
def yX2_macStart : MethodName := ⟨RX2, "macStart", "()Z"⟩
abbrev cX2_macUpdate : ByteArray := prog_1_method_6_code
def yX2_macUpdate : MethodName := ⟨RX2, "macUpdate", "(I)Z"⟩
abbrev cX2_macFill : ByteArray := prog_1_method_7_code
def yX2_macFill : MethodName := ⟨RX2, "macFill", "(III)Z"⟩
abbrev cX2_macFinish : ByteArray := prog_1_method_8_code
def yX2_macFinish : MethodName := ⟨RX2, "macFinish", "()Z"⟩
abbrev cX2_tagByte : ByteArray := prog_1_method_9_code
def yX2_tagByte : MethodName := ⟨RX2, "tagByte", "(I)I"⟩
abbrev cX2_macCheck : ByteArray := prog_1_method_10_code
def yX2_macCheck : MethodName := ⟨RX2, "macCheck", "(II)Z"⟩
abbrev cX2_macVerdict : ByteArray := prog_1_method_11_code
def yX2_macVerdict : MethodName := ⟨RX2, "macVerdict", "()Z"⟩
abbrev cX2_setBlockByte : ByteArray := prog_1_method_12_code
def yX2_setBlockByte : MethodName := ⟨RX2, "setBlockByte", "(II)Z"⟩
abbrev cX2_encryptBlock : ByteArray := prog_1_method_13_code
def yX2_encryptBlock : MethodName := ⟨RX2, "encryptBlock", "()Z"⟩
abbrev cX2_decryptBlock : ByteArray := prog_1_method_14_code
def yX2_decryptBlock : MethodName := ⟨RX2, "decryptBlock", "()Z"⟩
abbrev cX2_chain : ByteArray := prog_1_method_15_code
def yX2_chain : MethodName := ⟨RX2, "chain", "(Z)Z"⟩
abbrev cX2_unchain : ByteArray := prog_1_method_16_code
def yX2_unchain : MethodName := ⟨RX2, "unchain", "()Z"⟩
abbrev cX2_blockByte : ByteArray := prog_1_method_17_code
def yX2_blockByte : MethodName := ⟨RX2, "blockByte", "(I)I"⟩
abbrev cX2_half : ByteArray := prog_1_method_18_code
def yX2_half : MethodName := ⟨RX2, "half", "(II)I"⟩
abbrev cX2_chainForth : ByteArray := prog_1_method_19_code
def yX2_chainForth : MethodName := ⟨RX2, "chainForth", "()V"⟩
abbrev cX2_chainBack : ByteArray := prog_1_method_20_code
def yX2_chainBack : MethodName := ⟨RX2, "chainBack", "()V"⟩
abbrev cX2_isPlace : ByteArray := prog_1_method_21_code
def yX2_isPlace : MethodName := ⟨RX2, "isPlace", "(I)Z"⟩
abbrev cX2_isByte : ByteArray := prog_1_method_22_code
def yX2_isByte : MethodName := ⟨RX2, "isByte", "(I)Z"⟩
abbrev cX2_xor : ByteArray := prog_1_method_23_code
def yX2_xor : MethodName := ⟨RX2, "xor", "([I[II)V"⟩
def RX3 : String := "BlockCodeModel"
def TX3 : u_T := fun k => match k with
  | 0 => ("BlockCodeModel", "thrown", "I", false)
  | 1 => ("BlockCodeModel", "ready", "Z", false)
  | 2 => ("BlockCodeModel", "made", "Z", false)
  | 3 => ("BlockCodeModel", "message", "I", false)
  | 4 => ("BlockCodeModel", "key", "[I", true)
  | 5 => ("BlockCodeModel", "block", "[I", true)
  | 6 => ("BlockCodeModel", "before", "[I", true)
  | 7 => ("BlockCodeModel", "s", "[I", true)
  | 8 => ("BlockCodeModel", "unS", "[I", true)
  | 9 => ("BlockCodeModel", "words", "[I", true)
  | 10 => ("BlockCodeModel", "halves", "[I", true)
  | 11 => ("BlockCodeModel", "state", "[I", true)
  | 12 => ("BlockCodeModel", "moved", "[I", true)
  | 13 => ("BlockCodeModel", "code", "[I", true)
  | 14 => ("BlockCodeModel", "last", "[I", true)
  | 15 => ("BlockCodeModel", "lastCount", "I", false)
  | 16 => ("BlockCodeModel", "compared", "[Z", true)
  | _ => ("BlockCodeModel", "wrong", "Z", false)
def tyX3 : Nat → FieldType := fun k => match k with
  | 0 => .int
  | 1 => .boolean
  | 2 => .boolean
  | 3 => .int
  | 4 => .array .int
  | 5 => .array .int
  | 6 => .array .int
  | 7 => .array .int
  | 8 => .array .int
  | 9 => .array .int
  | 10 => .array .int
  | 11 => .array .int
  | 12 => .array .int
  | 13 => .array .int
  | 14 => .array .int
  | 15 => .int
  | 16 => .array .boolean
  | _ => .boolean
abbrev wsX30 : List Cond := u_ws RX3 TX3 18
theorem nmX3 : ∀ a, a < 18 → ∀ b, b < 18 → a ≠ b → (TX3 a).2.1 ≠ (TX3 b).2.1 := by decide +kernel
theorem tyX3_ok : ∀ k, k < 18 → parseFieldDescriptor (TX3 k).2.2.1 = some (tyX3 k) := by decide +kernel
abbrev cX3_init : ByteArray := prog_5_method_1_code
def yX3_init : MethodName := ⟨RX3, "<init>", "()V"⟩
abbrev cX3_times : ByteArray := prog_5_method_2_code
def yX3_times : MethodName := ⟨RX3, "times", "(II)I"⟩
abbrev cX3_isIn : ByteArray := prog_5_method_4_code
def yX3_isIn : MethodName := ⟨RX3, "isIn", "(II)Z"⟩
abbrev cX3_init_ : ByteArray := prog_5_method_5_code
def yX3_init_ : MethodName := ⟨RX3, "init", "()V"⟩
abbrev cX3_setKeyByte : ByteArray := prog_5_method_6_code
def yX3_setKeyByte : MethodName := ⟨RX3, "setKeyByte", "(II)Z"⟩
abbrev cX3_makeWords : ByteArray := prog_5_method_7_code
def yX3_makeWords : MethodName := ⟨RX3, "makeWords", "()V"⟩
abbrev cX3_add : ByteArray := prog_5_method_8_code
def yX3_add : MethodName := ⟨RX3, "add", "(I)V"⟩
abbrev cX3_columns : ByteArray := prog_5_method_9_code
def yX3_columns : MethodName := ⟨RX3, "columns", "(IIII)V"⟩
abbrev cX3_forth : ByteArray := prog_5_method_10_code
def yX3_forth : MethodName := ⟨RX3, "forth", "()V"⟩
abbrev cX3_back : ByteArray := prog_5_method_11_code
def yX3_back : MethodName := ⟨RX3, "back", "()V"⟩
abbrev cX3_twice : ByteArray := prog_5_method_12_code
def yX3_twice : MethodName := ⟨RX3, "twice", "(I)V"⟩
abbrev cX3_expand : ByteArray := prog_5_method_13_code
def yX3_expand : MethodName := ⟨RX3, "expand", "()Z"⟩
abbrev cX3_macStart : ByteArray := prog_5_method_14_code
def yX3_macStart : MethodName := ⟨RX3, "macStart", "()Z"⟩
abbrev cX3_take : ByteArray := prog_5_method_15_code
def yX3_take : MethodName := ⟨RX3, "take", "()V"⟩
abbrev cX3_feed : ByteArray := prog_5_method_16_code
def yX3_feed : MethodName := ⟨RX3, "feed", "(I)V"⟩
abbrev cX3_macUpdate : ByteArray := prog_5_method_17_code
def yX3_macUpdate : MethodName := ⟨RX3, "macUpdate", "(I)Z"⟩
abbrev cX3_macFill : ByteArray := prog_5_method_18_code
def yX3_macFill : MethodName := ⟨RX3, "macFill", "(III)Z"⟩
abbrev cX3_macFinish : ByteArray := prog_5_method_19_code
def yX3_macFinish : MethodName := ⟨RX3, "macFinish", "()Z"⟩
abbrev cX3_tagByte : ByteArray := prog_5_method_20_code
def yX3_tagByte : MethodName := ⟨RX3, "tagByte", "(I)I"⟩
abbrev cX3_macCheck : ByteArray := prog_5_method_21_code
def yX3_macCheck : MethodName := ⟨RX3, "macCheck", "(II)Z"⟩
abbrev cX3_macVerdict : ByteArray := prog_5_method_22_code
def yX3_macVerdict : MethodName := ⟨RX3, "macVerdict", "()Z"⟩
abbrev cX3_setBlockByte : ByteArray := prog_5_method_23_code
def yX3_setBlockByte : MethodName := ⟨RX3, "setBlockByte", "(II)Z"⟩
abbrev cX3_load : ByteArray := prog_5_method_24_code
def yX3_load : MethodName := ⟨RX3, "load", "(Z)V"⟩
abbrev cX3_encryptBlock : ByteArray := prog_5_method_25_code
def yX3_encryptBlock : MethodName := ⟨RX3, "encryptBlock", "()Z"⟩
abbrev cX3_decryptBlock : ByteArray := prog_5_method_26_code
def yX3_decryptBlock : MethodName := ⟨RX3, "decryptBlock", "()Z"⟩
abbrev cX3_chain : ByteArray := prog_5_method_27_code
def yX3_chain : MethodName := ⟨RX3, "chain", "(Z)Z"⟩
abbrev cX3_unchain : ByteArray := prog_5_method_28_code
def yX3_unchain : MethodName := ⟨RX3, "unchain", "()Z"⟩
abbrev cX3_blockByte : ByteArray := prog_5_method_29_code
def yX3_blockByte : MethodName := ⟨RX3, "blockByte", "(I)I"⟩
abbrev cX3_half : ByteArray := prog_5_method_30_code
def yX3_half : MethodName := ⟨RX3, "half", "(II)I"⟩
def RJ10 : String := "java/lang/System"
def TJ10 : u_T := fun k => match k with
  | _ => ("", "", "", false)
def tyJ10 : Nat → FieldType := fun k => match k with
  | _ => .int
abbrev wsJ100 : List Cond := u_ws RJ10 TJ10 0
theorem nmJ10 : ∀ a, a < 0 → ∀ b, b < 0 → a ≠ b → (TJ10 a).2.1 ≠ (TJ10 b).2.1 := by decide +kernel
theorem tyJ10_ok : ∀ k, k < 0 → parseFieldDescriptor (TJ10 k).2.2.1 = some (tyJ10 k) := by decide +kernel
def RJ7 : String := "java/util/Arrays"
def TJ7 : u_T := fun k => match k with
  | _ => ("", "", "", false)
def tyJ7 : Nat → FieldType := fun k => match k with
  | _ => .int
abbrev wsJ70 : List Cond := u_ws RJ7 TJ7 0
theorem nmJ7 : ∀ a, a < 0 → ∀ b, b < 0 → a ≠ b → (TJ7 a).2.1 ≠ (TJ7 b).2.1 := by decide +kernel
theorem tyJ7_ok : ∀ k, k < 0 → parseFieldDescriptor (TJ7 k).2.2.1 = some (tyJ7 k) := by decide +kernel
abbrev cJ7_fill_53178 : ByteArray := prog_7_method_103_code
def yJ7_fill_53178 : MethodName := ⟨RJ7, "fill", "([II)V"⟩
def RL : String := "BlockCodeLaw"
abbrev cL_law : ByteArray := code
def yL_law : MethodName := ⟨RL, "law", "([I)Z"⟩
