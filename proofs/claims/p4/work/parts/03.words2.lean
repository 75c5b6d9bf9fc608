/-- a callee's words -/
def Kd (y : MethodName) (bytes : ByteArray) (maxL : Nat) (ret : Option FieldType) (n : Nat) : Prop := Cond.code y bytes maxL ret ∈ G ∧ Cond.initialized y.cls ∈ G ∧ y.cls ≠ "java/lang/invoke/MethodHandle" ∧ y.cls ≠ "java/lang/invoke/VarHandle" ∧ (parseMethodDescriptor y.desc).map (fun d => d.parameters.length) = some n
set_option maxRecDepth 20000 in
theorem g_0 : (Jvm.Cond.initialized "BlockCodeLaw") ∈ G := G_in (List.mem_of_getElem? (i := 17) rfl) rfl
set_option maxRecDepth 20000 in
theorem g_1 : (Jvm.Cond.initialized "BlockCode") ∈ G := G_in (List.mem_of_getElem? (i := 18) rfl) rfl
set_option maxRecDepth 20000 in
theorem g_2 : (Jvm.Cond.initialized "BlockCode$Key") ∈ G := G_in (List.mem_of_getElem? (i := 19) rfl) rfl
set_option maxRecDepth 20000 in
theorem g_3 : (Jvm.Cond.initialized "BlockCode$Message") ∈ G := G_in (List.mem_of_getElem? (i := 20) rfl) rfl
set_option maxRecDepth 20000 in
theorem g_4 : (Jvm.Cond.initialized "BlockCodeModel") ∈ G := G_in (List.mem_of_getElem? (i := 21) rfl) rfl
set_option maxRecDepth 20000 in
theorem g_5 : (Jvm.Cond.initialized "java/util/Arrays") ∈ G := G_in (List.mem_of_getElem? (i := 22) rfl) rfl
set_option maxRecDepth 20000 in
theorem g_6 : (Jvm.Cond.initialized "java/lang/System") ∈ G := G_in (List.mem_of_getElem? (i := 23) rfl) rfl
set_option maxRecDepth 20000 in
theorem g_7 : (Jvm.Cond.classLink "BlockCodeLaw" (7 : Nat) "BlockCode") ∈ G := G_in (List.mem_of_getElem? (i := 24) rfl) rfl
set_option maxRecDepth 20000 in
theorem g_8 : (Jvm.Cond.instantiable "BlockCode" (6 : Nat)) ∈ G := G_in (List.mem_of_getElem? (i := 25) rfl) rfl
set_option maxRecDepth 20000 in
theorem g_9 : (Jvm.Cond.methodLink "BlockCodeLaw" (9 : Nat) ({ cls := "BlockCode", name := "<init>", desc := "()V" } : Jvm.MethodName)) ∈ G := G_in (List.mem_of_getElem? (i := 26) rfl) rfl
set_option maxRecDepth 20000 in
theorem g_10 : (Jvm.Cond.instanceMethod ({ cls := "BlockCode", name := "<init>", desc := "()V" } : Jvm.MethodName)) ∈ G := G_in (List.mem_of_getElem? (i := 27) rfl) rfl
set_option maxRecDepth 20000 in
theorem g_11 : (Jvm.Cond.code ({ cls := "BlockCode", name := "<init>", desc := "()V" } : Jvm.MethodName) prog_1_method_1_code (1 : Nat) (Option.none : Option Jvm.ClassFile.FieldType)) ∈ G := G_in (List.mem_of_getElem? (i := 28) rfl) rfl
set_option maxRecDepth 20000 in
theorem g_12 : (Jvm.Cond.methodLink "BlockCode" (3 : Nat) ({ cls := "java/lang/Object", name := "<init>", desc := "()V" } : Jvm.MethodName)) ∈ G := G_in (List.mem_of_getElem? (i := 29) rfl) rfl
set_option maxRecDepth 20000 in
theorem g_13 : (Jvm.Cond.instanceMethod ({ cls := "java/lang/Object", name := "<init>", desc := "()V" } : Jvm.MethodName)) ∈ G := G_in (List.mem_of_getElem? (i := 30) rfl) rfl
set_option maxRecDepth 20000 in
theorem g_14 : (Jvm.Cond.code ({ cls := "java/lang/Object", name := "<init>", desc := "()V" } : Jvm.MethodName) object_method_1_code (1 : Nat) (Option.none : Option Jvm.ClassFile.FieldType)) ∈ G := G_in (List.mem_of_getElem? (i := 31) rfl) rfl
set_option maxRecDepth 20000 in
theorem g_15 : (Jvm.Cond.classLink "BlockCode" (9 : Nat) "BlockCode$Key") ∈ G := G_in (List.mem_of_getElem? (i := 32) rfl) rfl
set_option maxRecDepth 20000 in
theorem g_16 : (Jvm.Cond.instantiable "BlockCode$Key" (6 : Nat)) ∈ G := G_in (List.mem_of_getElem? (i := 33) rfl) rfl
set_option maxRecDepth 20000 in
theorem g_17 : (Jvm.Cond.methodLink "BlockCode" (11 : Nat) ({ cls := "BlockCode$Key", name := "<init>", desc := "()V" } : Jvm.MethodName)) ∈ G := G_in (List.mem_of_getElem? (i := 34) rfl) rfl
set_option maxRecDepth 20000 in
theorem g_18 : (Jvm.Cond.instanceMethod ({ cls := "BlockCode$Key", name := "<init>", desc := "()V" } : Jvm.MethodName)) ∈ G := G_in (List.mem_of_getElem? (i := 35) rfl) rfl
set_option maxRecDepth 20000 in
theorem g_19 : (Jvm.Cond.code ({ cls := "BlockCode$Key", name := "<init>", desc := "()V" } : Jvm.MethodName) prog_2_method_1_code (1 : Nat) (Option.none : Option Jvm.ClassFile.FieldType)) ∈ G := G_in (List.mem_of_getElem? (i := 36) rfl) rfl
set_option maxRecDepth 20000 in
theorem g_20 : (Jvm.Cond.methodLink "BlockCode$Key" (3 : Nat) ({ cls := "java/lang/Object", name := "<init>", desc := "()V" } : Jvm.MethodName)) ∈ G := G_in (List.mem_of_getElem? (i := 37) rfl) rfl
set_option maxRecDepth 20000 in
theorem g_21 : (Jvm.Cond.fieldLink "BlockCode$Key" (9 : Nat) "BlockCode$Key" "bytes" "[I") ∈ G := G_in (List.mem_of_getElem? (i := 38) rfl) rfl
set_option maxRecDepth 20000 in
theorem g_22 : (Jvm.Cond.fieldLink "BlockCode$Key" (15 : Nat) "BlockCode$Key" "words" "[I") ∈ G := G_in (List.mem_of_getElem? (i := 39) rfl) rfl
set_option maxRecDepth 20000 in
theorem g_23 : (Jvm.Cond.fieldLink "BlockCode$Key" (18 : Nat) "BlockCode$Key" "firstHalf" "[I") ∈ G := G_in (List.mem_of_getElem? (i := 40) rfl) rfl
set_option maxRecDepth 20000 in
theorem n_24 : (Jvm.Cond.fieldLinkNest "BlockCode$Message" (44 : Nat) "BlockCode$Key" "firstHalf" "[I" "BlockCode") ∈ nests := nests_in (List.mem_of_getElem? (i := 24) rfl) rfl
set_option maxRecDepth 20000 in
theorem n_25 : (Jvm.Cond.fieldLinkNest "BlockCode" (110 : Nat) "BlockCode$Key" "firstHalf" "[I" "BlockCode") ∈ nests := nests_in (List.mem_of_getElem? (i := 25) rfl) rfl
set_option maxRecDepth 20000 in
theorem g_26 : (Jvm.Cond.fieldLink "BlockCode$Key" (21 : Nat) "BlockCode$Key" "secondHalf" "[I") ∈ G := G_in (List.mem_of_getElem? (i := 43) rfl) rfl
set_option maxRecDepth 20000 in
theorem n_27 : (Jvm.Cond.fieldLinkNest "BlockCode$Message" (51 : Nat) "BlockCode$Key" "secondHalf" "[I" "BlockCode") ∈ nests := nests_in (List.mem_of_getElem? (i := 27) rfl) rfl
set_option maxRecDepth 20000 in
theorem n_28 : (Jvm.Cond.fieldLinkNest "BlockCode" (113 : Nat) "BlockCode$Key" "secondHalf" "[I" "BlockCode") ∈ nests := nests_in (List.mem_of_getElem? (i := 28) rfl) rfl
set_option maxRecDepth 20000 in
theorem g_29 : (Jvm.Cond.fieldLink "BlockCode$Key" (24 : Nat) "BlockCode$Key" "moved" "[I") ∈ G := G_in (List.mem_of_getElem? (i := 46) rfl) rfl
set_option maxRecDepth 20000 in
theorem g_30 : (Jvm.Cond.fieldLink "BlockCode$Key" (27 : Nat) "BlockCode$Key" "made" "Z") ∈ G := G_in (List.mem_of_getElem? (i := 47) rfl) rfl
set_option maxRecDepth 20000 in
theorem n_31 : (Jvm.Cond.fieldLinkNest "BlockCode" (57 : Nat) "BlockCode$Key" "made" "Z" "BlockCode") ∈ nests := nests_in (List.mem_of_getElem? (i := 31) rfl) rfl
set_option maxRecDepth 20000 in
theorem g_32 : (Jvm.Cond.laysFinal "BlockCode$Key" "BlockCode$Key" "bytes" "[I") ∈ G := G_in (List.mem_of_getElem? (i := 49) rfl) rfl
set_option maxRecDepth 20000 in
theorem g_33 : (Jvm.Cond.soleField "BlockCode$Key" "bytes") ∈ G := G_in (List.mem_of_getElem? (i := 50) rfl) rfl
set_option maxRecDepth 20000 in
theorem g_34 : (Jvm.Cond.laysFinal "BlockCode$Key" "BlockCode$Key" "words" "[I") ∈ G := G_in (List.mem_of_getElem? (i := 51) rfl) rfl
set_option maxRecDepth 20000 in
theorem g_35 : (Jvm.Cond.soleField "BlockCode$Key" "words") ∈ G := G_in (List.mem_of_getElem? (i := 52) rfl) rfl
set_option maxRecDepth 20000 in
theorem g_36 : (Jvm.Cond.laysFinal "BlockCode$Key" "BlockCode$Key" "firstHalf" "[I") ∈ G := G_in (List.mem_of_getElem? (i := 53) rfl) rfl
set_option maxRecDepth 20000 in
theorem g_37 : (Jvm.Cond.soleField "BlockCode$Key" "firstHalf") ∈ G := G_in (List.mem_of_getElem? (i := 54) rfl) rfl
set_option maxRecDepth 20000 in
theorem g_38 : (Jvm.Cond.laysFinal "BlockCode$Key" "BlockCode$Key" "secondHalf" "[I") ∈ G := G_in (List.mem_of_getElem? (i := 55) rfl) rfl
set_option maxRecDepth 20000 in
theorem g_39 : (Jvm.Cond.soleField "BlockCode$Key" "secondHalf") ∈ G := G_in (List.mem_of_getElem? (i := 56) rfl) rfl
set_option maxRecDepth 20000 in
theorem g_40 : (Jvm.Cond.laysFinal "BlockCode$Key" "BlockCode$Key" "moved" "[I") ∈ G := G_in (List.mem_of_getElem? (i := 57) rfl) rfl
set_option maxRecDepth 20000 in
theorem g_41 : (Jvm.Cond.soleField "BlockCode$Key" "moved") ∈ G := G_in (List.mem_of_getElem? (i := 58) rfl) rfl
set_option maxRecDepth 20000 in
theorem g_42 : (Jvm.Cond.lays "BlockCode$Key" "BlockCode$Key" "made" "Z") ∈ G := G_in (List.mem_of_getElem? (i := 59) rfl) rfl
set_option maxRecDepth 20000 in
theorem g_43 : (Jvm.Cond.soleField "BlockCode$Key" "made") ∈ G := G_in (List.mem_of_getElem? (i := 60) rfl) rfl
set_option maxRecDepth 20000 in
theorem g_44 : (Jvm.Cond.superclass "BlockCode$Key" "java/lang/Object") ∈ G := G_in (List.mem_of_getElem? (i := 61) rfl) rfl
set_option maxRecDepth 20000 in
theorem g_45 : (Jvm.Cond.arrayClass Jvm.ClassFile.FieldType.int) ∈ G := G_in (List.mem_of_getElem? (i := 62) rfl) rfl
set_option maxRecDepth 20000 in
theorem g_46 : (Jvm.Cond.classLink "BlockCode" (16 : Nat) "BlockCode$Message") ∈ G := G_in (List.mem_of_getElem? (i := 63) rfl) rfl
set_option maxRecDepth 20000 in
theorem g_47 : (Jvm.Cond.instantiable "BlockCode$Message" (6 : Nat)) ∈ G := G_in (List.mem_of_getElem? (i := 64) rfl) rfl
set_option maxRecDepth 20000 in
theorem g_48 : (Jvm.Cond.methodLink "BlockCode" (18 : Nat) ({ cls := "BlockCode$Message", name := "<init>", desc := "()V" } : Jvm.MethodName)) ∈ G := G_in (List.mem_of_getElem? (i := 65) rfl) rfl
set_option maxRecDepth 20000 in
theorem g_49 : (Jvm.Cond.instanceMethod ({ cls := "BlockCode$Message", name := "<init>", desc := "()V" } : Jvm.MethodName)) ∈ G := G_in (List.mem_of_getElem? (i := 66) rfl) rfl
set_option maxRecDepth 20000 in
theorem g_50 : (Jvm.Cond.code ({ cls := "BlockCode$Message", name := "<init>", desc := "()V" } : Jvm.MethodName) prog_3_method_1_code (1 : Nat) (Option.none : Option Jvm.ClassFile.FieldType)) ∈ G := G_in (List.mem_of_getElem? (i := 67) rfl) rfl
set_option maxRecDepth 20000 in
theorem g_51 : (Jvm.Cond.methodLink "BlockCode$Message" (3 : Nat) ({ cls := "java/lang/Object", name := "<init>", desc := "()V" } : Jvm.MethodName)) ∈ G := G_in (List.mem_of_getElem? (i := 68) rfl) rfl
set_option maxRecDepth 20000 in
theorem g_52 : (Jvm.Cond.fieldLink "BlockCode$Message" (9 : Nat) "BlockCode$Message" "sum" "[I") ∈ G := G_in (List.mem_of_getElem? (i := 69) rfl) rfl
set_option maxRecDepth 20000 in
theorem n_53 : (Jvm.Cond.fieldLinkNest "BlockCode" (77 : Nat) "BlockCode$Message" "sum" "[I" "BlockCode") ∈ nests := nests_in (List.mem_of_getElem? (i := 53) rfl) rfl
set_option maxRecDepth 20000 in
theorem g_54 : (Jvm.Cond.fieldLink "BlockCode$Message" (15 : Nat) "BlockCode$Message" "filled" "I") ∈ G := G_in (List.mem_of_getElem? (i := 71) rfl) rfl
set_option maxRecDepth 20000 in
theorem g_55 : (Jvm.Cond.fieldLink "BlockCode$Message" (19 : Nat) "BlockCode$Message" "open" "Z") ∈ G := G_in (List.mem_of_getElem? (i := 72) rfl) rfl
set_option maxRecDepth 20000 in
theorem n_56 : (Jvm.Cond.fieldLinkNest "BlockCode" (63 : Nat) "BlockCode$Message" "open" "Z" "BlockCode") ∈ nests := nests_in (List.mem_of_getElem? (i := 56) rfl) rfl
set_option maxRecDepth 20000 in
theorem g_57 : (Jvm.Cond.fieldLink "BlockCode$Message" (23 : Nat) "BlockCode$Message" "ended" "Z") ∈ G := G_in (List.mem_of_getElem? (i := 74) rfl) rfl
set_option maxRecDepth 20000 in
theorem n_58 : (Jvm.Cond.fieldLinkNest "BlockCode" (74 : Nat) "BlockCode$Message" "ended" "Z" "BlockCode") ∈ nests := nests_in (List.mem_of_getElem? (i := 58) rfl) rfl
set_option maxRecDepth 20000 in
theorem g_59 : (Jvm.Cond.fieldLink "BlockCode$Message" (26 : Nat) "BlockCode$Message" "compared" "I") ∈ G := G_in (List.mem_of_getElem? (i := 76) rfl) rfl
set_option maxRecDepth 20000 in
theorem n_60 : (Jvm.Cond.fieldLinkNest "BlockCode" (83 : Nat) "BlockCode$Message" "compared" "I" "BlockCode") ∈ nests := nests_in (List.mem_of_getElem? (i := 60) rfl) rfl
set_option maxRecDepth 20000 in
theorem g_61 : (Jvm.Cond.fieldLink "BlockCode$Message" (29 : Nat) "BlockCode$Message" "differed" "Z") ∈ G := G_in (List.mem_of_getElem? (i := 78) rfl) rfl
set_option maxRecDepth 20000 in
theorem n_62 : (Jvm.Cond.fieldLinkNest "BlockCode" (88 : Nat) "BlockCode$Message" "differed" "Z" "BlockCode") ∈ nests := nests_in (List.mem_of_getElem? (i := 62) rfl) rfl
set_option maxRecDepth 20000 in
theorem g_63 : (Jvm.Cond.laysFinal "BlockCode$Message" "BlockCode$Message" "sum" "[I") ∈ G := G_in (List.mem_of_getElem? (i := 80) rfl) rfl
set_option maxRecDepth 20000 in
theorem g_64 : (Jvm.Cond.soleField "BlockCode$Message" "sum") ∈ G := G_in (List.mem_of_getElem? (i := 81) rfl) rfl
set_option maxRecDepth 20000 in
theorem g_65 : (Jvm.Cond.lays "BlockCode$Message" "BlockCode$Message" "filled" "I") ∈ G := G_in (List.mem_of_getElem? (i := 82) rfl) rfl
set_option maxRecDepth 20000 in
theorem g_66 : (Jvm.Cond.soleField "BlockCode$Message" "filled") ∈ G := G_in (List.mem_of_getElem? (i := 83) rfl) rfl
set_option maxRecDepth 20000 in
theorem g_67 : (Jvm.Cond.lays "BlockCode$Message" "BlockCode$Message" "open" "Z") ∈ G := G_in (List.mem_of_getElem? (i := 84) rfl) rfl
set_option maxRecDepth 20000 in
theorem g_68 : (Jvm.Cond.soleField "BlockCode$Message" "open") ∈ G := G_in (List.mem_of_getElem? (i := 85) rfl) rfl
set_option maxRecDepth 20000 in
theorem g_69 : (Jvm.Cond.lays "BlockCode$Message" "BlockCode$Message" "ended" "Z") ∈ G := G_in (List.mem_of_getElem? (i := 86) rfl) rfl
set_option maxRecDepth 20000 in
theorem g_70 : (Jvm.Cond.soleField "BlockCode$Message" "ended") ∈ G := G_in (List.mem_of_getElem? (i := 87) rfl) rfl
set_option maxRecDepth 20000 in
theorem g_71 : (Jvm.Cond.lays "BlockCode$Message" "BlockCode$Message" "compared" "I") ∈ G := G_in (List.mem_of_getElem? (i := 88) rfl) rfl
set_option maxRecDepth 20000 in
theorem g_72 : (Jvm.Cond.soleField "BlockCode$Message" "compared") ∈ G := G_in (List.mem_of_getElem? (i := 89) rfl) rfl
set_option maxRecDepth 20000 in
theorem g_73 : (Jvm.Cond.lays "BlockCode$Message" "BlockCode$Message" "differed" "Z") ∈ G := G_in (List.mem_of_getElem? (i := 90) rfl) rfl
set_option maxRecDepth 20000 in
theorem g_74 : (Jvm.Cond.soleField "BlockCode$Message" "differed") ∈ G := G_in (List.mem_of_getElem? (i := 91) rfl) rfl
set_option maxRecDepth 20000 in
theorem g_75 : (Jvm.Cond.superclass "BlockCode$Message" "java/lang/Object") ∈ G := G_in (List.mem_of_getElem? (i := 92) rfl) rfl
set_option maxRecDepth 20000 in
theorem g_76 : (Jvm.Cond.fieldLink "BlockCode" (12 : Nat) "BlockCode" "key" "LBlockCode$Key;") ∈ G := G_in (List.mem_of_getElem? (i := 93) rfl) rfl
set_option maxRecDepth 20000 in
theorem g_77 : (Jvm.Cond.fieldLink "BlockCode" (19 : Nat) "BlockCode" "message" "LBlockCode$Message;") ∈ G := G_in (List.mem_of_getElem? (i := 94) rfl) rfl
set_option maxRecDepth 20000 in
theorem g_78 : (Jvm.Cond.fieldLink "BlockCode" (23 : Nat) "BlockCode" "block" "[I") ∈ G := G_in (List.mem_of_getElem? (i := 95) rfl) rfl
set_option maxRecDepth 20000 in
theorem g_79 : (Jvm.Cond.fieldLink "BlockCode" (27 : Nat) "BlockCode" "before" "[I") ∈ G := G_in (List.mem_of_getElem? (i := 96) rfl) rfl
set_option maxRecDepth 20000 in
theorem g_80 : (Jvm.Cond.fieldLink "BlockCode" (30 : Nat) "BlockCode" "kept" "[I") ∈ G := G_in (List.mem_of_getElem? (i := 97) rfl) rfl
set_option maxRecDepth 20000 in
theorem g_81 : (Jvm.Cond.fieldLink "BlockCode" (33 : Nat) "BlockCode" "ready" "Z") ∈ G := G_in (List.mem_of_getElem? (i := 98) rfl) rfl
set_option maxRecDepth 20000 in
theorem g_82 : (Jvm.Cond.laysFinal "BlockCode" "BlockCode" "key" "LBlockCode$Key;") ∈ G := G_in (List.mem_of_getElem? (i := 99) rfl) rfl
set_option maxRecDepth 20000 in
theorem g_83 : (Jvm.Cond.soleField "BlockCode" "key") ∈ G := G_in (List.mem_of_getElem? (i := 100) rfl) rfl
set_option maxRecDepth 20000 in
theorem g_84 : (Jvm.Cond.laysFinal "BlockCode" "BlockCode" "message" "LBlockCode$Message;") ∈ G := G_in (List.mem_of_getElem? (i := 101) rfl) rfl
set_option maxRecDepth 20000 in
theorem g_85 : (Jvm.Cond.soleField "BlockCode" "message") ∈ G := G_in (List.mem_of_getElem? (i := 102) rfl) rfl
set_option maxRecDepth 20000 in
theorem g_86 : (Jvm.Cond.laysFinal "BlockCode" "BlockCode" "block" "[I") ∈ G := G_in (List.mem_of_getElem? (i := 103) rfl) rfl
set_option maxRecDepth 20000 in
theorem g_87 : (Jvm.Cond.soleField "BlockCode" "block") ∈ G := G_in (List.mem_of_getElem? (i := 104) rfl) rfl
set_option maxRecDepth 20000 in
theorem g_88 : (Jvm.Cond.laysFinal "BlockCode" "BlockCode" "before" "[I") ∈ G := G_in (List.mem_of_getElem? (i := 105) rfl) rfl
set_option maxRecDepth 20000 in
theorem g_89 : (Jvm.Cond.soleField "BlockCode" "before") ∈ G := G_in (List.mem_of_getElem? (i := 106) rfl) rfl
set_option maxRecDepth 20000 in
theorem g_90 : (Jvm.Cond.laysFinal "BlockCode" "BlockCode" "kept" "[I") ∈ G := G_in (List.mem_of_getElem? (i := 107) rfl) rfl
set_option maxRecDepth 20000 in
theorem g_91 : (Jvm.Cond.soleField "BlockCode" "kept") ∈ G := G_in (List.mem_of_getElem? (i := 108) rfl) rfl
set_option maxRecDepth 20000 in
theorem g_92 : (Jvm.Cond.lays "BlockCode" "BlockCode" "ready" "Z") ∈ G := G_in (List.mem_of_getElem? (i := 109) rfl) rfl
set_option maxRecDepth 20000 in
theorem g_93 : (Jvm.Cond.soleField "BlockCode" "ready") ∈ G := G_in (List.mem_of_getElem? (i := 110) rfl) rfl
set_option maxRecDepth 20000 in
theorem g_94 : (Jvm.Cond.superclass "BlockCode" "java/lang/Object") ∈ G := G_in (List.mem_of_getElem? (i := 111) rfl) rfl
set_option maxRecDepth 20000 in
theorem g_95 : (Jvm.Cond.methodLink "BlockCodeLaw" (13 : Nat) ({ cls := "BlockCode", name := "init", desc := "()V" } : Jvm.MethodName)) ∈ G := G_in (List.mem_of_getElem? (i := 112) rfl) rfl
set_option maxRecDepth 20000 in
theorem g_96 : (Jvm.Cond.instanceMethod ({ cls := "BlockCode", name := "init", desc := "()V" } : Jvm.MethodName)) ∈ G := G_in (List.mem_of_getElem? (i := 113) rfl) rfl
set_option maxRecDepth 20000 in
theorem g_97 : (Jvm.Cond.selects "BlockCode" ({ cls := "BlockCode", name := "init", desc := "()V" } : Jvm.MethodName) ({ cls := "BlockCode", name := "init", desc := "()V" } : Jvm.MethodName)) ∈ G := G_in (List.mem_of_getElem? (i := 114) rfl) rfl
set_option maxRecDepth 20000 in
theorem g_98 : (Jvm.Cond.code ({ cls := "BlockCode", name := "init", desc := "()V" } : Jvm.MethodName) prog_1_method_2_code (1 : Nat) (Option.none : Option Jvm.ClassFile.FieldType)) ∈ G := G_in (List.mem_of_getElem? (i := 115) rfl) rfl
set_option maxRecDepth 20000 in
theorem g_99 : (Jvm.Cond.methodLink "BlockCode" (37 : Nat) ({ cls := "BlockCode$Key", name := "clear", desc := "()V" } : Jvm.MethodName)) ∈ G := G_in (List.mem_of_getElem? (i := 116) rfl) rfl
set_option maxRecDepth 20000 in
theorem g_100 : (Jvm.Cond.instanceMethod ({ cls := "BlockCode$Key", name := "clear", desc := "()V" } : Jvm.MethodName)) ∈ G := G_in (List.mem_of_getElem? (i := 117) rfl) rfl
set_option maxRecDepth 20000 in
theorem g_101 : (Jvm.Cond.selects "BlockCode$Key" ({ cls := "BlockCode$Key", name := "clear", desc := "()V" } : Jvm.MethodName) ({ cls := "BlockCode$Key", name := "clear", desc := "()V" } : Jvm.MethodName)) ∈ G := G_in (List.mem_of_getElem? (i := 118) rfl) rfl
set_option maxRecDepth 20000 in
theorem g_102 : (Jvm.Cond.code ({ cls := "BlockCode$Key", name := "clear", desc := "()V" } : Jvm.MethodName) prog_2_method_2_code (1 : Nat) (Option.none : Option Jvm.ClassFile.FieldType)) ∈ G := G_in (List.mem_of_getElem? (i := 119) rfl) rfl
set_option maxRecDepth 20000 in
theorem g_103 : (Jvm.Cond.methodLink "BlockCode$Key" (31 : Nat) ({ cls := "java/util/Arrays", name := "fill", desc := "([II)V" } : Jvm.MethodName)) ∈ G := G_in (List.mem_of_getElem? (i := 120) rfl) rfl
set_option maxRecDepth 20000 in
theorem g_104 : (Jvm.Cond.static ({ cls := "java/util/Arrays", name := "fill", desc := "([II)V" } : Jvm.MethodName)) ∈ G := G_in (List.mem_of_getElem? (i := 121) rfl) rfl
set_option maxRecDepth 20000 in
theorem g_105 : (Jvm.Cond.code ({ cls := "java/util/Arrays", name := "fill", desc := "([II)V" } : Jvm.MethodName) prog_7_method_103_code (4 : Nat) (Option.none : Option Jvm.ClassFile.FieldType)) ∈ G := G_in (List.mem_of_getElem? (i := 122) rfl) rfl
set_option maxRecDepth 20000 in
theorem g_106 : (Jvm.Cond.methodLink "BlockCode" (40 : Nat) ({ cls := "BlockCode$Message", name := "drop", desc := "()V" } : Jvm.MethodName)) ∈ G := G_in (List.mem_of_getElem? (i := 123) rfl) rfl
set_option maxRecDepth 20000 in
theorem g_107 : (Jvm.Cond.instanceMethod ({ cls := "BlockCode$Message", name := "drop", desc := "()V" } : Jvm.MethodName)) ∈ G := G_in (List.mem_of_getElem? (i := 124) rfl) rfl
set_option maxRecDepth 20000 in
theorem g_108 : (Jvm.Cond.selects "BlockCode$Message" ({ cls := "BlockCode$Message", name := "drop", desc := "()V" } : Jvm.MethodName) ({ cls := "BlockCode$Message", name := "drop", desc := "()V" } : Jvm.MethodName)) ∈ G := G_in (List.mem_of_getElem? (i := 125) rfl) rfl
set_option maxRecDepth 20000 in
theorem g_109 : (Jvm.Cond.code ({ cls := "BlockCode$Message", name := "drop", desc := "()V" } : Jvm.MethodName) prog_3_method_2_code (1 : Nat) (Option.none : Option Jvm.ClassFile.FieldType)) ∈ G := G_in (List.mem_of_getElem? (i := 126) rfl) rfl
set_option maxRecDepth 20000 in
theorem g_110 : (Jvm.Cond.methodLink "BlockCodeLaw" (17 : Nat) ({ cls := "BlockCode", name := "setKeyByte", desc := "(II)Z" } : Jvm.MethodName)) ∈ G := G_in (List.mem_of_getElem? (i := 127) rfl) rfl
set_option maxRecDepth 20000 in
theorem g_111 : (Jvm.Cond.instanceMethod ({ cls := "BlockCode", name := "setKeyByte", desc := "(II)Z" } : Jvm.MethodName)) ∈ G := G_in (List.mem_of_getElem? (i := 128) rfl) rfl
set_option maxRecDepth 20000 in
theorem g_112 : (Jvm.Cond.selects "BlockCode" ({ cls := "BlockCode", name := "setKeyByte", desc := "(II)Z" } : Jvm.MethodName) ({ cls := "BlockCode", name := "setKeyByte", desc := "(II)Z" } : Jvm.MethodName)) ∈ G := G_in (List.mem_of_getElem? (i := 129) rfl) rfl
set_option maxRecDepth 20000 in
theorem g_113 : (Jvm.Cond.code ({ cls := "BlockCode", name := "setKeyByte", desc := "(II)Z" } : Jvm.MethodName) prog_1_method_3_code (3 : Nat) (Option.some Jvm.ClassFile.FieldType.boolean)) ∈ G := G_in (List.mem_of_getElem? (i := 130) rfl) rfl
set_option maxRecDepth 20000 in
theorem g_114 : (Jvm.Cond.methodLink "BlockCode" (43 : Nat) ({ cls := "BlockCode", name := "isPlace", desc := "(I)Z" } : Jvm.MethodName)) ∈ G := G_in (List.mem_of_getElem? (i := 131) rfl) rfl
set_option maxRecDepth 20000 in
theorem g_115 : (Jvm.Cond.static ({ cls := "BlockCode", name := "isPlace", desc := "(I)Z" } : Jvm.MethodName)) ∈ G := G_in (List.mem_of_getElem? (i := 132) rfl) rfl
set_option maxRecDepth 20000 in
theorem g_116 : (Jvm.Cond.code ({ cls := "BlockCode", name := "isPlace", desc := "(I)Z" } : Jvm.MethodName) prog_1_method_21_code (1 : Nat) (Option.some Jvm.ClassFile.FieldType.boolean)) ∈ G := G_in (List.mem_of_getElem? (i := 133) rfl) rfl
set_option maxRecDepth 20000 in
theorem g_117 : (Jvm.Cond.methodLink "BlockCode" (47 : Nat) ({ cls := "BlockCode", name := "isByte", desc := "(I)Z" } : Jvm.MethodName)) ∈ G := G_in (List.mem_of_getElem? (i := 134) rfl) rfl
set_option maxRecDepth 20000 in
theorem g_118 : (Jvm.Cond.static ({ cls := "BlockCode", name := "isByte", desc := "(I)Z" } : Jvm.MethodName)) ∈ G := G_in (List.mem_of_getElem? (i := 135) rfl) rfl
set_option maxRecDepth 20000 in
theorem g_119 : (Jvm.Cond.code ({ cls := "BlockCode", name := "isByte", desc := "(I)Z" } : Jvm.MethodName) prog_1_method_22_code (1 : Nat) (Option.some Jvm.ClassFile.FieldType.boolean)) ∈ G := G_in (List.mem_of_getElem? (i := 136) rfl) rfl
set_option maxRecDepth 20000 in
theorem g_120 : (Jvm.Cond.methodLink "BlockCode" (50 : Nat) ({ cls := "BlockCode$Key", name := "put", desc := "(II)V" } : Jvm.MethodName)) ∈ G := G_in (List.mem_of_getElem? (i := 137) rfl) rfl
set_option maxRecDepth 20000 in
theorem g_121 : (Jvm.Cond.instanceMethod ({ cls := "BlockCode$Key", name := "put", desc := "(II)V" } : Jvm.MethodName)) ∈ G := G_in (List.mem_of_getElem? (i := 138) rfl) rfl
set_option maxRecDepth 20000 in
theorem g_122 : (Jvm.Cond.selects "BlockCode$Key" ({ cls := "BlockCode$Key", name := "put", desc := "(II)V" } : Jvm.MethodName) ({ cls := "BlockCode$Key", name := "put", desc := "(II)V" } : Jvm.MethodName)) ∈ G := G_in (List.mem_of_getElem? (i := 139) rfl) rfl
set_option maxRecDepth 20000 in
theorem g_123 : (Jvm.Cond.code ({ cls := "BlockCode$Key", name := "put", desc := "(II)V" } : Jvm.MethodName) prog_2_method_3_code (3 : Nat) (Option.none : Option Jvm.ClassFile.FieldType)) ∈ G := G_in (List.mem_of_getElem? (i := 140) rfl) rfl
set_option maxRecDepth 20000 in
theorem g_124 : (Jvm.Cond.methodLink "BlockCodeLaw" (22 : Nat) ({ cls := "BlockCode", name := "expand", desc := "()Z" } : Jvm.MethodName)) ∈ G := G_in (List.mem_of_getElem? (i := 141) rfl) rfl
set_option maxRecDepth 20000 in
theorem g_125 : (Jvm.Cond.instanceMethod ({ cls := "BlockCode", name := "expand", desc := "()Z" } : Jvm.MethodName)) ∈ G := G_in (List.mem_of_getElem? (i := 142) rfl) rfl
set_option maxRecDepth 20000 in
theorem g_126 : (Jvm.Cond.selects "BlockCode" ({ cls := "BlockCode", name := "expand", desc := "()Z" } : Jvm.MethodName) ({ cls := "BlockCode", name := "expand", desc := "()Z" } : Jvm.MethodName)) ∈ G := G_in (List.mem_of_getElem? (i := 143) rfl) rfl
set_option maxRecDepth 20000 in
theorem g_127 : (Jvm.Cond.code ({ cls := "BlockCode", name := "expand", desc := "()Z" } : Jvm.MethodName) prog_1_method_4_code (1 : Nat) (Option.some Jvm.ClassFile.FieldType.boolean)) ∈ G := G_in (List.mem_of_getElem? (i := 144) rfl) rfl
set_option maxRecDepth 20000 in
theorem g_128 : (Jvm.Cond.methodLink "BlockCode" (54 : Nat) ({ cls := "BlockCode$Key", name := "make", desc := "()V" } : Jvm.MethodName)) ∈ G := G_in (List.mem_of_getElem? (i := 145) rfl) rfl
set_option maxRecDepth 20000 in
theorem g_129 : (Jvm.Cond.instanceMethod ({ cls := "BlockCode$Key", name := "make", desc := "()V" } : Jvm.MethodName)) ∈ G := G_in (List.mem_of_getElem? (i := 146) rfl) rfl
set_option maxRecDepth 20000 in
theorem g_130 : (Jvm.Cond.selects "BlockCode$Key" ({ cls := "BlockCode$Key", name := "make", desc := "()V" } : Jvm.MethodName) ({ cls := "BlockCode$Key", name := "make", desc := "()V" } : Jvm.MethodName)) ∈ G := G_in (List.mem_of_getElem? (i := 147) rfl) rfl
set_option maxRecDepth 20000 in
theorem g_131 : (Jvm.Cond.code ({ cls := "BlockCode$Key", name := "make", desc := "()V" } : Jvm.MethodName) prog_2_method_4_code (1 : Nat) (Option.none : Option Jvm.ClassFile.FieldType)) ∈ G := G_in (List.mem_of_getElem? (i := 148) rfl) rfl
set_option maxRecDepth 20000 in
theorem g_132 : (Jvm.Cond.methodLink "BlockCode$Key" (37 : Nat) ({ cls := "BlockCode$Key", name := "makeWords", desc := "()V" } : Jvm.MethodName)) ∈ G := G_in (List.mem_of_getElem? (i := 149) rfl) rfl
set_option maxRecDepth 20000 in
theorem g_134 : (Jvm.Cond.instanceMethod ({ cls := "BlockCode$Key", name := "makeWords", desc := "()V" } : Jvm.MethodName)) ∈ G := G_in (List.mem_of_getElem? (i := 151) rfl) rfl
set_option maxRecDepth 20000 in
theorem g_135 : (Jvm.Cond.code ({ cls := "BlockCode$Key", name := "makeWords", desc := "()V" } : Jvm.MethodName) prog_2_method_5_code (3 : Nat) (Option.none : Option Jvm.ClassFile.FieldType)) ∈ G := G_in (List.mem_of_getElem? (i := 152) rfl) rfl
set_option maxRecDepth 20000 in
theorem g_136 : (Jvm.Cond.methodLink "BlockCode$Key" (43 : Nat) ({ cls := "java/lang/System", name := "arraycopy", desc := "(Ljava/lang/Object;ILjava/lang/Object;II)V" } : Jvm.MethodName)) ∈ G := G_in (List.mem_of_getElem? (i := 153) rfl) rfl
set_option maxRecDepth 20000 in
theorem g_137 : (Jvm.Cond.static ({ cls := "java/lang/System", name := "arraycopy", desc := "(Ljava/lang/Object;ILjava/lang/Object;II)V" } : Jvm.MethodName)) ∈ G := G_in (List.mem_of_getElem? (i := 154) rfl) rfl
set_option maxRecDepth 20000 in
theorem g_138 : (Jvm.Cond.native ({ cls := "java/lang/System", name := "arraycopy", desc := "(Ljava/lang/Object;ILjava/lang/Object;II)V" } : Jvm.MethodName)) ∈ G := G_in (List.mem_of_getElem? (i := 155) rfl) rfl
set_option maxRecDepth 20000 in
theorem g_139 : (Jvm.Cond.methodLink "BlockCode$Key" (49 : Nat) ({ cls := "BlockCode$Key", name := "makeTurnedWord", desc := "(II)V" } : Jvm.MethodName)) ∈ G := G_in (List.mem_of_getElem? (i := 156) rfl) rfl
set_option maxRecDepth 20000 in
theorem g_141 : (Jvm.Cond.instanceMethod ({ cls := "BlockCode$Key", name := "makeTurnedWord", desc := "(II)V" } : Jvm.MethodName)) ∈ G := G_in (List.mem_of_getElem? (i := 158) rfl) rfl
set_option maxRecDepth 20000 in
theorem g_142 : (Jvm.Cond.code ({ cls := "BlockCode$Key", name := "makeTurnedWord", desc := "(II)V" } : Jvm.MethodName) prog_2_method_7_code (4 : Nat) (Option.none : Option Jvm.ClassFile.FieldType)) ∈ G := G_in (List.mem_of_getElem? (i := 159) rfl) rfl
set_option maxRecDepth 20000 in
theorem n_143 : (Jvm.Cond.fieldLinkNest "BlockCode$Key" (61 : Nat) "BlockCode" "S" "[I" "BlockCode") ∈ nests := nests_in (List.mem_of_getElem? (i := 143) rfl) rfl
set_option maxRecDepth 20000 in
theorem g_145 : (Jvm.Cond.methodLink "BlockCode$Key" (53 : Nat) ({ cls := "BlockCode$Key", name := "twice", desc := "(I)I" } : Jvm.MethodName)) ∈ G := G_in (List.mem_of_getElem? (i := 162) rfl) rfl
set_option maxRecDepth 20000 in
theorem g_146 : (Jvm.Cond.static ({ cls := "BlockCode$Key", name := "twice", desc := "(I)I" } : Jvm.MethodName)) ∈ G := G_in (List.mem_of_getElem? (i := 163) rfl) rfl
set_option maxRecDepth 20000 in
theorem g_147 : (Jvm.Cond.code ({ cls := "BlockCode$Key", name := "twice", desc := "(I)I" } : Jvm.MethodName) prog_2_method_18_code (1 : Nat) (Option.some Jvm.ClassFile.FieldType.int)) ∈ G := G_in (List.mem_of_getElem? (i := 164) rfl) rfl
set_option maxRecDepth 20000 in
theorem g_148 : (Jvm.Cond.methodLink "BlockCode$Key" (57 : Nat) ({ cls := "BlockCode$Key", name := "makePlainWord", desc := "(I)V" } : Jvm.MethodName)) ∈ G := G_in (List.mem_of_getElem? (i := 165) rfl) rfl
set_option maxRecDepth 20000 in
theorem g_150 : (Jvm.Cond.instanceMethod ({ cls := "BlockCode$Key", name := "makePlainWord", desc := "(I)V" } : Jvm.MethodName)) ∈ G := G_in (List.mem_of_getElem? (i := 167) rfl) rfl
set_option maxRecDepth 20000 in
theorem g_151 : (Jvm.Cond.code ({ cls := "BlockCode$Key", name := "makePlainWord", desc := "(I)V" } : Jvm.MethodName) prog_2_method_6_code (3 : Nat) (Option.none : Option Jvm.ClassFile.FieldType)) ∈ G := G_in (List.mem_of_getElem? (i := 168) rfl) rfl
set_option maxRecDepth 20000 in
theorem g_152 : (Jvm.Cond.methodLink "BlockCode$Key" (40 : Nat) ({ cls := "BlockCode$Key", name := "makeHalves", desc := "()V" } : Jvm.MethodName)) ∈ G := G_in (List.mem_of_getElem? (i := 169) rfl) rfl
set_option maxRecDepth 20000 in
theorem g_154 : (Jvm.Cond.instanceMethod ({ cls := "BlockCode$Key", name := "makeHalves", desc := "()V" } : Jvm.MethodName)) ∈ G := G_in (List.mem_of_getElem? (i := 171) rfl) rfl
set_option maxRecDepth 20000 in
theorem g_155 : (Jvm.Cond.code ({ cls := "BlockCode$Key", name := "makeHalves", desc := "()V" } : Jvm.MethodName) prog_2_method_8_code (1 : Nat) (Option.none : Option Jvm.ClassFile.FieldType)) ∈ G := G_in (List.mem_of_getElem? (i := 172) rfl) rfl
set_option maxRecDepth 20000 in
theorem g_156 : (Jvm.Cond.methodLink "BlockCode$Key" (64 : Nat) ({ cls := "BlockCode$Key", name := "goForth", desc := "([I)V" } : Jvm.MethodName)) ∈ G := G_in (List.mem_of_getElem? (i := 173) rfl) rfl
set_option maxRecDepth 20000 in
theorem g_157 : (Jvm.Cond.instanceMethod ({ cls := "BlockCode$Key", name := "goForth", desc := "([I)V" } : Jvm.MethodName)) ∈ G := G_in (List.mem_of_getElem? (i := 174) rfl) rfl
set_option maxRecDepth 20000 in
theorem g_158 : (Jvm.Cond.selects "BlockCode$Key" ({ cls := "BlockCode$Key", name := "goForth", desc := "([I)V" } : Jvm.MethodName) ({ cls := "BlockCode$Key", name := "goForth", desc := "([I)V" } : Jvm.MethodName)) ∈ G := G_in (List.mem_of_getElem? (i := 175) rfl) rfl
set_option maxRecDepth 20000 in
theorem g_159 : (Jvm.Cond.code ({ cls := "BlockCode$Key", name := "goForth", desc := "([I)V" } : Jvm.MethodName) prog_2_method_10_code (3 : Nat) (Option.none : Option Jvm.ClassFile.FieldType)) ∈ G := G_in (List.mem_of_getElem? (i := 176) rfl) rfl
set_option maxRecDepth 20000 in
theorem n_160 : (Jvm.Cond.methodLinkNest "BlockCode$Key" (72 : Nat) ({ cls := "BlockCode", name := "xor", desc := "([I[II)V" } : Jvm.MethodName) "BlockCode") ∈ nests := nests_in (List.mem_of_getElem? (i := 160) rfl) rfl
set_option maxRecDepth 20000 in
theorem g_161 : (Jvm.Cond.static ({ cls := "BlockCode", name := "xor", desc := "([I[II)V" } : Jvm.MethodName)) ∈ G := G_in (List.mem_of_getElem? (i := 178) rfl) rfl
set_option maxRecDepth 20000 in
theorem g_162 : (Jvm.Cond.code ({ cls := "BlockCode", name := "xor", desc := "([I[II)V" } : Jvm.MethodName) prog_1_method_23_code (4 : Nat) (Option.none : Option Jvm.ClassFile.FieldType)) ∈ G := G_in (List.mem_of_getElem? (i := 179) rfl) rfl
set_option maxRecDepth 20000 in
theorem g_163 : (Jvm.Cond.methodLink "BlockCode$Key" (76 : Nat) ({ cls := "BlockCode$Key", name := "replaceAndMove", desc := "([I)V" } : Jvm.MethodName)) ∈ G := G_in (List.mem_of_getElem? (i := 180) rfl) rfl
set_option maxRecDepth 20000 in
theorem g_165 : (Jvm.Cond.instanceMethod ({ cls := "BlockCode$Key", name := "replaceAndMove", desc := "([I)V" } : Jvm.MethodName)) ∈ G := G_in (List.mem_of_getElem? (i := 182) rfl) rfl
set_option maxRecDepth 20000 in
theorem g_166 : (Jvm.Cond.code ({ cls := "BlockCode$Key", name := "replaceAndMove", desc := "([I)V" } : Jvm.MethodName) prog_2_method_12_code (3 : Nat) (Option.none : Option Jvm.ClassFile.FieldType)) ∈ G := G_in (List.mem_of_getElem? (i := 183) rfl) rfl
set_option maxRecDepth 20000 in
theorem g_167 : (Jvm.Cond.methodLink "BlockCode$Key" (88 : Nat) ({ cls := "BlockCode$Key", name := "source", desc := "(I)I" } : Jvm.MethodName)) ∈ G := G_in (List.mem_of_getElem? (i := 184) rfl) rfl
set_option maxRecDepth 20000 in
theorem g_168 : (Jvm.Cond.static ({ cls := "BlockCode$Key", name := "source", desc := "(I)I" } : Jvm.MethodName)) ∈ G := G_in (List.mem_of_getElem? (i := 185) rfl) rfl
set_option maxRecDepth 20000 in
theorem g_169 : (Jvm.Cond.code ({ cls := "BlockCode$Key", name := "source", desc := "(I)I" } : Jvm.MethodName) prog_2_method_14_code (1 : Nat) (Option.some Jvm.ClassFile.FieldType.int)) ∈ G := G_in (List.mem_of_getElem? (i := 186) rfl) rfl
set_option maxRecDepth 20000 in
theorem g_170 : (Jvm.Cond.methodLink "BlockCode$Key" (79 : Nat) ({ cls := "BlockCode$Key", name := "mix", desc := "([I)V" } : Jvm.MethodName)) ∈ G := G_in (List.mem_of_getElem? (i := 187) rfl) rfl
set_option maxRecDepth 20000 in
theorem g_171 : (Jvm.Cond.static ({ cls := "BlockCode$Key", name := "mix", desc := "([I)V" } : Jvm.MethodName)) ∈ G := G_in (List.mem_of_getElem? (i := 188) rfl) rfl
set_option maxRecDepth 20000 in
theorem g_172 : (Jvm.Cond.code ({ cls := "BlockCode$Key", name := "mix", desc := "([I)V" } : Jvm.MethodName) prog_2_method_15_code (6 : Nat) (Option.none : Option Jvm.ClassFile.FieldType)) ∈ G := G_in (List.mem_of_getElem? (i := 189) rfl) rfl
set_option maxRecDepth 20000 in
theorem g_173 : (Jvm.Cond.methodLink "BlockCode$Key" (94 : Nat) ({ cls := "BlockCode$Key", name := "mixed", desc := "(IIII)I" } : Jvm.MethodName)) ∈ G := G_in (List.mem_of_getElem? (i := 190) rfl) rfl
set_option maxRecDepth 20000 in
theorem g_174 : (Jvm.Cond.static ({ cls := "BlockCode$Key", name := "mixed", desc := "(IIII)I" } : Jvm.MethodName)) ∈ G := G_in (List.mem_of_getElem? (i := 191) rfl) rfl
set_option maxRecDepth 20000 in
theorem g_175 : (Jvm.Cond.code ({ cls := "BlockCode$Key", name := "mixed", desc := "(IIII)I" } : Jvm.MethodName) prog_2_method_17_code (4 : Nat) (Option.some Jvm.ClassFile.FieldType.int)) ∈ G := G_in (List.mem_of_getElem? (i := 192) rfl) rfl
set_option maxRecDepth 20000 in
theorem g_176 : (Jvm.Cond.methodLink "BlockCode$Key" (68 : Nat) ({ cls := "BlockCode$Key", name := "putDoubled", desc := "([I[I)V" } : Jvm.MethodName)) ∈ G := G_in (List.mem_of_getElem? (i := 193) rfl) rfl
set_option maxRecDepth 20000 in
theorem g_177 : (Jvm.Cond.static ({ cls := "BlockCode$Key", name := "putDoubled", desc := "([I[I)V" } : Jvm.MethodName)) ∈ G := G_in (List.mem_of_getElem? (i := 194) rfl) rfl
set_option maxRecDepth 20000 in
theorem g_178 : (Jvm.Cond.code ({ cls := "BlockCode$Key", name := "putDoubled", desc := "([I[I)V" } : Jvm.MethodName) prog_2_method_9_code (4 : Nat) (Option.none : Option Jvm.ClassFile.FieldType)) ∈ G := G_in (List.mem_of_getElem? (i := 195) rfl) rfl
set_option maxRecDepth 20000 in
theorem g_179 : (Jvm.Cond.methodLink "BlockCodeLaw" (27 : Nat) ({ cls := "BlockCode", name := "macStart", desc := "()Z" } : Jvm.MethodName)) ∈ G := G_in (List.mem_of_getElem? (i := 196) rfl) rfl
set_option maxRecDepth 20000 in
theorem g_180 : (Jvm.Cond.instanceMethod ({ cls := "BlockCode", name := "macStart", desc := "()Z" } : Jvm.MethodName)) ∈ G := G_in (List.mem_of_getElem? (i := 197) rfl) rfl
set_option maxRecDepth 20000 in
theorem g_181 : (Jvm.Cond.selects "BlockCode" ({ cls := "BlockCode", name := "macStart", desc := "()Z" } : Jvm.MethodName) ({ cls := "BlockCode", name := "macStart", desc := "()Z" } : Jvm.MethodName)) ∈ G := G_in (List.mem_of_getElem? (i := 198) rfl) rfl
set_option maxRecDepth 20000 in
theorem g_182 : (Jvm.Cond.code ({ cls := "BlockCode", name := "macStart", desc := "()Z" } : Jvm.MethodName) prog_1_method_5_code (1 : Nat) (Option.some Jvm.ClassFile.FieldType.boolean)) ∈ G := G_in (List.mem_of_getElem? (i := 199) rfl) rfl
set_option maxRecDepth 20000 in
theorem g_183 : (Jvm.Cond.methodLink "BlockCode" (60 : Nat) ({ cls := "BlockCode$Message", name := "begin", desc := "()V" } : Jvm.MethodName)) ∈ G := G_in (List.mem_of_getElem? (i := 200) rfl) rfl
set_option maxRecDepth 20000 in
theorem g_184 : (Jvm.Cond.instanceMethod ({ cls := "BlockCode$Message", name := "begin", desc := "()V" } : Jvm.MethodName)) ∈ G := G_in (List.mem_of_getElem? (i := 201) rfl) rfl
set_option maxRecDepth 20000 in
theorem g_185 : (Jvm.Cond.selects "BlockCode$Message" ({ cls := "BlockCode$Message", name := "begin", desc := "()V" } : Jvm.MethodName) ({ cls := "BlockCode$Message", name := "begin", desc := "()V" } : Jvm.MethodName)) ∈ G := G_in (List.mem_of_getElem? (i := 202) rfl) rfl
set_option maxRecDepth 20000 in
theorem g_186 : (Jvm.Cond.code ({ cls := "BlockCode$Message", name := "begin", desc := "()V" } : Jvm.MethodName) prog_3_method_3_code (1 : Nat) (Option.none : Option Jvm.ClassFile.FieldType)) ∈ G := G_in (List.mem_of_getElem? (i := 203) rfl) rfl
set_option maxRecDepth 20000 in
theorem g_187 : (Jvm.Cond.methodLink "BlockCode$Message" (32 : Nat) ({ cls := "java/util/Arrays", name := "fill", desc := "([II)V" } : Jvm.MethodName)) ∈ G := G_in (List.mem_of_getElem? (i := 204) rfl) rfl
set_option maxRecDepth 20000 in
theorem g_188 : (Jvm.Cond.methodLink "BlockCodeLaw" (31 : Nat) ({ cls := "BlockCode", name := "macUpdate", desc := "(I)Z" } : Jvm.MethodName)) ∈ G := G_in (List.mem_of_getElem? (i := 205) rfl) rfl
set_option maxRecDepth 20000 in
theorem g_189 : (Jvm.Cond.instanceMethod ({ cls := "BlockCode", name := "macUpdate", desc := "(I)Z" } : Jvm.MethodName)) ∈ G := G_in (List.mem_of_getElem? (i := 206) rfl) rfl
set_option maxRecDepth 20000 in
theorem g_190 : (Jvm.Cond.selects "BlockCode" ({ cls := "BlockCode", name := "macUpdate", desc := "(I)Z" } : Jvm.MethodName) ({ cls := "BlockCode", name := "macUpdate", desc := "(I)Z" } : Jvm.MethodName)) ∈ G := G_in (List.mem_of_getElem? (i := 207) rfl) rfl
set_option maxRecDepth 20000 in
theorem g_191 : (Jvm.Cond.code ({ cls := "BlockCode", name := "macUpdate", desc := "(I)Z" } : Jvm.MethodName) prog_1_method_6_code (2 : Nat) (Option.some Jvm.ClassFile.FieldType.boolean)) ∈ G := G_in (List.mem_of_getElem? (i := 208) rfl) rfl
set_option maxRecDepth 20000 in
theorem g_192 : (Jvm.Cond.methodLink "BlockCode" (66 : Nat) ({ cls := "BlockCode$Message", name := "take", desc := "(ILBlockCode$Key;)V" } : Jvm.MethodName)) ∈ G := G_in (List.mem_of_getElem? (i := 209) rfl) rfl
set_option maxRecDepth 20000 in
theorem g_193 : (Jvm.Cond.instanceMethod ({ cls := "BlockCode$Message", name := "take", desc := "(ILBlockCode$Key;)V" } : Jvm.MethodName)) ∈ G := G_in (List.mem_of_getElem? (i := 210) rfl) rfl
set_option maxRecDepth 20000 in
theorem g_194 : (Jvm.Cond.selects "BlockCode$Message" ({ cls := "BlockCode$Message", name := "take", desc := "(ILBlockCode$Key;)V" } : Jvm.MethodName) ({ cls := "BlockCode$Message", name := "take", desc := "(ILBlockCode$Key;)V" } : Jvm.MethodName)) ∈ G := G_in (List.mem_of_getElem? (i := 211) rfl) rfl
set_option maxRecDepth 20000 in
theorem g_195 : (Jvm.Cond.code ({ cls := "BlockCode$Message", name := "take", desc := "(ILBlockCode$Key;)V" } : Jvm.MethodName) prog_3_method_4_code (3 : Nat) (Option.none : Option Jvm.ClassFile.FieldType)) ∈ G := G_in (List.mem_of_getElem? (i := 212) rfl) rfl
set_option maxRecDepth 20000 in
theorem g_196 : (Jvm.Cond.methodLink "BlockCode$Message" (38 : Nat) ({ cls := "BlockCode$Key", name := "goForth", desc := "([I)V" } : Jvm.MethodName)) ∈ G := G_in (List.mem_of_getElem? (i := 213) rfl) rfl
set_option maxRecDepth 20000 in
theorem g_197 : (Jvm.Cond.methodLink "BlockCodeLaw" (36 : Nat) ({ cls := "BlockCode", name := "macFill", desc := "(III)Z" } : Jvm.MethodName)) ∈ G := G_in (List.mem_of_getElem? (i := 214) rfl) rfl
set_option maxRecDepth 20000 in
theorem g_198 : (Jvm.Cond.instanceMethod ({ cls := "BlockCode", name := "macFill", desc := "(III)Z" } : Jvm.MethodName)) ∈ G := G_in (List.mem_of_getElem? (i := 215) rfl) rfl
set_option maxRecDepth 20000 in
theorem g_199 : (Jvm.Cond.selects "BlockCode" ({ cls := "BlockCode", name := "macFill", desc := "(III)Z" } : Jvm.MethodName) ({ cls := "BlockCode", name := "macFill", desc := "(III)Z" } : Jvm.MethodName)) ∈ G := G_in (List.mem_of_getElem? (i := 216) rfl) rfl
set_option maxRecDepth 20000 in
theorem g_200 : (Jvm.Cond.code ({ cls := "BlockCode", name := "macFill", desc := "(III)Z" } : Jvm.MethodName) prog_1_method_7_code (6 : Nat) (Option.some Jvm.ClassFile.FieldType.boolean)) ∈ G := G_in (List.mem_of_getElem? (i := 217) rfl) rfl
set_option maxRecDepth 20000 in
theorem g_201 : (Jvm.Cond.methodLink "BlockCodeLaw" (41 : Nat) ({ cls := "BlockCode", name := "macFinish", desc := "()Z" } : Jvm.MethodName)) ∈ G := G_in (List.mem_of_getElem? (i := 218) rfl) rfl
set_option maxRecDepth 20000 in
theorem g_202 : (Jvm.Cond.instanceMethod ({ cls := "BlockCode", name := "macFinish", desc := "()Z" } : Jvm.MethodName)) ∈ G := G_in (List.mem_of_getElem? (i := 219) rfl) rfl
set_option maxRecDepth 20000 in
theorem g_203 : (Jvm.Cond.selects "BlockCode" ({ cls := "BlockCode", name := "macFinish", desc := "()Z" } : Jvm.MethodName) ({ cls := "BlockCode", name := "macFinish", desc := "()Z" } : Jvm.MethodName)) ∈ G := G_in (List.mem_of_getElem? (i := 220) rfl) rfl
set_option maxRecDepth 20000 in
theorem g_204 : (Jvm.Cond.code ({ cls := "BlockCode", name := "macFinish", desc := "()Z" } : Jvm.MethodName) prog_1_method_8_code (1 : Nat) (Option.some Jvm.ClassFile.FieldType.boolean)) ∈ G := G_in (List.mem_of_getElem? (i := 221) rfl) rfl
set_option maxRecDepth 20000 in
theorem g_205 : (Jvm.Cond.methodLink "BlockCode" (70 : Nat) ({ cls := "BlockCode$Message", name := "end", desc := "(LBlockCode$Key;)V" } : Jvm.MethodName)) ∈ G := G_in (List.mem_of_getElem? (i := 222) rfl) rfl
set_option maxRecDepth 20000 in
theorem g_206 : (Jvm.Cond.instanceMethod ({ cls := "BlockCode$Message", name := "end", desc := "(LBlockCode$Key;)V" } : Jvm.MethodName)) ∈ G := G_in (List.mem_of_getElem? (i := 223) rfl) rfl
set_option maxRecDepth 20000 in
theorem g_207 : (Jvm.Cond.selects "BlockCode$Message" ({ cls := "BlockCode$Message", name := "end", desc := "(LBlockCode$Key;)V" } : Jvm.MethodName) ({ cls := "BlockCode$Message", name := "end", desc := "(LBlockCode$Key;)V" } : Jvm.MethodName)) ∈ G := G_in (List.mem_of_getElem? (i := 224) rfl) rfl
set_option maxRecDepth 20000 in
theorem g_208 : (Jvm.Cond.code ({ cls := "BlockCode$Message", name := "end", desc := "(LBlockCode$Key;)V" } : Jvm.MethodName) prog_3_method_5_code (2 : Nat) (Option.none : Option Jvm.ClassFile.FieldType)) ∈ G := G_in (List.mem_of_getElem? (i := 225) rfl) rfl
set_option maxRecDepth 20000 in
theorem n_209 : (Jvm.Cond.methodLinkNest "BlockCode$Message" (47 : Nat) ({ cls := "BlockCode", name := "xor", desc := "([I[II)V" } : Jvm.MethodName) "BlockCode") ∈ nests := nests_in (List.mem_of_getElem? (i := 209) rfl) rfl
set_option maxRecDepth 20000 in
theorem g_210 : (Jvm.Cond.methodLink "BlockCodeLaw" (45 : Nat) ({ cls := "BlockCode", name := "tagByte", desc := "(I)I" } : Jvm.MethodName)) ∈ G := G_in (List.mem_of_getElem? (i := 227) rfl) rfl
set_option maxRecDepth 20000 in
theorem g_211 : (Jvm.Cond.instanceMethod ({ cls := "BlockCode", name := "tagByte", desc := "(I)I" } : Jvm.MethodName)) ∈ G := G_in (List.mem_of_getElem? (i := 228) rfl) rfl
set_option maxRecDepth 20000 in
theorem g_212 : (Jvm.Cond.selects "BlockCode" ({ cls := "BlockCode", name := "tagByte", desc := "(I)I" } : Jvm.MethodName) ({ cls := "BlockCode", name := "tagByte", desc := "(I)I" } : Jvm.MethodName)) ∈ G := G_in (List.mem_of_getElem? (i := 229) rfl) rfl
set_option maxRecDepth 20000 in
theorem g_213 : (Jvm.Cond.code ({ cls := "BlockCode", name := "tagByte", desc := "(I)I" } : Jvm.MethodName) prog_1_method_9_code (2 : Nat) (Option.some Jvm.ClassFile.FieldType.int)) ∈ G := G_in (List.mem_of_getElem? (i := 230) rfl) rfl
set_option maxRecDepth 20000 in
theorem g_214 : (Jvm.Cond.methodLink "BlockCodeLaw" (50 : Nat) ({ cls := "BlockCode", name := "macCheck", desc := "(II)Z" } : Jvm.MethodName)) ∈ G := G_in (List.mem_of_getElem? (i := 231) rfl) rfl
set_option maxRecDepth 20000 in
theorem g_215 : (Jvm.Cond.instanceMethod ({ cls := "BlockCode", name := "macCheck", desc := "(II)Z" } : Jvm.MethodName)) ∈ G := G_in (List.mem_of_getElem? (i := 232) rfl) rfl
set_option maxRecDepth 20000 in
theorem g_216 : (Jvm.Cond.selects "BlockCode" ({ cls := "BlockCode", name := "macCheck", desc := "(II)Z" } : Jvm.MethodName) ({ cls := "BlockCode", name := "macCheck", desc := "(II)Z" } : Jvm.MethodName)) ∈ G := G_in (List.mem_of_getElem? (i := 233) rfl) rfl
set_option maxRecDepth 20000 in
theorem g_217 : (Jvm.Cond.code ({ cls := "BlockCode", name := "macCheck", desc := "(II)Z" } : Jvm.MethodName) prog_1_method_10_code (3 : Nat) (Option.some Jvm.ClassFile.FieldType.boolean)) ∈ G := G_in (List.mem_of_getElem? (i := 234) rfl) rfl
set_option maxRecDepth 20000 in
theorem g_218 : (Jvm.Cond.methodLink "BlockCode" (80 : Nat) ({ cls := "BlockCode$Message", name := "compare", desc := "(II)V" } : Jvm.MethodName)) ∈ G := G_in (List.mem_of_getElem? (i := 235) rfl) rfl
set_option maxRecDepth 20000 in
theorem g_219 : (Jvm.Cond.instanceMethod ({ cls := "BlockCode$Message", name := "compare", desc := "(II)V" } : Jvm.MethodName)) ∈ G := G_in (List.mem_of_getElem? (i := 236) rfl) rfl
set_option maxRecDepth 20000 in
theorem g_220 : (Jvm.Cond.selects "BlockCode$Message" ({ cls := "BlockCode$Message", name := "compare", desc := "(II)V" } : Jvm.MethodName) ({ cls := "BlockCode$Message", name := "compare", desc := "(II)V" } : Jvm.MethodName)) ∈ G := G_in (List.mem_of_getElem? (i := 237) rfl) rfl
set_option maxRecDepth 20000 in
theorem g_221 : (Jvm.Cond.code ({ cls := "BlockCode$Message", name := "compare", desc := "(II)V" } : Jvm.MethodName) prog_3_method_6_code (3 : Nat) (Option.none : Option Jvm.ClassFile.FieldType)) ∈ G := G_in (List.mem_of_getElem? (i := 238) rfl) rfl
set_option maxRecDepth 20000 in
theorem g_222 : (Jvm.Cond.methodLink "BlockCodeLaw" (54 : Nat) ({ cls := "BlockCode", name := "macVerdict", desc := "()Z" } : Jvm.MethodName)) ∈ G := G_in (List.mem_of_getElem? (i := 239) rfl) rfl
set_option maxRecDepth 20000 in
theorem g_223 : (Jvm.Cond.instanceMethod ({ cls := "BlockCode", name := "macVerdict", desc := "()Z" } : Jvm.MethodName)) ∈ G := G_in (List.mem_of_getElem? (i := 240) rfl) rfl
set_option maxRecDepth 20000 in
theorem g_224 : (Jvm.Cond.selects "BlockCode" ({ cls := "BlockCode", name := "macVerdict", desc := "()Z" } : Jvm.MethodName) ({ cls := "BlockCode", name := "macVerdict", desc := "()Z" } : Jvm.MethodName)) ∈ G := G_in (List.mem_of_getElem? (i := 241) rfl) rfl
set_option maxRecDepth 20000 in
theorem g_225 : (Jvm.Cond.code ({ cls := "BlockCode", name := "macVerdict", desc := "()Z" } : Jvm.MethodName) prog_1_method_11_code (1 : Nat) (Option.some Jvm.ClassFile.FieldType.boolean)) ∈ G := G_in (List.mem_of_getElem? (i := 242) rfl) rfl
set_option maxRecDepth 20000 in
theorem g_226 : (Jvm.Cond.constant "BlockCode" (87 : Nat) (65535 : Int32)) ∈ G := G_in (List.mem_of_getElem? (i := 243) rfl) rfl
set_option maxRecDepth 20000 in
theorem g_227 : (Jvm.Cond.methodLink "BlockCodeLaw" (58 : Nat) ({ cls := "BlockCode", name := "setBlockByte", desc := "(II)Z" } : Jvm.MethodName)) ∈ G := G_in (List.mem_of_getElem? (i := 244) rfl) rfl
set_option maxRecDepth 20000 in
theorem g_228 : (Jvm.Cond.instanceMethod ({ cls := "BlockCode", name := "setBlockByte", desc := "(II)Z" } : Jvm.MethodName)) ∈ G := G_in (List.mem_of_getElem? (i := 245) rfl) rfl
set_option maxRecDepth 20000 in
theorem g_229 : (Jvm.Cond.selects "BlockCode" ({ cls := "BlockCode", name := "setBlockByte", desc := "(II)Z" } : Jvm.MethodName) ({ cls := "BlockCode", name := "setBlockByte", desc := "(II)Z" } : Jvm.MethodName)) ∈ G := G_in (List.mem_of_getElem? (i := 246) rfl) rfl
set_option maxRecDepth 20000 in
theorem g_230 : (Jvm.Cond.code ({ cls := "BlockCode", name := "setBlockByte", desc := "(II)Z" } : Jvm.MethodName) prog_1_method_12_code (3 : Nat) (Option.some Jvm.ClassFile.FieldType.boolean)) ∈ G := G_in (List.mem_of_getElem? (i := 247) rfl) rfl
set_option maxRecDepth 20000 in
theorem g_231 : (Jvm.Cond.methodLink "BlockCodeLaw" (62 : Nat) ({ cls := "BlockCode", name := "encryptBlock", desc := "()Z" } : Jvm.MethodName)) ∈ G := G_in (List.mem_of_getElem? (i := 248) rfl) rfl
set_option maxRecDepth 20000 in
theorem g_232 : (Jvm.Cond.instanceMethod ({ cls := "BlockCode", name := "encryptBlock", desc := "()Z" } : Jvm.MethodName)) ∈ G := G_in (List.mem_of_getElem? (i := 249) rfl) rfl
set_option maxRecDepth 20000 in
theorem g_233 : (Jvm.Cond.selects "BlockCode" ({ cls := "BlockCode", name := "encryptBlock", desc := "()Z" } : Jvm.MethodName) ({ cls := "BlockCode", name := "encryptBlock", desc := "()Z" } : Jvm.MethodName)) ∈ G := G_in (List.mem_of_getElem? (i := 250) rfl) rfl
set_option maxRecDepth 20000 in
theorem g_234 : (Jvm.Cond.code ({ cls := "BlockCode", name := "encryptBlock", desc := "()Z" } : Jvm.MethodName) prog_1_method_13_code (1 : Nat) (Option.some Jvm.ClassFile.FieldType.boolean)) ∈ G := G_in (List.mem_of_getElem? (i := 251) rfl) rfl
set_option maxRecDepth 20000 in
theorem g_235 : (Jvm.Cond.methodLink "BlockCode" (91 : Nat) ({ cls := "BlockCode$Key", name := "goForth", desc := "([I)V" } : Jvm.MethodName)) ∈ G := G_in (List.mem_of_getElem? (i := 252) rfl) rfl
set_option maxRecDepth 20000 in
theorem g_236 : (Jvm.Cond.methodLink "BlockCodeLaw" (66 : Nat) ({ cls := "BlockCode", name := "decryptBlock", desc := "()Z" } : Jvm.MethodName)) ∈ G := G_in (List.mem_of_getElem? (i := 253) rfl) rfl
set_option maxRecDepth 20000 in
theorem g_237 : (Jvm.Cond.instanceMethod ({ cls := "BlockCode", name := "decryptBlock", desc := "()Z" } : Jvm.MethodName)) ∈ G := G_in (List.mem_of_getElem? (i := 254) rfl) rfl
set_option maxRecDepth 20000 in
theorem g_238 : (Jvm.Cond.selects "BlockCode" ({ cls := "BlockCode", name := "decryptBlock", desc := "()Z" } : Jvm.MethodName) ({ cls := "BlockCode", name := "decryptBlock", desc := "()Z" } : Jvm.MethodName)) ∈ G := G_in (List.mem_of_getElem? (i := 255) rfl) rfl
set_option maxRecDepth 20000 in
theorem g_239 : (Jvm.Cond.code ({ cls := "BlockCode", name := "decryptBlock", desc := "()Z" } : Jvm.MethodName) prog_1_method_14_code (1 : Nat) (Option.some Jvm.ClassFile.FieldType.boolean)) ∈ G := G_in (List.mem_of_getElem? (i := 256) rfl) rfl
set_option maxRecDepth 20000 in
theorem g_240 : (Jvm.Cond.methodLink "BlockCode" (95 : Nat) ({ cls := "BlockCode$Key", name := "goBack", desc := "([I)V" } : Jvm.MethodName)) ∈ G := G_in (List.mem_of_getElem? (i := 257) rfl) rfl
set_option maxRecDepth 20000 in
theorem g_241 : (Jvm.Cond.instanceMethod ({ cls := "BlockCode$Key", name := "goBack", desc := "([I)V" } : Jvm.MethodName)) ∈ G := G_in (List.mem_of_getElem? (i := 258) rfl) rfl
set_option maxRecDepth 20000 in
theorem g_242 : (Jvm.Cond.selects "BlockCode$Key" ({ cls := "BlockCode$Key", name := "goBack", desc := "([I)V" } : Jvm.MethodName) ({ cls := "BlockCode$Key", name := "goBack", desc := "([I)V" } : Jvm.MethodName)) ∈ G := G_in (List.mem_of_getElem? (i := 259) rfl) rfl
set_option maxRecDepth 20000 in
theorem g_243 : (Jvm.Cond.code ({ cls := "BlockCode$Key", name := "goBack", desc := "([I)V" } : Jvm.MethodName) prog_2_method_11_code (3 : Nat) (Option.none : Option Jvm.ClassFile.FieldType)) ∈ G := G_in (List.mem_of_getElem? (i := 260) rfl) rfl
set_option maxRecDepth 20000 in
theorem g_244 : (Jvm.Cond.methodLink "BlockCode$Key" (82 : Nat) ({ cls := "BlockCode$Key", name := "unmix", desc := "([I)V" } : Jvm.MethodName)) ∈ G := G_in (List.mem_of_getElem? (i := 261) rfl) rfl
set_option maxRecDepth 20000 in
theorem g_245 : (Jvm.Cond.static ({ cls := "BlockCode$Key", name := "unmix", desc := "([I)V" } : Jvm.MethodName)) ∈ G := G_in (List.mem_of_getElem? (i := 262) rfl) rfl
set_option maxRecDepth 20000 in
theorem g_246 : (Jvm.Cond.code ({ cls := "BlockCode$Key", name := "unmix", desc := "([I)V" } : Jvm.MethodName) prog_2_method_16_code (1 : Nat) (Option.none : Option Jvm.ClassFile.FieldType)) ∈ G := G_in (List.mem_of_getElem? (i := 263) rfl) rfl
set_option maxRecDepth 20000 in
theorem g_247 : (Jvm.Cond.methodLink "BlockCode$Key" (85 : Nat) ({ cls := "BlockCode$Key", name := "moveAndReplaceBack", desc := "([I)V" } : Jvm.MethodName)) ∈ G := G_in (List.mem_of_getElem? (i := 264) rfl) rfl
set_option maxRecDepth 20000 in
theorem g_249 : (Jvm.Cond.instanceMethod ({ cls := "BlockCode$Key", name := "moveAndReplaceBack", desc := "([I)V" } : Jvm.MethodName)) ∈ G := G_in (List.mem_of_getElem? (i := 266) rfl) rfl
set_option maxRecDepth 20000 in
theorem g_250 : (Jvm.Cond.code ({ cls := "BlockCode$Key", name := "moveAndReplaceBack", desc := "([I)V" } : Jvm.MethodName) prog_2_method_13_code (3 : Nat) (Option.none : Option Jvm.ClassFile.FieldType)) ∈ G := G_in (List.mem_of_getElem? (i := 267) rfl) rfl
set_option maxRecDepth 20000 in
theorem n_251 : (Jvm.Cond.fieldLinkNest "BlockCode$Key" (91 : Nat) "BlockCode" "UNDO_S" "[I" "BlockCode") ∈ nests := nests_in (List.mem_of_getElem? (i := 251) rfl) rfl
set_option maxRecDepth 20000 in
theorem g_253 : (Jvm.Cond.methodLink "BlockCodeLaw" (70 : Nat) ({ cls := "BlockCode", name := "chain", desc := "(Z)Z" } : Jvm.MethodName)) ∈ G := G_in (List.mem_of_getElem? (i := 270) rfl) rfl
set_option maxRecDepth 20000 in
theorem g_254 : (Jvm.Cond.instanceMethod ({ cls := "BlockCode", name := "chain", desc := "(Z)Z" } : Jvm.MethodName)) ∈ G := G_in (List.mem_of_getElem? (i := 271) rfl) rfl
set_option maxRecDepth 20000 in
theorem g_255 : (Jvm.Cond.selects "BlockCode" ({ cls := "BlockCode", name := "chain", desc := "(Z)Z" } : Jvm.MethodName) ({ cls := "BlockCode", name := "chain", desc := "(Z)Z" } : Jvm.MethodName)) ∈ G := G_in (List.mem_of_getElem? (i := 272) rfl) rfl
set_option maxRecDepth 20000 in
theorem g_256 : (Jvm.Cond.code ({ cls := "BlockCode", name := "chain", desc := "(Z)Z" } : Jvm.MethodName) prog_1_method_15_code (2 : Nat) (Option.some Jvm.ClassFile.FieldType.boolean)) ∈ G := G_in (List.mem_of_getElem? (i := 273) rfl) rfl
set_option maxRecDepth 20000 in
theorem g_257 : (Jvm.Cond.methodLink "BlockCode" (98 : Nat) ({ cls := "BlockCode", name := "chainBack", desc := "()V" } : Jvm.MethodName)) ∈ G := G_in (List.mem_of_getElem? (i := 274) rfl) rfl
set_option maxRecDepth 20000 in
theorem g_259 : (Jvm.Cond.instanceMethod ({ cls := "BlockCode", name := "chainBack", desc := "()V" } : Jvm.MethodName)) ∈ G := G_in (List.mem_of_getElem? (i := 276) rfl) rfl
set_option maxRecDepth 20000 in
theorem g_260 : (Jvm.Cond.code ({ cls := "BlockCode", name := "chainBack", desc := "()V" } : Jvm.MethodName) prog_1_method_20_code (1 : Nat) (Option.none : Option Jvm.ClassFile.FieldType)) ∈ G := G_in (List.mem_of_getElem? (i := 277) rfl) rfl
set_option maxRecDepth 20000 in
theorem g_261 : (Jvm.Cond.methodLink "BlockCode" (120 : Nat) ({ cls := "java/lang/System", name := "arraycopy", desc := "(Ljava/lang/Object;ILjava/lang/Object;II)V" } : Jvm.MethodName)) ∈ G := G_in (List.mem_of_getElem? (i := 278) rfl) rfl
set_option maxRecDepth 20000 in
theorem g_262 : (Jvm.Cond.methodLink "BlockCode" (116 : Nat) ({ cls := "BlockCode", name := "xor", desc := "([I[II)V" } : Jvm.MethodName)) ∈ G := G_in (List.mem_of_getElem? (i := 279) rfl) rfl
set_option maxRecDepth 20000 in
theorem g_263 : (Jvm.Cond.methodLink "BlockCode" (101 : Nat) ({ cls := "BlockCode", name := "chainForth", desc := "()V" } : Jvm.MethodName)) ∈ G := G_in (List.mem_of_getElem? (i := 280) rfl) rfl
set_option maxRecDepth 20000 in
theorem g_265 : (Jvm.Cond.instanceMethod ({ cls := "BlockCode", name := "chainForth", desc := "()V" } : Jvm.MethodName)) ∈ G := G_in (List.mem_of_getElem? (i := 282) rfl) rfl
set_option maxRecDepth 20000 in
theorem g_266 : (Jvm.Cond.code ({ cls := "BlockCode", name := "chainForth", desc := "()V" } : Jvm.MethodName) prog_1_method_19_code (1 : Nat) (Option.none : Option Jvm.ClassFile.FieldType)) ∈ G := G_in (List.mem_of_getElem? (i := 283) rfl) rfl
set_option maxRecDepth 20000 in
theorem g_267 : (Jvm.Cond.methodLink "BlockCodeLaw" (75 : Nat) ({ cls := "BlockCode", name := "unchain", desc := "()Z" } : Jvm.MethodName)) ∈ G := G_in (List.mem_of_getElem? (i := 284) rfl) rfl
set_option maxRecDepth 20000 in
theorem g_268 : (Jvm.Cond.instanceMethod ({ cls := "BlockCode", name := "unchain", desc := "()Z" } : Jvm.MethodName)) ∈ G := G_in (List.mem_of_getElem? (i := 285) rfl) rfl
set_option maxRecDepth 20000 in
theorem g_269 : (Jvm.Cond.selects "BlockCode" ({ cls := "BlockCode", name := "unchain", desc := "()Z" } : Jvm.MethodName) ({ cls := "BlockCode", name := "unchain", desc := "()Z" } : Jvm.MethodName)) ∈ G := G_in (List.mem_of_getElem? (i := 286) rfl) rfl
set_option maxRecDepth 20000 in
theorem g_270 : (Jvm.Cond.code ({ cls := "BlockCode", name := "unchain", desc := "()Z" } : Jvm.MethodName) prog_1_method_16_code (1 : Nat) (Option.some Jvm.ClassFile.FieldType.boolean)) ∈ G := G_in (List.mem_of_getElem? (i := 287) rfl) rfl
set_option maxRecDepth 20000 in
theorem g_271 : (Jvm.Cond.methodLink "BlockCode" (104 : Nat) ({ cls := "java/util/Arrays", name := "fill", desc := "([II)V" } : Jvm.MethodName)) ∈ G := G_in (List.mem_of_getElem? (i := 288) rfl) rfl
set_option maxRecDepth 20000 in
theorem g_272 : (Jvm.Cond.methodLink "BlockCodeLaw" (79 : Nat) ({ cls := "BlockCode", name := "blockByte", desc := "(I)I" } : Jvm.MethodName)) ∈ G := G_in (List.mem_of_getElem? (i := 289) rfl) rfl
set_option maxRecDepth 20000 in
theorem g_273 : (Jvm.Cond.instanceMethod ({ cls := "BlockCode", name := "blockByte", desc := "(I)I" } : Jvm.MethodName)) ∈ G := G_in (List.mem_of_getElem? (i := 290) rfl) rfl
set_option maxRecDepth 20000 in
theorem g_274 : (Jvm.Cond.selects "BlockCode" ({ cls := "BlockCode", name := "blockByte", desc := "(I)I" } : Jvm.MethodName) ({ cls := "BlockCode", name := "blockByte", desc := "(I)I" } : Jvm.MethodName)) ∈ G := G_in (List.mem_of_getElem? (i := 291) rfl) rfl
set_option maxRecDepth 20000 in
theorem g_275 : (Jvm.Cond.code ({ cls := "BlockCode", name := "blockByte", desc := "(I)I" } : Jvm.MethodName) prog_1_method_17_code (2 : Nat) (Option.some Jvm.ClassFile.FieldType.int)) ∈ G := G_in (List.mem_of_getElem? (i := 292) rfl) rfl
set_option maxRecDepth 20000 in
theorem g_276 : (Jvm.Cond.methodLink "BlockCodeLaw" (83 : Nat) ({ cls := "BlockCode", name := "half", desc := "(II)I" } : Jvm.MethodName)) ∈ G := G_in (List.mem_of_getElem? (i := 293) rfl) rfl
set_option maxRecDepth 20000 in
theorem g_277 : (Jvm.Cond.instanceMethod ({ cls := "BlockCode", name := "half", desc := "(II)I" } : Jvm.MethodName)) ∈ G := G_in (List.mem_of_getElem? (i := 294) rfl) rfl
set_option maxRecDepth 20000 in
theorem g_278 : (Jvm.Cond.selects "BlockCode" ({ cls := "BlockCode", name := "half", desc := "(II)I" } : Jvm.MethodName) ({ cls := "BlockCode", name := "half", desc := "(II)I" } : Jvm.MethodName)) ∈ G := G_in (List.mem_of_getElem? (i := 295) rfl) rfl
set_option maxRecDepth 20000 in
theorem g_279 : (Jvm.Cond.code ({ cls := "BlockCode", name := "half", desc := "(II)I" } : Jvm.MethodName) prog_1_method_18_code (3 : Nat) (Option.some Jvm.ClassFile.FieldType.int)) ∈ G := G_in (List.mem_of_getElem? (i := 296) rfl) rfl
set_option maxRecDepth 20000 in
theorem g_280 : (Jvm.Cond.classLink "BlockCodeLaw" (10 : Nat) "BlockCodeModel") ∈ G := G_in (List.mem_of_getElem? (i := 297) rfl) rfl
set_option maxRecDepth 20000 in
theorem g_281 : (Jvm.Cond.instantiable "BlockCodeModel" (18 : Nat)) ∈ G := G_in (List.mem_of_getElem? (i := 298) rfl) rfl
set_option maxRecDepth 20000 in
theorem g_282 : (Jvm.Cond.methodLink "BlockCodeLaw" (12 : Nat) ({ cls := "BlockCodeModel", name := "<init>", desc := "()V" } : Jvm.MethodName)) ∈ G := G_in (List.mem_of_getElem? (i := 299) rfl) rfl
set_option maxRecDepth 20000 in
theorem g_283 : (Jvm.Cond.instanceMethod ({ cls := "BlockCodeModel", name := "<init>", desc := "()V" } : Jvm.MethodName)) ∈ G := G_in (List.mem_of_getElem? (i := 300) rfl) rfl
set_option maxRecDepth 20000 in
theorem g_284 : (Jvm.Cond.code ({ cls := "BlockCodeModel", name := "<init>", desc := "()V" } : Jvm.MethodName) prog_5_method_1_code (6 : Nat) (Option.none : Option Jvm.ClassFile.FieldType)) ∈ G := G_in (List.mem_of_getElem? (i := 301) rfl) rfl
set_option maxRecDepth 20000 in
theorem g_285 : (Jvm.Cond.methodLink "BlockCodeModel" (1 : Nat) ({ cls := "java/lang/Object", name := "<init>", desc := "()V" } : Jvm.MethodName)) ∈ G := G_in (List.mem_of_getElem? (i := 302) rfl) rfl
set_option maxRecDepth 20000 in
theorem g_286 : (Jvm.Cond.methodLink "BlockCodeModel" (47 : Nat) ({ cls := "BlockCodeModel", name := "times", desc := "(II)I" } : Jvm.MethodName)) ∈ G := G_in (List.mem_of_getElem? (i := 303) rfl) rfl
set_option maxRecDepth 20000 in
theorem g_287 : (Jvm.Cond.static ({ cls := "BlockCodeModel", name := "times", desc := "(II)I" } : Jvm.MethodName)) ∈ G := G_in (List.mem_of_getElem? (i := 304) rfl) rfl
set_option maxRecDepth 20000 in
theorem g_288 : (Jvm.Cond.code ({ cls := "BlockCodeModel", name := "times", desc := "(II)I" } : Jvm.MethodName) prog_5_method_2_code (5 : Nat) (Option.some Jvm.ClassFile.FieldType.int)) ∈ G := G_in (List.mem_of_getElem? (i := 305) rfl) rfl
set_option maxRecDepth 20000 in
theorem g_289 : (Jvm.Cond.fieldLink "BlockCodeModel" (51 : Nat) "BlockCodeModel" "thrown" "I") ∈ G := G_in (List.mem_of_getElem? (i := 306) rfl) rfl
set_option maxRecDepth 20000 in
theorem g_290 : (Jvm.Cond.fieldLink "BlockCodeModel" (55 : Nat) "BlockCodeModel" "ready" "Z") ∈ G := G_in (List.mem_of_getElem? (i := 307) rfl) rfl
set_option maxRecDepth 20000 in
theorem g_291 : (Jvm.Cond.fieldLink "BlockCodeModel" (59 : Nat) "BlockCodeModel" "made" "Z") ∈ G := G_in (List.mem_of_getElem? (i := 308) rfl) rfl
set_option maxRecDepth 20000 in
theorem g_292 : (Jvm.Cond.fieldLink "BlockCodeModel" (62 : Nat) "BlockCodeModel" "message" "I") ∈ G := G_in (List.mem_of_getElem? (i := 309) rfl) rfl
set_option maxRecDepth 20000 in
theorem g_293 : (Jvm.Cond.fieldLink "BlockCodeModel" (7 : Nat) "BlockCodeModel" "key" "[I") ∈ G := G_in (List.mem_of_getElem? (i := 310) rfl) rfl
set_option maxRecDepth 20000 in
theorem g_294 : (Jvm.Cond.fieldLink "BlockCodeModel" (13 : Nat) "BlockCodeModel" "block" "[I") ∈ G := G_in (List.mem_of_getElem? (i := 311) rfl) rfl
set_option maxRecDepth 20000 in
theorem g_295 : (Jvm.Cond.fieldLink "BlockCodeModel" (16 : Nat) "BlockCodeModel" "before" "[I") ∈ G := G_in (List.mem_of_getElem? (i := 312) rfl) rfl
set_option maxRecDepth 20000 in
theorem g_296 : (Jvm.Cond.fieldLink "BlockCodeModel" (19 : Nat) "BlockCodeModel" "s" "[I") ∈ G := G_in (List.mem_of_getElem? (i := 313) rfl) rfl
set_option maxRecDepth 20000 in
theorem g_297 : (Jvm.Cond.fieldLink "BlockCodeModel" (22 : Nat) "BlockCodeModel" "unS" "[I") ∈ G := G_in (List.mem_of_getElem? (i := 314) rfl) rfl
set_option maxRecDepth 20000 in
theorem g_298 : (Jvm.Cond.fieldLink "BlockCodeModel" (25 : Nat) "BlockCodeModel" "words" "[I") ∈ G := G_in (List.mem_of_getElem? (i := 315) rfl) rfl
set_option maxRecDepth 20000 in
theorem g_299 : (Jvm.Cond.fieldLink "BlockCodeModel" (28 : Nat) "BlockCodeModel" "halves" "[I") ∈ G := G_in (List.mem_of_getElem? (i := 316) rfl) rfl
set_option maxRecDepth 20000 in
theorem g_300 : (Jvm.Cond.fieldLink "BlockCodeModel" (31 : Nat) "BlockCodeModel" "state" "[I") ∈ G := G_in (List.mem_of_getElem? (i := 317) rfl) rfl
set_option maxRecDepth 20000 in
theorem g_301 : (Jvm.Cond.fieldLink "BlockCodeModel" (34 : Nat) "BlockCodeModel" "moved" "[I") ∈ G := G_in (List.mem_of_getElem? (i := 318) rfl) rfl
set_option maxRecDepth 20000 in
theorem g_302 : (Jvm.Cond.fieldLink "BlockCodeModel" (37 : Nat) "BlockCodeModel" "code" "[I") ∈ G := G_in (List.mem_of_getElem? (i := 319) rfl) rfl
set_option maxRecDepth 20000 in
theorem g_303 : (Jvm.Cond.fieldLink "BlockCodeModel" (40 : Nat) "BlockCodeModel" "last" "[I") ∈ G := G_in (List.mem_of_getElem? (i := 320) rfl) rfl
set_option maxRecDepth 20000 in
theorem g_304 : (Jvm.Cond.fieldLink "BlockCodeModel" (86 : Nat) "BlockCodeModel" "lastCount" "I") ∈ G := G_in (List.mem_of_getElem? (i := 321) rfl) rfl
set_option maxRecDepth 20000 in
theorem g_305 : (Jvm.Cond.fieldLink "BlockCodeModel" (43 : Nat) "BlockCodeModel" "compared" "[Z") ∈ G := G_in (List.mem_of_getElem? (i := 322) rfl) rfl
set_option maxRecDepth 20000 in
theorem g_306 : (Jvm.Cond.fieldLink "BlockCodeModel" (95 : Nat) "BlockCodeModel" "wrong" "Z") ∈ G := G_in (List.mem_of_getElem? (i := 323) rfl) rfl
set_option maxRecDepth 20000 in
theorem g_307 : (Jvm.Cond.lays "BlockCodeModel" "BlockCodeModel" "thrown" "I") ∈ G := G_in (List.mem_of_getElem? (i := 324) rfl) rfl
set_option maxRecDepth 20000 in
theorem g_308 : (Jvm.Cond.soleField "BlockCodeModel" "thrown") ∈ G := G_in (List.mem_of_getElem? (i := 325) rfl) rfl
set_option maxRecDepth 20000 in
theorem g_309 : (Jvm.Cond.lays "BlockCodeModel" "BlockCodeModel" "ready" "Z") ∈ G := G_in (List.mem_of_getElem? (i := 326) rfl) rfl
set_option maxRecDepth 20000 in
theorem g_310 : (Jvm.Cond.soleField "BlockCodeModel" "ready") ∈ G := G_in (List.mem_of_getElem? (i := 327) rfl) rfl
set_option maxRecDepth 20000 in
theorem g_311 : (Jvm.Cond.lays "BlockCodeModel" "BlockCodeModel" "made" "Z") ∈ G := G_in (List.mem_of_getElem? (i := 328) rfl) rfl
set_option maxRecDepth 20000 in
theorem g_312 : (Jvm.Cond.soleField "BlockCodeModel" "made") ∈ G := G_in (List.mem_of_getElem? (i := 329) rfl) rfl
set_option maxRecDepth 20000 in
theorem g_313 : (Jvm.Cond.lays "BlockCodeModel" "BlockCodeModel" "message" "I") ∈ G := G_in (List.mem_of_getElem? (i := 330) rfl) rfl
set_option maxRecDepth 20000 in
theorem g_314 : (Jvm.Cond.soleField "BlockCodeModel" "message") ∈ G := G_in (List.mem_of_getElem? (i := 331) rfl) rfl
set_option maxRecDepth 20000 in
theorem g_315 : (Jvm.Cond.laysFinal "BlockCodeModel" "BlockCodeModel" "key" "[I") ∈ G := G_in (List.mem_of_getElem? (i := 332) rfl) rfl
set_option maxRecDepth 20000 in
theorem g_316 : (Jvm.Cond.soleField "BlockCodeModel" "key") ∈ G := G_in (List.mem_of_getElem? (i := 333) rfl) rfl
set_option maxRecDepth 20000 in
theorem g_317 : (Jvm.Cond.laysFinal "BlockCodeModel" "BlockCodeModel" "block" "[I") ∈ G := G_in (List.mem_of_getElem? (i := 334) rfl) rfl
set_option maxRecDepth 20000 in
theorem g_318 : (Jvm.Cond.soleField "BlockCodeModel" "block") ∈ G := G_in (List.mem_of_getElem? (i := 335) rfl) rfl
set_option maxRecDepth 20000 in
theorem g_319 : (Jvm.Cond.laysFinal "BlockCodeModel" "BlockCodeModel" "before" "[I") ∈ G := G_in (List.mem_of_getElem? (i := 336) rfl) rfl
set_option maxRecDepth 20000 in
theorem g_320 : (Jvm.Cond.soleField "BlockCodeModel" "before") ∈ G := G_in (List.mem_of_getElem? (i := 337) rfl) rfl
set_option maxRecDepth 20000 in
theorem g_321 : (Jvm.Cond.laysFinal "BlockCodeModel" "BlockCodeModel" "s" "[I") ∈ G := G_in (List.mem_of_getElem? (i := 338) rfl) rfl
set_option maxRecDepth 20000 in
theorem g_322 : (Jvm.Cond.soleField "BlockCodeModel" "s") ∈ G := G_in (List.mem_of_getElem? (i := 339) rfl) rfl
set_option maxRecDepth 20000 in
theorem g_323 : (Jvm.Cond.laysFinal "BlockCodeModel" "BlockCodeModel" "unS" "[I") ∈ G := G_in (List.mem_of_getElem? (i := 340) rfl) rfl
set_option maxRecDepth 20000 in
theorem g_324 : (Jvm.Cond.soleField "BlockCodeModel" "unS") ∈ G := G_in (List.mem_of_getElem? (i := 341) rfl) rfl
set_option maxRecDepth 20000 in
theorem g_325 : (Jvm.Cond.laysFinal "BlockCodeModel" "BlockCodeModel" "words" "[I") ∈ G := G_in (List.mem_of_getElem? (i := 342) rfl) rfl
set_option maxRecDepth 20000 in
theorem g_326 : (Jvm.Cond.soleField "BlockCodeModel" "words") ∈ G := G_in (List.mem_of_getElem? (i := 343) rfl) rfl
set_option maxRecDepth 20000 in
theorem g_327 : (Jvm.Cond.laysFinal "BlockCodeModel" "BlockCodeModel" "halves" "[I") ∈ G := G_in (List.mem_of_getElem? (i := 344) rfl) rfl
set_option maxRecDepth 20000 in
theorem g_328 : (Jvm.Cond.soleField "BlockCodeModel" "halves") ∈ G := G_in (List.mem_of_getElem? (i := 345) rfl) rfl
set_option maxRecDepth 20000 in
theorem g_329 : (Jvm.Cond.laysFinal "BlockCodeModel" "BlockCodeModel" "state" "[I") ∈ G := G_in (List.mem_of_getElem? (i := 346) rfl) rfl
set_option maxRecDepth 20000 in
theorem g_330 : (Jvm.Cond.soleField "BlockCodeModel" "state") ∈ G := G_in (List.mem_of_getElem? (i := 347) rfl) rfl
set_option maxRecDepth 20000 in
theorem g_331 : (Jvm.Cond.laysFinal "BlockCodeModel" "BlockCodeModel" "moved" "[I") ∈ G := G_in (List.mem_of_getElem? (i := 348) rfl) rfl
set_option maxRecDepth 20000 in
theorem g_332 : (Jvm.Cond.soleField "BlockCodeModel" "moved") ∈ G := G_in (List.mem_of_getElem? (i := 349) rfl) rfl
set_option maxRecDepth 20000 in
theorem g_333 : (Jvm.Cond.laysFinal "BlockCodeModel" "BlockCodeModel" "code" "[I") ∈ G := G_in (List.mem_of_getElem? (i := 350) rfl) rfl
set_option maxRecDepth 20000 in
theorem g_334 : (Jvm.Cond.soleField "BlockCodeModel" "code") ∈ G := G_in (List.mem_of_getElem? (i := 351) rfl) rfl
set_option maxRecDepth 20000 in
theorem g_335 : (Jvm.Cond.laysFinal "BlockCodeModel" "BlockCodeModel" "last" "[I") ∈ G := G_in (List.mem_of_getElem? (i := 352) rfl) rfl
set_option maxRecDepth 20000 in
theorem g_336 : (Jvm.Cond.soleField "BlockCodeModel" "last") ∈ G := G_in (List.mem_of_getElem? (i := 353) rfl) rfl
set_option maxRecDepth 20000 in
theorem g_337 : (Jvm.Cond.lays "BlockCodeModel" "BlockCodeModel" "lastCount" "I") ∈ G := G_in (List.mem_of_getElem? (i := 354) rfl) rfl
set_option maxRecDepth 20000 in
theorem g_338 : (Jvm.Cond.soleField "BlockCodeModel" "lastCount") ∈ G := G_in (List.mem_of_getElem? (i := 355) rfl) rfl
set_option maxRecDepth 20000 in
theorem g_339 : (Jvm.Cond.laysFinal "BlockCodeModel" "BlockCodeModel" "compared" "[Z") ∈ G := G_in (List.mem_of_getElem? (i := 356) rfl) rfl
set_option maxRecDepth 20000 in
theorem g_340 : (Jvm.Cond.soleField "BlockCodeModel" "compared") ∈ G := G_in (List.mem_of_getElem? (i := 357) rfl) rfl
set_option maxRecDepth 20000 in
theorem g_341 : (Jvm.Cond.lays "BlockCodeModel" "BlockCodeModel" "wrong" "Z") ∈ G := G_in (List.mem_of_getElem? (i := 358) rfl) rfl
set_option maxRecDepth 20000 in
theorem g_342 : (Jvm.Cond.soleField "BlockCodeModel" "wrong") ∈ G := G_in (List.mem_of_getElem? (i := 359) rfl) rfl
set_option maxRecDepth 20000 in
theorem g_343 : (Jvm.Cond.superclass "BlockCodeModel" "java/lang/Object") ∈ G := G_in (List.mem_of_getElem? (i := 360) rfl) rfl
set_option maxRecDepth 20000 in
theorem g_344 : (Jvm.Cond.arrayClass Jvm.ClassFile.FieldType.boolean) ∈ G := G_in (List.mem_of_getElem? (i := 361) rfl) rfl
set_option maxRecDepth 20000 in
theorem g_345 : (Jvm.Cond.methodLink "BlockCodeLaw" (16 : Nat) ({ cls := "BlockCodeModel", name := "init", desc := "()V" } : Jvm.MethodName)) ∈ G := G_in (List.mem_of_getElem? (i := 362) rfl) rfl
set_option maxRecDepth 20000 in
theorem g_346 : (Jvm.Cond.instanceMethod ({ cls := "BlockCodeModel", name := "init", desc := "()V" } : Jvm.MethodName)) ∈ G := G_in (List.mem_of_getElem? (i := 363) rfl) rfl
set_option maxRecDepth 20000 in
theorem g_347 : (Jvm.Cond.selects "BlockCodeModel" ({ cls := "BlockCodeModel", name := "init", desc := "()V" } : Jvm.MethodName) ({ cls := "BlockCodeModel", name := "init", desc := "()V" } : Jvm.MethodName)) ∈ G := G_in (List.mem_of_getElem? (i := 364) rfl) rfl
set_option maxRecDepth 20000 in
theorem g_348 : (Jvm.Cond.code ({ cls := "BlockCodeModel", name := "init", desc := "()V" } : Jvm.MethodName) prog_5_method_5_code (2 : Nat) (Option.none : Option Jvm.ClassFile.FieldType)) ∈ G := G_in (List.mem_of_getElem? (i := 365) rfl) rfl
set_option maxRecDepth 20000 in
theorem g_349 : (Jvm.Cond.methodLink "BlockCodeLaw" (21 : Nat) ({ cls := "BlockCodeModel", name := "setKeyByte", desc := "(II)Z" } : Jvm.MethodName)) ∈ G := G_in (List.mem_of_getElem? (i := 366) rfl) rfl
set_option maxRecDepth 20000 in
theorem g_350 : (Jvm.Cond.instanceMethod ({ cls := "BlockCodeModel", name := "setKeyByte", desc := "(II)Z" } : Jvm.MethodName)) ∈ G := G_in (List.mem_of_getElem? (i := 367) rfl) rfl
set_option maxRecDepth 20000 in
theorem g_351 : (Jvm.Cond.selects "BlockCodeModel" ({ cls := "BlockCodeModel", name := "setKeyByte", desc := "(II)Z" } : Jvm.MethodName) ({ cls := "BlockCodeModel", name := "setKeyByte", desc := "(II)Z" } : Jvm.MethodName)) ∈ G := G_in (List.mem_of_getElem? (i := 368) rfl) rfl
set_option maxRecDepth 20000 in
theorem g_352 : (Jvm.Cond.code ({ cls := "BlockCodeModel", name := "setKeyByte", desc := "(II)Z" } : Jvm.MethodName) prog_5_method_6_code (3 : Nat) (Option.some Jvm.ClassFile.FieldType.boolean)) ∈ G := G_in (List.mem_of_getElem? (i := 369) rfl) rfl
set_option maxRecDepth 20000 in
theorem g_353 : (Jvm.Cond.methodLink "BlockCodeModel" (65 : Nat) ({ cls := "BlockCodeModel", name := "isIn", desc := "(II)Z" } : Jvm.MethodName)) ∈ G := G_in (List.mem_of_getElem? (i := 370) rfl) rfl
set_option maxRecDepth 20000 in
theorem g_354 : (Jvm.Cond.static ({ cls := "BlockCodeModel", name := "isIn", desc := "(II)Z" } : Jvm.MethodName)) ∈ G := G_in (List.mem_of_getElem? (i := 371) rfl) rfl
set_option maxRecDepth 20000 in
theorem g_355 : (Jvm.Cond.code ({ cls := "BlockCodeModel", name := "isIn", desc := "(II)Z" } : Jvm.MethodName) prog_5_method_4_code (2 : Nat) (Option.some Jvm.ClassFile.FieldType.boolean)) ∈ G := G_in (List.mem_of_getElem? (i := 372) rfl) rfl
set_option maxRecDepth 20000 in
theorem g_356 : (Jvm.Cond.methodLink "BlockCodeLaw" (26 : Nat) ({ cls := "BlockCodeModel", name := "expand", desc := "()Z" } : Jvm.MethodName)) ∈ G := G_in (List.mem_of_getElem? (i := 373) rfl) rfl
set_option maxRecDepth 20000 in
theorem g_357 : (Jvm.Cond.instanceMethod ({ cls := "BlockCodeModel", name := "expand", desc := "()Z" } : Jvm.MethodName)) ∈ G := G_in (List.mem_of_getElem? (i := 374) rfl) rfl
set_option maxRecDepth 20000 in
theorem g_358 : (Jvm.Cond.selects "BlockCodeModel" ({ cls := "BlockCodeModel", name := "expand", desc := "()Z" } : Jvm.MethodName) ({ cls := "BlockCodeModel", name := "expand", desc := "()Z" } : Jvm.MethodName)) ∈ G := G_in (List.mem_of_getElem? (i := 375) rfl) rfl
set_option maxRecDepth 20000 in
theorem g_359 : (Jvm.Cond.code ({ cls := "BlockCodeModel", name := "expand", desc := "()Z" } : Jvm.MethodName) prog_5_method_13_code (2 : Nat) (Option.some Jvm.ClassFile.FieldType.boolean)) ∈ G := G_in (List.mem_of_getElem? (i := 376) rfl) rfl
set_option maxRecDepth 20000 in
theorem g_360 : (Jvm.Cond.methodLink "BlockCodeModel" (77 : Nat) ({ cls := "BlockCodeModel", name := "makeWords", desc := "()V" } : Jvm.MethodName)) ∈ G := G_in (List.mem_of_getElem? (i := 377) rfl) rfl
set_option maxRecDepth 20000 in
theorem g_362 : (Jvm.Cond.instanceMethod ({ cls := "BlockCodeModel", name := "makeWords", desc := "()V" } : Jvm.MethodName)) ∈ G := G_in (List.mem_of_getElem? (i := 379) rfl) rfl
set_option maxRecDepth 20000 in
theorem g_363 : (Jvm.Cond.code ({ cls := "BlockCodeModel", name := "makeWords", desc := "()V" } : Jvm.MethodName) prog_5_method_7_code (4 : Nat) (Option.none : Option Jvm.ClassFile.FieldType)) ∈ G := G_in (List.mem_of_getElem? (i := 380) rfl) rfl
set_option maxRecDepth 20000 in
theorem g_364 : (Jvm.Cond.methodLink "BlockCodeModel" (80 : Nat) ({ cls := "BlockCodeModel", name := "forth", desc := "()V" } : Jvm.MethodName)) ∈ G := G_in (List.mem_of_getElem? (i := 381) rfl) rfl
set_option maxRecDepth 20000 in
theorem g_366 : (Jvm.Cond.instanceMethod ({ cls := "BlockCodeModel", name := "forth", desc := "()V" } : Jvm.MethodName)) ∈ G := G_in (List.mem_of_getElem? (i := 383) rfl) rfl
set_option maxRecDepth 20000 in
theorem g_367 : (Jvm.Cond.code ({ cls := "BlockCodeModel", name := "forth", desc := "()V" } : Jvm.MethodName) prog_5_method_10_code (3 : Nat) (Option.none : Option Jvm.ClassFile.FieldType)) ∈ G := G_in (List.mem_of_getElem? (i := 384) rfl) rfl
set_option maxRecDepth 20000 in
theorem g_368 : (Jvm.Cond.methodLink "BlockCodeModel" (69 : Nat) ({ cls := "BlockCodeModel", name := "add", desc := "(I)V" } : Jvm.MethodName)) ∈ G := G_in (List.mem_of_getElem? (i := 385) rfl) rfl
set_option maxRecDepth 20000 in
theorem g_370 : (Jvm.Cond.instanceMethod ({ cls := "BlockCodeModel", name := "add", desc := "(I)V" } : Jvm.MethodName)) ∈ G := G_in (List.mem_of_getElem? (i := 387) rfl) rfl
set_option maxRecDepth 20000 in
theorem g_371 : (Jvm.Cond.code ({ cls := "BlockCodeModel", name := "add", desc := "(I)V" } : Jvm.MethodName) prog_5_method_8_code (3 : Nat) (Option.none : Option Jvm.ClassFile.FieldType)) ∈ G := G_in (List.mem_of_getElem? (i := 388) rfl) rfl
set_option maxRecDepth 20000 in
theorem g_372 : (Jvm.Cond.methodLink "BlockCodeModel" (73 : Nat) ({ cls := "BlockCodeModel", name := "columns", desc := "(IIII)V" } : Jvm.MethodName)) ∈ G := G_in (List.mem_of_getElem? (i := 389) rfl) rfl
set_option maxRecDepth 20000 in
theorem g_374 : (Jvm.Cond.instanceMethod ({ cls := "BlockCodeModel", name := "columns", desc := "(IIII)V" } : Jvm.MethodName)) ∈ G := G_in (List.mem_of_getElem? (i := 391) rfl) rfl
set_option maxRecDepth 20000 in
theorem g_375 : (Jvm.Cond.code ({ cls := "BlockCodeModel", name := "columns", desc := "(IIII)V" } : Jvm.MethodName) prog_5_method_9_code (7 : Nat) (Option.none : Option Jvm.ClassFile.FieldType)) ∈ G := G_in (List.mem_of_getElem? (i := 392) rfl) rfl
set_option maxRecDepth 20000 in
theorem g_376 : (Jvm.Cond.methodLink "BlockCodeModel" (83 : Nat) ({ cls := "BlockCodeModel", name := "twice", desc := "(I)V" } : Jvm.MethodName)) ∈ G := G_in (List.mem_of_getElem? (i := 393) rfl) rfl
set_option maxRecDepth 20000 in
theorem g_378 : (Jvm.Cond.instanceMethod ({ cls := "BlockCodeModel", name := "twice", desc := "(I)V" } : Jvm.MethodName)) ∈ G := G_in (List.mem_of_getElem? (i := 395) rfl) rfl
set_option maxRecDepth 20000 in
theorem g_379 : (Jvm.Cond.code ({ cls := "BlockCodeModel", name := "twice", desc := "(I)V" } : Jvm.MethodName) prog_5_method_12_code (5 : Nat) (Option.none : Option Jvm.ClassFile.FieldType)) ∈ G := G_in (List.mem_of_getElem? (i := 396) rfl) rfl
set_option maxRecDepth 20000 in
theorem g_380 : (Jvm.Cond.methodLink "BlockCodeLaw" (30 : Nat) ({ cls := "BlockCodeModel", name := "macStart", desc := "()Z" } : Jvm.MethodName)) ∈ G := G_in (List.mem_of_getElem? (i := 397) rfl) rfl
set_option maxRecDepth 20000 in
theorem g_381 : (Jvm.Cond.instanceMethod ({ cls := "BlockCodeModel", name := "macStart", desc := "()Z" } : Jvm.MethodName)) ∈ G := G_in (List.mem_of_getElem? (i := 398) rfl) rfl
set_option maxRecDepth 20000 in
theorem g_382 : (Jvm.Cond.selects "BlockCodeModel" ({ cls := "BlockCodeModel", name := "macStart", desc := "()Z" } : Jvm.MethodName) ({ cls := "BlockCodeModel", name := "macStart", desc := "()Z" } : Jvm.MethodName)) ∈ G := G_in (List.mem_of_getElem? (i := 399) rfl) rfl
set_option maxRecDepth 20000 in
theorem g_383 : (Jvm.Cond.code ({ cls := "BlockCodeModel", name := "macStart", desc := "()Z" } : Jvm.MethodName) prog_5_method_14_code (2 : Nat) (Option.some Jvm.ClassFile.FieldType.boolean)) ∈ G := G_in (List.mem_of_getElem? (i := 400) rfl) rfl
set_option maxRecDepth 20000 in
theorem g_384 : (Jvm.Cond.methodLink "BlockCodeLaw" (35 : Nat) ({ cls := "BlockCodeModel", name := "macUpdate", desc := "(I)Z" } : Jvm.MethodName)) ∈ G := G_in (List.mem_of_getElem? (i := 401) rfl) rfl
set_option maxRecDepth 20000 in
theorem g_385 : (Jvm.Cond.instanceMethod ({ cls := "BlockCodeModel", name := "macUpdate", desc := "(I)Z" } : Jvm.MethodName)) ∈ G := G_in (List.mem_of_getElem? (i := 402) rfl) rfl
set_option maxRecDepth 20000 in
theorem g_386 : (Jvm.Cond.selects "BlockCodeModel" ({ cls := "BlockCodeModel", name := "macUpdate", desc := "(I)Z" } : Jvm.MethodName) ({ cls := "BlockCodeModel", name := "macUpdate", desc := "(I)Z" } : Jvm.MethodName)) ∈ G := G_in (List.mem_of_getElem? (i := 403) rfl) rfl
set_option maxRecDepth 20000 in
theorem g_387 : (Jvm.Cond.code ({ cls := "BlockCodeModel", name := "macUpdate", desc := "(I)Z" } : Jvm.MethodName) prog_5_method_17_code (2 : Nat) (Option.some Jvm.ClassFile.FieldType.boolean)) ∈ G := G_in (List.mem_of_getElem? (i := 404) rfl) rfl
set_option maxRecDepth 20000 in
theorem g_388 : (Jvm.Cond.methodLink "BlockCodeModel" (92 : Nat) ({ cls := "BlockCodeModel", name := "feed", desc := "(I)V" } : Jvm.MethodName)) ∈ G := G_in (List.mem_of_getElem? (i := 405) rfl) rfl
set_option maxRecDepth 20000 in
theorem g_390 : (Jvm.Cond.instanceMethod ({ cls := "BlockCodeModel", name := "feed", desc := "(I)V" } : Jvm.MethodName)) ∈ G := G_in (List.mem_of_getElem? (i := 407) rfl) rfl
set_option maxRecDepth 20000 in
theorem g_391 : (Jvm.Cond.code ({ cls := "BlockCodeModel", name := "feed", desc := "(I)V" } : Jvm.MethodName) prog_5_method_16_code (2 : Nat) (Option.none : Option Jvm.ClassFile.FieldType)) ∈ G := G_in (List.mem_of_getElem? (i := 408) rfl) rfl
set_option maxRecDepth 20000 in
theorem g_392 : (Jvm.Cond.methodLink "BlockCodeModel" (89 : Nat) ({ cls := "BlockCodeModel", name := "take", desc := "()V" } : Jvm.MethodName)) ∈ G := G_in (List.mem_of_getElem? (i := 409) rfl) rfl
set_option maxRecDepth 20000 in
theorem g_394 : (Jvm.Cond.instanceMethod ({ cls := "BlockCodeModel", name := "take", desc := "()V" } : Jvm.MethodName)) ∈ G := G_in (List.mem_of_getElem? (i := 411) rfl) rfl
set_option maxRecDepth 20000 in
theorem g_395 : (Jvm.Cond.code ({ cls := "BlockCodeModel", name := "take", desc := "()V" } : Jvm.MethodName) prog_5_method_15_code (2 : Nat) (Option.none : Option Jvm.ClassFile.FieldType)) ∈ G := G_in (List.mem_of_getElem? (i := 412) rfl) rfl
set_option maxRecDepth 20000 in
theorem g_396 : (Jvm.Cond.methodLink "BlockCodeLaw" (40 : Nat) ({ cls := "BlockCodeModel", name := "macFill", desc := "(III)Z" } : Jvm.MethodName)) ∈ G := G_in (List.mem_of_getElem? (i := 413) rfl) rfl
set_option maxRecDepth 20000 in
theorem g_397 : (Jvm.Cond.instanceMethod ({ cls := "BlockCodeModel", name := "macFill", desc := "(III)Z" } : Jvm.MethodName)) ∈ G := G_in (List.mem_of_getElem? (i := 414) rfl) rfl
set_option maxRecDepth 20000 in
theorem g_398 : (Jvm.Cond.selects "BlockCodeModel" ({ cls := "BlockCodeModel", name := "macFill", desc := "(III)Z" } : Jvm.MethodName) ({ cls := "BlockCodeModel", name := "macFill", desc := "(III)Z" } : Jvm.MethodName)) ∈ G := G_in (List.mem_of_getElem? (i := 415) rfl) rfl
set_option maxRecDepth 20000 in
theorem g_399 : (Jvm.Cond.code ({ cls := "BlockCodeModel", name := "macFill", desc := "(III)Z" } : Jvm.MethodName) prog_5_method_18_code (6 : Nat) (Option.some Jvm.ClassFile.FieldType.boolean)) ∈ G := G_in (List.mem_of_getElem? (i := 416) rfl) rfl
set_option maxRecDepth 20000 in
theorem g_400 : (Jvm.Cond.methodLink "BlockCodeLaw" (44 : Nat) ({ cls := "BlockCodeModel", name := "macFinish", desc := "()Z" } : Jvm.MethodName)) ∈ G := G_in (List.mem_of_getElem? (i := 417) rfl) rfl
set_option maxRecDepth 20000 in
theorem g_401 : (Jvm.Cond.instanceMethod ({ cls := "BlockCodeModel", name := "macFinish", desc := "()Z" } : Jvm.MethodName)) ∈ G := G_in (List.mem_of_getElem? (i := 418) rfl) rfl
set_option maxRecDepth 20000 in
theorem g_402 : (Jvm.Cond.selects "BlockCodeModel" ({ cls := "BlockCodeModel", name := "macFinish", desc := "()Z" } : Jvm.MethodName) ({ cls := "BlockCodeModel", name := "macFinish", desc := "()Z" } : Jvm.MethodName)) ∈ G := G_in (List.mem_of_getElem? (i := 419) rfl) rfl
set_option maxRecDepth 20000 in
theorem g_403 : (Jvm.Cond.code ({ cls := "BlockCodeModel", name := "macFinish", desc := "()Z" } : Jvm.MethodName) prog_5_method_19_code (3 : Nat) (Option.some Jvm.ClassFile.FieldType.boolean)) ∈ G := G_in (List.mem_of_getElem? (i := 420) rfl) rfl
set_option maxRecDepth 20000 in
theorem g_404 : (Jvm.Cond.methodLink "BlockCodeLaw" (49 : Nat) ({ cls := "BlockCodeModel", name := "tagByte", desc := "(I)I" } : Jvm.MethodName)) ∈ G := G_in (List.mem_of_getElem? (i := 421) rfl) rfl
set_option maxRecDepth 20000 in
theorem g_405 : (Jvm.Cond.instanceMethod ({ cls := "BlockCodeModel", name := "tagByte", desc := "(I)I" } : Jvm.MethodName)) ∈ G := G_in (List.mem_of_getElem? (i := 422) rfl) rfl
set_option maxRecDepth 20000 in
theorem g_406 : (Jvm.Cond.selects "BlockCodeModel" ({ cls := "BlockCodeModel", name := "tagByte", desc := "(I)I" } : Jvm.MethodName) ({ cls := "BlockCodeModel", name := "tagByte", desc := "(I)I" } : Jvm.MethodName)) ∈ G := G_in (List.mem_of_getElem? (i := 423) rfl) rfl
set_option maxRecDepth 20000 in
theorem g_407 : (Jvm.Cond.code ({ cls := "BlockCodeModel", name := "tagByte", desc := "(I)I" } : Jvm.MethodName) prog_5_method_20_code (2 : Nat) (Option.some Jvm.ClassFile.FieldType.int)) ∈ G := G_in (List.mem_of_getElem? (i := 424) rfl) rfl
set_option maxRecDepth 20000 in
theorem g_408 : (Jvm.Cond.methodLink "BlockCodeLaw" (53 : Nat) ({ cls := "BlockCodeModel", name := "macCheck", desc := "(II)Z" } : Jvm.MethodName)) ∈ G := G_in (List.mem_of_getElem? (i := 425) rfl) rfl
set_option maxRecDepth 20000 in
theorem g_409 : (Jvm.Cond.instanceMethod ({ cls := "BlockCodeModel", name := "macCheck", desc := "(II)Z" } : Jvm.MethodName)) ∈ G := G_in (List.mem_of_getElem? (i := 426) rfl) rfl
set_option maxRecDepth 20000 in
theorem g_410 : (Jvm.Cond.selects "BlockCodeModel" ({ cls := "BlockCodeModel", name := "macCheck", desc := "(II)Z" } : Jvm.MethodName) ({ cls := "BlockCodeModel", name := "macCheck", desc := "(II)Z" } : Jvm.MethodName)) ∈ G := G_in (List.mem_of_getElem? (i := 427) rfl) rfl
set_option maxRecDepth 20000 in
theorem g_411 : (Jvm.Cond.code ({ cls := "BlockCodeModel", name := "macCheck", desc := "(II)Z" } : Jvm.MethodName) prog_5_method_21_code (3 : Nat) (Option.some Jvm.ClassFile.FieldType.boolean)) ∈ G := G_in (List.mem_of_getElem? (i := 428) rfl) rfl
set_option maxRecDepth 20000 in
theorem g_412 : (Jvm.Cond.methodLink "BlockCodeLaw" (57 : Nat) ({ cls := "BlockCodeModel", name := "macVerdict", desc := "()Z" } : Jvm.MethodName)) ∈ G := G_in (List.mem_of_getElem? (i := 429) rfl) rfl
set_option maxRecDepth 20000 in
theorem g_413 : (Jvm.Cond.instanceMethod ({ cls := "BlockCodeModel", name := "macVerdict", desc := "()Z" } : Jvm.MethodName)) ∈ G := G_in (List.mem_of_getElem? (i := 430) rfl) rfl
set_option maxRecDepth 20000 in
theorem g_414 : (Jvm.Cond.selects "BlockCodeModel" ({ cls := "BlockCodeModel", name := "macVerdict", desc := "()Z" } : Jvm.MethodName) ({ cls := "BlockCodeModel", name := "macVerdict", desc := "()Z" } : Jvm.MethodName)) ∈ G := G_in (List.mem_of_getElem? (i := 431) rfl) rfl
set_option maxRecDepth 20000 in
theorem g_415 : (Jvm.Cond.code ({ cls := "BlockCodeModel", name := "macVerdict", desc := "()Z" } : Jvm.MethodName) prog_5_method_22_code (3 : Nat) (Option.some Jvm.ClassFile.FieldType.boolean)) ∈ G := G_in (List.mem_of_getElem? (i := 432) rfl) rfl
set_option maxRecDepth 20000 in
theorem g_416 : (Jvm.Cond.methodLink "BlockCodeLaw" (61 : Nat) ({ cls := "BlockCodeModel", name := "setBlockByte", desc := "(II)Z" } : Jvm.MethodName)) ∈ G := G_in (List.mem_of_getElem? (i := 433) rfl) rfl
set_option maxRecDepth 20000 in
theorem g_417 : (Jvm.Cond.instanceMethod ({ cls := "BlockCodeModel", name := "setBlockByte", desc := "(II)Z" } : Jvm.MethodName)) ∈ G := G_in (List.mem_of_getElem? (i := 434) rfl) rfl
set_option maxRecDepth 20000 in
theorem g_418 : (Jvm.Cond.selects "BlockCodeModel" ({ cls := "BlockCodeModel", name := "setBlockByte", desc := "(II)Z" } : Jvm.MethodName) ({ cls := "BlockCodeModel", name := "setBlockByte", desc := "(II)Z" } : Jvm.MethodName)) ∈ G := G_in (List.mem_of_getElem? (i := 435) rfl) rfl
set_option maxRecDepth 20000 in
theorem g_419 : (Jvm.Cond.code ({ cls := "BlockCodeModel", name := "setBlockByte", desc := "(II)Z" } : Jvm.MethodName) prog_5_method_23_code (3 : Nat) (Option.some Jvm.ClassFile.FieldType.boolean)) ∈ G := G_in (List.mem_of_getElem? (i := 436) rfl) rfl
set_option maxRecDepth 20000 in
theorem g_420 : (Jvm.Cond.methodLink "BlockCodeLaw" (65 : Nat) ({ cls := "BlockCodeModel", name := "encryptBlock", desc := "()Z" } : Jvm.MethodName)) ∈ G := G_in (List.mem_of_getElem? (i := 437) rfl) rfl
set_option maxRecDepth 20000 in
theorem g_421 : (Jvm.Cond.instanceMethod ({ cls := "BlockCodeModel", name := "encryptBlock", desc := "()Z" } : Jvm.MethodName)) ∈ G := G_in (List.mem_of_getElem? (i := 438) rfl) rfl
set_option maxRecDepth 20000 in
theorem g_422 : (Jvm.Cond.selects "BlockCodeModel" ({ cls := "BlockCodeModel", name := "encryptBlock", desc := "()Z" } : Jvm.MethodName) ({ cls := "BlockCodeModel", name := "encryptBlock", desc := "()Z" } : Jvm.MethodName)) ∈ G := G_in (List.mem_of_getElem? (i := 439) rfl) rfl
set_option maxRecDepth 20000 in
theorem g_423 : (Jvm.Cond.code ({ cls := "BlockCodeModel", name := "encryptBlock", desc := "()Z" } : Jvm.MethodName) prog_5_method_25_code (2 : Nat) (Option.some Jvm.ClassFile.FieldType.boolean)) ∈ G := G_in (List.mem_of_getElem? (i := 440) rfl) rfl
set_option maxRecDepth 20000 in
theorem g_424 : (Jvm.Cond.methodLink "BlockCodeModel" (98 : Nat) ({ cls := "BlockCodeModel", name := "load", desc := "(Z)V" } : Jvm.MethodName)) ∈ G := G_in (List.mem_of_getElem? (i := 441) rfl) rfl
set_option maxRecDepth 20000 in
theorem g_426 : (Jvm.Cond.instanceMethod ({ cls := "BlockCodeModel", name := "load", desc := "(Z)V" } : Jvm.MethodName)) ∈ G := G_in (List.mem_of_getElem? (i := 443) rfl) rfl
set_option maxRecDepth 20000 in
theorem g_427 : (Jvm.Cond.code ({ cls := "BlockCodeModel", name := "load", desc := "(Z)V" } : Jvm.MethodName) prog_5_method_24_code (3 : Nat) (Option.none : Option Jvm.ClassFile.FieldType)) ∈ G := G_in (List.mem_of_getElem? (i := 444) rfl) rfl
set_option maxRecDepth 20000 in
theorem g_428 : (Jvm.Cond.methodLink "BlockCodeLaw" (69 : Nat) ({ cls := "BlockCodeModel", name := "decryptBlock", desc := "()Z" } : Jvm.MethodName)) ∈ G := G_in (List.mem_of_getElem? (i := 445) rfl) rfl
set_option maxRecDepth 20000 in
theorem g_429 : (Jvm.Cond.instanceMethod ({ cls := "BlockCodeModel", name := "decryptBlock", desc := "()Z" } : Jvm.MethodName)) ∈ G := G_in (List.mem_of_getElem? (i := 446) rfl) rfl
set_option maxRecDepth 20000 in
theorem g_430 : (Jvm.Cond.selects "BlockCodeModel" ({ cls := "BlockCodeModel", name := "decryptBlock", desc := "()Z" } : Jvm.MethodName) ({ cls := "BlockCodeModel", name := "decryptBlock", desc := "()Z" } : Jvm.MethodName)) ∈ G := G_in (List.mem_of_getElem? (i := 447) rfl) rfl
set_option maxRecDepth 20000 in
theorem g_431 : (Jvm.Cond.code ({ cls := "BlockCodeModel", name := "decryptBlock", desc := "()Z" } : Jvm.MethodName) prog_5_method_26_code (2 : Nat) (Option.some Jvm.ClassFile.FieldType.boolean)) ∈ G := G_in (List.mem_of_getElem? (i := 448) rfl) rfl
set_option maxRecDepth 20000 in
theorem g_432 : (Jvm.Cond.methodLink "BlockCodeModel" (102 : Nat) ({ cls := "BlockCodeModel", name := "back", desc := "()V" } : Jvm.MethodName)) ∈ G := G_in (List.mem_of_getElem? (i := 449) rfl) rfl
set_option maxRecDepth 20000 in
theorem g_434 : (Jvm.Cond.instanceMethod ({ cls := "BlockCodeModel", name := "back", desc := "()V" } : Jvm.MethodName)) ∈ G := G_in (List.mem_of_getElem? (i := 451) rfl) rfl
set_option maxRecDepth 20000 in
theorem g_435 : (Jvm.Cond.code ({ cls := "BlockCodeModel", name := "back", desc := "()V" } : Jvm.MethodName) prog_5_method_11_code (3 : Nat) (Option.none : Option Jvm.ClassFile.FieldType)) ∈ G := G_in (List.mem_of_getElem? (i := 452) rfl) rfl
set_option maxRecDepth 20000 in
theorem g_436 : (Jvm.Cond.methodLink "BlockCodeLaw" (74 : Nat) ({ cls := "BlockCodeModel", name := "chain", desc := "(Z)Z" } : Jvm.MethodName)) ∈ G := G_in (List.mem_of_getElem? (i := 453) rfl) rfl
set_option maxRecDepth 20000 in
theorem g_437 : (Jvm.Cond.instanceMethod ({ cls := "BlockCodeModel", name := "chain", desc := "(Z)Z" } : Jvm.MethodName)) ∈ G := G_in (List.mem_of_getElem? (i := 454) rfl) rfl
set_option maxRecDepth 20000 in
theorem g_438 : (Jvm.Cond.selects "BlockCodeModel" ({ cls := "BlockCodeModel", name := "chain", desc := "(Z)Z" } : Jvm.MethodName) ({ cls := "BlockCodeModel", name := "chain", desc := "(Z)Z" } : Jvm.MethodName)) ∈ G := G_in (List.mem_of_getElem? (i := 455) rfl) rfl
set_option maxRecDepth 20000 in
theorem g_439 : (Jvm.Cond.code ({ cls := "BlockCodeModel", name := "chain", desc := "(Z)Z" } : Jvm.MethodName) prog_5_method_27_code (4 : Nat) (Option.some Jvm.ClassFile.FieldType.boolean)) ∈ G := G_in (List.mem_of_getElem? (i := 456) rfl) rfl
set_option maxRecDepth 20000 in
theorem g_440 : (Jvm.Cond.methodLink "BlockCodeLaw" (78 : Nat) ({ cls := "BlockCodeModel", name := "unchain", desc := "()Z" } : Jvm.MethodName)) ∈ G := G_in (List.mem_of_getElem? (i := 457) rfl) rfl
set_option maxRecDepth 20000 in
theorem g_441 : (Jvm.Cond.instanceMethod ({ cls := "BlockCodeModel", name := "unchain", desc := "()Z" } : Jvm.MethodName)) ∈ G := G_in (List.mem_of_getElem? (i := 458) rfl) rfl
set_option maxRecDepth 20000 in
theorem g_442 : (Jvm.Cond.selects "BlockCodeModel" ({ cls := "BlockCodeModel", name := "unchain", desc := "()Z" } : Jvm.MethodName) ({ cls := "BlockCodeModel", name := "unchain", desc := "()Z" } : Jvm.MethodName)) ∈ G := G_in (List.mem_of_getElem? (i := 459) rfl) rfl
set_option maxRecDepth 20000 in
theorem g_443 : (Jvm.Cond.code ({ cls := "BlockCodeModel", name := "unchain", desc := "()Z" } : Jvm.MethodName) prog_5_method_28_code (2 : Nat) (Option.some Jvm.ClassFile.FieldType.boolean)) ∈ G := G_in (List.mem_of_getElem? (i := 460) rfl) rfl
set_option maxRecDepth 20000 in
theorem g_444 : (Jvm.Cond.methodLink "BlockCodeLaw" (82 : Nat) ({ cls := "BlockCodeModel", name := "blockByte", desc := "(I)I" } : Jvm.MethodName)) ∈ G := G_in (List.mem_of_getElem? (i := 461) rfl) rfl
set_option maxRecDepth 20000 in
theorem g_445 : (Jvm.Cond.instanceMethod ({ cls := "BlockCodeModel", name := "blockByte", desc := "(I)I" } : Jvm.MethodName)) ∈ G := G_in (List.mem_of_getElem? (i := 462) rfl) rfl
set_option maxRecDepth 20000 in
theorem g_446 : (Jvm.Cond.selects "BlockCodeModel" ({ cls := "BlockCodeModel", name := "blockByte", desc := "(I)I" } : Jvm.MethodName) ({ cls := "BlockCodeModel", name := "blockByte", desc := "(I)I" } : Jvm.MethodName)) ∈ G := G_in (List.mem_of_getElem? (i := 463) rfl) rfl
set_option maxRecDepth 20000 in
theorem g_447 : (Jvm.Cond.code ({ cls := "BlockCodeModel", name := "blockByte", desc := "(I)I" } : Jvm.MethodName) prog_5_method_29_code (2 : Nat) (Option.some Jvm.ClassFile.FieldType.int)) ∈ G := G_in (List.mem_of_getElem? (i := 464) rfl) rfl
set_option maxRecDepth 20000 in
theorem g_448 : (Jvm.Cond.methodLink "BlockCodeLaw" (87 : Nat) ({ cls := "BlockCodeModel", name := "half", desc := "(II)I" } : Jvm.MethodName)) ∈ G := G_in (List.mem_of_getElem? (i := 465) rfl) rfl
set_option maxRecDepth 20000 in
theorem g_449 : (Jvm.Cond.instanceMethod ({ cls := "BlockCodeModel", name := "half", desc := "(II)I" } : Jvm.MethodName)) ∈ G := G_in (List.mem_of_getElem? (i := 466) rfl) rfl
set_option maxRecDepth 20000 in
theorem g_450 : (Jvm.Cond.selects "BlockCodeModel" ({ cls := "BlockCodeModel", name := "half", desc := "(II)I" } : Jvm.MethodName) ({ cls := "BlockCodeModel", name := "half", desc := "(II)I" } : Jvm.MethodName)) ∈ G := G_in (List.mem_of_getElem? (i := 467) rfl) rfl
set_option maxRecDepth 20000 in
theorem g_451 : (Jvm.Cond.code ({ cls := "BlockCodeModel", name := "half", desc := "(II)I" } : Jvm.MethodName) prog_5_method_30_code (3 : Nat) (Option.some Jvm.ClassFile.FieldType.int)) ∈ G := G_in (List.mem_of_getElem? (i := 468) rfl) rfl
set_option maxRecDepth 20000 in
theorem g_s0 : Cond.selects yX0_makeWords.cls yX0_makeWords yX0_makeWords ∈ G := G_in (List.mem_of_getElem? (i := 0) rfl) rfl
set_option maxRecDepth 20000 in
theorem g_s1 : Cond.selects yX0_makeTurnedWord.cls yX0_makeTurnedWord yX0_makeTurnedWord ∈ G := G_in (List.mem_of_getElem? (i := 1) rfl) rfl
set_option maxRecDepth 20000 in
theorem g_s2 : Cond.selects yX0_makePlainWord.cls yX0_makePlainWord yX0_makePlainWord ∈ G := G_in (List.mem_of_getElem? (i := 2) rfl) rfl
set_option maxRecDepth 20000 in
theorem g_s3 : Cond.selects yX0_makeHalves.cls yX0_makeHalves yX0_makeHalves ∈ G := G_in (List.mem_of_getElem? (i := 3) rfl) rfl
set_option maxRecDepth 20000 in
theorem g_s4 : Cond.selects yX0_replaceAndMove.cls yX0_replaceAndMove yX0_replaceAndMove ∈ G := G_in (List.mem_of_getElem? (i := 4) rfl) rfl
set_option maxRecDepth 20000 in
theorem g_s5 : Cond.selects yX0_moveAndReplaceBack.cls yX0_moveAndReplaceBack yX0_moveAndReplaceBack ∈ G := G_in (List.mem_of_getElem? (i := 5) rfl) rfl
set_option maxRecDepth 20000 in
theorem g_s6 : Cond.selects yX2_chainBack.cls yX2_chainBack yX2_chainBack ∈ G := G_in (List.mem_of_getElem? (i := 6) rfl) rfl
set_option maxRecDepth 20000 in
theorem g_s7 : Cond.selects yX2_chainForth.cls yX2_chainForth yX2_chainForth ∈ G := G_in (List.mem_of_getElem? (i := 7) rfl) rfl
set_option maxRecDepth 20000 in
theorem g_s8 : Cond.selects yX3_makeWords.cls yX3_makeWords yX3_makeWords ∈ G := G_in (List.mem_of_getElem? (i := 8) rfl) rfl
set_option maxRecDepth 20000 in
theorem g_s9 : Cond.selects yX3_forth.cls yX3_forth yX3_forth ∈ G := G_in (List.mem_of_getElem? (i := 9) rfl) rfl
set_option maxRecDepth 20000 in
theorem g_s10 : Cond.selects yX3_add.cls yX3_add yX3_add ∈ G := G_in (List.mem_of_getElem? (i := 10) rfl) rfl
set_option maxRecDepth 20000 in
theorem g_s11 : Cond.selects yX3_columns.cls yX3_columns yX3_columns ∈ G := G_in (List.mem_of_getElem? (i := 11) rfl) rfl
set_option maxRecDepth 20000 in
theorem g_s12 : Cond.selects yX3_twice.cls yX3_twice yX3_twice ∈ G := G_in (List.mem_of_getElem? (i := 12) rfl) rfl
set_option maxRecDepth 20000 in
theorem g_s13 : Cond.selects yX3_feed.cls yX3_feed yX3_feed ∈ G := G_in (List.mem_of_getElem? (i := 13) rfl) rfl
set_option maxRecDepth 20000 in
theorem g_s14 : Cond.selects yX3_take.cls yX3_take yX3_take ∈ G := G_in (List.mem_of_getElem? (i := 14) rfl) rfl
set_option maxRecDepth 20000 in
theorem g_s15 : Cond.selects yX3_load.cls yX3_load yX3_load ∈ G := G_in (List.mem_of_getElem? (i := 15) rfl) rfl
set_option maxRecDepth 20000 in
theorem g_s16 : Cond.selects yX3_back.cls yX3_back yX3_back ∈ G := G_in (List.mem_of_getElem? (i := 16) rfl) rfl
set_option maxRecDepth 20000 in
theorem i_X0 : ∀ w ∈ u_ws RX0 TX0 6, w ∈ G := fun w hw => G_in ((by decide +kernel : ∀ w ∈ u_ws RX0 TX0 6, w ∈ lw_tbl) w hw) ((by decide +kernel : ∀ w ∈ u_ws RX0 TX0 6, goodWord w = true) w hw)
set_option maxRecDepth 20000 in
theorem i_X1 : ∀ w ∈ u_ws RX1 TX1 6, w ∈ G := fun w hw => G_in ((by decide +kernel : ∀ w ∈ u_ws RX1 TX1 6, w ∈ lw_tbl) w hw) ((by decide +kernel : ∀ w ∈ u_ws RX1 TX1 6, goodWord w = true) w hw)
set_option maxRecDepth 20000 in
theorem i_X2 : ∀ w ∈ u_ws RX2 TX2 6, w ∈ G := fun w hw => G_in ((by decide +kernel : ∀ w ∈ u_ws RX2 TX2 6, w ∈ lw_tbl) w hw) ((by decide +kernel : ∀ w ∈ u_ws RX2 TX2 6, goodWord w = true) w hw)
set_option maxRecDepth 20000 in
theorem i_X3 : ∀ w ∈ u_ws RX3 TX3 18, w ∈ G := fun w hw => G_in ((by decide +kernel : ∀ w ∈ u_ws RX3 TX3 18, w ∈ lw_tbl) w hw) ((by decide +kernel : ∀ w ∈ u_ws RX3 TX3 18, goodWord w = true) w hw)
set_option maxRecDepth 20000 in
theorem k_X0_init : Kd yX0_init cX0_init 1 none 0 := ⟨g_19, g_2, by decide, by decide, by decide +kernel⟩
set_option maxRecDepth 20000 in
theorem s_X0_init : yX0_init.name = "<init>" ∧ Cond.instanceMethod yX0_init ∈ G := ⟨rfl, g_18⟩
set_option maxRecDepth 20000 in
theorem k_X0_clear : Kd yX0_clear cX0_clear 1 none 0 := ⟨g_102, g_2, by decide, by decide, by decide +kernel⟩
set_option maxRecDepth 20000 in
theorem s_X0_clear : Cond.instanceMethod yX0_clear ∈ G ∧ Cond.selects RX0 yX0_clear yX0_clear ∈ G := ⟨g_100, g_101⟩
set_option maxRecDepth 20000 in
theorem k_X0_put : Kd yX0_put cX0_put 3 none 2 := ⟨g_123, g_2, by decide, by decide, by decide +kernel⟩
set_option maxRecDepth 20000 in
theorem s_X0_put : Cond.instanceMethod yX0_put ∈ G ∧ Cond.selects RX0 yX0_put yX0_put ∈ G := ⟨g_121, g_122⟩
set_option maxRecDepth 20000 in
theorem k_X0_make : Kd yX0_make cX0_make 1 none 0 := ⟨g_131, g_2, by decide, by decide, by decide +kernel⟩
set_option maxRecDepth 20000 in
theorem s_X0_make : Cond.instanceMethod yX0_make ∈ G ∧ Cond.selects RX0 yX0_make yX0_make ∈ G := ⟨g_129, g_130⟩
set_option maxRecDepth 20000 in
theorem k_X0_makeWords : Kd yX0_makeWords cX0_makeWords 3 none 0 := ⟨g_135, g_2, by decide, by decide, by decide +kernel⟩
set_option maxRecDepth 20000 in
theorem s_X0_makeWords : Cond.instanceMethod yX0_makeWords ∈ G ∧ Cond.selects RX0 yX0_makeWords yX0_makeWords ∈ G := ⟨g_134, g_s0⟩
set_option maxRecDepth 20000 in
theorem k_X0_makePlainWord : Kd yX0_makePlainWord cX0_makePlainWord 3 none 1 := ⟨g_151, g_2, by decide, by decide, by decide +kernel⟩
set_option maxRecDepth 20000 in
theorem s_X0_makePlainWord : Cond.instanceMethod yX0_makePlainWord ∈ G ∧ Cond.selects RX0 yX0_makePlainWord yX0_makePlainWord ∈ G := ⟨g_150, g_s2⟩
set_option maxRecDepth 20000 in
theorem k_X0_makeTurnedWord : Kd yX0_makeTurnedWord cX0_makeTurnedWord 4 none 2 := ⟨g_142, g_2, by decide, by decide, by decide +kernel⟩
set_option maxRecDepth 20000 in
theorem s_X0_makeTurnedWord : Cond.instanceMethod yX0_makeTurnedWord ∈ G ∧ Cond.selects RX0 yX0_makeTurnedWord yX0_makeTurnedWord ∈ G := ⟨g_141, g_s1⟩
set_option maxRecDepth 20000 in
theorem k_X0_makeHalves : Kd yX0_makeHalves cX0_makeHalves 1 none 0 := ⟨g_155, g_2, by decide, by decide, by decide +kernel⟩
set_option maxRecDepth 20000 in
theorem s_X0_makeHalves : Cond.instanceMethod yX0_makeHalves ∈ G ∧ Cond.selects RX0 yX0_makeHalves yX0_makeHalves ∈ G := ⟨g_154, g_s3⟩
set_option maxRecDepth 20000 in
theorem k_X0_putDoubled : Kd yX0_putDoubled cX0_putDoubled 4 none 2 := ⟨g_178, g_2, by decide, by decide, by decide +kernel⟩
set_option maxRecDepth 20000 in
theorem s_X0_putDoubled : Cond.static yX0_putDoubled ∈ G := g_177
set_option maxRecDepth 20000 in
theorem k_X0_goForth : Kd yX0_goForth cX0_goForth 3 none 1 := ⟨g_159, g_2, by decide, by decide, by decide +kernel⟩
set_option maxRecDepth 20000 in
theorem s_X0_goForth : Cond.instanceMethod yX0_goForth ∈ G ∧ Cond.selects RX0 yX0_goForth yX0_goForth ∈ G := ⟨g_157, g_158⟩
set_option maxRecDepth 20000 in
theorem k_X0_goBack : Kd yX0_goBack cX0_goBack 3 none 1 := ⟨g_243, g_2, by decide, by decide, by decide +kernel⟩
set_option maxRecDepth 20000 in
theorem s_X0_goBack : Cond.instanceMethod yX0_goBack ∈ G ∧ Cond.selects RX0 yX0_goBack yX0_goBack ∈ G := ⟨g_241, g_242⟩
set_option maxRecDepth 20000 in
theorem k_X0_replaceAndMove : Kd yX0_replaceAndMove cX0_replaceAndMove 3 none 1 := ⟨g_166, g_2, by decide, by decide, by decide +kernel⟩
set_option maxRecDepth 20000 in
theorem s_X0_replaceAndMove : Cond.instanceMethod yX0_replaceAndMove ∈ G ∧ Cond.selects RX0 yX0_replaceAndMove yX0_replaceAndMove ∈ G := ⟨g_165, g_s4⟩
set_option maxRecDepth 20000 in
theorem k_X0_moveAndReplaceBack : Kd yX0_moveAndReplaceBack cX0_moveAndReplaceBack 3 none 1 := ⟨g_250, g_2, by decide, by decide, by decide +kernel⟩
set_option maxRecDepth 20000 in
theorem s_X0_moveAndReplaceBack : Cond.instanceMethod yX0_moveAndReplaceBack ∈ G ∧ Cond.selects RX0 yX0_moveAndReplaceBack yX0_moveAndReplaceBack ∈ G := ⟨g_249, g_s5⟩
set_option maxRecDepth 20000 in
theorem k_X0_source : Kd yX0_source cX0_source 1 (some .int) 1 := ⟨g_169, g_2, by decide, by decide, by decide +kernel⟩
set_option maxRecDepth 20000 in
theorem s_X0_source : Cond.static yX0_source ∈ G := g_168
set_option maxRecDepth 20000 in
theorem k_X0_mix : Kd yX0_mix cX0_mix 6 none 1 := ⟨g_172, g_2, by decide, by decide, by decide +kernel⟩
set_option maxRecDepth 20000 in
theorem s_X0_mix : Cond.static yX0_mix ∈ G := g_171
set_option maxRecDepth 20000 in
theorem k_X0_unmix : Kd yX0_unmix cX0_unmix 1 none 1 := ⟨g_246, g_2, by decide, by decide, by decide +kernel⟩
set_option maxRecDepth 20000 in
theorem s_X0_unmix : Cond.static yX0_unmix ∈ G := g_245
set_option maxRecDepth 20000 in
theorem k_X0_mixed : Kd yX0_mixed cX0_mixed 4 (some .int) 4 := ⟨g_175, g_2, by decide, by decide, by decide +kernel⟩
set_option maxRecDepth 20000 in
theorem s_X0_mixed : Cond.static yX0_mixed ∈ G := g_174
set_option maxRecDepth 20000 in
theorem k_X0_twice : Kd yX0_twice cX0_twice 1 (some .int) 1 := ⟨g_147, g_2, by decide, by decide, by decide +kernel⟩
set_option maxRecDepth 20000 in
theorem s_X0_twice : Cond.static yX0_twice ∈ G := g_146
set_option maxRecDepth 20000 in
theorem k_X1_init : Kd yX1_init cX1_init 1 none 0 := ⟨g_50, g_3, by decide, by decide, by decide +kernel⟩
set_option maxRecDepth 20000 in
theorem s_X1_init : yX1_init.name = "<init>" ∧ Cond.instanceMethod yX1_init ∈ G := ⟨rfl, g_49⟩
set_option maxRecDepth 20000 in
theorem k_X1_drop : Kd yX1_drop cX1_drop 1 none 0 := ⟨g_109, g_3, by decide, by decide, by decide +kernel⟩
set_option maxRecDepth 20000 in
theorem s_X1_drop : Cond.instanceMethod yX1_drop ∈ G ∧ Cond.selects RX1 yX1_drop yX1_drop ∈ G := ⟨g_107, g_108⟩
set_option maxRecDepth 20000 in
theorem k_X1_begin : Kd yX1_begin cX1_begin 1 none 0 := ⟨g_186, g_3, by decide, by decide, by decide +kernel⟩
set_option maxRecDepth 20000 in
theorem s_X1_begin : Cond.instanceMethod yX1_begin ∈ G ∧ Cond.selects RX1 yX1_begin yX1_begin ∈ G := ⟨g_184, g_185⟩
set_option maxRecDepth 20000 in
theorem k_X1_take : Kd yX1_take cX1_take 3 none 2 := ⟨g_195, g_3, by decide, by decide, by decide +kernel⟩
set_option maxRecDepth 20000 in
theorem s_X1_take : Cond.instanceMethod yX1_take ∈ G ∧ Cond.selects RX1 yX1_take yX1_take ∈ G := ⟨g_193, g_194⟩
set_option maxRecDepth 20000 in
theorem k_X1_end : Kd yX1_end cX1_end 2 none 1 := ⟨g_208, g_3, by decide, by decide, by decide +kernel⟩
set_option maxRecDepth 20000 in
theorem s_X1_end : Cond.instanceMethod yX1_end ∈ G ∧ Cond.selects RX1 yX1_end yX1_end ∈ G := ⟨g_206, g_207⟩
set_option maxRecDepth 20000 in
theorem k_X1_compare : Kd yX1_compare cX1_compare 3 none 2 := ⟨g_221, g_3, by decide, by decide, by decide +kernel⟩
set_option maxRecDepth 20000 in
theorem s_X1_compare : Cond.instanceMethod yX1_compare ∈ G ∧ Cond.selects RX1 yX1_compare yX1_compare ∈ G := ⟨g_219, g_220⟩
set_option maxRecDepth 20000 in
theorem k_X2_init : Kd yX2_init cX2_init 1 none 0 := ⟨g_11, g_1, by decide, by decide, by decide +kernel⟩
set_option maxRecDepth 20000 in
theorem s_X2_init : yX2_init.name = "<init>" ∧ Cond.instanceMethod yX2_init ∈ G := ⟨rfl, g_10⟩
set_option maxRecDepth 20000 in
theorem k_X2_init_ : Kd yX2_init_ cX2_init_ 1 none 0 := ⟨g_98, g_1, by decide, by decide, by decide +kernel⟩
set_option maxRecDepth 20000 in
theorem s_X2_init_ : Cond.instanceMethod yX2_init_ ∈ G ∧ Cond.selects RX2 yX2_init_ yX2_init_ ∈ G := ⟨g_96, g_97⟩
set_option maxRecDepth 20000 in
theorem k_X2_setKeyByte : Kd yX2_setKeyByte cX2_setKeyByte 3 (some .boolean) 2 := ⟨g_113, g_1, by decide, by decide, by decide +kernel⟩
set_option maxRecDepth 20000 in
theorem s_X2_setKeyByte : Cond.instanceMethod yX2_setKeyByte ∈ G ∧ Cond.selects RX2 yX2_setKeyByte yX2_setKeyByte ∈ G := ⟨g_111, g_112⟩
set_option maxRecDepth 20000 in
theorem k_X2_expand : Kd yX2_expand cX2_expand 1 (some .boolean) 0 := ⟨g_127, g_1, by decide, by decide, by decide +kernel⟩
set_option maxRecDepth 20000 in
theorem s_X2_expand : Cond.instanceMethod yX2_expand ∈ G ∧ Cond.selects RX2 yX2_expand yX2_expand ∈ G := ⟨g_125, g_126⟩
set_option maxRecDepth 20000 in
theorem k_X2_macStart : Kd yX2_macStart cX2_macStart 1 (some .boolean) 0 := ⟨g_182, g_1, by decide, by decide, by decide +kernel⟩
set_option maxRecDepth 20000 in
theorem s_X2_macStart : Cond.instanceMethod yX2_macStart ∈ G ∧ Cond.selects RX2 yX2_macStart yX2_macStart ∈ G := ⟨g_180, g_181⟩
set_option maxRecDepth 20000 in
theorem k_X2_macUpdate : Kd yX2_macUpdate cX2_macUpdate 2 (some .boolean) 1 := ⟨g_191, g_1, by decide, by decide, by decide +kernel⟩
set_option maxRecDepth 20000 in
theorem s_X2_macUpdate : Cond.instanceMethod yX2_macUpdate ∈ G ∧ Cond.selects RX2 yX2_macUpdate yX2_macUpdate ∈ G := ⟨g_189, g_190⟩
set_option maxRecDepth 20000 in
theorem k_X2_macFill : Kd yX2_macFill cX2_macFill 6 (some .boolean) 3 := ⟨g_200, g_1, by decide, by decide, by decide +kernel⟩
set_option maxRecDepth 20000 in
theorem s_X2_macFill : Cond.instanceMethod yX2_macFill ∈ G ∧ Cond.selects RX2 yX2_macFill yX2_macFill ∈ G := ⟨g_198, g_199⟩
set_option maxRecDepth 20000 in
theorem k_X2_macFinish : Kd yX2_macFinish cX2_macFinish 1 (some .boolean) 0 := ⟨g_204, g_1, by decide, by decide, by decide +kernel⟩
set_option maxRecDepth 20000 in
theorem s_X2_macFinish : Cond.instanceMethod yX2_macFinish ∈ G ∧ Cond.selects RX2 yX2_macFinish yX2_macFinish ∈ G := ⟨g_202, g_203⟩
set_option maxRecDepth 20000 in
theorem k_X2_tagByte : Kd yX2_tagByte cX2_tagByte 2 (some .int) 1 := ⟨g_213, g_1, by decide, by decide, by decide +kernel⟩
set_option maxRecDepth 20000 in
theorem s_X2_tagByte : Cond.instanceMethod yX2_tagByte ∈ G ∧ Cond.selects RX2 yX2_tagByte yX2_tagByte ∈ G := ⟨g_211, g_212⟩
set_option maxRecDepth 20000 in
theorem k_X2_macCheck : Kd yX2_macCheck cX2_macCheck 3 (some .boolean) 2 := ⟨g_217, g_1, by decide, by decide, by decide +kernel⟩
set_option maxRecDepth 20000 in
theorem s_X2_macCheck : Cond.instanceMethod yX2_macCheck ∈ G ∧ Cond.selects RX2 yX2_macCheck yX2_macCheck ∈ G := ⟨g_215, g_216⟩
set_option maxRecDepth 20000 in
theorem k_X2_macVerdict : Kd yX2_macVerdict cX2_macVerdict 1 (some .boolean) 0 := ⟨g_225, g_1, by decide, by decide, by decide +kernel⟩
set_option maxRecDepth 20000 in
theorem s_X2_macVerdict : Cond.instanceMethod yX2_macVerdict ∈ G ∧ Cond.selects RX2 yX2_macVerdict yX2_macVerdict ∈ G := ⟨g_223, g_224⟩
set_option maxRecDepth 20000 in
theorem k_X2_setBlockByte : Kd yX2_setBlockByte cX2_setBlockByte 3 (some .boolean) 2 := ⟨g_230, g_1, by decide, by decide, by decide +kernel⟩
set_option maxRecDepth 20000 in
theorem s_X2_setBlockByte : Cond.instanceMethod yX2_setBlockByte ∈ G ∧ Cond.selects RX2 yX2_setBlockByte yX2_setBlockByte ∈ G := ⟨g_228, g_229⟩
set_option maxRecDepth 20000 in
theorem k_X2_encryptBlock : Kd yX2_encryptBlock cX2_encryptBlock 1 (some .boolean) 0 := ⟨g_234, g_1, by decide, by decide, by decide +kernel⟩
set_option maxRecDepth 20000 in
theorem s_X2_encryptBlock : Cond.instanceMethod yX2_encryptBlock ∈ G ∧ Cond.selects RX2 yX2_encryptBlock yX2_encryptBlock ∈ G := ⟨g_232, g_233⟩
set_option maxRecDepth 20000 in
theorem k_X2_decryptBlock : Kd yX2_decryptBlock cX2_decryptBlock 1 (some .boolean) 0 := ⟨g_239, g_1, by decide, by decide, by decide +kernel⟩
set_option maxRecDepth 20000 in
theorem s_X2_decryptBlock : Cond.instanceMethod yX2_decryptBlock ∈ G ∧ Cond.selects RX2 yX2_decryptBlock yX2_decryptBlock ∈ G := ⟨g_237, g_238⟩
set_option maxRecDepth 20000 in
theorem k_X2_chain : Kd yX2_chain cX2_chain 2 (some .boolean) 1 := ⟨g_256, g_1, by decide, by decide, by decide +kernel⟩
set_option maxRecDepth 20000 in
theorem s_X2_chain : Cond.instanceMethod yX2_chain ∈ G ∧ Cond.selects RX2 yX2_chain yX2_chain ∈ G := ⟨g_254, g_255⟩
set_option maxRecDepth 20000 in
theorem k_X2_unchain : Kd yX2_unchain cX2_unchain 1 (some .boolean) 0 := ⟨g_270, g_1, by decide, by decide, by decide +kernel⟩
set_option maxRecDepth 20000 in
theorem s_X2_unchain : Cond.instanceMethod yX2_unchain ∈ G ∧ Cond.selects RX2 yX2_unchain yX2_unchain ∈ G := ⟨g_268, g_269⟩
set_option maxRecDepth 20000 in
theorem k_X2_blockByte : Kd yX2_blockByte cX2_blockByte 2 (some .int) 1 := ⟨g_275, g_1, by decide, by decide, by decide +kernel⟩
set_option maxRecDepth 20000 in
theorem s_X2_blockByte : Cond.instanceMethod yX2_blockByte ∈ G ∧ Cond.selects RX2 yX2_blockByte yX2_blockByte ∈ G := ⟨g_273, g_274⟩
set_option maxRecDepth 20000 in
theorem k_X2_half : Kd yX2_half cX2_half 3 (some .int) 2 := ⟨g_279, g_1, by decide, by decide, by decide +kernel⟩
set_option maxRecDepth 20000 in
theorem s_X2_half : Cond.instanceMethod yX2_half ∈ G ∧ Cond.selects RX2 yX2_half yX2_half ∈ G := ⟨g_277, g_278⟩
set_option maxRecDepth 20000 in
theorem k_X2_chainForth : Kd yX2_chainForth cX2_chainForth 1 none 0 := ⟨g_266, g_1, by decide, by decide, by decide +kernel⟩
set_option maxRecDepth 20000 in
theorem s_X2_chainForth : Cond.instanceMethod yX2_chainForth ∈ G ∧ Cond.selects RX2 yX2_chainForth yX2_chainForth ∈ G := ⟨g_265, g_s7⟩
set_option maxRecDepth 20000 in
theorem k_X2_chainBack : Kd yX2_chainBack cX2_chainBack 1 none 0 := ⟨g_260, g_1, by decide, by decide, by decide +kernel⟩
set_option maxRecDepth 20000 in
theorem s_X2_chainBack : Cond.instanceMethod yX2_chainBack ∈ G ∧ Cond.selects RX2 yX2_chainBack yX2_chainBack ∈ G := ⟨g_259, g_s6⟩
set_option maxRecDepth 20000 in
theorem k_X2_isPlace : Kd yX2_isPlace cX2_isPlace 1 (some .boolean) 1 := ⟨g_116, g_1, by decide, by decide, by decide +kernel⟩
set_option maxRecDepth 20000 in
theorem s_X2_isPlace : Cond.static yX2_isPlace ∈ G := g_115
set_option maxRecDepth 20000 in
theorem k_X2_isByte : Kd yX2_isByte cX2_isByte 1 (some .boolean) 1 := ⟨g_119, g_1, by decide, by decide, by decide +kernel⟩
set_option maxRecDepth 20000 in
theorem s_X2_isByte : Cond.static yX2_isByte ∈ G := g_118
set_option maxRecDepth 20000 in
theorem k_X2_xor : Kd yX2_xor cX2_xor 4 none 3 := ⟨g_162, g_1, by decide, by decide, by decide +kernel⟩
set_option maxRecDepth 20000 in
theorem s_X2_xor : Cond.static yX2_xor ∈ G := g_161
set_option maxRecDepth 20000 in
theorem k_X3_init : Kd yX3_init cX3_init 6 none 0 := ⟨g_284, g_4, by decide, by decide, by decide +kernel⟩
set_option maxRecDepth 20000 in
theorem s_X3_init : yX3_init.name = "<init>" ∧ Cond.instanceMethod yX3_init ∈ G := ⟨rfl, g_283⟩
set_option maxRecDepth 20000 in
theorem k_X3_times : Kd yX3_times cX3_times 5 (some .int) 2 := ⟨g_288, g_4, by decide, by decide, by decide +kernel⟩
set_option maxRecDepth 20000 in
theorem s_X3_times : Cond.static yX3_times ∈ G := g_287
set_option maxRecDepth 20000 in
theorem k_X3_isIn : Kd yX3_isIn cX3_isIn 2 (some .boolean) 2 := ⟨g_355, g_4, by decide, by decide, by decide +kernel⟩
set_option maxRecDepth 20000 in
theorem s_X3_isIn : Cond.static yX3_isIn ∈ G := g_354
set_option maxRecDepth 20000 in
theorem k_X3_init_ : Kd yX3_init_ cX3_init_ 2 none 0 := ⟨g_348, g_4, by decide, by decide, by decide +kernel⟩
set_option maxRecDepth 20000 in
theorem s_X3_init_ : Cond.instanceMethod yX3_init_ ∈ G ∧ Cond.selects RX3 yX3_init_ yX3_init_ ∈ G := ⟨g_346, g_347⟩
set_option maxRecDepth 20000 in
theorem k_X3_setKeyByte : Kd yX3_setKeyByte cX3_setKeyByte 3 (some .boolean) 2 := ⟨g_352, g_4, by decide, by decide, by decide +kernel⟩
set_option maxRecDepth 20000 in
theorem s_X3_setKeyByte : Cond.instanceMethod yX3_setKeyByte ∈ G ∧ Cond.selects RX3 yX3_setKeyByte yX3_setKeyByte ∈ G := ⟨g_350, g_351⟩
set_option maxRecDepth 20000 in
theorem k_X3_makeWords : Kd yX3_makeWords cX3_makeWords 4 none 0 := ⟨g_363, g_4, by decide, by decide, by decide +kernel⟩
set_option maxRecDepth 20000 in
theorem s_X3_makeWords : Cond.instanceMethod yX3_makeWords ∈ G ∧ Cond.selects RX3 yX3_makeWords yX3_makeWords ∈ G := ⟨g_362, g_s8⟩
set_option maxRecDepth 20000 in
theorem k_X3_add : Kd yX3_add cX3_add 3 none 1 := ⟨g_371, g_4, by decide, by decide, by decide +kernel⟩
set_option maxRecDepth 20000 in
theorem s_X3_add : Cond.instanceMethod yX3_add ∈ G ∧ Cond.selects RX3 yX3_add yX3_add ∈ G := ⟨g_370, g_s10⟩
set_option maxRecDepth 20000 in
theorem k_X3_columns : Kd yX3_columns cX3_columns 7 none 4 := ⟨g_375, g_4, by decide, by decide, by decide +kernel⟩
set_option maxRecDepth 20000 in
theorem s_X3_columns : Cond.instanceMethod yX3_columns ∈ G ∧ Cond.selects RX3 yX3_columns yX3_columns ∈ G := ⟨g_374, g_s11⟩
set_option maxRecDepth 20000 in
theorem k_X3_forth : Kd yX3_forth cX3_forth 3 none 0 := ⟨g_367, g_4, by decide, by decide, by decide +kernel⟩
set_option maxRecDepth 20000 in
theorem s_X3_forth : Cond.instanceMethod yX3_forth ∈ G ∧ Cond.selects RX3 yX3_forth yX3_forth ∈ G := ⟨g_366, g_s9⟩
set_option maxRecDepth 20000 in
theorem k_X3_back : Kd yX3_back cX3_back 3 none 0 := ⟨g_435, g_4, by decide, by decide, by decide +kernel⟩
set_option maxRecDepth 20000 in
theorem s_X3_back : Cond.instanceMethod yX3_back ∈ G ∧ Cond.selects RX3 yX3_back yX3_back ∈ G := ⟨g_434, g_s16⟩
set_option maxRecDepth 20000 in
theorem k_X3_twice : Kd yX3_twice cX3_twice 5 none 1 := ⟨g_379, g_4, by decide, by decide, by decide +kernel⟩
set_option maxRecDepth 20000 in
theorem s_X3_twice : Cond.instanceMethod yX3_twice ∈ G ∧ Cond.selects RX3 yX3_twice yX3_twice ∈ G := ⟨g_378, g_s12⟩
set_option maxRecDepth 20000 in
theorem k_X3_expand : Kd yX3_expand cX3_expand 2 (some .boolean) 0 := ⟨g_359, g_4, by decide, by decide, by decide +kernel⟩
set_option maxRecDepth 20000 in
theorem s_X3_expand : Cond.instanceMethod yX3_expand ∈ G ∧ Cond.selects RX3 yX3_expand yX3_expand ∈ G := ⟨g_357, g_358⟩
set_option maxRecDepth 20000 in
theorem k_X3_macStart : Kd yX3_macStart cX3_macStart 2 (some .boolean) 0 := ⟨g_383, g_4, by decide, by decide, by decide +kernel⟩
set_option maxRecDepth 20000 in
theorem s_X3_macStart : Cond.instanceMethod yX3_macStart ∈ G ∧ Cond.selects RX3 yX3_macStart yX3_macStart ∈ G := ⟨g_381, g_382⟩
set_option maxRecDepth 20000 in
theorem k_X3_take : Kd yX3_take cX3_take 2 none 0 := ⟨g_395, g_4, by decide, by decide, by decide +kernel⟩
set_option maxRecDepth 20000 in
theorem s_X3_take : Cond.instanceMethod yX3_take ∈ G ∧ Cond.selects RX3 yX3_take yX3_take ∈ G := ⟨g_394, g_s14⟩
set_option maxRecDepth 20000 in
theorem k_X3_feed : Kd yX3_feed cX3_feed 2 none 1 := ⟨g_391, g_4, by decide, by decide, by decide +kernel⟩
set_option maxRecDepth 20000 in
theorem s_X3_feed : Cond.instanceMethod yX3_feed ∈ G ∧ Cond.selects RX3 yX3_feed yX3_feed ∈ G := ⟨g_390, g_s13⟩
set_option maxRecDepth 20000 in
theorem k_X3_macUpdate : Kd yX3_macUpdate cX3_macUpdate 2 (some .boolean) 1 := ⟨g_387, g_4, by decide, by decide, by decide +kernel⟩
set_option maxRecDepth 20000 in
theorem s_X3_macUpdate : Cond.instanceMethod yX3_macUpdate ∈ G ∧ Cond.selects RX3 yX3_macUpdate yX3_macUpdate ∈ G := ⟨g_385, g_386⟩
set_option maxRecDepth 20000 in
theorem k_X3_macFill : Kd yX3_macFill cX3_macFill 6 (some .boolean) 3 := ⟨g_399, g_4, by decide, by decide, by decide +kernel⟩
set_option maxRecDepth 20000 in
theorem s_X3_macFill : Cond.instanceMethod yX3_macFill ∈ G ∧ Cond.selects RX3 yX3_macFill yX3_macFill ∈ G := ⟨g_397, g_398⟩
set_option maxRecDepth 20000 in
theorem k_X3_macFinish : Kd yX3_macFinish cX3_macFinish 3 (some .boolean) 0 := ⟨g_403, g_4, by decide, by decide, by decide +kernel⟩
set_option maxRecDepth 20000 in
theorem s_X3_macFinish : Cond.instanceMethod yX3_macFinish ∈ G ∧ Cond.selects RX3 yX3_macFinish yX3_macFinish ∈ G := ⟨g_401, g_402⟩
set_option maxRecDepth 20000 in
theorem k_X3_tagByte : Kd yX3_tagByte cX3_tagByte 2 (some .int) 1 := ⟨g_407, g_4, by decide, by decide, by decide +kernel⟩
set_option maxRecDepth 20000 in
theorem s_X3_tagByte : Cond.instanceMethod yX3_tagByte ∈ G ∧ Cond.selects RX3 yX3_tagByte yX3_tagByte ∈ G := ⟨g_405, g_406⟩
set_option maxRecDepth 20000 in
theorem k_X3_macCheck : Kd yX3_macCheck cX3_macCheck 3 (some .boolean) 2 := ⟨g_411, g_4, by decide, by decide, by decide +kernel⟩
set_option maxRecDepth 20000 in
theorem s_X3_macCheck : Cond.instanceMethod yX3_macCheck ∈ G ∧ Cond.selects RX3 yX3_macCheck yX3_macCheck ∈ G := ⟨g_409, g_410⟩
set_option maxRecDepth 20000 in
theorem k_X3_macVerdict : Kd yX3_macVerdict cX3_macVerdict 3 (some .boolean) 0 := ⟨g_415, g_4, by decide, by decide, by decide +kernel⟩
set_option maxRecDepth 20000 in
theorem s_X3_macVerdict : Cond.instanceMethod yX3_macVerdict ∈ G ∧ Cond.selects RX3 yX3_macVerdict yX3_macVerdict ∈ G := ⟨g_413, g_414⟩
set_option maxRecDepth 20000 in
theorem k_X3_setBlockByte : Kd yX3_setBlockByte cX3_setBlockByte 3 (some .boolean) 2 := ⟨g_419, g_4, by decide, by decide, by decide +kernel⟩
set_option maxRecDepth 20000 in
theorem s_X3_setBlockByte : Cond.instanceMethod yX3_setBlockByte ∈ G ∧ Cond.selects RX3 yX3_setBlockByte yX3_setBlockByte ∈ G := ⟨g_417, g_418⟩
set_option maxRecDepth 20000 in
theorem k_X3_load : Kd yX3_load cX3_load 3 none 1 := ⟨g_427, g_4, by decide, by decide, by decide +kernel⟩
set_option maxRecDepth 20000 in
theorem s_X3_load : Cond.instanceMethod yX3_load ∈ G ∧ Cond.selects RX3 yX3_load yX3_load ∈ G := ⟨g_426, g_s15⟩
set_option maxRecDepth 20000 in
theorem k_X3_encryptBlock : Kd yX3_encryptBlock cX3_encryptBlock 2 (some .boolean) 0 := ⟨g_423, g_4, by decide, by decide, by decide +kernel⟩
set_option maxRecDepth 20000 in
theorem s_X3_encryptBlock : Cond.instanceMethod yX3_encryptBlock ∈ G ∧ Cond.selects RX3 yX3_encryptBlock yX3_encryptBlock ∈ G := ⟨g_421, g_422⟩
set_option maxRecDepth 20000 in
theorem k_X3_decryptBlock : Kd yX3_decryptBlock cX3_decryptBlock 2 (some .boolean) 0 := ⟨g_431, g_4, by decide, by decide, by decide +kernel⟩
set_option maxRecDepth 20000 in
theorem s_X3_decryptBlock : Cond.instanceMethod yX3_decryptBlock ∈ G ∧ Cond.selects RX3 yX3_decryptBlock yX3_decryptBlock ∈ G := ⟨g_429, g_430⟩
set_option maxRecDepth 20000 in
theorem k_X3_chain : Kd yX3_chain cX3_chain 4 (some .boolean) 1 := ⟨g_439, g_4, by decide, by decide, by decide +kernel⟩
set_option maxRecDepth 20000 in
theorem s_X3_chain : Cond.instanceMethod yX3_chain ∈ G ∧ Cond.selects RX3 yX3_chain yX3_chain ∈ G := ⟨g_437, g_438⟩
set_option maxRecDepth 20000 in
theorem k_X3_unchain : Kd yX3_unchain cX3_unchain 2 (some .boolean) 0 := ⟨g_443, g_4, by decide, by decide, by decide +kernel⟩
set_option maxRecDepth 20000 in
theorem s_X3_unchain : Cond.instanceMethod yX3_unchain ∈ G ∧ Cond.selects RX3 yX3_unchain yX3_unchain ∈ G := ⟨g_441, g_442⟩
set_option maxRecDepth 20000 in
theorem k_X3_blockByte : Kd yX3_blockByte cX3_blockByte 2 (some .int) 1 := ⟨g_447, g_4, by decide, by decide, by decide +kernel⟩
set_option maxRecDepth 20000 in
theorem s_X3_blockByte : Cond.instanceMethod yX3_blockByte ∈ G ∧ Cond.selects RX3 yX3_blockByte yX3_blockByte ∈ G := ⟨g_445, g_446⟩
set_option maxRecDepth 20000 in
theorem k_X3_half : Kd yX3_half cX3_half 3 (some .int) 2 := ⟨g_451, g_4, by decide, by decide, by decide +kernel⟩
set_option maxRecDepth 20000 in
theorem s_X3_half : Cond.instanceMethod yX3_half ∈ G ∧ Cond.selects RX3 yX3_half yX3_half ∈ G := ⟨g_449, g_450⟩
set_option maxRecDepth 20000 in
theorem k_J7_fill_53178 : Kd yJ7_fill_53178 cJ7_fill_53178 4 none 2 := ⟨g_105, g_5, by decide, by decide, by decide +kernel⟩
set_option maxRecDepth 20000 in
theorem s_J7_fill_53178 : Cond.static yJ7_fill_53178 ∈ G := g_104
set_option maxRecDepth 20000 in
theorem w_obj : Cond.instanceMethod objectInit ∈ G ∧ Cond.code objectInit ⟨#[0xb1]⟩ 1 none ∈ G := ⟨g_13, g_14⟩
set_option maxRecDepth 20000 in
theorem w_copy : Cond.native arraycopyName ∈ G ∧ Cond.static arraycopyName ∈ G ∧ Cond.initialized "java/lang/System" ∈ G := ⟨g_138, g_137, g_6⟩
