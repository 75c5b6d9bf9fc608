def fSL : List Int32 := [99, 124, 119, 123, 242, 107, 111, 197, 48, 1, 103, 43, 254, 215, 171, 118, 202, 130, 201, 125, 250, 89, 71, 240, 173, 212, 162, 175, 156, 164, 114, 192, 183, 253, 147, 38, 54, 63, 247, 204, 52, 165, 229, 241, 113, 216, 49, 21, 4, 199, 35, 195, 24, 150, 5, 154, 7, 18, 128, 226, 235, 39, 178, 117, 9, 131, 44, 26, 27, 110, 90, 160, 82, 59, 214, 179, 41, 227, 47, 132, 83, 209, 0, 237, 32, 252, 177, 91, 106, 203, 190, 57, 74, 76, 88, 207, 208, 239, 170, 251, 67, 77, 51, 133, 69, 249, 2, 127, 80, 60, 159, 168, 81, 163, 64, 143, 146, 157, 56, 245, 188, 182, 218, 33, 16, 255, 243, 210, 205, 12, 19, 236, 95, 151, 68, 23, 196, 167, 126, 61, 100, 93, 25, 115, 96, 129, 79, 220, 34, 42, 144, 136, 70, 238, 184, 20, 222, 94, 11, 219, 224, 50, 58, 10, 73, 6, 36, 92, 194, 211, 172, 98, 145, 149, 228, 121, 231, 200, 55, 109, 141, 213, 78, 169, 108, 86, 244, 234, 101, 122, 174, 8, 186, 120, 37, 46, 28, 166, 180, 198, 232, 221, 116, 31, 75, 189, 139, 138, 112, 62, 181, 102, 72, 3, 246, 14, 97, 53, 87, 185, 134, 193, 29, 158, 225, 248, 152, 17, 105, 217, 142, 148, 155, 30, 135, 233, 206, 85, 40, 223, 140, 161, 137, 13, 191, 230, 66, 104, 65, 153, 45, 15, 176, 84, 187, 22]
def fS (j : Nat) : Int32 := fSL.getD j 0
def fUL : List Int32 := [82, 9, 106, 213, 48, 54, 165, 56, 191, 64, 163, 158, 129, 243, 215, 251, 124, 227, 57, 130, 155, 47, 255, 135, 52, 142, 67, 68, 196, 222, 233, 203, 84, 123, 148, 50, 166, 194, 35, 61, 238, 76, 149, 11, 66, 250, 195, 78, 8, 46, 161, 102, 40, 217, 36, 178, 118, 91, 162, 73, 109, 139, 209, 37, 114, 248, 246, 100, 134, 104, 152, 22, 212, 164, 92, 204, 93, 101, 182, 146, 108, 112, 72, 80, 253, 237, 185, 218, 94, 21, 70, 87, 167, 141, 157, 132, 144, 216, 171, 0, 140, 188, 211, 10, 247, 228, 88, 5, 184, 179, 69, 6, 208, 44, 30, 143, 202, 63, 15, 2, 193, 175, 189, 3, 1, 19, 138, 107, 58, 145, 17, 65, 79, 103, 220, 234, 151, 242, 207, 206, 240, 180, 230, 115, 150, 172, 116, 34, 231, 173, 53, 133, 226, 249, 55, 232, 28, 117, 223, 110, 71, 241, 26, 113, 29, 41, 197, 137, 111, 183, 98, 14, 170, 24, 190, 27, 252, 86, 62, 75, 198, 210, 121, 32, 154, 219, 192, 254, 120, 205, 90, 244, 31, 221, 168, 51, 136, 7, 199, 49, 177, 18, 16, 89, 39, 128, 236, 95, 96, 81, 127, 169, 25, 181, 74, 13, 45, 229, 122, 159, 147, 201, 156, 239, 160, 224, 59, 77, 174, 42, 245, 176, 200, 235, 187, 60, 131, 83, 153, 97, 23, 43, 4, 126, 186, 119, 214, 38, 225, 105, 20, 99, 85, 33, 12, 125]
def fU (j : Nat) : Int32 := fUL.getD j 0
def tabs : List (String × String × Nat × (Nat → Int32)) := [("BlockCode", "S", 256, fS), ("BlockCode", "UNDO_S", 256, fU)]
abbrev classes : List vw_C := [(RX0, TX0, 6), (RX1, TX1, 6), (RX2, TX2, 6), (RX3, TX3, 18)]
/-! A layer of our own over the kit: one bundle of a body's standing facts, contracts over one list of words, rows that take the bundle. -/
/-- every word of the tables that a caller may hand on -/
def G : List Cond := lw_tbl.filter goodWord
theorem G_in {w : Cond} (h : w ∈ lw_tbl) (hg : goodWord w = true) : w ∈ G := List.mem_filter.mpr ⟨h, hg⟩
theorem G_tbl {w : Cond} (h : w ∈ G) : w ∈ lw_tbl := (List.mem_filter.mp h).1
theorem G_good {cd cd' : Cond} (h : cd' ∈ G) : GoodIn (cd :: G) (cd' :: G) := by
  intro w hw
  rcases List.mem_cons.mp hw with rfl | hw
  · exact ⟨List.mem_cons_of_mem _ h, good_of_word (List.mem_filter.mp h).2⟩
  · exact ⟨List.mem_cons_of_mem _ hw, good_of_word (List.mem_filter.mp hw).2⟩
theorem G_goodG {cd' : Cond} (h : cd' ∈ G) : GoodIn G (cd' :: G) := by
  intro w hw
  rcases List.mem_cons.mp hw with rfl | hw
  · exact ⟨h, good_of_word (List.mem_filter.mp h).2⟩
  · exact ⟨hw, good_of_word (List.mem_filter.mp hw).2⟩
def isNest : Cond → Bool
  | .fieldLinkNest .. => true
  | .methodLinkNest .. => true
  | _ => false
def nests : List Cond := tables_1.filter isNest
theorem nests_in {w : Cond} (h : w ∈ tables_1) (hg : isNest w = true) : w ∈ nests := List.mem_filter.mpr ⟨h, hg⟩
def NW (U : State) : Prop := ∀ w ∈ nests, va_Nw w U
theorem NW.warm {s U : State} (hW : s.WarmedH U.vm) (h : NW s) : NW U := by
  intro w hw
  have h1 := h w hw
  have h2 : isNest w = true := (List.mem_filter.mp hw).2
  cases w <;> first | exact va_Nw.warmF hW h1 | exact va_Nw.warmM hW h1 | (simp [isNest] at h2; done)
theorem NW.same {u U : State} (e : u.vm = U.vm) (h : NW u) : NW U := by
  intro w hw
  have h1 := h w hw
  have h2 : isNest w = true := (List.mem_filter.mp hw).2
  cases w <;> first | exact va_Nw.same rfl e h1 | (simp [isNest] at h2; done)
/-- a callee's words -/
def Kd (y : MethodName) (bytes : ByteArray) (maxL : Nat) (ret : Option FieldType) (n : Nat) : Prop := Cond.code y bytes maxL ret ∈ G ∧ Cond.initialized y.cls ∈ G ∧ y.cls ≠ "java/lang/invoke/MethodHandle" ∧ y.cls ≠ "java/lang/invoke/VarHandle" ∧ (parseMethodDescriptor y.desc).map (fun d => d.parameters.length) = some n
set_option maxRecDepth 20000 in
theorem g_0 : (Jvm.Cond.initialized "BlockCodeLaw") ∈ G := G_in (List.mem_of_getElem? (i := 17) rfl) rfl
set_option maxRecDepth 20000 in
theorem g_1 : (Jvm.Cond.initialized "BlockCode") ∈ G := G_in (List.mem_of_getElem? (i := 18) rfl) rfl
set_option maxRecDepth 20000 in
theorem g_2 : (Jvm.Cond.initialized "BlockCode$Key") ∈ G := G_in (List.mem_of_getElem? (i := 19) rfl) rfl
set_option maxRecDepth 20000 in
theorem g_3 : (Jvm.Cond.initialized "BlockCode$Message") ∈ G := G_in (List.mem_of_getElem? (i := 20) rfl) rfl
set_option maxRecDepth 20000 in
theorem g_4 : (Jvm.Cond.initialized "BlockCodeModel") ∈ G := G_in (List.mem_of_getElem? (i := 21) rfl) rfl
set_option maxRecDepth 20000 in
theorem g_5 : (Jvm.Cond.initialized "java/util/Arrays") ∈ G := G_in (List.mem_of_getElem? (i := 22) rfl) rfl
set_option maxRecDepth 20000 in
theorem g_6 : (Jvm.Cond.initialized "java/lang/System") ∈ G := G_in (List.mem_of_getElem? (i := 23) rfl) rfl
set_option maxRecDepth 20000 in
theorem g_7 : (Jvm.Cond.classLink "BlockCodeLaw" (7 : Nat) "BlockCode") ∈ G := G_in (List.mem_of_getElem? (i := 24) rfl) rfl
set_option maxRecDepth 20000 in
theorem g_8 : (Jvm.Cond.instantiable "BlockCode" (6 : Nat)) ∈ G := G_in (List.mem_of_getElem? (i := 25) rfl) rfl
set_option maxRecDepth 20000 in
theorem g_9 : (Jvm.Cond.methodLink "BlockCodeLaw" (9 : Nat) ({ cls := "BlockCode", name := "<init>", desc := "()V" } : Jvm.MethodName)) ∈ G := G_in (List.mem_of_getElem? (i := 26) rfl) rfl
set_option maxRecDepth 20000 in
theorem g_10 : (Jvm.Cond.instanceMethod ({ cls := "BlockCode", name := "<init>", desc := "()V" } : Jvm.MethodName)) ∈ G := G_in (List.mem_of_getElem? (i := 27) rfl) rfl
set_option maxRecDepth 20000 in
theorem g_11 : (Jvm.Cond.code ({ cls := "BlockCode", name := "<init>", desc := "()V" } : Jvm.MethodName) prog_1_method_1_code (1 : Nat) (Option.none : Option Jvm.ClassFile.FieldType)) ∈ G := G_in (List.mem_of_getElem? (i := 28) rfl) rfl
set_option maxRecDepth 20000 in
theorem g_12 : (Jvm.Cond.methodLink "BlockCode" (3 : Nat) ({ cls := "java/lang/Object", name := "<init>", desc := "()V" } : Jvm.MethodName)) ∈ G := G_in (List.mem_of_getElem? (i := 29) rfl) rfl
set_option maxRecDepth 20000 in
theorem g_13 : (Jvm.Cond.instanceMethod ({ cls := "java/lang/Object", name := "<init>", desc := "()V" } : Jvm.MethodName)) ∈ G := G_in (List.mem_of_getElem? (i := 30) rfl) rfl
set_option maxRecDepth 20000 in
theorem g_14 : (Jvm.Cond.code ({ cls := "java/lang/Object", name := "<init>", desc := "()V" } : Jvm.MethodName) object_method_1_code (1 : Nat) (Option.none : Option Jvm.ClassFile.FieldType)) ∈ G := G_in (List.mem_of_getElem? (i := 31) rfl) rfl
set_option maxRecDepth 20000 in
theorem g_15 : (Jvm.Cond.classLink "BlockCode" (9 : Nat) "BlockCode$Key") ∈ G := G_in (List.mem_of_getElem? (i := 32) rfl) rfl
set_option maxRecDepth 20000 in
theorem g_16 : (Jvm.Cond.instantiable "BlockCode$Key" (6 : Nat)) ∈ G := G_in (List.mem_of_getElem? (i := 33) rfl) rfl
set_option maxRecDepth 20000 in
theorem g_17 : (Jvm.Cond.methodLink "BlockCode" (11 : Nat) ({ cls := "BlockCode$Key", name := "<init>", desc := "()V" } : Jvm.MethodName)) ∈ G := G_in (List.mem_of_getElem? (i := 34) rfl) rfl
set_option maxRecDepth 20000 in
theorem g_18 : (Jvm.Cond.instanceMethod ({ cls := "BlockCode$Key", name := "<init>", desc := "()V" } : Jvm.MethodName)) ∈ G := G_in (List.mem_of_getElem? (i := 35) rfl) rfl
set_option maxRecDepth 20000 in
theorem g_19 : (Jvm.Cond.code ({ cls := "BlockCode$Key", name := "<init>", desc := "()V" } : Jvm.MethodName) prog_2_method_1_code (1 : Nat) (Option.none : Option Jvm.ClassFile.FieldType)) ∈ G := G_in (List.mem_of_getElem? (i := 36) rfl) rfl
set_option maxRecDepth 20000 in
theorem g_20 : (Jvm.Cond.methodLink "BlockCode$Key" (3 : Nat) ({ cls := "java/lang/Object", name := "<init>", desc := "()V" } : Jvm.MethodName)) ∈ G := G_in (List.mem_of_getElem? (i := 37) rfl) rfl
set_option maxRecDepth 20000 in
theorem g_21 : (Jvm.Cond.fieldLink "BlockCode$Key" (9 : Nat) "BlockCode$Key" "bytes" "[I") ∈ G := G_in (List.mem_of_getElem? (i := 38) rfl) rfl
set_option maxRecDepth 20000 in
theorem g_22 : (Jvm.Cond.fieldLink "BlockCode$Key" (15 : Nat) "BlockCode$Key" "words" "[I") ∈ G := G_in (List.mem_of_getElem? (i := 39) rfl) rfl
set_option maxRecDepth 20000 in
theorem g_23 : (Jvm.Cond.fieldLink "BlockCode$Key" (18 : Nat) "BlockCode$Key" "firstHalf" "[I") ∈ G := G_in (List.mem_of_getElem? (i := 40) rfl) rfl
set_option maxRecDepth 20000 in
theorem n_24 : (Jvm.Cond.fieldLinkNest "BlockCode$Message" (44 : Nat) "BlockCode$Key" "firstHalf" "[I" "BlockCode") ∈ nests := nests_in (List.mem_of_getElem? (i := 24) rfl) rfl
set_option maxRecDepth 20000 in
theorem n_25 : (Jvm.Cond.fieldLinkNest "BlockCode" (110 : Nat) "BlockCode$Key" "firstHalf" "[I" "BlockCode") ∈ nests := nests_in (List.mem_of_getElem? (i := 25) rfl) rfl
set_option maxRecDepth 20000 in
theorem g_26 : (Jvm.Cond.fieldLink "BlockCode$Key" (21 : Nat) "BlockCode$Key" "secondHalf" "[I") ∈ G := G_in (List.mem_of_getElem? (i := 43) rfl) rfl
set_option maxRecDepth 20000 in
theorem n_27 : (Jvm.Cond.fieldLinkNest "BlockCode$Message" (51 : Nat) "BlockCode$Key" "secondHalf" "[I" "BlockCode") ∈ nests := nests_in (List.mem_of_getElem? (i := 27) rfl) rfl
set_option maxRecDepth 20000 in
theorem n_28 : (Jvm.Cond.fieldLinkNest "BlockCode" (113 : Nat) "BlockCode$Key" "secondHalf" "[I" "BlockCode") ∈ nests := nests_in (List.mem_of_getElem? (i := 28) rfl) rfl
set_option maxRecDepth 20000 in
theorem g_29 : (Jvm.Cond.fieldLink "BlockCode$Key" (24 : Nat) "BlockCode$Key" "moved" "[I") ∈ G := G_in (List.mem_of_getElem? (i := 46) rfl) rfl
set_option maxRecDepth 20000 in
theorem g_30 : (Jvm.Cond.fieldLink "BlockCode$Key" (27 : Nat) "BlockCode$Key" "made" "Z") ∈ G := G_in (List.mem_of_getElem? (i := 47) rfl) rfl
set_option maxRecDepth 20000 in
theorem n_31 : (Jvm.Cond.fieldLinkNest "BlockCode" (57 : Nat) "BlockCode$Key" "made" "Z" "BlockCode") ∈ nests := nests_in (List.mem_of_getElem? (i := 31) rfl) rfl
set_option maxRecDepth 20000 in
theorem g_32 : (Jvm.Cond.laysFinal "BlockCode$Key" "BlockCode$Key" "bytes" "[I") ∈ G := G_in (List.mem_of_getElem? (i := 49) rfl) rfl
set_option maxRecDepth 20000 in
theorem g_33 : (Jvm.Cond.soleField "BlockCode$Key" "bytes") ∈ G := G_in (List.mem_of_getElem? (i := 50) rfl) rfl
set_option maxRecDepth 20000 in
theorem g_34 : (Jvm.Cond.laysFinal "BlockCode$Key" "BlockCode$Key" "words" "[I") ∈ G := G_in (List.mem_of_getElem? (i := 51) rfl) rfl
set_option maxRecDepth 20000 in
theorem g_35 : (Jvm.Cond.soleField "BlockCode$Key" "words") ∈ G := G_in (List.mem_of_getElem? (i := 52) rfl) rfl
set_option maxRecDepth 20000 in
theorem g_36 : (Jvm.Cond.laysFinal "BlockCode$Key" "BlockCode$Key" "firstHalf" "[I") ∈ G := G_in (List.mem_of_getElem? (i := 53) rfl) rfl
set_option maxRecDepth 20000 in
theorem g_37 : (Jvm.Cond.soleField "BlockCode$Key" "firstHalf") ∈ G := G_in (List.mem_of_getElem? (i := 54) rfl) rfl
set_option maxRecDepth 20000 in
theorem g_38 : (Jvm.Cond.laysFinal "BlockCode$Key" "BlockCode$Key" "secondHalf" "[I") ∈ G := G_in (List.mem_of_getElem? (i := 55) rfl) rfl
set_option maxRecDepth 20000 in
theorem g_39 : (Jvm.Cond.soleField "BlockCode$Key" "secondHalf") ∈ G := G_in (List.mem_of_getElem? (i := 56) rfl) rfl
set_option maxRecDepth 20000 in
theorem g_40 : (Jvm.Cond.laysFinal "BlockCode$Key" "BlockCode$Key" "moved" "[I") ∈ G := G_in (List.mem_of_getElem? (i := 57) rfl) rfl
set_option maxRecDepth 20000 in
theorem g_41 : (Jvm.Cond.soleField "BlockCode$Key" "moved") ∈ G := G_in (List.mem_of_getElem? (i := 58) rfl) rfl
set_option maxRecDepth 20000 in
theorem g_42 : (Jvm.Cond.lays "BlockCode$Key" "BlockCode$Key" "made" "Z") ∈ G := G_in (List.mem_of_getElem? (i := 59) rfl) rfl
set_option maxRecDepth 20000 in
theorem g_43 : (Jvm.Cond.soleField "BlockCode$Key" "made") ∈ G := G_in (List.mem_of_getElem? (i := 60) rfl) rfl
set_option maxRecDepth 20000 in
theorem g_44 : (Jvm.Cond.superclass "BlockCode$Key" "java/lang/Object") ∈ G := G_in (List.mem_of_getElem? (i := 61) rfl) rfl
set_option maxRecDepth 20000 in
theorem g_45 : (Jvm.Cond.arrayClass Jvm.ClassFile.FieldType.int) ∈ G := G_in (List.mem_of_getElem? (i := 62) rfl) rfl
set_option maxRecDepth 20000 in
theorem g_46 : (Jvm.Cond.classLink "BlockCode" (16 : Nat) "BlockCode$Message") ∈ G := G_in (List.mem_of_getElem? (i := 63) rfl) rfl
set_option maxRecDepth 20000 in
theorem g_47 : (Jvm.Cond.instantiable "BlockCode$Message" (6 : Nat)) ∈ G := G_in (List.mem_of_getElem? (i := 64) rfl) rfl
set_option maxRecDepth 20000 in
theorem g_48 : (Jvm.Cond.methodLink "BlockCode" (18 : Nat) ({ cls := "BlockCode$Message", name := "<init>", desc := "()V" } : Jvm.MethodName)) ∈ G := G_in (List.mem_of_getElem? (i := 65) rfl) rfl
set_option maxRecDepth 20000 in
theorem g_49 : (Jvm.Cond.instanceMethod ({ cls := "BlockCode$Message", name := "<init>", desc := "()V" } : Jvm.MethodName)) ∈ G := G_in (List.mem_of_getElem? (i := 66) rfl) rfl
set_option maxRecDepth 20000 in
theorem g_50 : (Jvm.Cond.code ({ cls := "BlockCode$Message", name := "<init>", desc := "()V" } : Jvm.MethodName) prog_3_method_1_code (1 : Nat) (Option.none : Option Jvm.ClassFile.FieldType)) ∈ G := G_in (List.mem_of_getElem? (i := 67) rfl) rfl
set_option maxRecDepth 20000 in
theorem g_51 : (Jvm.Cond.methodLink "BlockCode$Message" (3 : Nat) ({ cls := "java/lang/Object", name := "<init>", desc := "()V" } : Jvm.MethodName)) ∈ G := G_in (List.mem_of_getElem? (i := 68) rfl) rfl
set_option maxRecDepth 20000 in
theorem g_52 : (Jvm.Cond.fieldLink "BlockCode$Message" (9 : Nat) "BlockCode$Message" "sum" "[I") ∈ G := G_in (List.mem_of_getElem? (i := 69) rfl) rfl
set_option maxRecDepth 20000 in
theorem n_53 : (Jvm.Cond.fieldLinkNest "BlockCode" (77 : Nat) "BlockCode$Message" "sum" "[I" "BlockCode") ∈ nests := nests_in (List.mem_of_getElem? (i := 53) rfl) rfl
set_option maxRecDepth 20000 in
theorem g_54 : (Jvm.Cond.fieldLink "BlockCode$Message" (15 : Nat) "BlockCode$Message" "filled" "I") ∈ G := G_in (List.mem_of_getElem? (i := 71) rfl) rfl
set_option maxRecDepth 20000 in
theorem g_55 : (Jvm.Cond.fieldLink "BlockCode$Message" (19 : Nat) "BlockCode$Message" "open" "Z") ∈ G := G_in (List.mem_of_getElem? (i := 72) rfl) rfl
set_option maxRecDepth 20000 in
theorem n_56 : (Jvm.Cond.fieldLinkNest "BlockCode" (63 : Nat) "BlockCode$Message" "open" "Z" "BlockCode") ∈ nests := nests_in (List.mem_of_getElem? (i := 56) rfl) rfl
set_option maxRecDepth 20000 in
theorem g_57 : (Jvm.Cond.fieldLink "BlockCode$Message" (23 : Nat) "BlockCode$Message" "ended" "Z") ∈ G := G_in (List.mem_of_getElem? (i := 74) rfl) rfl
set_option maxRecDepth 20000 in
theorem n_58 : (Jvm.Cond.fieldLinkNest "BlockCode" (74 : Nat) "BlockCode$Message" "ended" "Z" "BlockCode") ∈ nests := nests_in (List.mem_of_getElem? (i := 58) rfl) rfl
set_option maxRecDepth 20000 in
theorem g_59 : (Jvm.Cond.fieldLink "BlockCode$Message" (26 : Nat) "BlockCode$Message" "compared" "I") ∈ G := G_in (List.mem_of_getElem? (i := 76) rfl) rfl
set_option maxRecDepth 20000 in
theorem n_60 : (Jvm.Cond.fieldLinkNest "BlockCode" (83 : Nat) "BlockCode$Message" "compared" "I" "BlockCode") ∈ nests := nests_in (List.mem_of_getElem? (i := 60) rfl) rfl
set_option maxRecDepth 20000 in
theorem g_61 : (Jvm.Cond.fieldLink "BlockCode$Message" (29 : Nat) "BlockCode$Message" "differed" "Z") ∈ G := G_in (List.mem_of_getElem? (i := 78) rfl) rfl
set_option maxRecDepth 20000 in
theorem n_62 : (Jvm.Cond.fieldLinkNest "BlockCode" (88 : Nat) "BlockCode$Message" "differed" "Z" "BlockCode") ∈ nests := nests_in (List.mem_of_getElem? (i := 62) rfl) rfl
set_option maxRecDepth 20000 in
theorem g_63 : (Jvm.Cond.laysFinal "BlockCode$Message" "BlockCode$Message" "sum" "[I") ∈ G := G_in (List.mem_of_getElem? (i := 80) rfl) rfl
set_option maxRecDepth 20000 in
theorem g_64 : (Jvm.Cond.soleField "BlockCode$Message" "sum") ∈ G := G_in (List.mem_of_getElem? (i := 81) rfl) rfl
set_option maxRecDepth 20000 in
theorem g_65 : (Jvm.Cond.lays "BlockCode$Message" "BlockCode$Message" "filled" "I") ∈ G := G_in (List.mem_of_getElem? (i := 82) rfl) rfl
set_option maxRecDepth 20000 in
theorem g_66 : (Jvm.Cond.soleField "BlockCode$Message" "filled") ∈ G := G_in (List.mem_of_getElem? (i := 83) rfl) rfl
set_option maxRecDepth 20000 in
theorem g_67 : (Jvm.Cond.lays "BlockCode$Message" "BlockCode$Message" "open" "Z") ∈ G := G_in (List.mem_of_getElem? (i := 84) rfl) rfl
set_option maxRecDepth 20000 in
theorem g_68 : (Jvm.Cond.soleField "BlockCode$Message" "open") ∈ G := G_in (List.mem_of_getElem? (i := 85) rfl) rfl
set_option maxRecDepth 20000 in
theorem g_69 : (Jvm.Cond.lays "BlockCode$Message" "BlockCode$Message" "ended" "Z") ∈ G := G_in (List.mem_of_getElem? (i := 86) rfl) rfl
set_option maxRecDepth 20000 in
theorem g_70 : (Jvm.Cond.soleField "BlockCode$Message" "ended") ∈ G := G_in (List.mem_of_getElem? (i := 87) rfl) rfl
set_option maxRecDepth 20000 in
theorem g_71 : (Jvm.Cond.lays "BlockCode$Message" "BlockCode$Message" "compared" "I") ∈ G := G_in (List.mem_of_getElem? (i := 88) rfl) rfl
set_option maxRecDepth 20000 in
theorem g_72 : (Jvm.Cond.soleField "BlockCode$Message" "compared") ∈ G := G_in (List.mem_of_getElem? (i := 89) rfl) rfl
set_option maxRecDepth 20000 in
theorem g_73 : (Jvm.Cond.lays "BlockCode$Message" "BlockCode$Message" "differed" "Z") ∈ G := G_in (List.mem_of_getElem? (i := 90) rfl) rfl
set_option maxRecDepth 20000 in
theorem g_74 : (Jvm.Cond.soleField "BlockCode$Message" "differed") ∈ G := G_in (List.mem_of_getElem? (i := 91) rfl) rfl
set_option maxRecDepth 20000 in
theorem g_75 : (Jvm.Cond.superclass "BlockCode$Message" "java/lang/Object") ∈ G := G_in (List.mem_of_getElem? (i := 92) rfl) rfl
set_option maxRecDepth 20000 in
theorem g_76 : (Jvm.Cond.fieldLink "BlockCode" (12 : Nat) "BlockCode" "key" "LBlockCode$Key;") ∈ G := G_in (List.mem_of_getElem? (i := 93) rfl) rfl
set_option maxRecDepth 20000 in
theorem g_77 : (Jvm.Cond.fieldLink "BlockCode" (19 : Nat) "BlockCode" "message" "LBlockCode$Message;") ∈ G := G_in (List.mem_of_getElem? (i := 94) rfl) rfl
set_option maxRecDepth 20000 in
theorem g_78 : (Jvm.Cond.fieldLink "BlockCode" (23 : Nat) "BlockCode" "block" "[I") ∈ G := G_in (List.mem_of_getElem? (i := 95) rfl) rfl
set_option maxRecDepth 20000 in
theorem g_79 : (Jvm.Cond.fieldLink "BlockCode" (27 : Nat) "BlockCode" "before" "[I") ∈ G := G_in (List.mem_of_getElem? (i := 96) rfl) rfl
set_option maxRecDepth 20000 in
theorem g_80 : (Jvm.Cond.fieldLink "BlockCode" (30 : Nat) "BlockCode" "kept" "[I") ∈ G := G_in (List.mem_of_getElem? (i := 97) rfl) rfl
set_option maxRecDepth 20000 in
theorem g_81 : (Jvm.Cond.fieldLink "BlockCode" (33 : Nat) "BlockCode" "ready" "Z") ∈ G := G_in (List.mem_of_getElem? (i := 98) rfl) rfl
set_option maxRecDepth 20000 in
theorem g_82 : (Jvm.Cond.laysFinal "BlockCode" "BlockCode" "key" "LBlockCode$Key;") ∈ G := G_in (List.mem_of_getElem? (i := 99) rfl) rfl
set_option maxRecDepth 20000 in
theorem g_83 : (Jvm.Cond.soleField "BlockCode" "key") ∈ G := G_in (List.mem_of_getElem? (i := 100) rfl) rfl
set_option maxRecDepth 20000 in
theorem g_84 : (Jvm.Cond.laysFinal "BlockCode" "BlockCode" "message" "LBlockCode$Message;") ∈ G := G_in (List.mem_of_getElem? (i := 101) rfl) rfl
set_option maxRecDepth 20000 in
theorem g_85 : (Jvm.Cond.soleField "BlockCode" "message") ∈ G := G_in (List.mem_of_getElem? (i := 102) rfl) rfl
set_option maxRecDepth 20000 in
theorem g_86 : (Jvm.Cond.laysFinal "BlockCode" "BlockCode" "block" "[I") ∈ G := G_in (List.mem_of_getElem? (i := 103) rfl) rfl
set_option maxRecDepth 20000 in
theorem g_87 : (Jvm.Cond.soleField "BlockCode" "block") ∈ G := G_in (List.mem_of_getElem? (i := 104) rfl) rfl
set_option maxRecDepth 20000 in
theorem g_88 : (Jvm.Cond.laysFinal "BlockCode" "BlockCode" "before" "[I") ∈ G := G_in (List.mem_of_getElem? (i := 105) rfl) rfl
set_option maxRecDepth 20000 in
theorem g_89 : (Jvm.Cond.soleField "BlockCode" "before") ∈ G := G_in (List.mem_of_getElem? (i := 106) rfl) rfl
set_option maxRecDepth 20000 in
theorem g_90 : (Jvm.Cond.laysFinal "BlockCode" "BlockCode" "kept" "[I") ∈ G := G_in (List.mem_of_getElem? (i := 107) rfl) rfl
set_option maxRecDepth 20000 in
theorem g_91 : (Jvm.Cond.soleField "BlockCode" "kept") ∈ G := G_in (List.mem_of_getElem? (i := 108) rfl) rfl
set_option maxRecDepth 20000 in
theorem g_92 : (Jvm.Cond.lays "BlockCode" "BlockCode" "ready" "Z") ∈ G := G_in (List.mem_of_getElem? (i := 109) rfl) rfl
set_option maxRecDepth 20000 in
theorem g_93 : (Jvm.Cond.soleField "BlockCode" "ready") ∈ G := G_in (List.mem_of_getElem? (i := 110) rfl) rfl
set_option maxRecDepth 20000 in
theorem g_94 : (Jvm.Cond.superclass "BlockCode" "java/lang/Object") ∈ G := G_in (List.mem_of_getElem? (i := 111) rfl) rfl
set_option maxRecDepth 20000 in
theorem g_95 : (Jvm.Cond.methodLink "BlockCodeLaw" (13 : Nat) ({ cls := "BlockCode", name := "init", desc := "()V" } : Jvm.MethodName)) ∈ G := G_in (List.mem_of_getElem? (i := 112) rfl) rfl
set_option maxRecDepth 20000 in
theorem g_96 : (Jvm.Cond.instanceMethod ({ cls := "BlockCode", name := "init", desc := "()V" } : Jvm.MethodName)) ∈ G := G_in (List.mem_of_getElem? (i := 113) rfl) rfl
set_option maxRecDepth 20000 in
theorem g_97 : (Jvm.Cond.selects "BlockCode" ({ cls := "BlockCode", name := "init", desc := "()V" } : Jvm.MethodName) ({ cls := "BlockCode", name := "init", desc := "()V" } : Jvm.MethodName)) ∈ G := G_in (List.mem_of_getElem? (i := 114) rfl) rfl
set_option maxRecDepth 20000 in
theorem g_98 : (Jvm.Cond.code ({ cls := "BlockCode", name := "init", desc := "()V" } : Jvm.MethodName) prog_1_method_2_code (1 : Nat) (Option.none : Option Jvm.ClassFile.FieldType)) ∈ G := G_in (List.mem_of_getElem? (i := 115) rfl) rfl
set_option maxRecDepth 20000 in
theorem g_99 : (Jvm.Cond.methodLink "BlockCode" (37 : Nat) ({ cls := "BlockCode$Key", name := "clear", desc := "()V" } : Jvm.MethodName)) ∈ G := G_in (List.mem_of_getElem? (i := 116) rfl) rfl
set_option maxRecDepth 20000 in
theorem g_100 : (Jvm.Cond.instanceMethod ({ cls := "BlockCode$Key", name := "clear", desc := "()V" } : Jvm.MethodName)) ∈ G := G_in (List.mem_of_getElem? (i := 117) rfl) rfl
set_option maxRecDepth 20000 in
theorem g_101 : (Jvm.Cond.selects "BlockCode$Key" ({ cls := "BlockCode$Key", name := "clear", desc := "()V" } : Jvm.MethodName) ({ cls := "BlockCode$Key", name := "clear", desc := "()V" } : Jvm.MethodName)) ∈ G := G_in (List.mem_of_getElem? (i := 118) rfl) rfl
set_option maxRecDepth 20000 in
theorem g_102 : (Jvm.Cond.code ({ cls := "BlockCode$Key", name := "clear", desc := "()V" } : Jvm.MethodName) prog_2_method_2_code (1 : Nat) (Option.none : Option Jvm.ClassFile.FieldType)) ∈ G := G_in (List.mem_of_getElem? (i := 119) rfl) rfl
set_option maxRecDepth 20000 in
theorem g_103 : (Jvm.Cond.methodLink "BlockCode$Key" (31 : Nat) ({ cls := "java/util/Arrays", name := "fill", desc := "([II)V" } : Jvm.MethodName)) ∈ G := G_in (List.mem_of_getElem? (i := 120) rfl) rfl
set_option maxRecDepth 20000 in
theorem g_104 : (Jvm.Cond.static ({ cls := "java/util/Arrays", name := "fill", desc := "([II)V" } : Jvm.MethodName)) ∈ G := G_in (List.mem_of_getElem? (i := 121) rfl) rfl
set_option maxRecDepth 20000 in
theorem g_105 : (Jvm.Cond.code ({ cls := "java/util/Arrays", name := "fill", desc := "([II)V" } : Jvm.MethodName) prog_7_method_103_code (4 : Nat) (Option.none : Option Jvm.ClassFile.FieldType)) ∈ G := G_in (List.mem_of_getElem? (i := 122) rfl) rfl
set_option maxRecDepth 20000 in
theorem g_106 : (Jvm.Cond.methodLink "BlockCode" (40 : Nat) ({ cls := "BlockCode$Message", name := "drop", desc := "()V" } : Jvm.MethodName)) ∈ G := G_in (List.mem_of_getElem? (i := 123) rfl) rfl
set_option maxRecDepth 20000 in
theorem g_107 : (Jvm.Cond.instanceMethod ({ cls := "BlockCode$Message", name := "drop", desc := "()V" } : Jvm.MethodName)) ∈ G := G_in (List.mem_of_getElem? (i := 124) rfl) rfl
set_option maxRecDepth 20000 in
theorem g_108 : (Jvm.Cond.selects "BlockCode$Message" ({ cls := "BlockCode$Message", name := "drop", desc := "()V" } : Jvm.MethodName) ({ cls := "BlockCode$Message", name := "drop", desc := "()V" } : Jvm.MethodName)) ∈ G := G_in (List.mem_of_getElem? (i := 125) rfl) rfl
set_option maxRecDepth 20000 in
theorem g_109 : (Jvm.Cond.code ({ cls := "BlockCode$Message", name := "drop", desc := "()V" } : Jvm.MethodName) prog_3_method_2_code (1 : Nat) (Option.none : Option Jvm.ClassFile.FieldType)) ∈ G := G_in (List.mem_of_getElem? (i := 126) rfl) rfl
set_option maxRecDepth 20000 in
theorem g_110 : (Jvm.Cond.methodLink "BlockCodeLaw" (17 : Nat) ({ cls := "BlockCode", name := "setKeyByte", desc := "(II)Z" } : Jvm.MethodName)) ∈ G := G_in (List.mem_of_getElem? (i := 127) rfl) rfl
set_option maxRecDepth 20000 in
theorem g_111 : (Jvm.Cond.instanceMethod ({ cls := "BlockCode", name := "setKeyByte", desc := "(II)Z" } : Jvm.MethodName)) ∈ G := G_in (List.mem_of_getElem? (i := 128) rfl) rfl
set_option maxRecDepth 20000 in
theorem g_112 : (Jvm.Cond.selects "BlockCode" ({ cls := "BlockCode", name := "setKeyByte", desc := "(II)Z" } : Jvm.MethodName) ({ cls := "BlockCode", name := "setKeyByte", desc := "(II)Z" } : Jvm.MethodName)) ∈ G := G_in (List.mem_of_getElem? (i := 129) rfl) rfl
set_option maxRecDepth 20000 in
theorem g_113 : (Jvm.Cond.code ({ cls := "BlockCode", name := "setKeyByte", desc := "(II)Z" } : Jvm.MethodName) prog_1_method_3_code (3 : Nat) (Option.some Jvm.ClassFile.FieldType.boolean)) ∈ G := G_in (List.mem_of_getElem? (i := 130) rfl) rfl
set_option maxRecDepth 20000 in
theorem g_114 : (Jvm.Cond.methodLink "BlockCode" (43 : Nat) ({ cls := "BlockCode", name := "isPlace", desc := "(I)Z" } : Jvm.MethodName)) ∈ G := G_in (List.mem_of_getElem? (i := 131) rfl) rfl
set_option maxRecDepth 20000 in
theorem g_115 : (Jvm.Cond.static ({ cls := "BlockCode", name := "isPlace", desc := "(I)Z" } : Jvm.MethodName)) ∈ G := G_in (List.mem_of_getElem? (i := 132) rfl) rfl
set_option maxRecDepth 20000 in
theorem g_116 : (Jvm.Cond.code ({ cls := "BlockCode", name := "isPlace", desc := "(I)Z" } : Jvm.MethodName) prog_1_method_21_code (1 : Nat) (Option.some Jvm.ClassFile.FieldType.boolean)) ∈ G := G_in (List.mem_of_getElem? (i := 133) rfl) rfl
set_option maxRecDepth 20000 in
theorem g_117 : (Jvm.Cond.methodLink "BlockCode" (47 : Nat) ({ cls := "BlockCode", name := "isByte", desc := "(I)Z" } : Jvm.MethodName)) ∈ G := G_in (List.mem_of_getElem? (i := 134) rfl) rfl
set_option maxRecDepth 20000 in
theorem g_118 : (Jvm.Cond.static ({ cls := "BlockCode", name := "isByte", desc := "(I)Z" } : Jvm.MethodName)) ∈ G := G_in (List.mem_of_getElem? (i := 135) rfl) rfl
set_option maxRecDepth 20000 in
theorem g_119 : (Jvm.Cond.code ({ cls := "BlockCode", name := "isByte", desc := "(I)Z" } : Jvm.MethodName) prog_1_method_22_code (1 : Nat) (Option.some Jvm.ClassFile.FieldType.boolean)) ∈ G := G_in (List.mem_of_getElem? (i := 136) rfl) rfl
set_option maxRecDepth 20000 in
theorem g_120 : (Jvm.Cond.methodLink "BlockCode" (50 : Nat) ({ cls := "BlockCode$Key", name := "put", desc := "(II)V" } : Jvm.MethodName)) ∈ G := G_in (List.mem_of_getElem? (i := 137) rfl) rfl
set_option maxRecDepth 20000 in
theorem g_121 : (Jvm.Cond.instanceMethod ({ cls := "BlockCode$Key", name := "put", desc := "(II)V" } : Jvm.MethodName)) ∈ G := G_in (List.mem_of_getElem? (i := 138) rfl) rfl
set_option maxRecDepth 20000 in
theorem g_122 : (Jvm.Cond.selects "BlockCode$Key" ({ cls := "BlockCode$Key", name := "put", desc := "(II)V" } : Jvm.MethodName) ({ cls := "BlockCode$Key", name := "put", desc := "(II)V" } : Jvm.MethodName)) ∈ G := G_in (List.mem_of_getElem? (i := 139) rfl) rfl
set_option maxRecDepth 20000 in
theorem g_123 : (Jvm.Cond.code ({ cls := "BlockCode$Key", name := "put", desc := "(II)V" } : Jvm.MethodName) prog_2_method_3_code (3 : Nat) (Option.none : Option Jvm.ClassFile.FieldType)) ∈ G := G_in (List.mem_of_getElem? (i := 140) rfl) rfl
set_option maxRecDepth 20000 in
theorem g_124 : (Jvm.Cond.methodLink "BlockCodeLaw" (22 : Nat) ({ cls := "BlockCode", name := "expand", desc := "()Z" } : Jvm.MethodName)) ∈ G := G_in (List.mem_of_getElem? (i := 141) rfl) rfl
set_option maxRecDepth 20000 in
theorem g_125 : (Jvm.Cond.instanceMethod ({ cls := "BlockCode", name := "expand", desc := "()Z" } : Jvm.MethodName)) ∈ G := G_in (List.mem_of_getElem? (i := 142) rfl) rfl
set_option maxRecDepth 20000 in
theorem g_126 : (Jvm.Cond.selects "BlockCode" ({ cls := "BlockCode", name := "expand", desc := "()Z" } : Jvm.MethodName) ({ cls := "BlockCode", name := "expand", desc := "()Z" } : Jvm.MethodName)) ∈ G := G_in (List.mem_of_getElem? (i := 143) rfl) rfl
set_option maxRecDepth 20000 in
theorem g_127 : (Jvm.Cond.code ({ cls := "BlockCode", name := "expand", desc := "()Z" } : Jvm.MethodName) prog_1_method_4_code (1 : Nat) (Option.some Jvm.ClassFile.FieldType.boolean)) ∈ G := G_in (List.mem_of_getElem? (i := 144) rfl) rfl
set_option maxRecDepth 20000 in
theorem g_128 : (Jvm.Cond.methodLink "BlockCode" (54 : Nat) ({ cls := "BlockCode$Key", name := "make", desc := "()V" } : Jvm.MethodName)) ∈ G := G_in (List.mem_of_getElem? (i := 145) rfl) rfl
set_option maxRecDepth 20000 in
theorem g_129 : (Jvm.Cond.instanceMethod ({ cls := "BlockCode$Key", name := "make", desc := "()V" } : Jvm.MethodName)) ∈ G := G_in (List.mem_of_getElem? (i := 146) rfl) rfl
set_option maxRecDepth 20000 in
theorem g_130 : (Jvm.Cond.selects "BlockCode$Key" ({ cls := "BlockCode$Key", name := "make", desc := "()V" } : Jvm.MethodName) ({ cls := "BlockCode$Key", name := "make", desc := "()V" } : Jvm.MethodName)) ∈ G := G_in (List.mem_of_getElem? (i := 147) rfl) rfl
set_option maxRecDepth 20000 in
theorem g_131 : (Jvm.Cond.code ({ cls := "BlockCode$Key", name := "make", desc := "()V" } : Jvm.MethodName) prog_2_method_4_code (1 : Nat) (Option.none : Option Jvm.ClassFile.FieldType)) ∈ G := G_in (List.mem_of_getElem? (i := 148) rfl) rfl
set_option maxRecDepth 20000 in
theorem g_132 : (Jvm.Cond.methodLink "BlockCode$Key" (37 : Nat) ({ cls := "BlockCode$Key", name := "makeWords", desc := "()V" } : Jvm.MethodName)) ∈ G := G_in (List.mem_of_getElem? (i := 149) rfl) rfl
set_option maxRecDepth 20000 in
theorem g_134 : (Jvm.Cond.instanceMethod ({ cls := "BlockCode$Key", name := "makeWords", desc := "()V" } : Jvm.MethodName)) ∈ G := G_in (List.mem_of_getElem? (i := 151) rfl) rfl
set_option maxRecDepth 20000 in
theorem g_135 : (Jvm.Cond.code ({ cls := "BlockCode$Key", name := "makeWords", desc := "()V" } : Jvm.MethodName) prog_2_method_5_code (3 : Nat) (Option.none : Option Jvm.ClassFile.FieldType)) ∈ G := G_in (List.mem_of_getElem? (i := 152) rfl) rfl
set_option maxRecDepth 20000 in
theorem g_136 : (Jvm.Cond.methodLink "BlockCode$Key" (43 : Nat) ({ cls := "java/lang/System", name := "arraycopy", desc := "(Ljava/lang/Object;ILjava/lang/Object;II)V" } : Jvm.MethodName)) ∈ G := G_in (List.mem_of_getElem? (i := 153) rfl) rfl
set_option maxRecDepth 20000 in
theorem g_137 : (Jvm.Cond.static ({ cls := "java/lang/System", name := "arraycopy", desc := "(Ljava/lang/Object;ILjava/lang/Object;II)V" } : Jvm.MethodName)) ∈ G := G_in (List.mem_of_getElem? (i := 154) rfl) rfl
set_option maxRecDepth 20000 in
theorem g_138 : (Jvm.Cond.native ({ cls := "java/lang/System", name := "arraycopy", desc := "(Ljava/lang/Object;ILjava/lang/Object;II)V" } : Jvm.MethodName)) ∈ G := G_in (List.mem_of_getElem? (i := 155) rfl) rfl
set_option maxRecDepth 20000 in
theorem g_139 : (Jvm.Cond.methodLink "BlockCode$Key" (49 : Nat) ({ cls := "BlockCode$Key", name := "makeTurnedWord", desc := "(II)V" } : Jvm.MethodName)) ∈ G := G_in (List.mem_of_getElem? (i := 156) rfl) rfl
set_option maxRecDepth 20000 in
theorem g_141 : (Jvm.Cond.instanceMethod ({ cls := "BlockCode$Key", name := "makeTurnedWord", desc := "(II)V" } : Jvm.MethodName)) ∈ G := G_in (List.mem_of_getElem? (i := 158) rfl) rfl
set_option maxRecDepth 20000 in
theorem g_142 : (Jvm.Cond.code ({ cls := "BlockCode$Key", name := "makeTurnedWord", desc := "(II)V" } : Jvm.MethodName) prog_2_method_7_code (4 : Nat) (Option.none : Option Jvm.ClassFile.FieldType)) ∈ G := G_in (List.mem_of_getElem? (i := 159) rfl) rfl
set_option maxRecDepth 20000 in
theorem n_143 : (Jvm.Cond.fieldLinkNest "BlockCode$Key" (61 : Nat) "BlockCode" "S" "[I" "BlockCode") ∈ nests := nests_in (List.mem_of_getElem? (i := 143) rfl) rfl
set_option maxRecDepth 20000 in
theorem g_145 : (Jvm.Cond.methodLink "BlockCode$Key" (53 : Nat) ({ cls := "BlockCode$Key", name := "twice", desc := "(I)I" } : Jvm.MethodName)) ∈ G := G_in (List.mem_of_getElem? (i := 162) rfl) rfl
set_option maxRecDepth 20000 in
theorem g_146 : (Jvm.Cond.static ({ cls := "BlockCode$Key", name := "twice", desc := "(I)I" } : Jvm.MethodName)) ∈ G := G_in (List.mem_of_getElem? (i := 163) rfl) rfl
set_option maxRecDepth 20000 in
theorem g_147 : (Jvm.Cond.code ({ cls := "BlockCode$Key", name := "twice", desc := "(I)I" } : Jvm.MethodName) prog_2_method_18_code (1 : Nat) (Option.some Jvm.ClassFile.FieldType.int)) ∈ G := G_in (List.mem_of_getElem? (i := 164) rfl) rfl
set_option maxRecDepth 20000 in
theorem g_148 : (Jvm.Cond.methodLink "BlockCode$Key" (57 : Nat) ({ cls := "BlockCode$Key", name := "makePlainWord", desc := "(I)V" } : Jvm.MethodName)) ∈ G := G_in (List.mem_of_getElem? (i := 165) rfl) rfl
set_option maxRecDepth 20000 in
theorem g_150 : (Jvm.Cond.instanceMethod ({ cls := "BlockCode$Key", name := "makePlainWord", desc := "(I)V" } : Jvm.MethodName)) ∈ G := G_in (List.mem_of_getElem? (i := 167) rfl) rfl
set_option maxRecDepth 20000 in
theorem g_151 : (Jvm.Cond.code ({ cls := "BlockCode$Key", name := "makePlainWord", desc := "(I)V" } : Jvm.MethodName) prog_2_method_6_code (3 : Nat) (Option.none : Option Jvm.ClassFile.FieldType)) ∈ G := G_in (List.mem_of_getElem? (i := 168) rfl) rfl
set_option maxRecDepth 20000 in
theorem g_152 : (Jvm.Cond.methodLink "BlockCode$Key" (40 : Nat) ({ cls := "BlockCode$Key", name := "makeHalves", desc := "()V" } : Jvm.MethodName)) ∈ G := G_in (List.mem_of_getElem? (i := 169) rfl) rfl
set_option maxRecDepth 20000 in
theorem g_154 : (Jvm.Cond.instanceMethod ({ cls := "BlockCode$Key", name := "makeHalves", desc := "()V" } : Jvm.MethodName)) ∈ G := G_in (List.mem_of_getElem? (i := 171) rfl) rfl
set_option maxRecDepth 20000 in
theorem g_155 : (Jvm.Cond.code ({ cls := "BlockCode$Key", name := "makeHalves", desc := "()V" } : Jvm.MethodName) prog_2_method_8_code (1 : Nat) (Option.none : Option Jvm.ClassFile.FieldType)) ∈ G := G_in (List.mem_of_getElem? (i := 172) rfl) rfl
set_option maxRecDepth 20000 in
theorem g_156 : (Jvm.Cond.methodLink "BlockCode$Key" (64 : Nat) ({ cls := "BlockCode$Key", name := "goForth", desc := "([I)V" } : Jvm.MethodName)) ∈ G := G_in (List.mem_of_getElem? (i := 173) rfl) rfl
set_option maxRecDepth 20000 in
theorem g_157 : (Jvm.Cond.instanceMethod ({ cls := "BlockCode$Key", name := "goForth", desc := "([I)V" } : Jvm.MethodName)) ∈ G := G_in (List.mem_of_getElem? (i := 174) rfl) rfl
set_option maxRecDepth 20000 in
theorem g_158 : (Jvm.Cond.selects "BlockCode$Key" ({ cls := "BlockCode$Key", name := "goForth", desc := "([I)V" } : Jvm.MethodName) ({ cls := "BlockCode$Key", name := "goForth", desc := "([I)V" } : Jvm.MethodName)) ∈ G := G_in (List.mem_of_getElem? (i := 175) rfl) rfl
set_option maxRecDepth 20000 in
theorem g_159 : (Jvm.Cond.code ({ cls := "BlockCode$Key", name := "goForth", desc := "([I)V" } : Jvm.MethodName) prog_2_method_10_code (3 : Nat) (Option.none : Option Jvm.ClassFile.FieldType)) ∈ G := G_in (List.mem_of_getElem? (i := 176) rfl) rfl
set_option maxRecDepth 20000 in
theorem n_160 : (Jvm.Cond.methodLinkNest "BlockCode$Key" (72 : Nat) ({ cls := "BlockCode", name := "xor", desc := "([I[II)V" } : Jvm.MethodName) "BlockCode") ∈ nests := nests_in (List.mem_of_getElem? (i := 160) rfl) rfl
set_option maxRecDepth 20000 in
theorem g_161 : (Jvm.Cond.static ({ cls := "BlockCode", name := "xor", desc := "([I[II)V" } : Jvm.MethodName)) ∈ G := G_in (List.mem_of_getElem? (i := 178) rfl) rfl
set_option maxRecDepth 20000 in
theorem g_162 : (Jvm.Cond.code ({ cls := "BlockCode", name := "xor", desc := "([I[II)V" } : Jvm.MethodName) prog_1_method_23_code (4 : Nat) (Option.none : Option Jvm.ClassFile.FieldType)) ∈ G := G_in (List.mem_of_getElem? (i := 179) rfl) rfl
set_option maxRecDepth 20000 in
theorem g_163 : (Jvm.Cond.methodLink "BlockCode$Key" (76 : Nat) ({ cls := "BlockCode$Key", name := "replaceAndMove", desc := "([I)V" } : Jvm.MethodName)) ∈ G := G_in (List.mem_of_getElem? (i := 180) rfl) rfl
set_option maxRecDepth 20000 in
theorem g_165 : (Jvm.Cond.instanceMethod ({ cls := "BlockCode$Key", name := "replaceAndMove", desc := "([I)V" } : Jvm.MethodName)) ∈ G := G_in (List.mem_of_getElem? (i := 182) rfl) rfl
set_option maxRecDepth 20000 in
theorem g_166 : (Jvm.Cond.code ({ cls := "BlockCode$Key", name := "replaceAndMove", desc := "([I)V" } : Jvm.MethodName) prog_2_method_12_code (3 : Nat) (Option.none : Option Jvm.ClassFile.FieldType)) ∈ G := G_in (List.mem_of_getElem? (i := 183) rfl) rfl
set_option maxRecDepth 20000 in
theorem g_167 : (Jvm.Cond.methodLink "BlockCode$Key" (88 : Nat) ({ cls := "BlockCode$Key", name := "source", desc := "(I)I" } : Jvm.MethodName)) ∈ G := G_in (List.mem_of_getElem? (i := 184) rfl) rfl
set_option maxRecDepth 20000 in
theorem g_168 : (Jvm.Cond.static ({ cls := "BlockCode$Key", name := "source", desc := "(I)I" } : Jvm.MethodName)) ∈ G := G_in (List.mem_of_getElem? (i := 185) rfl) rfl
set_option maxRecDepth 20000 in
theorem g_169 : (Jvm.Cond.code ({ cls := "BlockCode$Key", name := "source", desc := "(I)I" } : Jvm.MethodName) prog_2_method_14_code (1 : Nat) (Option.some Jvm.ClassFile.FieldType.int)) ∈ G := G_in (List.mem_of_getElem? (i := 186) rfl) rfl
set_option maxRecDepth 20000 in
theorem g_170 : (Jvm.Cond.methodLink "BlockCode$Key" (79 : Nat) ({ cls := "BlockCode$Key", name := "mix", desc := "([I)V" } : Jvm.MethodName)) ∈ G := G_in (List.mem_of_getElem? (i := 187) rfl) rfl
set_option maxRecDepth 20000 in
theorem g_171 : (Jvm.Cond.static ({ cls := "BlockCode$Key", name := "mix", desc := "([I)V" } : Jvm.MethodName)) ∈ G := G_in (List.mem_of_getElem? (i := 188) rfl) rfl
set_option maxRecDepth 20000 in
theorem g_172 : (Jvm.Cond.code ({ cls := "BlockCode$Key", name := "mix", desc := "([I)V" } : Jvm.MethodName) prog_2_method_15_code (6 : Nat) (Option.none : Option Jvm.ClassFile.FieldType)) ∈ G := G_in (List.mem_of_getElem? (i := 189) rfl) rfl
set_option maxRecDepth 20000 in
theorem g_173 : (Jvm.Cond.methodLink "BlockCode$Key" (94 : Nat) ({ cls := "BlockCode$Key", name := "mixed", desc := "(IIII)I" } : Jvm.MethodName)) ∈ G := G_in (List.mem_of_getElem? (i := 190) rfl) rfl
set_option maxRecDepth 20000 in
theorem g_174 : (Jvm.Cond.static ({ cls := "BlockCode$Key", name := "mixed", desc := "(IIII)I" } : Jvm.MethodName)) ∈ G := G_in (List.mem_of_getElem? (i := 191) rfl) rfl
set_option maxRecDepth 20000 in
theorem g_175 : (Jvm.Cond.code ({ cls := "BlockCode$Key", name := "mixed", desc := "(IIII)I" } : Jvm.MethodName) prog_2_method_17_code (4 : Nat) (Option.some Jvm.ClassFile.FieldType.int)) ∈ G := G_in (List.mem_of_getElem? (i := 192) rfl) rfl
set_option maxRecDepth 20000 in
theorem g_176 : (Jvm.Cond.methodLink "BlockCode$Key" (68 : Nat) ({ cls := "BlockCode$Key", name := "putDoubled", desc := "([I[I)V" } : Jvm.MethodName)) ∈ G := G_in (List.mem_of_getElem? (i := 193) rfl) rfl
set_option maxRecDepth 20000 in
theorem g_177 : (Jvm.Cond.static ({ cls := "BlockCode$Key", name := "putDoubled", desc := "([I[I)V" } : Jvm.MethodName)) ∈ G := G_in (List.mem_of_getElem? (i := 194) rfl) rfl
set_option maxRecDepth 20000 in
theorem g_178 : (Jvm.Cond.code ({ cls := "BlockCode$Key", name := "putDoubled", desc := "([I[I)V" } : Jvm.MethodName) prog_2_method_9_code (4 : Nat) (Option.none : Option Jvm.ClassFile.FieldType)) ∈ G := G_in (List.mem_of_getElem? (i := 195) rfl) rfl
set_option maxRecDepth 20000 in
theorem g_179 : (Jvm.Cond.methodLink "BlockCodeLaw" (27 : Nat) ({ cls := "BlockCode", name := "macStart", desc := "()Z" } : Jvm.MethodName)) ∈ G := G_in (List.mem_of_getElem? (i := 196) rfl) rfl
set_option maxRecDepth 20000 in
theorem g_180 : (Jvm.Cond.instanceMethod ({ cls := "BlockCode", name := "macStart", desc := "()Z" } : Jvm.MethodName)) ∈ G := G_in (List.mem_of_getElem? (i := 197) rfl) rfl
set_option maxRecDepth 20000 in
theorem g_181 : (Jvm.Cond.selects "BlockCode" ({ cls := "BlockCode", name := "macStart", desc := "()Z" } : Jvm.MethodName) ({ cls := "BlockCode", name := "macStart", desc := "()Z" } : Jvm.MethodName)) ∈ G := G_in (List.mem_of_getElem? (i := 198) rfl) rfl
set_option maxRecDepth 20000 in
theorem g_182 : (Jvm.Cond.code ({ cls := "BlockCode", name := "macStart", desc := "()Z" } : Jvm.MethodName) prog_1_method_5_code (1 : Nat) (Option.some Jvm.ClassFile.FieldType.boolean)) ∈ G := G_in (List.mem_of_getElem? (i := 199) rfl) rfl
set_option maxRecDepth 20000 in
theorem g_183 : (Jvm.Cond.methodLink "BlockCode" (60 : Nat) ({ cls := "BlockCode$Message", name := "begin", desc := "()V" } : Jvm.MethodName)) ∈ G := G_in (List.mem_of_getElem? (i := 200) rfl) rfl
set_option maxRecDepth 20000 in
theorem g_184 : (Jvm.Cond.instanceMethod ({ cls := "BlockCode$Message", name := "begin", desc := "()V" } : Jvm.MethodName)) ∈ G := G_in (List.mem_of_getElem? (i := 201) rfl) rfl
set_option maxRecDepth 20000 in
theorem g_185 : (Jvm.Cond.selects "BlockCode$Message" ({ cls := "BlockCode$Message", name := "begin", desc := "()V" } : Jvm.MethodName) ({ cls := "BlockCode$Message", name := "begin", desc := "()V" } : Jvm.MethodName)) ∈ G := G_in (List.mem_of_getElem? (i := 202) rfl) rfl
set_option maxRecDepth 20000 in
theorem g_186 : (Jvm.Cond.code ({ cls := "BlockCode$Message", name := "begin", desc := "()V" } : Jvm.MethodName) prog_3_method_3_code (1 : Nat) (Option.none : Option Jvm.ClassFile.FieldType)) ∈ G := G_in (List.mem_of_getElem? (i := 203) rfl) rfl
set_option maxRecDepth 20000 in
theorem g_187 : (Jvm.Cond.methodLink "BlockCode$Message" (32 : Nat) ({ cls := "java/util/Arrays", name := "fill", desc := "([II)V" } : Jvm.MethodName)) ∈ G := G_in (List.mem_of_getElem? (i := 204) rfl) rfl
set_option maxRecDepth 20000 in
theorem g_188 : (Jvm.Cond.methodLink "BlockCodeLaw" (31 : Nat) ({ cls := "BlockCode", name := "macUpdate", desc := "(I)Z" } : Jvm.MethodName)) ∈ G := G_in (List.mem_of_getElem? (i := 205) rfl) rfl
set_option maxRecDepth 20000 in
theorem g_189 : (Jvm.Cond.instanceMethod ({ cls := "BlockCode", name := "macUpdate", desc := "(I)Z" } : Jvm.MethodName)) ∈ G := G_in (List.mem_of_getElem? (i := 206) rfl) rfl
set_option maxRecDepth 20000 in
theorem g_190 : (Jvm.Cond.selects "BlockCode" ({ cls := "BlockCode", name := "macUpdate", desc := "(I)Z" } : Jvm.MethodName) ({ cls := "BlockCode", name := "macUpdate", desc := "(I)Z" } : Jvm.MethodName)) ∈ G := G_in (List.mem_of_getElem? (i := 207) rfl) rfl
set_option maxRecDepth 20000 in
theorem g_191 : (Jvm.Cond.code ({ cls := "BlockCode", name := "macUpdate", desc := "(I)Z" } : Jvm.MethodName) prog_1_method_6_code (2 : Nat) (Option.some Jvm.ClassFile.FieldType.boolean)) ∈ G := G_in (List.mem_of_getElem? (i := 208) rfl) rfl
set_option maxRecDepth 20000 in
theorem g_192 : (Jvm.Cond.methodLink "BlockCode" (66 : Nat) ({ cls := "BlockCode$Message", name := "take", desc := "(ILBlockCode$Key;)V" } : Jvm.MethodName)) ∈ G := G_in (List.mem_of_getElem? (i := 209) rfl) rfl
set_option maxRecDepth 20000 in
theorem g_193 : (Jvm.Cond.instanceMethod ({ cls := "BlockCode$Message", name := "take", desc := "(ILBlockCode$Key;)V" } : Jvm.MethodName)) ∈ G := G_in (List.mem_of_getElem? (i := 210) rfl) rfl
set_option maxRecDepth 20000 in
theorem g_194 : (Jvm.Cond.selects "BlockCode$Message" ({ cls := "BlockCode$Message", name := "take", desc := "(ILBlockCode$Key;)V" } : Jvm.MethodName) ({ cls := "BlockCode$Message", name := "take", desc := "(ILBlockCode$Key;)V" } : Jvm.MethodName)) ∈ G := G_in (List.mem_of_getElem? (i := 211) rfl) rfl
set_option maxRecDepth 20000 in
theorem g_195 : (Jvm.Cond.code ({ cls := "BlockCode$Message", name := "take", desc := "(ILBlockCode$Key;)V" } : Jvm.MethodName) prog_3_method_4_code (3 : Nat) (Option.none : Option Jvm.ClassFile.FieldType)) ∈ G := G_in (List.mem_of_getElem? (i := 212) rfl) rfl
set_option maxRecDepth 20000 in
theorem g_196 : (Jvm.Cond.methodLink "BlockCode$Message" (38 : Nat) ({ cls := "BlockCode$Key", name := "goForth", desc := "([I)V" } : Jvm.MethodName)) ∈ G := G_in (List.mem_of_getElem? (i := 213) rfl) rfl
set_option maxRecDepth 20000 in
theorem g_197 : (Jvm.Cond.methodLink "BlockCodeLaw" (36 : Nat) ({ cls := "BlockCode", name := "macFill", desc := "(III)Z" } : Jvm.MethodName)) ∈ G := G_in (List.mem_of_getElem? (i := 214) rfl) rfl
set_option maxRecDepth 20000 in
theorem g_198 : (Jvm.Cond.instanceMethod ({ cls := "BlockCode", name := "macFill", desc := "(III)Z" } : Jvm.MethodName)) ∈ G := G_in (List.mem_of_getElem? (i := 215) rfl) rfl
set_option maxRecDepth 20000 in
theorem g_199 : (Jvm.Cond.selects "BlockCode" ({ cls := "BlockCode", name := "macFill", desc := "(III)Z" } : Jvm.MethodName) ({ cls := "BlockCode", name := "macFill", desc := "(III)Z" } : Jvm.MethodName)) ∈ G := G_in (List.mem_of_getElem? (i := 216) rfl) rfl
set_option maxRecDepth 20000 in
theorem g_200 : (Jvm.Cond.code ({ cls := "BlockCode", name := "macFill", desc := "(III)Z" } : Jvm.MethodName) prog_1_method_7_code (6 : Nat) (Option.some Jvm.ClassFile.FieldType.boolean)) ∈ G := G_in (List.mem_of_getElem? (i := 217) rfl) rfl
set_option maxRecDepth 20000 in
theorem g_201 : (Jvm.Cond.methodLink "BlockCodeLaw" (41 : Nat) ({ cls := "BlockCode", name := "macFinish", desc := "()Z" } : Jvm.MethodName)) ∈ G := G_in (List.mem_of_getElem? (i := 218) rfl) rfl
set_option maxRecDepth 20000 in
theorem g_202 : (Jvm.Cond.instanceMethod ({ cls := "BlockCode", name := "macFinish", desc := "()Z" } : Jvm.MethodName)) ∈ G := G_in (List.mem_of_getElem? (i := 219) rfl) rfl
set_option maxRecDepth 20000 in
theorem g_203 : (Jvm.Cond.selects "BlockCode" ({ cls := "BlockCode", name := "macFinish", desc := "()Z" } : Jvm.MethodName) ({ cls := "BlockCode", name := "macFinish", desc := "()Z" } : Jvm.MethodName)) ∈ G := G_in (List.mem_of_getElem? (i := 220) rfl) rfl
set_option maxRecDepth 20000 in
theorem g_204 : (Jvm.Cond.code ({ cls := "BlockCode", name := "macFinish", desc := "()Z" } : Jvm.MethodName) prog_1_method_8_code (1 : Nat) (Option.some Jvm.ClassFile.FieldType.boolean)) ∈ G := G_in (List.mem_of_getElem? (i := 221) rfl) rfl
set_option maxRecDepth 20000 in
theorem g_205 : (Jvm.Cond.methodLink "BlockCode" (70 : Nat) ({ cls := "BlockCode$Message", name := "end", desc := "(LBlockCode$Key;)V" } : Jvm.MethodName)) ∈ G := G_in (List.mem_of_getElem? (i := 222) rfl) rfl
set_option maxRecDepth 20000 in
theorem g_206 : (Jvm.Cond.instanceMethod ({ cls := "BlockCode$Message", name := "end", desc := "(LBlockCode$Key;)V" } : Jvm.MethodName)) ∈ G := G_in (List.mem_of_getElem? (i := 223) rfl) rfl
set_option maxRecDepth 20000 in
theorem g_207 : (Jvm.Cond.selects "BlockCode$Message" ({ cls := "BlockCode$Message", name := "end", desc := "(LBlockCode$Key;)V" } : Jvm.MethodName) ({ cls := "BlockCode$Message", name := "end", desc := "(LBlockCode$Key;)V" } : Jvm.MethodName)) ∈ G := G_in (List.mem_of_getElem? (i := 224) rfl) rfl
set_option maxRecDepth 20000 in
theorem g_208 : (Jvm.Cond.code ({ cls := "BlockCode$Message", name := "end", desc := "(LBlockCode$Key;)V" } : Jvm.MethodName) prog_3_method_5_code (2 : Nat) (Option.none : Option Jvm.ClassFile.FieldType)) ∈ G := G_in (List.mem_of_getElem? (i := 225) rfl) rfl
set_option maxRecDepth 20000 in
theorem n_209 : (Jvm.Cond.methodLinkNest "BlockCode$Message" (47 : Nat) ({ cls := "BlockCode", name := "xor", desc := "([I[II)V" } : Jvm.MethodName) "BlockCode") ∈ nests := nests_in (List.mem_of_getElem? (i := 209) rfl) rfl
set_option maxRecDepth 20000 in
theorem g_210 : (Jvm.Cond.methodLink "BlockCodeLaw" (45 : Nat) ({ cls := "BlockCode", name := "tagByte", desc := "(I)I" } : Jvm.MethodName)) ∈ G := G_in (List.mem_of_getElem? (i := 227) rfl) rfl
set_option maxRecDepth 20000 in
theorem g_211 : (Jvm.Cond.instanceMethod ({ cls := "BlockCode", name := "tagByte", desc := "(I)I" } : Jvm.MethodName)) ∈ G := G_in (List.mem_of_getElem? (i := 228) rfl) rfl
set_option maxRecDepth 20000 in
theorem g_212 : (Jvm.Cond.selects "BlockCode" ({ cls := "BlockCode", name := "tagByte", desc := "(I)I" } : Jvm.MethodName) ({ cls := "BlockCode", name := "tagByte", desc := "(I)I" } : Jvm.MethodName)) ∈ G := G_in (List.mem_of_getElem? (i := 229) rfl) rfl
set_option maxRecDepth 20000 in
theorem g_213 : (Jvm.Cond.code ({ cls := "BlockCode", name := "tagByte", desc := "(I)I" } : Jvm.MethodName) prog_1_method_9_code (2 : Nat) (Option.some Jvm.ClassFile.FieldType.int)) ∈ G := G_in (List.mem_of_getElem? (i := 230) rfl) rfl
set_option maxRecDepth 20000 in
theorem g_214 : (Jvm.Cond.methodLink "BlockCodeLaw" (50 : Nat) ({ cls := "BlockCode", name := "macCheck", desc := "(II)Z" } : Jvm.MethodName)) ∈ G := G_in (List.mem_of_getElem? (i := 231) rfl) rfl
set_option maxRecDepth 20000 in
theorem g_215 : (Jvm.Cond.instanceMethod ({ cls := "BlockCode", name := "macCheck", desc := "(II)Z" } : Jvm.MethodName)) ∈ G := G_in (List.mem_of_getElem? (i := 232) rfl) rfl
set_option maxRecDepth 20000 in
theorem g_216 : (Jvm.Cond.selects "BlockCode" ({ cls := "BlockCode", name := "macCheck", desc := "(II)Z" } : Jvm.MethodName) ({ cls := "BlockCode", name := "macCheck", desc := "(II)Z" } : Jvm.MethodName)) ∈ G := G_in (List.mem_of_getElem? (i := 233) rfl) rfl
set_option maxRecDepth 20000 in
theorem g_217 : (Jvm.Cond.code ({ cls := "BlockCode", name := "macCheck", desc := "(II)Z" } : Jvm.MethodName) prog_1_method_10_code (3 : Nat) (Option.some Jvm.ClassFile.FieldType.boolean)) ∈ G := G_in (List.mem_of_getElem? (i := 234) rfl) rfl
set_option maxRecDepth 20000 in
theorem g_218 : (Jvm.Cond.methodLink "BlockCode" (80 : Nat) ({ cls := "BlockCode$Message", name := "compare", desc := "(II)V" } : Jvm.MethodName)) ∈ G := G_in (List.mem_of_getElem? (i := 235) rfl) rfl
set_option maxRecDepth 20000 in
theorem g_219 : (Jvm.Cond.instanceMethod ({ cls := "BlockCode$Message", name := "compare", desc := "(II)V" } : Jvm.MethodName)) ∈ G := G_in (List.mem_of_getElem? (i := 236) rfl) rfl
set_option maxRecDepth 20000 in
theorem g_220 : (Jvm.Cond.selects "BlockCode$Message" ({ cls := "BlockCode$Message", name := "compare", desc := "(II)V" } : Jvm.MethodName) ({ cls := "BlockCode$Message", name := "compare", desc := "(II)V" } : Jvm.MethodName)) ∈ G := G_in (List.mem_of_getElem? (i := 237) rfl) rfl
set_option maxRecDepth 20000 in
theorem g_221 : (Jvm.Cond.code ({ cls := "BlockCode$Message", name := "compare", desc := "(II)V" } : Jvm.MethodName) prog_3_method_6_code (3 : Nat) (Option.none : Option Jvm.ClassFile.FieldType)) ∈ G := G_in (List.mem_of_getElem? (i := 238) rfl) rfl
set_option maxRecDepth 20000 in
theorem g_222 : (Jvm.Cond.methodLink "BlockCodeLaw" (54 : Nat) ({ cls := "BlockCode", name := "macVerdict", desc := "()Z" } : Jvm.MethodName)) ∈ G := G_in (List.mem_of_getElem? (i := 239) rfl) rfl
set_option maxRecDepth 20000 in
theorem g_223 : (Jvm.Cond.instanceMethod ({ cls := "BlockCode", name := "macVerdict", desc := "()Z" } : Jvm.MethodName)) ∈ G := G_in (List.mem_of_getElem? (i := 240) rfl) rfl
set_option maxRecDepth 20000 in
theorem g_224 : (Jvm.Cond.selects "BlockCode" ({ cls := "BlockCode", name := "macVerdict", desc := "()Z" } : Jvm.MethodName) ({ cls := "BlockCode", name := "macVerdict", desc := "()Z" } : Jvm.MethodName)) ∈ G := G_in (List.mem_of_getElem? (i := 241) rfl) rfl
set_option maxRecDepth 20000 in
theorem g_225 : (Jvm.Cond.code ({ cls := "BlockCode", name := "macVerdict", desc := "()Z" } : Jvm.MethodName) prog_1_method_11_code (1 : Nat) (Option.some Jvm.ClassFile.FieldType.boolean)) ∈ G := G_in (List.mem_of_getElem? (i := 242) rfl) rfl
set_option maxRecDepth 20000 in
theorem g_226 : (Jvm.Cond.constant "BlockCode" (87 : Nat) (65535 : Int32)) ∈ G := G_in (List.mem_of_getElem? (i := 243) rfl) rfl
set_option maxRecDepth 20000 in
theorem g_227 : (Jvm.Cond.methodLink "BlockCodeLaw" (58 : Nat) ({ cls := "BlockCode", name := "setBlockByte", desc := "(II)Z" } : Jvm.MethodName)) ∈ G := G_in (List.mem_of_getElem? (i := 244) rfl) rfl
set_option maxRecDepth 20000 in
theorem g_228 : (Jvm.Cond.instanceMethod ({ cls := "BlockCode", name := "setBlockByte", desc := "(II)Z" } : Jvm.MethodName)) ∈ G := G_in (List.mem_of_getElem? (i := 245) rfl) rfl
set_option maxRecDepth 20000 in
theorem g_229 : (Jvm.Cond.selects "BlockCode" ({ cls := "BlockCode", name := "setBlockByte", desc := "(II)Z" } : Jvm.MethodName) ({ cls := "BlockCode", name := "setBlockByte", desc := "(II)Z" } : Jvm.MethodName)) ∈ G := G_in (List.mem_of_getElem? (i := 246) rfl) rfl
set_option maxRecDepth 20000 in
theorem g_230 : (Jvm.Cond.code ({ cls := "BlockCode", name := "setBlockByte", desc := "(II)Z" } : Jvm.MethodName) prog_1_method_12_code (3 : Nat) (Option.some Jvm.ClassFile.FieldType.boolean)) ∈ G := G_in (List.mem_of_getElem? (i := 247) rfl) rfl
set_option maxRecDepth 20000 in
theorem g_231 : (Jvm.Cond.methodLink "BlockCodeLaw" (62 : Nat) ({ cls := "BlockCode", name := "encryptBlock", desc := "()Z" } : Jvm.MethodName)) ∈ G := G_in (List.mem_of_getElem? (i := 248) rfl) rfl
set_option maxRecDepth 20000 in
theorem g_232 : (Jvm.Cond.instanceMethod ({ cls := "BlockCode", name := "encryptBlock", desc := "()Z" } : Jvm.MethodName)) ∈ G := G_in (List.mem_of_getElem? (i := 249) rfl) rfl
set_option maxRecDepth 20000 in
theorem g_233 : (Jvm.Cond.selects "BlockCode" ({ cls := "BlockCode", name := "encryptBlock", desc := "()Z" } : Jvm.MethodName) ({ cls := "BlockCode", name := "encryptBlock", desc := "()Z" } : Jvm.MethodName)) ∈ G := G_in (List.mem_of_getElem? (i := 250) rfl) rfl
set_option maxRecDepth 20000 in
theorem g_234 : (Jvm.Cond.code ({ cls := "BlockCode", name := "encryptBlock", desc := "()Z" } : Jvm.MethodName) prog_1_method_13_code (1 : Nat) (Option.some Jvm.ClassFile.FieldType.boolean)) ∈ G := G_in (List.mem_of_getElem? (i := 251) rfl) rfl
set_option maxRecDepth 20000 in
theorem g_235 : (Jvm.Cond.methodLink "BlockCode" (91 : Nat) ({ cls := "BlockCode$Key", name := "goForth", desc := "([I)V" } : Jvm.MethodName)) ∈ G := G_in (List.mem_of_getElem? (i := 252) rfl) rfl
set_option maxRecDepth 20000 in
theorem g_236 : (Jvm.Cond.methodLink "BlockCodeLaw" (66 : Nat) ({ cls := "BlockCode", name := "decryptBlock", desc := "()Z" } : Jvm.MethodName)) ∈ G := G_in (List.mem_of_getElem? (i := 253) rfl) rfl
set_option maxRecDepth 20000 in
theorem g_237 : (Jvm.Cond.instanceMethod ({ cls := "BlockCode", name := "decryptBlock", desc := "()Z" } : Jvm.MethodName)) ∈ G := G_in (List.mem_of_getElem? (i := 254) rfl) rfl
set_option maxRecDepth 20000 in
theorem g_238 : (Jvm.Cond.selects "BlockCode" ({ cls := "BlockCode", name := "decryptBlock", desc := "()Z" } : Jvm.MethodName) ({ cls := "BlockCode", name := "decryptBlock", desc := "()Z" } : Jvm.MethodName)) ∈ G := G_in (List.mem_of_getElem? (i := 255) rfl) rfl
set_option maxRecDepth 20000 in
theorem g_239 : (Jvm.Cond.code ({ cls := "BlockCode", name := "decryptBlock", desc := "()Z" } : Jvm.MethodName) prog_1_method_14_code (1 : Nat) (Option.some Jvm.ClassFile.FieldType.boolean)) ∈ G := G_in (List.mem_of_getElem? (i := 256) rfl) rfl
set_option maxRecDepth 20000 in
theorem g_240 : (Jvm.Cond.methodLink "BlockCode" (95 : Nat) ({ cls := "BlockCode$Key", name := "goBack", desc := "([I)V" } : Jvm.MethodName)) ∈ G := G_in (List.mem_of_getElem? (i := 257) rfl) rfl
set_option maxRecDepth 20000 in
theorem g_241 : (Jvm.Cond.instanceMethod ({ cls := "BlockCode$Key", name := "goBack", desc := "([I)V" } : Jvm.MethodName)) ∈ G := G_in (List.mem_of_getElem? (i := 258) rfl) rfl
set_option maxRecDepth 20000 in
theorem g_242 : (Jvm.Cond.selects "BlockCode$Key" ({ cls := "BlockCode$Key", name := "goBack", desc := "([I)V" } : Jvm.MethodName) ({ cls := "BlockCode$Key", name := "goBack", desc := "([I)V" } : Jvm.MethodName)) ∈ G := G_in (List.mem_of_getElem? (i := 259) rfl) rfl
set_option maxRecDepth 20000 in
theorem g_243 : (Jvm.Cond.code ({ cls := "BlockCode$Key", name := "goBack", desc := "([I)V" } : Jvm.MethodName) prog_2_method_11_code (3 : Nat) (Option.none : Option Jvm.ClassFile.FieldType)) ∈ G := G_in (List.mem_of_getElem? (i := 260) rfl) rfl
set_option maxRecDepth 20000 in
theorem g_244 : (Jvm.Cond.methodLink "BlockCode$Key" (82 : Nat) ({ cls := "BlockCode$Key", name := "unmix", desc := "([I)V" } : Jvm.MethodName)) ∈ G := G_in (List.mem_of_getElem? (i := 261) rfl) rfl
set_option maxRecDepth 20000 in
theorem g_245 : (Jvm.Cond.static ({ cls := "BlockCode$Key", name := "unmix", desc := "([I)V" } : Jvm.MethodName)) ∈ G := G_in (List.mem_of_getElem? (i := 262) rfl) rfl
set_option maxRecDepth 20000 in
theorem g_246 : (Jvm.Cond.code ({ cls := "BlockCode$Key", name := "unmix", desc := "([I)V" } : Jvm.MethodName) prog_2_method_16_code (1 : Nat) (Option.none : Option Jvm.ClassFile.FieldType)) ∈ G := G_in (List.mem_of_getElem? (i := 263) rfl) rfl
set_option maxRecDepth 20000 in
theorem g_247 : (Jvm.Cond.methodLink "BlockCode$Key" (85 : Nat) ({ cls := "BlockCode$Key", name := "moveAndReplaceBack", desc := "([I)V" } : Jvm.MethodName)) ∈ G := G_in (List.mem_of_getElem? (i := 264) rfl) rfl
set_option maxRecDepth 20000 in
theorem g_249 : (Jvm.Cond.instanceMethod ({ cls := "BlockCode$Key", name := "moveAndReplaceBack", desc := "([I)V" } : Jvm.MethodName)) ∈ G := G_in (List.mem_of_getElem? (i := 266) rfl) rfl
set_option maxRecDepth 20000 in
theorem g_250 : (Jvm.Cond.code ({ cls := "BlockCode$Key", name := "moveAndReplaceBack", desc := "([I)V" } : Jvm.MethodName) prog_2_method_13_code (3 : Nat) (Option.none : Option Jvm.ClassFile.FieldType)) ∈ G := G_in (List.mem_of_getElem? (i := 267) rfl) rfl
set_option maxRecDepth 20000 in
theorem n_251 : (Jvm.Cond.fieldLinkNest "BlockCode$Key" (91 : Nat) "BlockCode" "UNDO_S" "[I" "BlockCode") ∈ nests := nests_in (List.mem_of_getElem? (i := 251) rfl) rfl
set_option maxRecDepth 20000 in
theorem g_253 : (Jvm.Cond.methodLink "BlockCodeLaw" (70 : Nat) ({ cls := "BlockCode", name := "chain", desc := "(Z)Z" } : Jvm.MethodName)) ∈ G := G_in (List.mem_of_getElem? (i := 270) rfl) rfl
set_option maxRecDepth 20000 in
theorem g_254 : (Jvm.Cond.instanceMethod ({ cls := "BlockCode", name := "chain", desc := "(Z)Z" } : Jvm.MethodName)) ∈ G := G_in (List.mem_of_getElem? (i := 271) rfl) rfl
set_option maxRecDepth 20000 in
theorem g_255 : (Jvm.Cond.selects "BlockCode" ({ cls := "BlockCode", name := "chain", desc := "(Z)Z" } : Jvm.MethodName) ({ cls := "BlockCode", name := "chain", desc := "(Z)Z" } : Jvm.MethodName)) ∈ G := G_in (List.mem_of_getElem? (i := 272) rfl) rfl
set_option maxRecDepth 20000 in
theorem g_256 : (Jvm.Cond.code ({ cls := "BlockCode", name := "chain", desc := "(Z)Z" } : Jvm.MethodName) prog_1_method_15_code (2 : Nat) (Option.some Jvm.ClassFile.FieldType.boolean)) ∈ G := G_in (List.mem_of_getElem? (i := 273) rfl) rfl
set_option maxRecDepth 20000 in
theorem g_257 : (Jvm.Cond.methodLink "BlockCode" (98 : Nat) ({ cls := "BlockCode", name := "chainBack", desc := "()V" } : Jvm.MethodName)) ∈ G := G_in (List.mem_of_getElem? (i := 274) rfl) rfl
set_option maxRecDepth 20000 in
theorem g_259 : (Jvm.Cond.instanceMethod ({ cls := "BlockCode", name := "chainBack", desc := "()V" } : Jvm.MethodName)) ∈ G := G_in (List.mem_of_getElem? (i := 276) rfl) rfl
set_option maxRecDepth 20000 in
theorem g_260 : (Jvm.Cond.code ({ cls := "BlockCode", name := "chainBack", desc := "()V" } : Jvm.MethodName) prog_1_method_20_code (1 : Nat) (Option.none : Option Jvm.ClassFile.FieldType)) ∈ G := G_in (List.mem_of_getElem? (i := 277) rfl) rfl
set_option maxRecDepth 20000 in
theorem g_261 : (Jvm.Cond.methodLink "BlockCode" (120 : Nat) ({ cls := "java/lang/System", name := "arraycopy", desc := "(Ljava/lang/Object;ILjava/lang/Object;II)V" } : Jvm.MethodName)) ∈ G := G_in (List.mem_of_getElem? (i := 278) rfl) rfl
set_option maxRecDepth 20000 in
theorem g_262 : (Jvm.Cond.methodLink "BlockCode" (116 : Nat) ({ cls := "BlockCode", name := "xor", desc := "([I[II)V" } : Jvm.MethodName)) ∈ G := G_in (List.mem_of_getElem? (i := 279) rfl) rfl
set_option maxRecDepth 20000 in
theorem g_263 : (Jvm.Cond.methodLink "BlockCode" (101 : Nat) ({ cls := "BlockCode", name := "chainForth", desc := "()V" } : Jvm.MethodName)) ∈ G := G_in (List.mem_of_getElem? (i := 280) rfl) rfl
set_option maxRecDepth 20000 in
theorem g_265 : (Jvm.Cond.instanceMethod ({ cls := "BlockCode", name := "chainForth", desc := "()V" } : Jvm.MethodName)) ∈ G := G_in (List.mem_of_getElem? (i := 282) rfl) rfl
set_option maxRecDepth 20000 in
theorem g_266 : (Jvm.Cond.code ({ cls := "BlockCode", name := "chainForth", desc := "()V" } : Jvm.MethodName) prog_1_method_19_code (1 : Nat) (Option.none : Option Jvm.ClassFile.FieldType)) ∈ G := G_in (List.mem_of_getElem? (i := 283) rfl) rfl
set_option maxRecDepth 20000 in
theorem g_267 : (Jvm.Cond.methodLink "BlockCodeLaw" (75 : Nat) ({ cls := "BlockCode", name := "unchain", desc := "()Z" } : Jvm.MethodName)) ∈ G := G_in (List.mem_of_getElem? (i := 284) rfl) rfl
set_option maxRecDepth 20000 in
theorem g_268 : (Jvm.Cond.instanceMethod ({ cls := "BlockCode", name := "unchain", desc := "()Z" } : Jvm.MethodName)) ∈ G := G_in (List.mem_of_getElem? (i := 285) rfl) rfl
set_option maxRecDepth 20000 in
theorem g_269 : (Jvm.Cond.selects "BlockCode" ({ cls := "BlockCode", name := "unchain", desc := "()Z" } : Jvm.MethodName) ({ cls := "BlockCode", name := "unchain", desc := "()Z" } : Jvm.MethodName)) ∈ G := G_in (List.mem_of_getElem? (i := 286) rfl) rfl
set_option maxRecDepth 20000 in
theorem g_270 : (Jvm.Cond.code ({ cls := "BlockCode", name := "unchain", desc := "()Z" } : Jvm.MethodName) prog_1_method_16_code (1 : Nat) (Option.some Jvm.ClassFile.FieldType.boolean)) ∈ G := G_in (List.mem_of_getElem? (i := 287) rfl) rfl
set_option maxRecDepth 20000 in
theorem g_271 : (Jvm.Cond.methodLink "BlockCode" (104 : Nat) ({ cls := "java/util/Arrays", name := "fill", desc := "([II)V" } : Jvm.MethodName)) ∈ G := G_in (List.mem_of_getElem? (i := 288) rfl) rfl
set_option maxRecDepth 20000 in
theorem g_272 : (Jvm.Cond.methodLink "BlockCodeLaw" (79 : Nat) ({ cls := "BlockCode", name := "blockByte", desc := "(I)I" } : Jvm.MethodName)) ∈ G := G_in (List.mem_of_getElem? (i := 289) rfl) rfl
set_option maxRecDepth 20000 in
theorem g_273 : (Jvm.Cond.instanceMethod ({ cls := "BlockCode", name := "blockByte", desc := "(I)I" } : Jvm.MethodName)) ∈ G := G_in (List.mem_of_getElem? (i := 290) rfl) rfl
set_option maxRecDepth 20000 in
theorem g_274 : (Jvm.Cond.selects "BlockCode" ({ cls := "BlockCode", name := "blockByte", desc := "(I)I" } : Jvm.MethodName) ({ cls := "BlockCode", name := "blockByte", desc := "(I)I" } : Jvm.MethodName)) ∈ G := G_in (List.mem_of_getElem? (i := 291) rfl) rfl
set_option maxRecDepth 20000 in
theorem g_275 : (Jvm.Cond.code ({ cls := "BlockCode", name := "blockByte", desc := "(I)I" } : Jvm.MethodName) prog_1_method_17_code (2 : Nat) (Option.some Jvm.ClassFile.FieldType.int)) ∈ G := G_in (List.mem_of_getElem? (i := 292) rfl) rfl
set_option maxRecDepth 20000 in
theorem g_276 : (Jvm.Cond.methodLink "BlockCodeLaw" (83 : Nat) ({ cls := "BlockCode", name := "half", desc := "(II)I" } : Jvm.MethodName)) ∈ G := G_in (List.mem_of_getElem? (i := 293) rfl) rfl
set_option maxRecDepth 20000 in
theorem g_277 : (Jvm.Cond.instanceMethod ({ cls := "BlockCode", name := "half", desc := "(II)I" } : Jvm.MethodName)) ∈ G := G_in (List.mem_of_getElem? (i := 294) rfl) rfl
set_option maxRecDepth 20000 in
theorem g_278 : (Jvm.Cond.selects "BlockCode" ({ cls := "BlockCode", name := "half", desc := "(II)I" } : Jvm.MethodName) ({ cls := "BlockCode", name := "half", desc := "(II)I" } : Jvm.MethodName)) ∈ G := G_in (List.mem_of_getElem? (i := 295) rfl) rfl
set_option maxRecDepth 20000 in
theorem g_279 : (Jvm.Cond.code ({ cls := "BlockCode", name := "half", desc := "(II)I" } : Jvm.MethodName) prog_1_method_18_code (3 : Nat) (Option.some Jvm.ClassFile.FieldType.int)) ∈ G := G_in (List.mem_of_getElem? (i := 296) rfl) rfl
set_option maxRecDepth 20000 in
theorem g_280 : (Jvm.Cond.classLink "BlockCodeLaw" (10 : Nat) "BlockCodeModel") ∈ G := G_in (List.mem_of_getElem? (i := 297) rfl) rfl
set_option maxRecDepth 20000 in
theorem g_281 : (Jvm.Cond.instantiable "BlockCodeModel" (18 : Nat)) ∈ G := G_in (List.mem_of_getElem? (i := 298) rfl) rfl
set_option maxRecDepth 20000 in
theorem g_282 : (Jvm.Cond.methodLink "BlockCodeLaw" (12 : Nat) ({ cls := "BlockCodeModel", name := "<init>", desc := "()V" } : Jvm.MethodName)) ∈ G := G_in (List.mem_of_getElem? (i := 299) rfl) rfl
set_option maxRecDepth 20000 in
theorem g_283 : (Jvm.Cond.instanceMethod ({ cls := "BlockCodeModel", name := "<init>", desc := "()V" } : Jvm.MethodName)) ∈ G := G_in (List.mem_of_getElem? (i := 300) rfl) rfl
set_option maxRecDepth 20000 in
theorem g_284 : (Jvm.Cond.code ({ cls := "BlockCodeModel", name := "<init>", desc := "()V" } : Jvm.MethodName) prog_5_method_1_code (6 : Nat) (Option.none : Option Jvm.ClassFile.FieldType)) ∈ G := G_in (List.mem_of_getElem? (i := 301) rfl) rfl
set_option maxRecDepth 20000 in
theorem g_285 : (Jvm.Cond.methodLink "BlockCodeModel" (1 : Nat) ({ cls := "java/lang/Object", name := "<init>", desc := "()V" } : Jvm.MethodName)) ∈ G := G_in (List.mem_of_getElem? (i := 302) rfl) rfl
set_option maxRecDepth 20000 in
theorem g_286 : (Jvm.Cond.methodLink "BlockCodeModel" (47 : Nat) ({ cls := "BlockCodeModel", name := "times", desc := "(II)I" } : Jvm.MethodName)) ∈ G := G_in (List.mem_of_getElem? (i := 303) rfl) rfl
set_option maxRecDepth 20000 in
theorem g_287 : (Jvm.Cond.static ({ cls := "BlockCodeModel", name := "times", desc := "(II)I" } : Jvm.MethodName)) ∈ G := G_in (List.mem_of_getElem? (i := 304) rfl) rfl
set_option maxRecDepth 20000 in
theorem g_288 : (Jvm.Cond.code ({ cls := "BlockCodeModel", name := "times", desc := "(II)I" } : Jvm.MethodName) prog_5_method_2_code (5 : Nat) (Option.some Jvm.ClassFile.FieldType.int)) ∈ G := G_in (List.mem_of_getElem? (i := 305) rfl) rfl
set_option maxRecDepth 20000 in
theorem g_289 : (Jvm.Cond.fieldLink "BlockCodeModel" (51 : Nat) "BlockCodeModel" "thrown" "I") ∈ G := G_in (List.mem_of_getElem? (i := 306) rfl) rfl
set_option maxRecDepth 20000 in
theorem g_290 : (Jvm.Cond.fieldLink "BlockCodeModel" (55 : Nat) "BlockCodeModel" "ready" "Z") ∈ G := G_in (List.mem_of_getElem? (i := 307) rfl) rfl
set_option maxRecDepth 20000 in
theorem g_291 : (Jvm.Cond.fieldLink "BlockCodeModel" (59 : Nat) "BlockCodeModel" "made" "Z") ∈ G := G_in (List.mem_of_getElem? (i := 308) rfl) rfl
set_option maxRecDepth 20000 in
theorem g_292 : (Jvm.Cond.fieldLink "BlockCodeModel" (62 : Nat) "BlockCodeModel" "message" "I") ∈ G := G_in (List.mem_of_getElem? (i := 309) rfl) rfl
set_option maxRecDepth 20000 in
theorem g_293 : (Jvm.Cond.fieldLink "BlockCodeModel" (7 : Nat) "BlockCodeModel" "key" "[I") ∈ G := G_in (List.mem_of_getElem? (i := 310) rfl) rfl
set_option maxRecDepth 20000 in
theorem g_294 : (Jvm.Cond.fieldLink "BlockCodeModel" (13 : Nat) "BlockCodeModel" "block" "[I") ∈ G := G_in (List.mem_of_getElem? (i := 311) rfl) rfl
set_option maxRecDepth 20000 in
theorem g_295 : (Jvm.Cond.fieldLink "BlockCodeModel" (16 : Nat) "BlockCodeModel" "before" "[I") ∈ G := G_in (List.mem_of_getElem? (i := 312) rfl) rfl
set_option maxRecDepth 20000 in
theorem g_296 : (Jvm.Cond.fieldLink "BlockCodeModel" (19 : Nat) "BlockCodeModel" "s" "[I") ∈ G := G_in (List.mem_of_getElem? (i := 313) rfl) rfl
set_option maxRecDepth 20000 in
theorem g_297 : (Jvm.Cond.fieldLink "BlockCodeModel" (22 : Nat) "BlockCodeModel" "unS" "[I") ∈ G := G_in (List.mem_of_getElem? (i := 314) rfl) rfl
set_option maxRecDepth 20000 in
theorem g_298 : (Jvm.Cond.fieldLink "BlockCodeModel" (25 : Nat) "BlockCodeModel" "words" "[I") ∈ G := G_in (List.mem_of_getElem? (i := 315) rfl) rfl
set_option maxRecDepth 20000 in
theorem g_299 : (Jvm.Cond.fieldLink "BlockCodeModel" (28 : Nat) "BlockCodeModel" "halves" "[I") ∈ G := G_in (List.mem_of_getElem? (i := 316) rfl) rfl
set_option maxRecDepth 20000 in
theorem g_300 : (Jvm.Cond.fieldLink "BlockCodeModel" (31 : Nat) "BlockCodeModel" "state" "[I") ∈ G := G_in (List.mem_of_getElem? (i := 317) rfl) rfl
set_option maxRecDepth 20000 in
theorem g_301 : (Jvm.Cond.fieldLink "BlockCodeModel" (34 : Nat) "BlockCodeModel" "moved" "[I") ∈ G := G_in (List.mem_of_getElem? (i := 318) rfl) rfl
set_option maxRecDepth 20000 in
theorem g_302 : (Jvm.Cond.fieldLink "BlockCodeModel" (37 : Nat) "BlockCodeModel" "code" "[I") ∈ G := G_in (List.mem_of_getElem? (i := 319) rfl) rfl
set_option maxRecDepth 20000 in
theorem g_303 : (Jvm.Cond.fieldLink "BlockCodeModel" (40 : Nat) "BlockCodeModel" "last" "[I") ∈ G := G_in (List.mem_of_getElem? (i := 320) rfl) rfl
set_option maxRecDepth 20000 in
theorem g_304 : (Jvm.Cond.fieldLink "BlockCodeModel" (86 : Nat) "BlockCodeModel" "lastCount" "I") ∈ G := G_in (List.mem_of_getElem? (i := 321) rfl) rfl
set_option maxRecDepth 20000 in
theorem g_305 : (Jvm.Cond.fieldLink "BlockCodeModel" (43 : Nat) "BlockCodeModel" "compared" "[Z") ∈ G := G_in (List.mem_of_getElem? (i := 322) rfl) rfl
set_option maxRecDepth 20000 in
theorem g_306 : (Jvm.Cond.fieldLink "BlockCodeModel" (95 : Nat) "BlockCodeModel" "wrong" "Z") ∈ G := G_in (List.mem_of_getElem? (i := 323) rfl) rfl
set_option maxRecDepth 20000 in
theorem g_307 : (Jvm.Cond.lays "BlockCodeModel" "BlockCodeModel" "thrown" "I") ∈ G := G_in (List.mem_of_getElem? (i := 324) rfl) rfl
set_option maxRecDepth 20000 in
theorem g_308 : (Jvm.Cond.soleField "BlockCodeModel" "thrown") ∈ G := G_in (List.mem_of_getElem? (i := 325) rfl) rfl
set_option maxRecDepth 20000 in
theorem g_309 : (Jvm.Cond.lays "BlockCodeModel" "BlockCodeModel" "ready" "Z") ∈ G := G_in (List.mem_of_getElem? (i := 326) rfl) rfl
set_option maxRecDepth 20000 in
theorem g_310 : (Jvm.Cond.soleField "BlockCodeModel" "ready") ∈ G := G_in (List.mem_of_getElem? (i := 327) rfl) rfl
set_option maxRecDepth 20000 in
theorem g_311 : (Jvm.Cond.lays "BlockCodeModel" "BlockCodeModel" "made" "Z") ∈ G := G_in (List.mem_of_getElem? (i := 328) rfl) rfl
set_option maxRecDepth 20000 in
theorem g_312 : (Jvm.Cond.soleField "BlockCodeModel" "made") ∈ G := G_in (List.mem_of_getElem? (i := 329) rfl) rfl
set_option maxRecDepth 20000 in
theorem g_313 : (Jvm.Cond.lays "BlockCodeModel" "BlockCodeModel" "message" "I") ∈ G := G_in (List.mem_of_getElem? (i := 330) rfl) rfl
set_option maxRecDepth 20000 in
theorem g_314 : (Jvm.Cond.soleField "BlockCodeModel" "message") ∈ G := G_in (List.mem_of_getElem? (i := 331) rfl) rfl
set_option maxRecDepth 20000 in
theorem g_315 : (Jvm.Cond.laysFinal "BlockCodeModel" "BlockCodeModel" "key" "[I") ∈ G := G_in (List.mem_of_getElem? (i := 332) rfl) rfl
set_option maxRecDepth 20000 in
theorem g_316 : (Jvm.Cond.soleField "BlockCodeModel" "key") ∈ G := G_in (List.mem_of_getElem? (i := 333) rfl) rfl
set_option maxRecDepth 20000 in
theorem g_317 : (Jvm.Cond.laysFinal "BlockCodeModel" "BlockCodeModel" "block" "[I") ∈ G := G_in (List.mem_of_getElem? (i := 334) rfl) rfl
set_option maxRecDepth 20000 in
theorem g_318 : (Jvm.Cond.soleField "BlockCodeModel" "block") ∈ G := G_in (List.mem_of_getElem? (i := 335) rfl) rfl
set_option maxRecDepth 20000 in
theorem g_319 : (Jvm.Cond.laysFinal "BlockCodeModel" "BlockCodeModel" "before" "[I") ∈ G := G_in (List.mem_of_getElem? (i := 336) rfl) rfl
set_option maxRecDepth 20000 in
theorem g_320 : (Jvm.Cond.soleField "BlockCodeModel" "before") ∈ G := G_in (List.mem_of_getElem? (i := 337) rfl) rfl
set_option maxRecDepth 20000 in
theorem g_321 : (Jvm.Cond.laysFinal "BlockCodeModel" "BlockCodeModel" "s" "[I") ∈ G := G_in (List.mem_of_getElem? (i := 338) rfl) rfl
set_option maxRecDepth 20000 in
theorem g_322 : (Jvm.Cond.soleField "BlockCodeModel" "s") ∈ G := G_in (List.mem_of_getElem? (i := 339) rfl) rfl
set_option maxRecDepth 20000 in
theorem g_323 : (Jvm.Cond.laysFinal "BlockCodeModel" "BlockCodeModel" "unS" "[I") ∈ G := G_in (List.mem_of_getElem? (i := 340) rfl) rfl
set_option maxRecDepth 20000 in
theorem g_324 : (Jvm.Cond.soleField "BlockCodeModel" "unS") ∈ G := G_in (List.mem_of_getElem? (i := 341) rfl) rfl
set_option maxRecDepth 20000 in
theorem g_325 : (Jvm.Cond.laysFinal "BlockCodeModel" "BlockCodeModel" "words" "[I") ∈ G := G_in (List.mem_of_getElem? (i := 342) rfl) rfl
set_option maxRecDepth 20000 in
theorem g_326 : (Jvm.Cond.soleField "BlockCodeModel" "words") ∈ G := G_in (List.mem_of_getElem? (i := 343) rfl) rfl
set_option maxRecDepth 20000 in
theorem g_327 : (Jvm.Cond.laysFinal "BlockCodeModel" "BlockCodeModel" "halves" "[I") ∈ G := G_in (List.mem_of_getElem? (i := 344) rfl) rfl
set_option maxRecDepth 20000 in
theorem g_328 : (Jvm.Cond.soleField "BlockCodeModel" "halves") ∈ G := G_in (List.mem_of_getElem? (i := 345) rfl) rfl
set_option maxRecDepth 20000 in
theorem g_329 : (Jvm.Cond.laysFinal "BlockCodeModel" "BlockCodeModel" "state" "[I") ∈ G := G_in (List.mem_of_getElem? (i := 346) rfl) rfl
set_option maxRecDepth 20000 in
theorem g_330 : (Jvm.Cond.soleField "BlockCodeModel" "state") ∈ G := G_in (List.mem_of_getElem? (i := 347) rfl) rfl
set_option maxRecDepth 20000 in
theorem g_331 : (Jvm.Cond.laysFinal "BlockCodeModel" "BlockCodeModel" "moved" "[I") ∈ G := G_in (List.mem_of_getElem? (i := 348) rfl) rfl
set_option maxRecDepth 20000 in
theorem g_332 : (Jvm.Cond.soleField "BlockCodeModel" "moved") ∈ G := G_in (List.mem_of_getElem? (i := 349) rfl) rfl
set_option maxRecDepth 20000 in
theorem g_333 : (Jvm.Cond.laysFinal "BlockCodeModel" "BlockCodeModel" "code" "[I") ∈ G := G_in (List.mem_of_getElem? (i := 350) rfl) rfl
set_option maxRecDepth 20000 in
theorem g_334 : (Jvm.Cond.soleField "BlockCodeModel" "code") ∈ G := G_in (List.mem_of_getElem? (i := 351) rfl) rfl
set_option maxRecDepth 20000 in
theorem g_335 : (Jvm.Cond.laysFinal "BlockCodeModel" "BlockCodeModel" "last" "[I") ∈ G := G_in (List.mem_of_getElem? (i := 352) rfl) rfl
set_option maxRecDepth 20000 in
theorem g_336 : (Jvm.Cond.soleField "BlockCodeModel" "last") ∈ G := G_in (List.mem_of_getElem? (i := 353) rfl) rfl
set_option maxRecDepth 20000 in
theorem g_337 : (Jvm.Cond.lays "BlockCodeModel" "BlockCodeModel" "lastCount" "I") ∈ G := G_in (List.mem_of_getElem? (i := 354) rfl) rfl
set_option maxRecDepth 20000 in
theorem g_338 : (Jvm.Cond.soleField "BlockCodeModel" "lastCount") ∈ G := G_in (List.mem_of_getElem? (i := 355) rfl) rfl
set_option maxRecDepth 20000 in
theorem g_339 : (Jvm.Cond.laysFinal "BlockCodeModel" "BlockCodeModel" "compared" "[Z") ∈ G := G_in (List.mem_of_getElem? (i := 356) rfl) rfl
set_option maxRecDepth 20000 in
theorem g_340 : (Jvm.Cond.soleField "BlockCodeModel" "compared") ∈ G := G_in (List.mem_of_getElem? (i := 357) rfl) rfl
set_option maxRecDepth 20000 in
theorem g_341 : (Jvm.Cond.lays "BlockCodeModel" "BlockCodeModel" "wrong" "Z") ∈ G := G_in (List.mem_of_getElem? (i := 358) rfl) rfl
set_option maxRecDepth 20000 in
theorem g_342 : (Jvm.Cond.soleField "BlockCodeModel" "wrong") ∈ G := G_in (List.mem_of_getElem? (i := 359) rfl) rfl
set_option maxRecDepth 20000 in
theorem g_343 : (Jvm.Cond.superclass "BlockCodeModel" "java/lang/Object") ∈ G := G_in (List.mem_of_getElem? (i := 360) rfl) rfl
set_option maxRecDepth 20000 in
theorem g_344 : (Jvm.Cond.arrayClass Jvm.ClassFile.FieldType.boolean) ∈ G := G_in (List.mem_of_getElem? (i := 361) rfl) rfl
set_option maxRecDepth 20000 in
theorem g_345 : (Jvm.Cond.methodLink "BlockCodeLaw" (16 : Nat) ({ cls := "BlockCodeModel", name := "init", desc := "()V" } : Jvm.MethodName)) ∈ G := G_in (List.mem_of_getElem? (i := 362) rfl) rfl
set_option maxRecDepth 20000 in
theorem g_346 : (Jvm.Cond.instanceMethod ({ cls := "BlockCodeModel", name := "init", desc := "()V" } : Jvm.MethodName)) ∈ G := G_in (List.mem_of_getElem? (i := 363) rfl) rfl
set_option maxRecDepth 20000 in
theorem g_347 : (Jvm.Cond.selects "BlockCodeModel" ({ cls := "BlockCodeModel", name := "init", desc := "()V" } : Jvm.MethodName) ({ cls := "BlockCodeModel", name := "init", desc := "()V" } : Jvm.MethodName)) ∈ G := G_in (List.mem_of_getElem? (i := 364) rfl) rfl
set_option maxRecDepth 20000 in
theorem g_348 : (Jvm.Cond.code ({ cls := "BlockCodeModel", name := "init", desc := "()V" } : Jvm.MethodName) prog_5_method_5_code (2 : Nat) (Option.none : Option Jvm.ClassFile.FieldType)) ∈ G := G_in (List.mem_of_getElem? (i := 365) rfl) rfl
set_option maxRecDepth 20000 in
theorem g_349 : (Jvm.Cond.methodLink "BlockCodeLaw" (21 : Nat) ({ cls := "BlockCodeModel", name := "setKeyByte", desc := "(II)Z" } : Jvm.MethodName)) ∈ G := G_in (List.mem_of_getElem? (i := 366) rfl) rfl
set_option maxRecDepth 20000 in
theorem g_350 : (Jvm.Cond.instanceMethod ({ cls := "BlockCodeModel", name := "setKeyByte", desc := "(II)Z" } : Jvm.MethodName)) ∈ G := G_in (List.mem_of_getElem? (i := 367) rfl) rfl
set_option maxRecDepth 20000 in
theorem g_351 : (Jvm.Cond.selects "BlockCodeModel" ({ cls := "BlockCodeModel", name := "setKeyByte", desc := "(II)Z" } : Jvm.MethodName) ({ cls := "BlockCodeModel", name := "setKeyByte", desc := "(II)Z" } : Jvm.MethodName)) ∈ G := G_in (List.mem_of_getElem? (i := 368) rfl) rfl
set_option maxRecDepth 20000 in
theorem g_352 : (Jvm.Cond.code ({ cls := "BlockCodeModel", name := "setKeyByte", desc := "(II)Z" } : Jvm.MethodName) prog_5_method_6_code (3 : Nat) (Option.some Jvm.ClassFile.FieldType.boolean)) ∈ G := G_in (List.mem_of_getElem? (i := 369) rfl) rfl
set_option maxRecDepth 20000 in
theorem g_353 : (Jvm.Cond.methodLink "BlockCodeModel" (65 : Nat) ({ cls := "BlockCodeModel", name := "isIn", desc := "(II)Z" } : Jvm.MethodName)) ∈ G := G_in (List.mem_of_getElem? (i := 370) rfl) rfl
set_option maxRecDepth 20000 in
theorem g_354 : (Jvm.Cond.static ({ cls := "BlockCodeModel", name := "isIn", desc := "(II)Z" } : Jvm.MethodName)) ∈ G := G_in (List.mem_of_getElem? (i := 371) rfl) rfl
set_option maxRecDepth 20000 in
theorem g_355 : (Jvm.Cond.code ({ cls := "BlockCodeModel", name := "isIn", desc := "(II)Z" } : Jvm.MethodName) prog_5_method_4_code (2 : Nat) (Option.some Jvm.ClassFile.FieldType.boolean)) ∈ G := G_in (List.mem_of_getElem? (i := 372) rfl) rfl
set_option maxRecDepth 20000 in
theorem g_356 : (Jvm.Cond.methodLink "BlockCodeLaw" (26 : Nat) ({ cls := "BlockCodeModel", name := "expand", desc := "()Z" } : Jvm.MethodName)) ∈ G := G_in (List.mem_of_getElem? (i := 373) rfl) rfl
set_option maxRecDepth 20000 in
theorem g_357 : (Jvm.Cond.instanceMethod ({ cls := "BlockCodeModel", name := "expand", desc := "()Z" } : Jvm.MethodName)) ∈ G := G_in (List.mem_of_getElem? (i := 374) rfl) rfl
set_option maxRecDepth 20000 in
theorem g_358 : (Jvm.Cond.selects "BlockCodeModel" ({ cls := "BlockCodeModel", name := "expand", desc := "()Z" } : Jvm.MethodName) ({ cls := "BlockCodeModel", name := "expand", desc := "()Z" } : Jvm.MethodName)) ∈ G := G_in (List.mem_of_getElem? (i := 375) rfl) rfl
set_option maxRecDepth 20000 in
theorem g_359 : (Jvm.Cond.code ({ cls := "BlockCodeModel", name := "expand", desc := "()Z" } : Jvm.MethodName) prog_5_method_13_code (2 : Nat) (Option.some Jvm.ClassFile.FieldType.boolean)) ∈ G := G_in (List.mem_of_getElem? (i := 376) rfl) rfl
set_option maxRecDepth 20000 in
theorem g_360 : (Jvm.Cond.methodLink "BlockCodeModel" (77 : Nat) ({ cls := "BlockCodeModel", name := "makeWords", desc := "()V" } : Jvm.MethodName)) ∈ G := G_in (List.mem_of_getElem? (i := 377) rfl) rfl
set_option maxRecDepth 20000 in
theorem g_362 : (Jvm.Cond.instanceMethod ({ cls := "BlockCodeModel", name := "makeWords", desc := "()V" } : Jvm.MethodName)) ∈ G := G_in (List.mem_of_getElem? (i := 379) rfl) rfl
set_option maxRecDepth 20000 in
theorem g_363 : (Jvm.Cond.code ({ cls := "BlockCodeModel", name := "makeWords", desc := "()V" } : Jvm.MethodName) prog_5_method_7_code (4 : Nat) (Option.none : Option Jvm.ClassFile.FieldType)) ∈ G := G_in (List.mem_of_getElem? (i := 380) rfl) rfl
set_option maxRecDepth 20000 in
theorem g_364 : (Jvm.Cond.methodLink "BlockCodeModel" (80 : Nat) ({ cls := "BlockCodeModel", name := "forth", desc := "()V" } : Jvm.MethodName)) ∈ G := G_in (List.mem_of_getElem? (i := 381) rfl) rfl
set_option maxRecDepth 20000 in
theorem g_366 : (Jvm.Cond.instanceMethod ({ cls := "BlockCodeModel", name := "forth", desc := "()V" } : Jvm.MethodName)) ∈ G := G_in (List.mem_of_getElem? (i := 383) rfl) rfl
set_option maxRecDepth 20000 in
theorem g_367 : (Jvm.Cond.code ({ cls := "BlockCodeModel", name := "forth", desc := "()V" } : Jvm.MethodName) prog_5_method_10_code (3 : Nat) (Option.none : Option Jvm.ClassFile.FieldType)) ∈ G := G_in (List.mem_of_getElem? (i := 384) rfl) rfl
set_option maxRecDepth 20000 in
theorem g_368 : (Jvm.Cond.methodLink "BlockCodeModel" (69 : Nat) ({ cls := "BlockCodeModel", name := "add", desc := "(I)V" } : Jvm.MethodName)) ∈ G := G_in (List.mem_of_getElem? (i := 385) rfl) rfl
set_option maxRecDepth 20000 in
theorem g_370 : (Jvm.Cond.instanceMethod ({ cls := "BlockCodeModel", name := "add", desc := "(I)V" } : Jvm.MethodName)) ∈ G := G_in (List.mem_of_getElem? (i := 387) rfl) rfl
set_option maxRecDepth 20000 in
theorem g_371 : (Jvm.Cond.code ({ cls := "BlockCodeModel", name := "add", desc := "(I)V" } : Jvm.MethodName) prog_5_method_8_code (3 : Nat) (Option.none : Option Jvm.ClassFile.FieldType)) ∈ G := G_in (List.mem_of_getElem? (i := 388) rfl) rfl
set_option maxRecDepth 20000 in
theorem g_372 : (Jvm.Cond.methodLink "BlockCodeModel" (73 : Nat) ({ cls := "BlockCodeModel", name := "columns", desc := "(IIII)V" } : Jvm.MethodName)) ∈ G := G_in (List.mem_of_getElem? (i := 389) rfl) rfl
set_option maxRecDepth 20000 in
theorem g_374 : (Jvm.Cond.instanceMethod ({ cls := "BlockCodeModel", name := "columns", desc := "(IIII)V" } : Jvm.MethodName)) ∈ G := G_in (List.mem_of_getElem? (i := 391) rfl) rfl
set_option maxRecDepth 20000 in
theorem g_375 : (Jvm.Cond.code ({ cls := "BlockCodeModel", name := "columns", desc := "(IIII)V" } : Jvm.MethodName) prog_5_method_9_code (7 : Nat) (Option.none : Option Jvm.ClassFile.FieldType)) ∈ G := G_in (List.mem_of_getElem? (i := 392) rfl) rfl
set_option maxRecDepth 20000 in
theorem g_376 : (Jvm.Cond.methodLink "BlockCodeModel" (83 : Nat) ({ cls := "BlockCodeModel", name := "twice", desc := "(I)V" } : Jvm.MethodName)) ∈ G := G_in (List.mem_of_getElem? (i := 393) rfl) rfl
set_option maxRecDepth 20000 in
theorem g_378 : (Jvm.Cond.instanceMethod ({ cls := "BlockCodeModel", name := "twice", desc := "(I)V" } : Jvm.MethodName)) ∈ G := G_in (List.mem_of_getElem? (i := 395) rfl) rfl
set_option maxRecDepth 20000 in
theorem g_379 : (Jvm.Cond.code ({ cls := "BlockCodeModel", name := "twice", desc := "(I)V" } : Jvm.MethodName) prog_5_method_12_code (5 : Nat) (Option.none : Option Jvm.ClassFile.FieldType)) ∈ G := G_in (List.mem_of_getElem? (i := 396) rfl) rfl
set_option maxRecDepth 20000 in
theorem g_380 : (Jvm.Cond.methodLink "BlockCodeLaw" (30 : Nat) ({ cls := "BlockCodeModel", name := "macStart", desc := "()Z" } : Jvm.MethodName)) ∈ G := G_in (List.mem_of_getElem? (i := 397) rfl) rfl
set_option maxRecDepth 20000 in
theorem g_381 : (Jvm.Cond.instanceMethod ({ cls := "BlockCodeModel", name := "macStart", desc := "()Z" } : Jvm.MethodName)) ∈ G := G_in (List.mem_of_getElem? (i := 398) rfl) rfl
set_option maxRecDepth 20000 in
theorem g_382 : (Jvm.Cond.selects "BlockCodeModel" ({ cls := "BlockCodeModel", name := "macStart", desc := "()Z" } : Jvm.MethodName) ({ cls := "BlockCodeModel", name := "macStart", desc := "()Z" } : Jvm.MethodName)) ∈ G := G_in (List.mem_of_getElem? (i := 399) rfl) rfl
set_option maxRecDepth 20000 in
theorem g_383 : (Jvm.Cond.code ({ cls := "BlockCodeModel", name := "macStart", desc := "()Z" } : Jvm.MethodName) prog_5_method_14_code (2 : Nat) (Option.some Jvm.ClassFile.FieldType.boolean)) ∈ G := G_in (List.mem_of_getElem? (i := 400) rfl) rfl
set_option maxRecDepth 20000 in
theorem g_384 : (Jvm.Cond.methodLink "BlockCodeLaw" (35 : Nat) ({ cls := "BlockCodeModel", name := "macUpdate", desc := "(I)Z" } : Jvm.MethodName)) ∈ G := G_in (List.mem_of_getElem? (i := 401) rfl) rfl
set_option maxRecDepth 20000 in
theorem g_385 : (Jvm.Cond.instanceMethod ({ cls := "BlockCodeModel", name := "macUpdate", desc := "(I)Z" } : Jvm.MethodName)) ∈ G := G_in (List.mem_of_getElem? (i := 402) rfl) rfl
set_option maxRecDepth 20000 in
theorem g_386 : (Jvm.Cond.selects "BlockCodeModel" ({ cls := "BlockCodeModel", name := "macUpdate", desc := "(I)Z" } : Jvm.MethodName) ({ cls := "BlockCodeModel", name := "macUpdate", desc := "(I)Z" } : Jvm.MethodName)) ∈ G := G_in (List.mem_of_getElem? (i := 403) rfl) rfl
set_option maxRecDepth 20000 in
theorem g_387 : (Jvm.Cond.code ({ cls := "BlockCodeModel", name := "macUpdate", desc := "(I)Z" } : Jvm.MethodName) prog_5_method_17_code (2 : Nat) (Option.some Jvm.ClassFile.FieldType.boolean)) ∈ G := G_in (List.mem_of_getElem? (i := 404) rfl) rfl
set_option maxRecDepth 20000 in
theorem g_388 : (Jvm.Cond.methodLink "BlockCodeModel" (92 : Nat) ({ cls := "BlockCodeModel", name := "feed", desc := "(I)V" } : Jvm.MethodName)) ∈ G := G_in (List.mem_of_getElem? (i := 405) rfl) rfl
set_option maxRecDepth 20000 in
theorem g_390 : (Jvm.Cond.instanceMethod ({ cls := "BlockCodeModel", name := "feed", desc := "(I)V" } : Jvm.MethodName)) ∈ G := G_in (List.mem_of_getElem? (i := 407) rfl) rfl
set_option maxRecDepth 20000 in
theorem g_391 : (Jvm.Cond.code ({ cls := "BlockCodeModel", name := "feed", desc := "(I)V" } : Jvm.MethodName) prog_5_method_16_code (2 : Nat) (Option.none : Option Jvm.ClassFile.FieldType)) ∈ G := G_in (List.mem_of_getElem? (i := 408) rfl) rfl
set_option maxRecDepth 20000 in
theorem g_392 : (Jvm.Cond.methodLink "BlockCodeModel" (89 : Nat) ({ cls := "BlockCodeModel", name := "take", desc := "()V" } : Jvm.MethodName)) ∈ G := G_in (List.mem_of_getElem? (i := 409) rfl) rfl
set_option maxRecDepth 20000 in
theorem g_394 : (Jvm.Cond.instanceMethod ({ cls := "BlockCodeModel", name := "take", desc := "()V" } : Jvm.MethodName)) ∈ G := G_in (List.mem_of_getElem? (i := 411) rfl) rfl
set_option maxRecDepth 20000 in
theorem g_395 : (Jvm.Cond.code ({ cls := "BlockCodeModel", name := "take", desc := "()V" } : Jvm.MethodName) prog_5_method_15_code (2 : Nat) (Option.none : Option Jvm.ClassFile.FieldType)) ∈ G := G_in (List.mem_of_getElem? (i := 412) rfl) rfl
set_option maxRecDepth 20000 in
theorem g_396 : (Jvm.Cond.methodLink "BlockCodeLaw" (40 : Nat) ({ cls := "BlockCodeModel", name := "macFill", desc := "(III)Z" } : Jvm.MethodName)) ∈ G := G_in (List.mem_of_getElem? (i := 413) rfl) rfl
set_option maxRecDepth 20000 in
theorem g_397 : (Jvm.Cond.instanceMethod ({ cls := "BlockCodeModel", name := "macFill", desc := "(III)Z" } : Jvm.MethodName)) ∈ G := G_in (List.mem_of_getElem? (i := 414) rfl) rfl
set_option maxRecDepth 20000 in
theorem g_398 : (Jvm.Cond.selects "BlockCodeModel" ({ cls := "BlockCodeModel", name := "macFill", desc := "(III)Z" } : Jvm.MethodName) ({ cls := "BlockCodeModel", name := "macFill", desc := "(III)Z" } : Jvm.MethodName)) ∈ G := G_in (List.mem_of_getElem? (i := 415) rfl) rfl
set_option maxRecDepth 20000 in
theorem g_399 : (Jvm.Cond.code ({ cls := "BlockCodeModel", name := "macFill", desc := "(III)Z" } : Jvm.MethodName) prog_5_method_18_code (6 : Nat) (Option.some Jvm.ClassFile.FieldType.boolean)) ∈ G := G_in (List.mem_of_getElem? (i := 416) rfl) rfl
set_option maxRecDepth 20000 in
theorem g_400 : (Jvm.Cond.methodLink "BlockCodeLaw" (44 : Nat) ({ cls := "BlockCodeModel", name := "macFinish", desc := "()Z" } : Jvm.MethodName)) ∈ G := G_in (List.mem_of_getElem? (i := 417) rfl) rfl
set_option maxRecDepth 20000 in
theorem g_401 : (Jvm.Cond.instanceMethod ({ cls := "BlockCodeModel", name := "macFinish", desc := "()Z" } : Jvm.MethodName)) ∈ G := G_in (List.mem_of_getElem? (i := 418) rfl) rfl
set_option maxRecDepth 20000 in
theorem g_402 : (Jvm.Cond.selects "BlockCodeModel" ({ cls := "BlockCodeModel", name := "macFinish", desc := "()Z" } : Jvm.MethodName) ({ cls := "BlockCodeModel", name := "macFinish", desc := "()Z" } : Jvm.MethodName)) ∈ G := G_in (List.mem_of_getElem? (i := 419) rfl) rfl
set_option maxRecDepth 20000 in
theorem g_403 : (Jvm.Cond.code ({ cls := "BlockCodeModel", name := "macFinish", desc := "()Z" } : Jvm.MethodName) prog_5_method_19_code (3 : Nat) (Option.some Jvm.ClassFile.FieldType.boolean)) ∈ G := G_in (List.mem_of_getElem? (i := 420) rfl) rfl
set_option maxRecDepth 20000 in
theorem g_404 : (Jvm.Cond.methodLink "BlockCodeLaw" (49 : Nat) ({ cls := "BlockCodeModel", name := "tagByte", desc := "(I)I" } : Jvm.MethodName)) ∈ G := G_in (List.mem_of_getElem? (i := 421) rfl) rfl
set_option maxRecDepth 20000 in
theorem g_405 : (Jvm.Cond.instanceMethod ({ cls := "BlockCodeModel", name := "tagByte", desc := "(I)I" } : Jvm.MethodName)) ∈ G := G_in (List.mem_of_getElem? (i := 422) rfl) rfl
set_option maxRecDepth 20000 in
theorem g_406 : (Jvm.Cond.selects "BlockCodeModel" ({ cls := "BlockCodeModel", name := "tagByte", desc := "(I)I" } : Jvm.MethodName) ({ cls := "BlockCodeModel", name := "tagByte", desc := "(I)I" } : Jvm.MethodName)) ∈ G := G_in (List.mem_of_getElem? (i := 423) rfl) rfl
set_option maxRecDepth 20000 in
theorem g_407 : (Jvm.Cond.code ({ cls := "BlockCodeModel", name := "tagByte", desc := "(I)I" } : Jvm.MethodName) prog_5_method_20_code (2 : Nat) (Option.some Jvm.ClassFile.FieldType.int)) ∈ G := G_in (List.mem_of_getElem? (i := 424) rfl) rfl
set_option maxRecDepth 20000 in
theorem g_408 : (Jvm.Cond.methodLink "BlockCodeLaw" (53 : Nat) ({ cls := "BlockCodeModel", name := "macCheck", desc := "(II)Z" } : Jvm.MethodName)) ∈ G := G_in (List.mem_of_getElem? (i := 425) rfl) rfl
set_option maxRecDepth 20000 in
theorem g_409 : (Jvm.Cond.instanceMethod ({ cls := "BlockCodeModel", name := "macCheck", desc := "(II)Z" } : Jvm.MethodName)) ∈ G := G_in (List.mem_of_getElem? (i := 426) rfl) rfl
set_option maxRecDepth 20000 in
theorem g_410 : (Jvm.Cond.selects "BlockCodeModel" ({ cls := "BlockCodeModel", name := "macCheck", desc := "(II)Z" } : Jvm.MethodName) ({ cls := "BlockCodeModel", name := "macCheck", desc := "(II)Z" } : Jvm.MethodName)) ∈ G := G_in (List.mem_of_getElem? (i := 427) rfl) rfl
set_option maxRecDepth 20000 in
theorem g_411 : (Jvm.Cond.code ({ cls := "BlockCodeModel", name := "macCheck", desc := "(II)Z" } : Jvm.MethodName) prog_5_method_21_code (3 : Nat) (Option.some Jvm.ClassFile.FieldType.boolean)) ∈ G := G_in (List.mem_of_getElem? (i := 428) rfl) rfl
set_option maxRecDepth 20000 in
theorem g_412 : (Jvm.Cond.methodLink "BlockCodeLaw" (57 : Nat) ({ cls := "BlockCodeModel", name := "macVerdict", desc := "()Z" } : Jvm.MethodName)) ∈ G := G_in (List.mem_of_getElem? (i := 429) rfl) rfl
set_option maxRecDepth 20000 in
theorem g_413 : (Jvm.Cond.instanceMethod ({ cls := "BlockCodeModel", name := "macVerdict", desc := "()Z" } : Jvm.MethodName)) ∈ G := G_in (List.mem_of_getElem? (i := 430) rfl) rfl
set_option maxRecDepth 20000 in
theorem g_414 : (Jvm.Cond.selects "BlockCodeModel" ({ cls := "BlockCodeModel", name := "macVerdict", desc := "()Z" } : Jvm.MethodName) ({ cls := "BlockCodeModel", name := "macVerdict", desc := "()Z" } : Jvm.MethodName)) ∈ G := G_in (List.mem_of_getElem? (i := 431) rfl) rfl
set_option maxRecDepth 20000 in
theorem g_415 : (Jvm.Cond.code ({ cls := "BlockCodeModel", name := "macVerdict", desc := "()Z" } : Jvm.MethodName) prog_5_method_22_code (3 : Nat) (Option.some Jvm.ClassFile.FieldType.boolean)) ∈ G := G_in (List.mem_of_getElem? (i := 432) rfl) rfl
set_option maxRecDepth 20000 in
theorem g_416 : (Jvm.Cond.methodLink "BlockCodeLaw" (61 : Nat) ({ cls := "BlockCodeModel", name := "setBlockByte", desc := "(II)Z" } : Jvm.MethodName)) ∈ G := G_in (List.mem_of_getElem? (i := 433) rfl) rfl
set_option maxRecDepth 20000 in
theorem g_417 : (Jvm.Cond.instanceMethod ({ cls := "BlockCodeModel", name := "setBlockByte", desc := "(II)Z" } : Jvm.MethodName)) ∈ G := G_in (List.mem_of_getElem? (i := 434) rfl) rfl
set_option maxRecDepth 20000 in
theorem g_418 : (Jvm.Cond.selects "BlockCodeModel" ({ cls := "BlockCodeModel", name := "setBlockByte", desc := "(II)Z" } : Jvm.MethodName) ({ cls := "BlockCodeModel", name := "setBlockByte", desc := "(II)Z" } : Jvm.MethodName)) ∈ G := G_in (List.mem_of_getElem? (i := 435) rfl) rfl
set_option maxRecDepth 20000 in
theorem g_419 : (Jvm.Cond.code ({ cls := "BlockCodeModel", name := "setBlockByte", desc := "(II)Z" } : Jvm.MethodName) prog_5_method_23_code (3 : Nat) (Option.some Jvm.ClassFile.FieldType.boolean)) ∈ G := G_in (List.mem_of_getElem? (i := 436) rfl) rfl
set_option maxRecDepth 20000 in
theorem g_420 : (Jvm.Cond.methodLink "BlockCodeLaw" (65 : Nat) ({ cls := "BlockCodeModel", name := "encryptBlock", desc := "()Z" } : Jvm.MethodName)) ∈ G := G_in (List.mem_of_getElem? (i := 437) rfl) rfl
set_option maxRecDepth 20000 in
theorem g_421 : (Jvm.Cond.instanceMethod ({ cls := "BlockCodeModel", name := "encryptBlock", desc := "()Z" } : Jvm.MethodName)) ∈ G := G_in (List.mem_of_getElem? (i := 438) rfl) rfl
set_option maxRecDepth 20000 in
theorem g_422 : (Jvm.Cond.selects "BlockCodeModel" ({ cls := "BlockCodeModel", name := "encryptBlock", desc := "()Z" } : Jvm.MethodName) ({ cls := "BlockCodeModel", name := "encryptBlock", desc := "()Z" } : Jvm.MethodName)) ∈ G := G_in (List.mem_of_getElem? (i := 439) rfl) rfl
set_option maxRecDepth 20000 in
theorem g_423 : (Jvm.Cond.code ({ cls := "BlockCodeModel", name := "encryptBlock", desc := "()Z" } : Jvm.MethodName) prog_5_method_25_code (2 : Nat) (Option.some Jvm.ClassFile.FieldType.boolean)) ∈ G := G_in (List.mem_of_getElem? (i := 440) rfl) rfl
set_option maxRecDepth 20000 in
theorem g_424 : (Jvm.Cond.methodLink "BlockCodeModel" (98 : Nat) ({ cls := "BlockCodeModel", name := "load", desc := "(Z)V" } : Jvm.MethodName)) ∈ G := G_in (List.mem_of_getElem? (i := 441) rfl) rfl
set_option maxRecDepth 20000 in
theorem g_426 : (Jvm.Cond.instanceMethod ({ cls := "BlockCodeModel", name := "load", desc := "(Z)V" } : Jvm.MethodName)) ∈ G := G_in (List.mem_of_getElem? (i := 443) rfl) rfl
set_option maxRecDepth 20000 in
theorem g_427 : (Jvm.Cond.code ({ cls := "BlockCodeModel", name := "load", desc := "(Z)V" } : Jvm.MethodName) prog_5_method_24_code (3 : Nat) (Option.none : Option Jvm.ClassFile.FieldType)) ∈ G := G_in (List.mem_of_getElem? (i := 444) rfl) rfl
set_option maxRecDepth 20000 in
theorem g_428 : (Jvm.Cond.methodLink "BlockCodeLaw" (69 : Nat) ({ cls := "BlockCodeModel", name := "decryptBlock", desc := "()Z" } : Jvm.MethodName)) ∈ G := G_in (List.mem_of_getElem? (i := 445) rfl) rfl
set_option maxRecDepth 20000 in
theorem g_429 : (Jvm.Cond.instanceMethod ({ cls := "BlockCodeModel", name := "decryptBlock", desc := "()Z" } : Jvm.MethodName)) ∈ G := G_in (List.mem_of_getElem? (i := 446) rfl) rfl
set_option maxRecDepth 20000 in
theorem g_430 : (Jvm.Cond.selects "BlockCodeModel" ({ cls := "BlockCodeModel", name := "decryptBlock", desc := "()Z" } : Jvm.MethodName) ({ cls := "BlockCodeModel", name := "decryptBlock", desc := "()Z" } : Jvm.MethodName)) ∈ G := G_in (List.mem_of_getElem? (i := 447) rfl) rfl
set_option maxRecDepth 20000 in
theorem g_431 : (Jvm.Cond.code ({ cls := "BlockCodeModel", name := "decryptBlock", desc := "()Z" } : Jvm.MethodName) prog_5_method_26_code (2 : Nat) (Option.some Jvm.ClassFile.FieldType.boolean)) ∈ G := G_in (List.mem_of_getElem? (i := 448) rfl) rfl
set_option maxRecDepth 20000 in
theorem g_432 : (Jvm.Cond.methodLink "BlockCodeModel" (102 : Nat) ({ cls := "BlockCodeModel", name := "back", desc := "()V" } : Jvm.MethodName)) ∈ G := G_in (List.mem_of_getElem? (i := 449) rfl) rfl
set_option maxRecDepth 20000 in
theorem g_434 : (Jvm.Cond.instanceMethod ({ cls := "BlockCodeModel", name := "back", desc := "()V" } : Jvm.MethodName)) ∈ G := G_in (List.mem_of_getElem? (i := 451) rfl) rfl
set_option maxRecDepth 20000 in
theorem g_435 : (Jvm.Cond.code ({ cls := "BlockCodeModel", name := "back", desc := "()V" } : Jvm.MethodName) prog_5_method_11_code (3 : Nat) (Option.none : Option Jvm.ClassFile.FieldType)) ∈ G := G_in (List.mem_of_getElem? (i := 452) rfl) rfl
set_option maxRecDepth 20000 in
theorem g_436 : (Jvm.Cond.methodLink "BlockCodeLaw" (74 : Nat) ({ cls := "BlockCodeModel", name := "chain", desc := "(Z)Z" } : Jvm.MethodName)) ∈ G := G_in (List.mem_of_getElem? (i := 453) rfl) rfl
set_option maxRecDepth 20000 in
theorem g_437 : (Jvm.Cond.instanceMethod ({ cls := "BlockCodeModel", name := "chain", desc := "(Z)Z" } : Jvm.MethodName)) ∈ G := G_in (List.mem_of_getElem? (i := 454) rfl) rfl
set_option maxRecDepth 20000 in
theorem g_438 : (Jvm.Cond.selects "BlockCodeModel" ({ cls := "BlockCodeModel", name := "chain", desc := "(Z)Z" } : Jvm.MethodName) ({ cls := "BlockCodeModel", name := "chain", desc := "(Z)Z" } : Jvm.MethodName)) ∈ G := G_in (List.mem_of_getElem? (i := 455) rfl) rfl
set_option maxRecDepth 20000 in
theorem g_439 : (Jvm.Cond.code ({ cls := "BlockCodeModel", name := "chain", desc := "(Z)Z" } : Jvm.MethodName) prog_5_method_27_code (4 : Nat) (Option.some Jvm.ClassFile.FieldType.boolean)) ∈ G := G_in (List.mem_of_getElem? (i := 456) rfl) rfl
set_option maxRecDepth 20000 in
theorem g_440 : (Jvm.Cond.methodLink "BlockCodeLaw" (78 : Nat) ({ cls := "BlockCodeModel", name := "unchain", desc := "()Z" } : Jvm.MethodName)) ∈ G := G_in (List.mem_of_getElem? (i := 457) rfl) rfl
set_option maxRecDepth 20000 in
theorem g_441 : (Jvm.Cond.instanceMethod ({ cls := "BlockCodeModel", name := "unchain", desc := "()Z" } : Jvm.MethodName)) ∈ G := G_in (List.mem_of_getElem? (i := 458) rfl) rfl
set_option maxRecDepth 20000 in
theorem g_442 : (Jvm.Cond.selects "BlockCodeModel" ({ cls := "BlockCodeModel", name := "unchain", desc := "()Z" } : Jvm.MethodName) ({ cls := "BlockCodeModel", name := "unchain", desc := "()Z" } : Jvm.MethodName)) ∈ G := G_in (List.mem_of_getElem? (i := 459) rfl) rfl
set_option maxRecDepth 20000 in
theorem g_443 : (Jvm.Cond.code ({ cls := "BlockCodeModel", name := "unchain", desc := "()Z" } : Jvm.MethodName) prog_5_method_28_code (2 : Nat) (Option.some Jvm.ClassFile.FieldType.boolean)) ∈ G := G_in (List.mem_of_getElem? (i := 460) rfl) rfl
set_option maxRecDepth 20000 in
theorem g_444 : (Jvm.Cond.methodLink "BlockCodeLaw" (82 : Nat) ({ cls := "BlockCodeModel", name := "blockByte", desc := "(I)I" } : Jvm.MethodName)) ∈ G := G_in (List.mem_of_getElem? (i := 461) rfl) rfl
set_option maxRecDepth 20000 in
theorem g_445 : (Jvm.Cond.instanceMethod ({ cls := "BlockCodeModel", name := "blockByte", desc := "(I)I" } : Jvm.MethodName)) ∈ G := G_in (List.mem_of_getElem? (i := 462) rfl) rfl
set_option maxRecDepth 20000 in
theorem g_446 : (Jvm.Cond.selects "BlockCodeModel" ({ cls := "BlockCodeModel", name := "blockByte", desc := "(I)I" } : Jvm.MethodName) ({ cls := "BlockCodeModel", name := "blockByte", desc := "(I)I" } : Jvm.MethodName)) ∈ G := G_in (List.mem_of_getElem? (i := 463) rfl) rfl
set_option maxRecDepth 20000 in
theorem g_447 : (Jvm.Cond.code ({ cls := "BlockCodeModel", name := "blockByte", desc := "(I)I" } : Jvm.MethodName) prog_5_method_29_code (2 : Nat) (Option.some Jvm.ClassFile.FieldType.int)) ∈ G := G_in (List.mem_of_getElem? (i := 464) rfl) rfl
set_option maxRecDepth 20000 in
theorem g_448 : (Jvm.Cond.methodLink "BlockCodeLaw" (87 : Nat) ({ cls := "BlockCodeModel", name := "half", desc := "(II)I" } : Jvm.MethodName)) ∈ G := G_in (List.mem_of_getElem? (i := 465) rfl) rfl
set_option maxRecDepth 20000 in
theorem g_449 : (Jvm.Cond.instanceMethod ({ cls := "BlockCodeModel", name := "half", desc := "(II)I" } : Jvm.MethodName)) ∈ G := G_in (List.mem_of_getElem? (i := 466) rfl) rfl
set_option maxRecDepth 20000 in
theorem g_450 : (Jvm.Cond.selects "BlockCodeModel" ({ cls := "BlockCodeModel", name := "half", desc := "(II)I" } : Jvm.MethodName) ({ cls := "BlockCodeModel", name := "half", desc := "(II)I" } : Jvm.MethodName)) ∈ G := G_in (List.mem_of_getElem? (i := 467) rfl) rfl
set_option maxRecDepth 20000 in
theorem g_451 : (Jvm.Cond.code ({ cls := "BlockCodeModel", name := "half", desc := "(II)I" } : Jvm.MethodName) prog_5_method_30_code (3 : Nat) (Option.some Jvm.ClassFile.FieldType.int)) ∈ G := G_in (List.mem_of_getElem? (i := 468) rfl) rfl
set_option maxRecDepth 20000 in
theorem g_s0 : Cond.selects yX0_makeWords.cls yX0_makeWords yX0_makeWords ∈ G := G_in (List.mem_of_getElem? (i := 0) rfl) rfl
set_option maxRecDepth 20000 in
theorem g_s1 : Cond.selects yX0_makeTurnedWord.cls yX0_makeTurnedWord yX0_makeTurnedWord ∈ G := G_in (List.mem_of_getElem? (i := 1) rfl) rfl
set_option maxRecDepth 20000 in
theorem g_s2 : Cond.selects yX0_makePlainWord.cls yX0_makePlainWord yX0_makePlainWord ∈ G := G_in (List.mem_of_getElem? (i := 2) rfl) rfl
set_option maxRecDepth 20000 in
theorem g_s3 : Cond.selects yX0_makeHalves.cls yX0_makeHalves yX0_makeHalves ∈ G := G_in (List.mem_of_getElem? (i := 3) rfl) rfl
set_option maxRecDepth 20000 in
theorem g_s4 : Cond.selects yX0_replaceAndMove.cls yX0_replaceAndMove yX0_replaceAndMove ∈ G := G_in (List.mem_of_getElem? (i := 4) rfl) rfl
set_option maxRecDepth 20000 in
theorem g_s5 : Cond.selects yX0_moveAndReplaceBack.cls yX0_moveAndReplaceBack yX0_moveAndReplaceBack ∈ G := G_in (List.mem_of_getElem? (i := 5) rfl) rfl
set_option maxRecDepth 20000 in
theorem g_s6 : Cond.selects yX2_chainBack.cls yX2_chainBack yX2_chainBack ∈ G := G_in (List.mem_of_getElem? (i := 6) rfl) rfl
set_option maxRecDepth 20000 in
theorem g_s7 : Cond.selects yX2_chainForth.cls yX2_chainForth yX2_chainForth ∈ G := G_in (List.mem_of_getElem? (i := 7) rfl) rfl
set_option maxRecDepth 20000 in
theorem g_s8 : Cond.selects yX3_makeWords.cls yX3_makeWords yX3_makeWords ∈ G := G_in (List.mem_of_getElem? (i := 8) rfl) rfl
set_option maxRecDepth 20000 in
theorem g_s9 : Cond.selects yX3_forth.cls yX3_forth yX3_forth ∈ G := G_in (List.mem_of_getElem? (i := 9) rfl) rfl
set_option maxRecDepth 20000 in
theorem g_s10 : Cond.selects yX3_add.cls yX3_add yX3_add ∈ G := G_in (List.mem_of_getElem? (i := 10) rfl) rfl
set_option maxRecDepth 20000 in
theorem g_s11 : Cond.selects yX3_columns.cls yX3_columns yX3_columns ∈ G := G_in (List.mem_of_getElem? (i := 11) rfl) rfl
set_option maxRecDepth 20000 in
theorem g_s12 : Cond.selects yX3_twice.cls yX3_twice yX3_twice ∈ G := G_in (List.mem_of_getElem? (i := 12) rfl) rfl
set_option maxRecDepth 20000 in
theorem g_s13 : Cond.selects yX3_feed.cls yX3_feed yX3_feed ∈ G := G_in (List.mem_of_getElem? (i := 13) rfl) rfl
set_option maxRecDepth 20000 in
theorem g_s14 : Cond.selects yX3_take.cls yX3_take yX3_take ∈ G := G_in (List.mem_of_getElem? (i := 14) rfl) rfl
set_option maxRecDepth 20000 in
theorem g_s15 : Cond.selects yX3_load.cls yX3_load yX3_load ∈ G := G_in (List.mem_of_getElem? (i := 15) rfl) rfl
set_option maxRecDepth 20000 in
theorem g_s16 : Cond.selects yX3_back.cls yX3_back yX3_back ∈ G := G_in (List.mem_of_getElem? (i := 16) rfl) rfl
set_option maxRecDepth 20000 in
theorem i_X0 : ∀ w ∈ u_ws RX0 TX0 6, w ∈ G := fun w hw => G_in ((by decide +kernel : ∀ w ∈ u_ws RX0 TX0 6, w ∈ lw_tbl) w hw) ((by decide +kernel : ∀ w ∈ u_ws RX0 TX0 6, goodWord w = true) w hw)
set_option maxRecDepth 20000 in
theorem i_X1 : ∀ w ∈ u_ws RX1 TX1 6, w ∈ G := fun w hw => G_in ((by decide +kernel : ∀ w ∈ u_ws RX1 TX1 6, w ∈ lw_tbl) w hw) ((by decide +kernel : ∀ w ∈ u_ws RX1 TX1 6, goodWord w = true) w hw)
set_option maxRecDepth 20000 in
theorem i_X2 : ∀ w ∈ u_ws RX2 TX2 6, w ∈ G := fun w hw => G_in ((by decide +kernel : ∀ w ∈ u_ws RX2 TX2 6, w ∈ lw_tbl) w hw) ((by decide +kernel : ∀ w ∈ u_ws RX2 TX2 6, goodWord w = true) w hw)
set_option maxRecDepth 20000 in
theorem i_X3 : ∀ w ∈ u_ws RX3 TX3 18, w ∈ G := fun w hw => G_in ((by decide +kernel : ∀ w ∈ u_ws RX3 TX3 18, w ∈ lw_tbl) w hw) ((by decide +kernel : ∀ w ∈ u_ws RX3 TX3 18, goodWord w = true) w hw)
set_option maxRecDepth 20000 in
theorem k_X0_init : Kd yX0_init cX0_init 1 none 0 := ⟨g_19, g_2, by decide, by decide, by decide +kernel⟩
set_option maxRecDepth 20000 in
theorem s_X0_init : yX0_init.name = "<init>" ∧ Cond.instanceMethod yX0_init ∈ G := ⟨rfl, g_18⟩
set_option maxRecDepth 20000 in
theorem k_X0_clear : Kd yX0_clear cX0_clear 1 none 0 := ⟨g_102, g_2, by decide, by decide, by decide +kernel⟩
set_option maxRecDepth 20000 in
theorem s_X0_clear : Cond.instanceMethod yX0_clear ∈ G ∧ Cond.selects RX0 yX0_clear yX0_clear ∈ G := ⟨g_100, g_101⟩
set_option maxRecDepth 20000 in
theorem k_X0_put : Kd yX0_put cX0_put 3 none 2 := ⟨g_123, g_2, by decide, by decide, by decide +kernel⟩
set_option maxRecDepth 20000 in
theorem s_X0_put : Cond.instanceMethod yX0_put ∈ G ∧ Cond.selects RX0 yX0_put yX0_put ∈ G := ⟨g_121, g_122⟩
set_option maxRecDepth 20000 in
theorem k_X0_make : Kd yX0_make cX0_make 1 none 0 := ⟨g_131, g_2, by decide, by decide, by decide +kernel⟩
set_option maxRecDepth 20000 in
theorem s_X0_make : Cond.instanceMethod yX0_make ∈ G ∧ Cond.selects RX0 yX0_make yX0_make ∈ G := ⟨g_129, g_130⟩
set_option maxRecDepth 20000 in
theorem k_X0_makeWords : Kd yX0_makeWords cX0_makeWords 3 none 0 := ⟨g_135, g_2, by decide, by decide, by decide +kernel⟩
set_option maxRecDepth 20000 in
theorem s_X0_makeWords : Cond.instanceMethod yX0_makeWords ∈ G ∧ Cond.selects RX0 yX0_makeWords yX0_makeWords ∈ G := ⟨g_134, g_s0⟩
set_option maxRecDepth 20000 in
theorem k_X0_makePlainWord : Kd yX0_makePlainWord cX0_makePlainWord 3 none 1 := ⟨g_151, g_2, by decide, by decide, by decide +kernel⟩
set_option maxRecDepth 20000 in
theorem s_X0_makePlainWord : Cond.instanceMethod yX0_makePlainWord ∈ G ∧ Cond.selects RX0 yX0_makePlainWord yX0_makePlainWord ∈ G := ⟨g_150, g_s2⟩
set_option maxRecDepth 20000 in
theorem k_X0_makeTurnedWord : Kd yX0_makeTurnedWord cX0_makeTurnedWord 4 none 2 := ⟨g_142, g_2, by decide, by decide, by decide +kernel⟩
set_option maxRecDepth 20000 in
theorem s_X0_makeTurnedWord : Cond.instanceMethod yX0_makeTurnedWord ∈ G ∧ Cond.selects RX0 yX0_makeTurnedWord yX0_makeTurnedWord ∈ G := ⟨g_141, g_s1⟩
set_option maxRecDepth 20000 in
theorem k_X0_makeHalves : Kd yX0_makeHalves cX0_makeHalves 1 none 0 := ⟨g_155, g_2, by decide, by decide, by decide +kernel⟩
set_option maxRecDepth 20000 in
theorem s_X0_makeHalves : Cond.instanceMethod yX0_makeHalves ∈ G ∧ Cond.selects RX0 yX0_makeHalves yX0_makeHalves ∈ G := ⟨g_154, g_s3⟩
set_option maxRecDepth 20000 in
theorem k_X0_putDoubled : Kd yX0_putDoubled cX0_putDoubled 4 none 2 := ⟨g_178, g_2, by decide, by decide, by decide +kernel⟩
set_option maxRecDepth 20000 in
theorem s_X0_putDoubled : Cond.static yX0_putDoubled ∈ G := g_177
set_option maxRecDepth 20000 in
theorem k_X0_goForth : Kd yX0_goForth cX0_goForth 3 none 1 := ⟨g_159, g_2, by decide, by decide, by decide +kernel⟩
set_option maxRecDepth 20000 in
theorem s_X0_goForth : Cond.instanceMethod yX0_goForth ∈ G ∧ Cond.selects RX0 yX0_goForth yX0_goForth ∈ G := ⟨g_157, g_158⟩
set_option maxRecDepth 20000 in
theorem k_X0_goBack : Kd yX0_goBack cX0_goBack 3 none 1 := ⟨g_243, g_2, by decide, by decide, by decide +kernel⟩
set_option maxRecDepth 20000 in
theorem s_X0_goBack : Cond.instanceMethod yX0_goBack ∈ G ∧ Cond.selects RX0 yX0_goBack yX0_goBack ∈ G := ⟨g_241, g_242⟩
set_option maxRecDepth 20000 in
theorem k_X0_replaceAndMove : Kd yX0_replaceAndMove cX0_replaceAndMove 3 none 1 := ⟨g_166, g_2, by decide, by decide, by decide +kernel⟩
set_option maxRecDepth 20000 in
theorem s_X0_replaceAndMove : Cond.instanceMethod yX0_replaceAndMove ∈ G ∧ Cond.selects RX0 yX0_replaceAndMove yX0_replaceAndMove ∈ G := ⟨g_165, g_s4⟩
set_option maxRecDepth 20000 in
theorem k_X0_moveAndReplaceBack : Kd yX0_moveAndReplaceBack cX0_moveAndReplaceBack 3 none 1 := ⟨g_250, g_2, by decide, by decide, by decide +kernel⟩
set_option maxRecDepth 20000 in
theorem s_X0_moveAndReplaceBack : Cond.instanceMethod yX0_moveAndReplaceBack ∈ G ∧ Cond.selects RX0 yX0_moveAndReplaceBack yX0_moveAndReplaceBack ∈ G := ⟨g_249, g_s5⟩
set_option maxRecDepth 20000 in
theorem k_X0_source : Kd yX0_source cX0_source 1 (some .int) 1 := ⟨g_169, g_2, by decide, by decide, by decide +kernel⟩
set_option maxRecDepth 20000 in
theorem s_X0_source : Cond.static yX0_source ∈ G := g_168
set_option maxRecDepth 20000 in
theorem k_X0_mix : Kd yX0_mix cX0_mix 6 none 1 := ⟨g_172, g_2, by decide, by decide, by decide +kernel⟩
set_option maxRecDepth 20000 in
theorem s_X0_mix : Cond.static yX0_mix ∈ G := g_171
set_option maxRecDepth 20000 in
theorem k_X0_unmix : Kd yX0_unmix cX0_unmix 1 none 1 := ⟨g_246, g_2, by decide, by decide, by decide +kernel⟩
set_option maxRecDepth 20000 in
theorem s_X0_unmix : Cond.static yX0_unmix ∈ G := g_245
set_option maxRecDepth 20000 in
theorem k_X0_mixed : Kd yX0_mixed cX0_mixed 4 (some .int) 4 := ⟨g_175, g_2, by decide, by decide, by decide +kernel⟩
set_option maxRecDepth 20000 in
theorem s_X0_mixed : Cond.static yX0_mixed ∈ G := g_174
set_option maxRecDepth 20000 in
theorem k_X0_twice : Kd yX0_twice cX0_twice 1 (some .int) 1 := ⟨g_147, g_2, by decide, by decide, by decide +kernel⟩
set_option maxRecDepth 20000 in
theorem s_X0_twice : Cond.static yX0_twice ∈ G := g_146
set_option maxRecDepth 20000 in
theorem k_X1_init : Kd yX1_init cX1_init 1 none 0 := ⟨g_50, g_3, by decide, by decide, by decide +kernel⟩
set_option maxRecDepth 20000 in
theorem s_X1_init : yX1_init.name = "<init>" ∧ Cond.instanceMethod yX1_init ∈ G := ⟨rfl, g_49⟩
set_option maxRecDepth 20000 in
theorem k_X1_drop : Kd yX1_drop cX1_drop 1 none 0 := ⟨g_109, g_3, by decide, by decide, by decide +kernel⟩
set_option maxRecDepth 20000 in
theorem s_X1_drop : Cond.instanceMethod yX1_drop ∈ G ∧ Cond.selects RX1 yX1_drop yX1_drop ∈ G := ⟨g_107, g_108⟩
set_option maxRecDepth 20000 in
theorem k_X1_begin : Kd yX1_begin cX1_begin 1 none 0 := ⟨g_186, g_3, by decide, by decide, by decide +kernel⟩
set_option maxRecDepth 20000 in
theorem s_X1_begin : Cond.instanceMethod yX1_begin ∈ G ∧ Cond.selects RX1 yX1_begin yX1_begin ∈ G := ⟨g_184, g_185⟩
set_option maxRecDepth 20000 in
theorem k_X1_take : Kd yX1_take cX1_take 3 none 2 := ⟨g_195, g_3, by decide, by decide, by decide +kernel⟩
set_option maxRecDepth 20000 in
theorem s_X1_take : Cond.instanceMethod yX1_take ∈ G ∧ Cond.selects RX1 yX1_take yX1_take ∈ G := ⟨g_193, g_194⟩
set_option maxRecDepth 20000 in
theorem k_X1_end : Kd yX1_end cX1_end 2 none 1 := ⟨g_208, g_3, by decide, by decide, by decide +kernel⟩
set_option maxRecDepth 20000 in
theorem s_X1_end : Cond.instanceMethod yX1_end ∈ G ∧ Cond.selects RX1 yX1_end yX1_end ∈ G := ⟨g_206, g_207⟩
set_option maxRecDepth 20000 in
theorem k_X1_compare : Kd yX1_compare cX1_compare 3 none 2 := ⟨g_221, g_3, by decide, by decide, by decide +kernel⟩
set_option maxRecDepth 20000 in
theorem s_X1_compare : Cond.instanceMethod yX1_compare ∈ G ∧ Cond.selects RX1 yX1_compare yX1_compare ∈ G := ⟨g_219, g_220⟩
set_option maxRecDepth 20000 in
theorem k_X2_init : Kd yX2_init cX2_init 1 none 0 := ⟨g_11, g_1, by decide, by decide, by decide +kernel⟩
set_option maxRecDepth 20000 in
theorem s_X2_init : yX2_init.name = "<init>" ∧ Cond.instanceMethod yX2_init ∈ G := ⟨rfl, g_10⟩
set_option maxRecDepth 20000 in
theorem k_X2_init_ : Kd yX2_init_ cX2_init_ 1 none 0 := ⟨g_98, g_1, by decide, by decide, by decide +kernel⟩
set_option maxRecDepth 20000 in
theorem s_X2_init_ : Cond.instanceMethod yX2_init_ ∈ G ∧ Cond.selects RX2 yX2_init_ yX2_init_ ∈ G := ⟨g_96, g_97⟩
set_option maxRecDepth 20000 in
theorem k_X2_setKeyByte : Kd yX2_setKeyByte cX2_setKeyByte 3 (some .boolean) 2 := ⟨g_113, g_1, by decide, by decide, by decide +kernel⟩
set_option maxRecDepth 20000 in
theorem s_X2_setKeyByte : Cond.instanceMethod yX2_setKeyByte ∈ G ∧ Cond.selects RX2 yX2_setKeyByte yX2_setKeyByte ∈ G := ⟨g_111, g_112⟩
set_option maxRecDepth 20000 in
theorem k_X2_expand : Kd yX2_expand cX2_expand 1 (some .boolean) 0 := ⟨g_127, g_1, by decide, by decide, by decide +kernel⟩
set_option maxRecDepth 20000 in
theorem s_X2_expand : Cond.instanceMethod yX2_expand ∈ G ∧ Cond.selects RX2 yX2_expand yX2_expand ∈ G := ⟨g_125, g_126⟩
set_option maxRecDepth 20000 in
theorem k_X2_macStart : Kd yX2_macStart cX2_macStart 1 (some .boolean) 0 := ⟨g_182, g_1, by decide, by decide, by decide +kernel⟩
set_option maxRecDepth 20000 in
theorem s_X2_macStart : Cond.instanceMethod yX2_macStart ∈ G ∧ Cond.selects RX2 yX2_macStart yX2_macStart ∈ G := ⟨g_180, g_181⟩
set_option maxRecDepth 20000 in
theorem k_X2_macUpdate : Kd yX2_macUpdate cX2_macUpdate 2 (some .boolean) 1 := ⟨g_191, g_1, by decide, by decide, by decide +kernel⟩
set_option maxRecDepth 20000 in
theorem s_X2_macUpdate : Cond.instanceMethod yX2_macUpdate ∈ G ∧ Cond.selects RX2 yX2_macUpdate yX2_macUpdate ∈ G := ⟨g_189, g_190⟩
set_option maxRecDepth 20000 in
theorem k_X2_macFill : Kd yX2_macFill cX2_macFill 6 (some .boolean) 3 := ⟨g_200, g_1, by decide, by decide, by decide +kernel⟩
set_option maxRecDepth 20000 in
theorem s_X2_macFill : Cond.instanceMethod yX2_macFill ∈ G ∧ Cond.selects RX2 yX2_macFill yX2_macFill ∈ G := ⟨g_198, g_199⟩
set_option maxRecDepth 20000 in
theorem k_X2_macFinish : Kd yX2_macFinish cX2_macFinish 1 (some .boolean) 0 := ⟨g_204, g_1, by decide, by decide, by decide +kernel⟩
set_option maxRecDepth 20000 in
theorem s_X2_macFinish : Cond.instanceMethod yX2_macFinish ∈ G ∧ Cond.selects RX2 yX2_macFinish yX2_macFinish ∈ G := ⟨g_202, g_203⟩
set_option maxRecDepth 20000 in
theorem k_X2_tagByte : Kd yX2_tagByte cX2_tagByte 2 (some .int) 1 := ⟨g_213, g_1, by decide, by decide, by decide +kernel⟩
set_option maxRecDepth 20000 in
theorem s_X2_tagByte : Cond.instanceMethod yX2_tagByte ∈ G ∧ Cond.selects RX2 yX2_tagByte yX2_tagByte ∈ G := ⟨g_211, g_212⟩
set_option maxRecDepth 20000 in
theorem k_X2_macCheck : Kd yX2_macCheck cX2_macCheck 3 (some .boolean) 2 := ⟨g_217, g_1, by decide, by decide, by decide +kernel⟩
set_option maxRecDepth 20000 in
theorem s_X2_macCheck : Cond.instanceMethod yX2_macCheck ∈ G ∧ Cond.selects RX2 yX2_macCheck yX2_macCheck ∈ G := ⟨g_215, g_216⟩
set_option maxRecDepth 20000 in
theorem k_X2_macVerdict : Kd yX2_macVerdict cX2_macVerdict 1 (some .boolean) 0 := ⟨g_225, g_1, by decide, by decide, by decide +kernel⟩
set_option maxRecDepth 20000 in
theorem s_X2_macVerdict : Cond.instanceMethod yX2_macVerdict ∈ G ∧ Cond.selects RX2 yX2_macVerdict yX2_macVerdict ∈ G := ⟨g_223, g_224⟩
set_option maxRecDepth 20000 in
theorem k_X2_setBlockByte : Kd yX2_setBlockByte cX2_setBlockByte 3 (some .boolean) 2 := ⟨g_230, g_1, by decide, by decide, by decide +kernel⟩
set_option maxRecDepth 20000 in
theorem s_X2_setBlockByte : Cond.instanceMethod yX2_setBlockByte ∈ G ∧ Cond.selects RX2 yX2_setBlockByte yX2_setBlockByte ∈ G := ⟨g_228, g_229⟩
set_option maxRecDepth 20000 in
theorem k_X2_encryptBlock : Kd yX2_encryptBlock cX2_encryptBlock 1 (some .boolean) 0 := ⟨g_234, g_1, by decide, by decide, by decide +kernel⟩
set_option maxRecDepth 20000 in
theorem s_X2_encryptBlock : Cond.instanceMethod yX2_encryptBlock ∈ G ∧ Cond.selects RX2 yX2_encryptBlock yX2_encryptBlock ∈ G := ⟨g_232, g_233⟩
set_option maxRecDepth 20000 in
theorem k_X2_decryptBlock : Kd yX2_decryptBlock cX2_decryptBlock 1 (some .boolean) 0 := ⟨g_239, g_1, by decide, by decide, by decide +kernel⟩
set_option maxRecDepth 20000 in
theorem s_X2_decryptBlock : Cond.instanceMethod yX2_decryptBlock ∈ G ∧ Cond.selects RX2 yX2_decryptBlock yX2_decryptBlock ∈ G := ⟨g_237, g_238⟩
set_option maxRecDepth 20000 in
theorem k_X2_chain : Kd yX2_chain cX2_chain 2 (some .boolean) 1 := ⟨g_256, g_1, by decide, by decide, by decide +kernel⟩
set_option maxRecDepth 20000 in
theorem s_X2_chain : Cond.instanceMethod yX2_chain ∈ G ∧ Cond.selects RX2 yX2_chain yX2_chain ∈ G := ⟨g_254, g_255⟩
set_option maxRecDepth 20000 in
theorem k_X2_unchain : Kd yX2_unchain cX2_unchain 1 (some .boolean) 0 := ⟨g_270, g_1, by decide, by decide, by decide +kernel⟩
set_option maxRecDepth 20000 in
theorem s_X2_unchain : Cond.instanceMethod yX2_unchain ∈ G ∧ Cond.selects RX2 yX2_unchain yX2_unchain ∈ G := ⟨g_268, g_269⟩
set_option maxRecDepth 20000 in
theorem k_X2_blockByte : Kd yX2_blockByte cX2_blockByte 2 (some .int) 1 := ⟨g_275, g_1, by decide, by decide, by decide +kernel⟩
set_option maxRecDepth 20000 in
theorem s_X2_blockByte : Cond.instanceMethod yX2_blockByte ∈ G ∧ Cond.selects RX2 yX2_blockByte yX2_blockByte ∈ G := ⟨g_273, g_274⟩
set_option maxRecDepth 20000 in
theorem k_X2_half : Kd yX2_half cX2_half 3 (some .int) 2 := ⟨g_279, g_1, by decide, by decide, by decide +kernel⟩
set_option maxRecDepth 20000 in
theorem s_X2_half : Cond.instanceMethod yX2_half ∈ G ∧ Cond.selects RX2 yX2_half yX2_half ∈ G := ⟨g_277, g_278⟩
set_option maxRecDepth 20000 in
theorem k_X2_chainForth : Kd yX2_chainForth cX2_chainForth 1 none 0 := ⟨g_266, g_1, by decide, by decide, by decide +kernel⟩
set_option maxRecDepth 20000 in
theorem s_X2_chainForth : Cond.instanceMethod yX2_chainForth ∈ G ∧ Cond.selects RX2 yX2_chainForth yX2_chainForth ∈ G := ⟨g_265, g_s7⟩
set_option maxRecDepth 20000 in
theorem k_X2_chainBack : Kd yX2_chainBack cX2_chainBack 1 none 0 := ⟨g_260, g_1, by decide, by decide, by decide +kernel⟩
set_option maxRecDepth 20000 in
theorem s_X2_chainBack : Cond.instanceMethod yX2_chainBack ∈ G ∧ Cond.selects RX2 yX2_chainBack yX2_chainBack ∈ G := ⟨g_259, g_s6⟩
set_option maxRecDepth 20000 in
theorem k_X2_isPlace : Kd yX2_isPlace cX2_isPlace 1 (some .boolean) 1 := ⟨g_116, g_1, by decide, by decide, by decide +kernel⟩
set_option maxRecDepth 20000 in
theorem s_X2_isPlace : Cond.static yX2_isPlace ∈ G := g_115
set_option maxRecDepth 20000 in
theorem k_X2_isByte : Kd yX2_isByte cX2_isByte 1 (some .boolean) 1 := ⟨g_119, g_1, by decide, by decide, by decide +kernel⟩
set_option maxRecDepth 20000 in
theorem s_X2_isByte : Cond.static yX2_isByte ∈ G := g_118
set_option maxRecDepth 20000 in
theorem k_X2_xor : Kd yX2_xor cX2_xor 4 none 3 := ⟨g_162, g_1, by decide, by decide, by decide +kernel⟩
set_option maxRecDepth 20000 in
theorem s_X2_xor : Cond.static yX2_xor ∈ G := g_161
set_option maxRecDepth 20000 in
theorem k_X3_init : Kd yX3_init cX3_init 6 none 0 := ⟨g_284, g_4, by decide, by decide, by decide +kernel⟩
set_option maxRecDepth 20000 in
theorem s_X3_init : yX3_init.name = "<init>" ∧ Cond.instanceMethod yX3_init ∈ G := ⟨rfl, g_283⟩
set_option maxRecDepth 20000 in
theorem k_X3_times : Kd yX3_times cX3_times 5 (some .int) 2 := ⟨g_288, g_4, by decide, by decide, by decide +kernel⟩
set_option maxRecDepth 20000 in
theorem s_X3_times : Cond.static yX3_times ∈ G := g_287
set_option maxRecDepth 20000 in
theorem k_X3_isIn : Kd yX3_isIn cX3_isIn 2 (some .boolean) 2 := ⟨g_355, g_4, by decide, by decide, by decide +kernel⟩
set_option maxRecDepth 20000 in
theorem s_X3_isIn : Cond.static yX3_isIn ∈ G := g_354
set_option maxRecDepth 20000 in
theorem k_X3_init_ : Kd yX3_init_ cX3_init_ 2 none 0 := ⟨g_348, g_4, by decide, by decide, by decide +kernel⟩
set_option maxRecDepth 20000 in
theorem s_X3_init_ : Cond.instanceMethod yX3_init_ ∈ G ∧ Cond.selects RX3 yX3_init_ yX3_init_ ∈ G := ⟨g_346, g_347⟩
set_option maxRecDepth 20000 in
theorem k_X3_setKeyByte : Kd yX3_setKeyByte cX3_setKeyByte 3 (some .boolean) 2 := ⟨g_352, g_4, by decide, by decide, by decide +kernel⟩
set_option maxRecDepth 20000 in
theorem s_X3_setKeyByte : Cond.instanceMethod yX3_setKeyByte ∈ G ∧ Cond.selects RX3 yX3_setKeyByte yX3_setKeyByte ∈ G := ⟨g_350, g_351⟩
set_option maxRecDepth 20000 in
theorem k_X3_makeWords : Kd yX3_makeWords cX3_makeWords 4 none 0 := ⟨g_363, g_4, by decide, by decide, by decide +kernel⟩
set_option maxRecDepth 20000 in
theorem s_X3_makeWords : Cond.instanceMethod yX3_makeWords ∈ G ∧ Cond.selects RX3 yX3_makeWords yX3_makeWords ∈ G := ⟨g_362, g_s8⟩
set_option maxRecDepth 20000 in
theorem k_X3_add : Kd yX3_add cX3_add 3 none 1 := ⟨g_371, g_4, by decide, by decide, by decide +kernel⟩
set_option maxRecDepth 20000 in
theorem s_X3_add : Cond.instanceMethod yX3_add ∈ G ∧ Cond.selects RX3 yX3_add yX3_add ∈ G := ⟨g_370, g_s10⟩
set_option maxRecDepth 20000 in
theorem k_X3_columns : Kd yX3_columns cX3_columns 7 none 4 := ⟨g_375, g_4, by decide, by decide, by decide +kernel⟩
set_option maxRecDepth 20000 in
theorem s_X3_columns : Cond.instanceMethod yX3_columns ∈ G ∧ Cond.selects RX3 yX3_columns yX3_columns ∈ G := ⟨g_374, g_s11⟩
set_option maxRecDepth 20000 in
theorem k_X3_forth : Kd yX3_forth cX3_forth 3 none 0 := ⟨g_367, g_4, by decide, by decide, by decide +kernel⟩
set_option maxRecDepth 20000 in
theorem s_X3_forth : Cond.instanceMethod yX3_forth ∈ G ∧ Cond.selects RX3 yX3_forth yX3_forth ∈ G := ⟨g_366, g_s9⟩
set_option maxRecDepth 20000 in
theorem k_X3_back : Kd yX3_back cX3_back 3 none 0 := ⟨g_435, g_4, by decide, by decide, by decide +kernel⟩
set_option maxRecDepth 20000 in
theorem s_X3_back : Cond.instanceMethod yX3_back ∈ G ∧ Cond.selects RX3 yX3_back yX3_back ∈ G := ⟨g_434, g_s16⟩
set_option maxRecDepth 20000 in
theorem k_X3_twice : Kd yX3_twice cX3_twice 5 none 1 := ⟨g_379, g_4, by decide, by decide, by decide +kernel⟩
set_option maxRecDepth 20000 in
theorem s_X3_twice : Cond.instanceMethod yX3_twice ∈ G ∧ Cond.selects RX3 yX3_twice yX3_twice ∈ G := ⟨g_378, g_s12⟩
set_option maxRecDepth 20000 in
theorem k_X3_expand : Kd yX3_expand cX3_expand 2 (some .boolean) 0 := ⟨g_359, g_4, by decide, by decide, by decide +kernel⟩
set_option maxRecDepth 20000 in
theorem s_X3_expand : Cond.instanceMethod yX3_expand ∈ G ∧ Cond.selects RX3 yX3_expand yX3_expand ∈ G := ⟨g_357, g_358⟩
set_option maxRecDepth 20000 in
theorem k_X3_macStart : Kd yX3_macStart cX3_macStart 2 (some .boolean) 0 := ⟨g_383, g_4, by decide, by decide, by decide +kernel⟩
set_option maxRecDepth 20000 in
theorem s_X3_macStart : Cond.instanceMethod yX3_macStart ∈ G ∧ Cond.selects RX3 yX3_macStart yX3_macStart ∈ G := ⟨g_381, g_382⟩
set_option maxRecDepth 20000 in
theorem k_X3_take : Kd yX3_take cX3_take 2 none 0 := ⟨g_395, g_4, by decide, by decide, by decide +kernel⟩
set_option maxRecDepth 20000 in
theorem s_X3_take : Cond.instanceMethod yX3_take ∈ G ∧ Cond.selects RX3 yX3_take yX3_take ∈ G := ⟨g_394, g_s14⟩
set_option maxRecDepth 20000 in
theorem k_X3_feed : Kd yX3_feed cX3_feed 2 none 1 := ⟨g_391, g_4, by decide, by decide, by decide +kernel⟩
set_option maxRecDepth 20000 in
theorem s_X3_feed : Cond.instanceMethod yX3_feed ∈ G ∧ Cond.selects RX3 yX3_feed yX3_feed ∈ G := ⟨g_390, g_s13⟩
set_option maxRecDepth 20000 in
theorem k_X3_macUpdate : Kd yX3_macUpdate cX3_macUpdate 2 (some .boolean) 1 := ⟨g_387, g_4, by decide, by decide, by decide +kernel⟩
set_option maxRecDepth 20000 in
theorem s_X3_macUpdate : Cond.instanceMethod yX3_macUpdate ∈ G ∧ Cond.selects RX3 yX3_macUpdate yX3_macUpdate ∈ G := ⟨g_385, g_386⟩
set_option maxRecDepth 20000 in
theorem k_X3_macFill : Kd yX3_macFill cX3_macFill 6 (some .boolean) 3 := ⟨g_399, g_4, by decide, by decide, by decide +kernel⟩
set_option maxRecDepth 20000 in
theorem s_X3_macFill : Cond.instanceMethod yX3_macFill ∈ G ∧ Cond.selects RX3 yX3_macFill yX3_macFill ∈ G := ⟨g_397, g_398⟩
set_option maxRecDepth 20000 in
theorem k_X3_macFinish : Kd yX3_macFinish cX3_macFinish 3 (some .boolean) 0 := ⟨g_403, g_4, by decide, by decide, by decide +kernel⟩
set_option maxRecDepth 20000 in
theorem s_X3_macFinish : Cond.instanceMethod yX3_macFinish ∈ G ∧ Cond.selects RX3 yX3_macFinish yX3_macFinish ∈ G := ⟨g_401, g_402⟩
set_option maxRecDepth 20000 in
theorem k_X3_tagByte : Kd yX3_tagByte cX3_tagByte 2 (some .int) 1 := ⟨g_407, g_4, by decide, by decide, by decide +kernel⟩
set_option maxRecDepth 20000 in
theorem s_X3_tagByte : Cond.instanceMethod yX3_tagByte ∈ G ∧ Cond.selects RX3 yX3_tagByte yX3_tagByte ∈ G := ⟨g_405, g_406⟩
set_option maxRecDepth 20000 in
theorem k_X3_macCheck : Kd yX3_macCheck cX3_macCheck 3 (some .boolean) 2 := ⟨g_411, g_4, by decide, by decide, by decide +kernel⟩
set_option maxRecDepth 20000 in
theorem s_X3_macCheck : Cond.instanceMethod yX3_macCheck ∈ G ∧ Cond.selects RX3 yX3_macCheck yX3_macCheck ∈ G := ⟨g_409, g_410⟩
set_option maxRecDepth 20000 in
theorem k_X3_macVerdict : Kd yX3_macVerdict cX3_macVerdict 3 (some .boolean) 0 := ⟨g_415, g_4, by decide, by decide, by decide +kernel⟩
set_option maxRecDepth 20000 in
theorem s_X3_macVerdict : Cond.instanceMethod yX3_macVerdict ∈ G ∧ Cond.selects RX3 yX3_macVerdict yX3_macVerdict ∈ G := ⟨g_413, g_414⟩
set_option maxRecDepth 20000 in
theorem k_X3_setBlockByte : Kd yX3_setBlockByte cX3_setBlockByte 3 (some .boolean) 2 := ⟨g_419, g_4, by decide, by decide, by decide +kernel⟩
set_option maxRecDepth 20000 in
theorem s_X3_setBlockByte : Cond.instanceMethod yX3_setBlockByte ∈ G ∧ Cond.selects RX3 yX3_setBlockByte yX3_setBlockByte ∈ G := ⟨g_417, g_418⟩
set_option maxRecDepth 20000 in
theorem k_X3_load : Kd yX3_load cX3_load 3 none 1 := ⟨g_427, g_4, by decide, by decide, by decide +kernel⟩
set_option maxRecDepth 20000 in
theorem s_X3_load : Cond.instanceMethod yX3_load ∈ G ∧ Cond.selects RX3 yX3_load yX3_load ∈ G := ⟨g_426, g_s15⟩
set_option maxRecDepth 20000 in
theorem k_X3_encryptBlock : Kd yX3_encryptBlock cX3_encryptBlock 2 (some .boolean) 0 := ⟨g_423, g_4, by decide, by decide, by decide +kernel⟩
set_option maxRecDepth 20000 in
theorem s_X3_encryptBlock : Cond.instanceMethod yX3_encryptBlock ∈ G ∧ Cond.selects RX3 yX3_encryptBlock yX3_encryptBlock ∈ G := ⟨g_421, g_422⟩
set_option maxRecDepth 20000 in
theorem k_X3_decryptBlock : Kd yX3_decryptBlock cX3_decryptBlock 2 (some .boolean) 0 := ⟨g_431, g_4, by decide, by decide, by decide +kernel⟩
set_option maxRecDepth 20000 in
theorem s_X3_decryptBlock : Cond.instanceMethod yX3_decryptBlock ∈ G ∧ Cond.selects RX3 yX3_decryptBlock yX3_decryptBlock ∈ G := ⟨g_429, g_430⟩
set_option maxRecDepth 20000 in
theorem k_X3_chain : Kd yX3_chain cX3_chain 4 (some .boolean) 1 := ⟨g_439, g_4, by decide, by decide, by decide +kernel⟩
set_option maxRecDepth 20000 in
theorem s_X3_chain : Cond.instanceMethod yX3_chain ∈ G ∧ Cond.selects RX3 yX3_chain yX3_chain ∈ G := ⟨g_437, g_438⟩
set_option maxRecDepth 20000 in
theorem k_X3_unchain : Kd yX3_unchain cX3_unchain 2 (some .boolean) 0 := ⟨g_443, g_4, by decide, by decide, by decide +kernel⟩
set_option maxRecDepth 20000 in
theorem s_X3_unchain : Cond.instanceMethod yX3_unchain ∈ G ∧ Cond.selects RX3 yX3_unchain yX3_unchain ∈ G := ⟨g_441, g_442⟩
set_option maxRecDepth 20000 in
theorem k_X3_blockByte : Kd yX3_blockByte cX3_blockByte 2 (some .int) 1 := ⟨g_447, g_4, by decide, by decide, by decide +kernel⟩
set_option maxRecDepth 20000 in
theorem s_X3_blockByte : Cond.instanceMethod yX3_blockByte ∈ G ∧ Cond.selects RX3 yX3_blockByte yX3_blockByte ∈ G := ⟨g_445, g_446⟩
set_option maxRecDepth 20000 in
theorem k_X3_half : Kd yX3_half cX3_half 3 (some .int) 2 := ⟨g_451, g_4, by decide, by decide, by decide +kernel⟩
set_option maxRecDepth 20000 in
theorem s_X3_half : Cond.instanceMethod yX3_half ∈ G ∧ Cond.selects RX3 yX3_half yX3_half ∈ G := ⟨g_449, g_450⟩
set_option maxRecDepth 20000 in
theorem k_J7_fill_53178 : Kd yJ7_fill_53178 cJ7_fill_53178 4 none 2 := ⟨g_105, g_5, by decide, by decide, by decide +kernel⟩
set_option maxRecDepth 20000 in
theorem s_J7_fill_53178 : Cond.static yJ7_fill_53178 ∈ G := g_104
set_option maxRecDepth 20000 in
theorem w_obj : Cond.instanceMethod objectInit ∈ G ∧ Cond.code objectInit ⟨#[0xb1]⟩ 1 none ∈ G := ⟨g_13, g_14⟩
set_option maxRecDepth 20000 in
theorem w_copy : Cond.native arraycopyName ∈ G ∧ Cond.static arraycopyName ∈ G ∧ Cond.initialized "java/lang/System" ∈ G := ⟨g_138, g_137, g_6⟩
/-- where the objects' fields lie, the int array's class, the tables' addresses, the first address of the law's own cells, the boolean array's class -/
abbrev EE : Type := va_G × ClassId × (Nat → Nat) × Nat × ClassId
abbrev Eb (E : EE) : Nat → Prop := fun q => E.2.2.2.1 ≤ q
def Tb (E : EE) (U : State) (H : Heap) : Prop := ∀ (k : Nat) (t : String × String × Nat × (Nat → Int32)), tabs[k]? = some t → va_Z t.1 t.2.1 "[I" (.ref (E.2.2.1 k)) (Eb E) U H ∧ va_T .int (E.2.2.1 k) t.2.2.1 (fun j => .int (t.2.2.2 j)) (Eb E) U H
theorem Tb.moved {E : EE} {u U : State} {H : Heap} (hvm : u.vm.Alike U.vm) (h : Tb E u H) : Tb E U H := fun k t hk => ⟨(h k t hk).1.moved hvm, (h k t hk).2.moved hvm⟩
theorem Tb.kept {E : EE} {U : State} {H H1 : Heap} (h : Tb E U H) (hq : ∀ a : Nat, a < H.size → ¬ Eb E a → H1[a]? = H[a]?) : Tb E U H1 := fun k t hk => ⟨(h k t hk).1.kept hq, (h k t hk).2.kept hq⟩
def Cx (E : EE) (U : State) : Prop := va_K E.1 classes [(E.2.1, .int), (E.2.2.2.2, .boolean)] U ∧ NW U ∧ E.2.2.2.1 ≤ U.heap.size ∧ Tb E U U.heap
theorem Cx.move {E : EE} {A : Nat → Prop} {s U : State} {H : Heap} {locs : List Loc} (h : Cx E s) (hAB : ∀ q, A q → E.2.2.2.1 ≤ q) (hS : va_S A s.heap H locs) (hU : U.heap = H) (hW : s.WarmedH U.vm) : Cx E U :=
  ⟨va_K.moved hW.alike h.1, NW.warm hW h.2.1, by rw [hU]; exact Nat.le_trans h.2.2.1 hS.1, by rw [hU]; exact (h.2.2.2.moved hW.alike).kept (fun a h1 h2 => hS.2.1 a h1 (fun z => h2 (hAB a z)))⟩
theorem Cx.calling {E : EE} {U : State} {g : JFrame} {mk : MethodId} {a : Array Value} (h : Cx E U) : Cx E (U.calling g mk a) :=
  ⟨va_K.moved (u := U) (U := U.calling g mk a) (Vm.Alike.refl U.vm) h.1, NW.same (u := U) rfl h.2.1, h.2.2.1, Tb.moved (u := U) (U := U.calling g mk a) (Vm.Alike.refl U.vm) h.2.2.2⟩
def Pre (E : EE) (ws : va_W) (sz : Nat) (U : State) : Prop := U.heap.size = sz ∧ va_P E.1 classes ws U.heap ∧ va_D (Eb E) ws ∧ Cx E U
theorem Pre.blind {E : EE} {as : List Value} {ws : va_W} {sz : Nat} : FrameBlind (va_Pc as (Pre E ws sz)) := by
  intro a U g mk h
  obtain ⟨h0, h1, h2, h3, h4⟩ := h
  exact ⟨h0, h1, h2, h3, h4.calling⟩
abbrev Wv (E : EE) (A : Nat → Prop) (ws' : va_W) : Array Value → State → Outcome → State → Prop := va_Qv (fun _ : Unit => True) (fun _ t => va_P E.1 classes ws' t.heap ∧ va_D A ws') A
abbrev Wi (E : EE) (A : Nat → Prop) (r : Int32) (ws' : va_W) : Array Value → State → Outcome → State → Prop := va_Qi (fun (r' : Int32) (_ : Unit) => r' = r) (fun _ t => va_P E.1 classes ws' t.heap ∧ va_D A ws') A
abbrev Wn (E : EE) (A : Nat → Prop) (post : va_W → Prop) : Array Value → State → Outcome → State → Prop := va_Qv post (fun ws' t => va_P E.1 classes ws' t.heap ∧ va_D A ws') A
/-- a void method that makes no cell: the world ws becomes ws' -/
def Cv (l : Launch) (y : MethodName) (cd : Cond) (rm : Room) (E : EE) (as : List Value) (ws ws' : va_W) : Prop := ∀ sz : Nat, Met l y (cd :: G) rm (va_Pc as (Pre E ws sz)) (Wv E (va_A ws sz) ws') 0 0 (va_A ws sz)
/-- a method that answers the int r -/
def Ci (l : Launch) (y : MethodName) (cd : Cond) (rm : Room) (E : EE) (as : List Value) (r : Int32) (ws ws' : va_W) : Prop := ∀ sz : Nat, Met l y (cd :: G) rm (va_Pc as (Pre E ws sz)) (Wi E (va_A ws sz) r ws') 0 0 (va_A ws sz)
/-- a void method that makes mc cells of ms slots: its new world is one of post -/
def Cn (l : Launch) (y : MethodName) (cd : Cond) (rm : Room) (E : EE) (as : List Value) (ws : va_W) (post : va_W → Prop) : Prop := ∀ sz : Nat, Met l y (cd :: G) rm (va_Pc as (Pre E ws sz)) (Wn E (va_A ws sz) post) rm.cells rm.slots (va_A ws sz)
/-- what stands in a body -/
def Bd (p : Program) (s : State) (m : MethodId) (args : Array Value) (meth : Method) (c : Code) (cc : ByteArray) (nL : Nat) (ret : Option FieldType) (own : String) (E : EE) (A : Nat → Prop) : Prop :=
  p.tables.exec = Jvm.exec ∧ c.code = cc ∧ meth.sig.returnType = ret ∧ c.maxLocals = nL ∧ s.vm.findClass own = some m.cls ∧ (∀ w ∈ G, w.before args s = true) ∧ meth.locks = false ∧ Cx E s ∧ (∀ q, A q → E.2.2.2.1 ≤ q) ∧ (∀ q, s.heap.size ≤ q → A q)
section BD
variable {p : Program} {l : Launch} {e : Env} {R : Room} {s : State} {m : MethodId} {args : Array Value} {below : List Frame} {meth : Method} {c : Code} {H : Heap} {locs : List Loc} {cells slots : Nat} {Q : State → Prop}
variable {cc : ByteArray} {nL : Nat} {ret : Option FieldType} {own : String} {E : EE} {A : Nat → Prop} {ws wc wc' wr : va_W} {pc : Nat} {ls : Array Slot} {rest : List Value}
theorem Bd.rt0 (B : Bd p s m args meth c cc nL ret own E A) : meth.sig.returnType = ret := B.2.2.1
theorem Bd.ml (B : Bd p s m args meth c cc nL ret own E A) : c.maxLocals = nL := B.2.2.2.1
theorem Bd.ow (B : Bd p s m args meth c cc nL ret own E A) : s.vm.findClass own = some m.cls := B.2.2.2.2.1
theorem Bd.ts (B : Bd p s m args meth c cc nL ret own E A) : ∀ w ∈ G, w.before args s = true := B.2.2.2.2.2.1
theorem Bd.lk (B : Bd p s m args meth c cc nL ret own E A) : meth.locks = false := B.2.2.2.2.2.2.1
theorem Bd.cx (B : Bd p s m args meth c cc nL ret own E A) : Cx E s := B.2.2.2.2.2.2.2.1
theorem Bd.ab (B : Bd p s m args meth c cc nL ret own E A) : ∀ q, A q → E.2.2.2.1 ≤ q := B.2.2.2.2.2.2.2.2.1
theorem Bd.ha (B : Bd p s m args meth c cc nL ret own E A) : ∀ q, s.heap.size ≤ q → A q := B.2.2.2.2.2.2.2.2.2
theorem Bd.pre (B : Bd p s m args meth c cc nL ret own E A) (hP : va_P E.1 classes wc H) (hD : va_D A wc) (hS : va_S A s.heap H locs) {As : List Value} : ∀ U : State, U.heap = H → s.WarmedH U.vm → va_Pc As (Pre E wc H.size) As.toArray U :=
  fun U hU hW => ⟨rfl, by rw [hU], by rw [hU]; exact hP, hD.weaken (fun _ q _ h => B.ab q.1 h), B.cx.move B.ab hS hU hW⟩
/-- reads of fields -/
theorem x_get (B : Bd p s m args meth c cc nL ret own E A) (hP : va_P E.1 classes ws H) {C : String} {T : u_T} {N ci index a : Nat} (q0 : Nat) {fs : List Value} (he : ws[q0]? = some (a, .inr (ci, fs))) (hc : classes[ci]? = some (C, T, N)) (hin : ∀ w ∈ u_ws C T N, w ∈ G) (k : Nat) (hk : k < N) (hl : Cond.fieldLink own index (T k).1 (T k).2.1 (T k).2.2.1 ∈ G) {v : Value} (hv : fs[k]? = some v) (hdg : decode cc pc = .ok (.getfield index, 3))
    (kk : W p l e R s m args below meth c H locs cells slots Q (F0 m (pc + 3) ls (v :: rest))) : W p l e R s m args below meth c H locs cells slots Q (F0 m pc ls (.ref a :: rest)) :=
  va_get (D := E.1) B.1 B.2.1 B.ts hin B.ow B.cx.1 hP q0 he hc k hk (B.ts _ hl) (fun _ h9 => h9) hv hdg kk
theorem x_getN (B : Bd p s m args meth c cc nL ret own E A) (hP : va_P E.1 classes ws H) {C host : String} {T : u_T} {N ci index a : Nat} (q0 : Nat) {fs : List Value} (he : ws[q0]? = some (a, .inr (ci, fs))) (hc : classes[ci]? = some (C, T, N)) (hin : ∀ w ∈ u_ws C T N, w ∈ G) (k : Nat) (hk : k < N) (hl : Cond.fieldLinkNest own index (T k).1 (T k).2.1 (T k).2.2.1 host ∈ nests) {v : Value} (hv : fs[k]? = some v) (hdg : decode cc pc = .ok (.getfield index, 3))
    (kk : W p l e R s m args below meth c H locs cells slots Q (F0 m (pc + 3) ls (v :: rest))) : W p l e R s m args below meth c H locs cells slots Q (F0 m pc ls (.ref a :: rest)) :=
  va_getN (D := E.1) B.1 B.2.1 B.ts hin B.ow B.cx.1 hP q0 he hc k hk (va_Nw.use rfl (B.cx.2.1 _ hl)) (fun _ h9 => h9) hv hdg kk
/-- writes of fields -/
theorem x_put (B : Bd p s m args meth c cc nL ret own E A) (hP : va_P E.1 classes ws H) (hD : va_D A ws) (hS : va_S A s.heap H locs) {C : String} {T : u_T} {N ci index a : Nat} (q0 : Nat) {fs : List Value} (he : ws[q0]? = some (a, .inr (ci, fs))) (hc : classes[ci]? = some (C, T, N)) (hin : ∀ w ∈ u_ws C T N, w ∈ G) (ty0 : Nat → FieldType) (hty : ∀ k, k < N → parseFieldDescriptor (T k).2.2.1 = some (ty0 k)) (hnm : ∀ a, a < N → ∀ b, b < N → a ≠ b → (T a).2.1 ≠ (T b).2.1) (k : Nat) (hk : k < N) (hl : Cond.fieldLink own index (T k).1 (T k).2.1 (T k).2.2.1 ∈ G) (hfin : (T k).2.2.2 = false) {v : Value} (hn : narrow (ty0 k) v = v) (hfit : fits (ty0 k) v = true) (hlen : k < fs.length) (hdg : decode cc pc = .ok (.putfield index, 3))
    (kk : ∀ (H1 : Heap) (locs1 : List Loc), va_P E.1 classes (ws.set q0 (a, .inr (ci, fs.set k v))) H1 → va_D A (ws.set q0 (a, .inr (ci, fs.set k v))) → va_S A s.heap H1 locs1 → W p l e R s m args below meth c H1 locs1 cells slots Q (F0 m (pc + 3) ls rest)) : W p l e R s m args below meth c H locs cells slots Q (F0 m pc ls (v :: .ref a :: rest)) :=
  va_put (D := E.1) B.1 B.2.1 B.ts hin ty0 hty hnm B.ow B.cx.1 hP hD hS q0 he hc k hk (B.ts _ hl) (fun _ h9 => h9) hfin (hty k hk) hn hfit hlen hdg kk
theorem x_putF (B : Bd p s m args meth c cc nL ret own E A) (hP : va_P E.1 classes ws H) (hD : va_D A ws) (hS : va_S A s.heap H locs) {C : String} {T : u_T} {N ci index a : Nat} (q0 : Nat) {fs : List Value} (he : ws[q0]? = some (a, .inr (ci, fs))) (hc : classes[ci]? = some (C, T, N)) (hin : ∀ w ∈ u_ws C T N, w ∈ G) (ty0 : Nat → FieldType) (hty : ∀ k, k < N → parseFieldDescriptor (T k).2.2.1 = some (ty0 k)) (hnm : ∀ a, a < N → ∀ b, b < N → a ≠ b → (T a).2.1 ≠ (T b).2.1) (k : Nat) (hk : k < N) (hl : Cond.fieldLink own index (T k).1 (T k).2.1 (T k).2.2.1 ∈ G) (hfin : (T k).2.2.2 = true) (hmn : meth.name = "<init>") (hdecl : (T k).1 = own) {v : Value} (hn : narrow (ty0 k) v = v) (hfit : fits (ty0 k) v = true) (hlen : k < fs.length) (hdg : decode cc pc = .ok (.putfield index, 3))
    (kk : ∀ (H1 : Heap) (locs1 : List Loc), va_P E.1 classes (ws.set q0 (a, .inr (ci, fs.set k v))) H1 → va_D A (ws.set q0 (a, .inr (ci, fs.set k v))) → va_S A s.heap H1 locs1 → W p l e R s m args below meth c H1 locs1 cells slots Q (F0 m (pc + 3) ls rest)) : W p l e R s m args below meth c H locs cells slots Q (F0 m pc ls (v :: .ref a :: rest)) :=
  va_putF (D := E.1) B.1 B.2.1 B.ts hin ty0 hty hnm B.ow B.cx.1 hP hD hS q0 he hc k hk (B.ts _ hl) (fun _ h9 => h9) hfin hmn hdecl (hty k hk) hn hfit hlen hdg kk
/-- arrays of ints: the place is the number k -/
theorem x_ald (B : Bd p s m args meth c cc nL ret own E A) (hP : va_P E.1 classes ws H) (q0 : Nat) {a n : Nat} {f : Nat → Int32} (he : ws[q0]? = some (a, .inl (E.2.1, n, .inl f))) {i : Int32} (k : Nat) (hi : i = nI k) (hk : k < n) (hn : n < 2 ^ 31) (hdg : decode cc pc = .ok (.iaload, 1))
    (kk : W p l e R s m args below meth c H locs cells slots Q (F0 m (pc + 1) ls (.int (f k) :: rest))) : W p l e R s m args below meth c H locs cells slots Q (F0 m pc ls (.int i :: .ref a :: rest)) := by
  subst hi
  refine va_iald (D := E.1) B.1 B.2.1 B.cx.1 hP q0 0 he rfl (vp_in_nI hk hn) hdg ?_
  rw [nI_clamp (Nat.lt_trans hk hn)]
  exact kk
theorem x_ast (B : Bd p s m args meth c cc nL ret own E A) (hP : va_P E.1 classes ws H) (hD : va_D A ws) (hS : va_S A s.heap H locs) (q0 : Nat) {a n : Nat} {f : Nat → Int32} (he : ws[q0]? = some (a, .inl (E.2.1, n, .inl f))) {i x : Int32} (k : Nat) (hi : i = nI k) (hk : k < n) (hn : n < 2 ^ 31) (hdg : decode cc pc = .ok (.iastore, 1))
    (kk : ∀ (H1 : Heap) (locs1 : List Loc), va_P E.1 classes (ws.set q0 (a, .inl (E.2.1, n, .inl (upd f k x)))) H1 → va_D A (ws.set q0 (a, .inl (E.2.1, n, .inl (upd f k x)))) → va_S A s.heap H1 locs1 → W p l e R s m args below meth c H1 locs1 cells slots Q (F0 m (pc + 1) ls rest)) : W p l e R s m args below meth c H locs cells slots Q (F0 m pc ls (.int x :: .int i :: .ref a :: rest)) := by
  subst hi
  refine va_iast (D := E.1) B.1 B.2.1 B.cx.1 hP hD hS q0 0 he rfl (vp_in_nI hk hn) hdg ?_
  rw [nI_clamp (Nat.lt_trans hk hn)]
  exact kk
theorem x_alen (B : Bd p s m args meth c cc nL ret own E A) (hP : va_P E.1 classes ws H) (q0 : Nat) {a n : Nat} {f : Nat → Int32} (he : ws[q0]? = some (a, .inl (E.2.1, n, .inl f))) (hdg : decode cc pc = .ok (.arraylength, 1))
    (kk : W p l e R s m args below meth c H locs cells slots Q (F0 m (pc + 1) ls (.int (nI n) :: rest))) : W p l e R s m args below meth c H locs cells slots Q (F0 m pc ls (.ref a :: rest)) :=
  va_alen (D := E.1) B.1 B.2.1 B.cx.1 hP q0 0 he rfl rfl hdg kk
/-- static tables -/
theorem x_gs (B : Bd p s m args meth c cc nL ret own E A) (hS : va_S A s.heap H locs) {index : Nat} (k : Nat) {t : String × String × Nat × (Nat → Int32)} (ht : tabs[k]? = some t) (hl : Cond.fieldLink own index t.1 t.2.1 "[I" ∈ G) (hdg : decode cc pc = .ok (.getstatic index, 3))
    (kk : W p l e R s m args below meth c H locs cells slots Q (F0 m (pc + 3) ls (.ref (E.2.2.1 k) :: rest))) : W p l e R s m args below meth c H locs cells slots Q (F0 m pc ls rest) :=
  va_gets B.1 B.2.1 ((B.cx.2.2.2 k t ht).1.narrow B.ab) hS B.ow (B.ts _ hl) (fun _ h9 => h9) hdg kk
theorem x_gsN (B : Bd p s m args meth c cc nL ret own E A) (hS : va_S A s.heap H locs) {index : Nat} {host : String} (k : Nat) {t : String × String × Nat × (Nat → Int32)} (ht : tabs[k]? = some t) (hl : Cond.fieldLinkNest own index t.1 t.2.1 "[I" host ∈ nests) (hdg : decode cc pc = .ok (.getstatic index, 3))
    (kk : W p l e R s m args below meth c H locs cells slots Q (F0 m (pc + 3) ls (.ref (E.2.2.1 k) :: rest))) : W p l e R s m args below meth c H locs cells slots Q (F0 m pc ls rest) :=
  va_getsN B.1 B.2.1 ((B.cx.2.2.2 k t ht).1.narrow B.ab) hS B.ow (va_Nw.use rfl (B.cx.2.1 _ hl)) (fun _ h9 => h9) hdg kk
theorem x_tld (B : Bd p s m args meth c cc nL ret own E A) (hS : va_S A s.heap H locs) (k : Nat) {t : String × String × Nat × (Nat → Int32)} (ht : tabs[k]? = some t) {i : Int32} (j : Nat) (hi : i = nI j) (hj : j < t.2.2.1) (hn : t.2.2.1 < 2 ^ 31) (hdg : decode cc pc = .ok (.iaload, 1))
    (kk : W p l e R s m args below meth c H locs cells slots Q (F0 m (pc + 1) ls (.int (t.2.2.2 j) :: rest))) : W p l e R s m args below meth c H locs cells slots Q (F0 m pc ls (.int i :: .ref (E.2.2.1 k) :: rest)) := by
  subst hi
  exact va_ti B.1 B.2.1 ((B.cx.2.2.2 k t ht).2.narrow B.ab) hS (vp_in_nI hj hn) (by rw [nI_clamp (Nat.lt_trans hj hn)]) hdg kk
/-- ends -/
theorem x_vret (B : Bd p s m args meth c cc nL none own E A) (hP : va_P E.1 classes ws H) (hD : va_D A ws) (hS : va_S A s.heap H locs) (hdg : decode cc pc = .ok (.return_, 1)) : W p l e R s m args below meth c H locs 0 0 (MQ below (Wv E A ws) args s 0 0 A) (F0 m pc ls []) :=
  W.vret B.1 B.2.1 B.rt0 (fun t ht _ => ⟨⟨(), rfl, trivial, by rw [ht]; exact hP, hD⟩, hS.F ht⟩) hS.2.2 hdg B.lk
theorem x_nret {post : va_W → Prop} (B : Bd p s m args meth c cc nL none own E A) (hP : va_P E.1 classes ws H) (hD : va_D A ws) (hS : va_S A s.heap H locs) (hdg : decode cc pc = .ok (.return_, 1)) (hw : post ws) : W p l e R s m args below meth c H locs cells slots (MQ below (Wn E A post) args s cells slots A) (F0 m pc ls []) :=
  W.vret B.1 B.2.1 B.rt0 (fun t ht _ => ⟨⟨ws, rfl, hw, by rw [ht]; exact hP, hD⟩, hS.F ht⟩) hS.2.2 hdg B.lk
theorem x_iret {ty : FieldType} {r v : Int32} (B : Bd p s m args meth c cc nL (some ty) own E A) (hP : va_P E.1 classes ws H) (hD : va_D A ws) (hS : va_S A s.heap H locs) (hn : narrow ty (.int v) = .int v) (hv : v = r) (hdg : decode cc pc = .ok (.ireturn, 1)) : W p l e R s m args below meth c H locs 0 0 (MQ below (Wi E A r ws) args s 0 0 A) (F0 m pc ls [.int v]) :=
  W.zret B.1 B.2.1 B.rt0 hn (fun t ht _ => ⟨⟨v, (), rfl, hv, by rw [ht]; exact hP, hD⟩, hS.F ht⟩) hS.2.2 hdg B.lk
def Rm (rm R : Room) (maxL mc ms : Nat) : Prop := rm.frames + 1 ≤ R.frames ∧ 8 + (maxL + 11) + rm.locals ≤ R.locals ∧ rm.cells = mc ∧ rm.slots = ms
theorem fm_of_map {α β : Type} {f : α → Option β} : ∀ {is : List α} {w : List β}, is.map f = w.map some → is.filterMap f = w
  | [], [], _ => rfl
  | [], _ :: _, h => by cases h
  | i :: is, [], h => by cases h
  | i :: is, b :: w, h => by
    rw [List.map_cons, List.map_cons] at h
    have h1 := List.cons.inj h
    rw [List.filterMap_cons, h1.1, fm_of_map h1.2]
/-- the callee's cells wc and the rest wr, by their places -/
def Sp (ws wc wr : va_W) (isC isR : List Nat) : Prop := isC.map (fun i => ws[i]?) = wc.map some ∧ isR.map (fun i => ws[i]?) = wr.map some ∧ va_nd isC = true ∧ va_nd isR = true ∧ ∀ i ∈ isR, i ∉ isC
variable {y : MethodName} {bytes : ByteArray} {maxL n index mc ms : Nat} {rt : Option FieldType} {rm : Room} {As : List Value} {st0 : List Value} {host : String} {b : Nat} {args' : Array Value} {isC isR : List Nat}
theorem x_cb (B : Bd p s m args meth c cc nL ret own E A) (hk : Kd y bytes maxL rt n) (hl : Cond.methodLink own index y ∈ G) (hR : Rm rm R maxL mc ms) : CallB R s args own index y bytes maxL rt (.code y bytes maxL rt :: G) rm mc ms n :=
  callB_of n B.ts (G_goodG hk.1) rfl hR.2.2.1 hR.2.2.2 (B.ts _ hk.2.1) (B.ts _ hl) hk.2.2 ⟨hR.1, hR.2.1⟩
theorem x_cn (B : Bd p s m args meth c cc nL ret own E A) (hk : Kd y bytes maxL rt n) (hl : Cond.methodLinkNest own index y host ∈ nests) (hR : Rm rm R maxL mc ms) : va_CN R s args own index y host bytes maxL rt (.code y bytes maxL rt :: G) rm mc ms n :=
  va_cnB n B.ts (G_goodG hk.1) rfl hR.2.2.1 hR.2.2.2 (B.cx.2.1 _ hl) (B.ts _ hk.2.1) hk.2.2 ⟨hR.1, hR.2.1⟩
/-- how a call goes on: a void one, one that answers, one that makes cells -/
theorem x_gov (B : Bd p s m args meth c cc nL ret own E A) (hr : va_Run p l e R s m args below meth c H locs cells slots 0 0 (F0 m pc ls st0) rest (Wv E (va_A wc H.size) wc' args') (va_A wc H.size)) (hP : va_P E.1 classes ws H) (hD : va_D A ws) (hS : va_S A s.heap H locs) (hp : Sp ws wc wr isC isR)
    (kk : ∀ (H1 : Heap) (locs1 : List Loc), va_P E.1 classes (wr ++ wc') H1 → va_D A (wr ++ wc') → va_S A s.heap H1 locs1 → W p l e R s m args below meth c H1 locs1 cells slots Q (F0 m (pc + 3) ls rest)) : W p l e R s m args below meth c H locs cells slots Q (F0 m pc ls st0) := by
  obtain ⟨hC, hRr, -, hnd, hdis⟩ := hp
  have hF := va_free (wc := wc) hD hS B.ha isC hC
  refine va_callv hr hS (fun q _ h => hF q h) hF (fun u t H1 locs1 ht hvm hw hB hz1 hk1 hS1 => ?_)
  obtain ⟨hP1, hD1⟩ := hB
  rw [ht] at hP1
  obtain ⟨hP2, hD2⟩ := va_join hP hD isC isR hC hRr hnd hdis hk1 hF hP1 hD1
  exact kk H1 locs1 hP2 hD2 hS1
theorem x_goi {r : Int32} (B : Bd p s m args meth c cc nL ret own E A) (hr : va_Run p l e R s m args below meth c H locs cells slots 0 0 (F0 m pc ls st0) rest (Wi E (va_A wc H.size) r wc' args') (va_A wc H.size)) (hP : va_P E.1 classes ws H) (hD : va_D A ws) (hS : va_S A s.heap H locs) (hp : Sp ws wc wr isC isR)
    (kk : ∀ (H1 : Heap) (locs1 : List Loc), va_P E.1 classes (wr ++ wc') H1 → va_D A (wr ++ wc') → va_S A s.heap H1 locs1 → W p l e R s m args below meth c H1 locs1 cells slots Q (F0 m (pc + 3) ls (.int r :: rest))) : W p l e R s m args below meth c H locs cells slots Q (F0 m pc ls st0) := by
  obtain ⟨hC, hRr, -, hnd, hdis⟩ := hp
  have hF := va_free (wc := wc) hD hS B.ha isC hC
  refine va_calli hr hS (fun q _ h => hF q h) hF (fun r' u t H1 locs1 ht hvm hw hB hz1 hk1 hS1 => ?_)
  obtain ⟨hP1, hD1⟩ := hB
  rw [ht] at hP1
  obtain ⟨hP2, hD2⟩ := va_join hP hD isC isR hC hRr hnd hdis hk1 hF hP1 hD1
  rw [show r' = r from hw]
  exact kk H1 locs1 hP2 hD2 hS1
theorem x_gon {post : va_W → Prop} (B : Bd p s m args meth c cc nL ret own E A) (hr : va_Run p l e R s m args below meth c H locs cells slots mc ms (F0 m pc ls st0) rest (Wn E (va_A wc H.size) post args') (va_A wc H.size)) (hP : va_P E.1 classes ws H) (hD : va_D A ws) (hS : va_S A s.heap H locs) (hp : Sp ws wc wr isC isR)
    (kk : ∀ (wc' : va_W) (H1 : Heap) (locs1 : List Loc), post wc' → va_P E.1 classes (wr ++ wc') H1 → va_D A (wr ++ wc') → va_S A s.heap H1 locs1 → W p l e R s m args below meth c H1 locs1 (cells + mc) (slots + ms) Q (F0 m (pc + 3) ls rest)) : W p l e R s m args below meth c H locs cells slots Q (F0 m pc ls st0) := by
  obtain ⟨hC, hRr, -, hnd, hdis⟩ := hp
  have hF := va_free (wc := wc) hD hS B.ha isC hC
  refine va_callv hr hS (fun q _ h => hF q h) hF (fun wc' t H1 locs1 ht hvm hw hB hz1 hk1 hS1 => ?_)
  obtain ⟨hP1, hD1⟩ := hB
  rw [ht] at hP1
  obtain ⟨hP2, hD2⟩ := va_join hP hD isC isR hC hRr hnd hdis hk1 hF hP1 hD1
  exact kk wc' H1 locs1 hw hP2 hD2 hS1
theorem x_Sv (B : Bd p s m args meth c cc nL ret own E A) (hM : Cv l y (.code y bytes maxL none) rm E As wc wc') (hk : Kd y bytes maxL none n) (hl : Cond.methodLink own index y ∈ G) (hs : Cond.static y ∈ G) (hR : Rm rm R maxL 0 0) (hP : va_P E.1 classes ws H) (hD : va_D A ws) (hS : va_S A s.heap H locs) (hp : Sp ws wc wr isC isR) (hlen : As.length = n) (hls : ls.size = nL) (hst : st0 = As.reverse ++ rest) (hcat : (rest.map fun v => v.category).sum ≤ 8) (hdg : decode cc pc = .ok (.invokestatic index, 3)) (hf : cells ≤ R.cells ∧ slots ≤ R.slots)
    (kk : ∀ (H1 : Heap) (locs1 : List Loc), va_P E.1 classes (wr ++ wc') H1 → va_D A (wr ++ wc') → va_S A s.heap H1 locs1 → W p l e R s m args below meth c H1 locs1 cells slots Q (F0 m (pc + 3) ls rest)) : W p l e R s m args below meth c H locs cells slots Q (F0 m pc ls st0) :=
  x_gov B (va_runS ⟨B.1, B.2.1, B.ml, B.ow, B.ts⟩ (hM H.size) ⟨x_cb B hk hl hR, B.ts _ hs⟩ ⟨Pre.blind, B.pre (hP.sub isC (fm_of_map hp.1)) (hD.sub isC hp.2.2.1 hp.1) hS⟩ rfl hlen hls hst (lv_room hcat) hdg hf) hP hD hS hp kk
theorem x_Si {ty : FieldType} {r : Int32} (B : Bd p s m args meth c cc nL ret own E A) (hM : Ci l y (.code y bytes maxL (some ty)) rm E As r wc wc') (hk : Kd y bytes maxL (some ty) n) (hl : Cond.methodLink own index y ∈ G) (hs : Cond.static y ∈ G) (hR : Rm rm R maxL 0 0) (hP : va_P E.1 classes ws H) (hD : va_D A ws) (hS : va_S A s.heap H locs) (hp : Sp ws wc wr isC isR) (hlen : As.length = n) (hls : ls.size = nL) (hst : st0 = As.reverse ++ rest) (hcat : (rest.map fun v => v.category).sum ≤ 8) (hdg : decode cc pc = .ok (.invokestatic index, 3)) (hf : cells ≤ R.cells ∧ slots ≤ R.slots)
    (kk : ∀ (H1 : Heap) (locs1 : List Loc), va_P E.1 classes (wr ++ wc') H1 → va_D A (wr ++ wc') → va_S A s.heap H1 locs1 → W p l e R s m args below meth c H1 locs1 cells slots Q (F0 m (pc + 3) ls (.int r :: rest))) : W p l e R s m args below meth c H locs cells slots Q (F0 m pc ls st0) :=
  x_goi B (va_runS ⟨B.1, B.2.1, B.ml, B.ow, B.ts⟩ (hM H.size) ⟨x_cb B hk hl hR, B.ts _ hs⟩ ⟨Pre.blind, B.pre (hP.sub isC (fm_of_map hp.1)) (hD.sub isC hp.2.2.1 hp.1) hS⟩ rfl hlen hls hst (lv_room hcat) hdg hf) hP hD hS hp kk
theorem x_SNv (B : Bd p s m args meth c cc nL ret own E A) (hM : Cv l y (.code y bytes maxL none) rm E As wc wc') (hk : Kd y bytes maxL none n) (hl : Cond.methodLinkNest own index y host ∈ nests) (hs : Cond.static y ∈ G) (hR : Rm rm R maxL 0 0) (hP : va_P E.1 classes ws H) (hD : va_D A ws) (hS : va_S A s.heap H locs) (hp : Sp ws wc wr isC isR) (hlen : As.length = n) (hls : ls.size = nL) (hst : st0 = As.reverse ++ rest) (hcat : (rest.map fun v => v.category).sum ≤ 8) (hdg : decode cc pc = .ok (.invokestatic index, 3)) (hf : cells ≤ R.cells ∧ slots ≤ R.slots)
    (kk : ∀ (H1 : Heap) (locs1 : List Loc), va_P E.1 classes (wr ++ wc') H1 → va_D A (wr ++ wc') → va_S A s.heap H1 locs1 → W p l e R s m args below meth c H1 locs1 cells slots Q (F0 m (pc + 3) ls rest)) : W p l e R s m args below meth c H locs cells slots Q (F0 m pc ls st0) :=
  x_gov B (va_runSN ⟨B.1, B.2.1, B.ml, B.ow, B.ts⟩ (hM H.size) ⟨x_cn B hk hl hR, B.ts _ hs, trivial⟩ ⟨Pre.blind, B.pre (hP.sub isC (fm_of_map hp.1)) (hD.sub isC hp.2.2.1 hp.1) hS⟩ rfl hlen hls hst (lv_room hcat) hdg hf) hP hD hS hp kk
theorem x_SNi {ty : FieldType} {r : Int32} (B : Bd p s m args meth c cc nL ret own E A) (hM : Ci l y (.code y bytes maxL (some ty)) rm E As r wc wc') (hk : Kd y bytes maxL (some ty) n) (hl : Cond.methodLinkNest own index y host ∈ nests) (hs : Cond.static y ∈ G) (hR : Rm rm R maxL 0 0) (hP : va_P E.1 classes ws H) (hD : va_D A ws) (hS : va_S A s.heap H locs) (hp : Sp ws wc wr isC isR) (hlen : As.length = n) (hls : ls.size = nL) (hst : st0 = As.reverse ++ rest) (hcat : (rest.map fun v => v.category).sum ≤ 8) (hdg : decode cc pc = .ok (.invokestatic index, 3)) (hf : cells ≤ R.cells ∧ slots ≤ R.slots)
    (kk : ∀ (H1 : Heap) (locs1 : List Loc), va_P E.1 classes (wr ++ wc') H1 → va_D A (wr ++ wc') → va_S A s.heap H1 locs1 → W p l e R s m args below meth c H1 locs1 cells slots Q (F0 m (pc + 3) ls (.int r :: rest))) : W p l e R s m args below meth c H locs cells slots Q (F0 m pc ls st0) :=
  x_goi B (va_runSN ⟨B.1, B.2.1, B.ml, B.ow, B.ts⟩ (hM H.size) ⟨x_cn B hk hl hR, B.ts _ hs, trivial⟩ ⟨Pre.blind, B.pre (hP.sub isC (fm_of_map hp.1)) (hD.sub isC hp.2.2.1 hp.1) hS⟩ rfl hlen hls hst (lv_room hcat) hdg hf) hP hD hS hp kk
theorem x_Vv {C : String} {T : u_T} {N ci : Nat} {fs : List Value} (B : Bd p s m args meth c cc nL ret own E A) (hM : Cv l y (.code y bytes maxL none) rm E (.ref b :: As) wc wc') (hk : Kd y bytes maxL none n) (hl : Cond.methodLink own index y ∈ G) (hs : Cond.instanceMethod y ∈ G ∧ Cond.selects C y y ∈ G) (hR : Rm rm R maxL 0 0) (hcl : classes[ci]? = some (C, T, N)) (q0 : Nat) (hrec : ws[q0]? = some (b, .inr (ci, fs))) (hP : va_P E.1 classes ws H) (hD : va_D A ws) (hS : va_S A s.heap H locs) (hp : Sp ws wc wr isC isR) (hlen : As.length = n) (hls : ls.size = nL) (hst : st0 = As.reverse ++ .ref b :: rest) (hcat : (rest.map fun v => v.category).sum ≤ 8) (hdg : decode cc pc = .ok (.invokevirtual index, 3)) (hf : cells ≤ R.cells ∧ slots ≤ R.slots)
    (kk : ∀ (H1 : Heap) (locs1 : List Loc), va_P E.1 classes (wr ++ wc') H1 → va_D A (wr ++ wc') → va_S A s.heap H1 locs1 → W p l e R s m args below meth c H1 locs1 cells slots Q (F0 m (pc + 3) ls rest)) : W p l e R s m args below meth c H locs cells slots Q (F0 m pc ls st0) :=
  x_gov B (va_runV ⟨B.1, B.2.1, B.ml, B.ow, B.ts⟩ (hM H.size) ⟨x_cb B hk hl hR, B.ts _ hs.1, B.ts _ hs.2⟩ ⟨Pre.blind, va_recv B.cx.1 hP hcl hrec, B.pre (hP.sub isC (fm_of_map hp.1)) (hD.sub isC hp.2.2.1 hp.1) hS⟩ rfl hlen hls hst (lv_room hcat) hdg hf) hP hD hS hp kk
theorem x_Vi {ty : FieldType} {r : Int32} {C : String} {T : u_T} {N ci : Nat} {fs : List Value} (B : Bd p s m args meth c cc nL ret own E A) (hM : Ci l y (.code y bytes maxL (some ty)) rm E (.ref b :: As) r wc wc') (hk : Kd y bytes maxL (some ty) n) (hl : Cond.methodLink own index y ∈ G) (hs : Cond.instanceMethod y ∈ G ∧ Cond.selects C y y ∈ G) (hR : Rm rm R maxL 0 0) (hcl : classes[ci]? = some (C, T, N)) (q0 : Nat) (hrec : ws[q0]? = some (b, .inr (ci, fs))) (hP : va_P E.1 classes ws H) (hD : va_D A ws) (hS : va_S A s.heap H locs) (hp : Sp ws wc wr isC isR) (hlen : As.length = n) (hls : ls.size = nL) (hst : st0 = As.reverse ++ .ref b :: rest) (hcat : (rest.map fun v => v.category).sum ≤ 8) (hdg : decode cc pc = .ok (.invokevirtual index, 3)) (hf : cells ≤ R.cells ∧ slots ≤ R.slots)
    (kk : ∀ (H1 : Heap) (locs1 : List Loc), va_P E.1 classes (wr ++ wc') H1 → va_D A (wr ++ wc') → va_S A s.heap H1 locs1 → W p l e R s m args below meth c H1 locs1 cells slots Q (F0 m (pc + 3) ls (.int r :: rest))) : W p l e R s m args below meth c H locs cells slots Q (F0 m pc ls st0) :=
  x_goi B (va_runV ⟨B.1, B.2.1, B.ml, B.ow, B.ts⟩ (hM H.size) ⟨x_cb B hk hl hR, B.ts _ hs.1, B.ts _ hs.2⟩ ⟨Pre.blind, va_recv B.cx.1 hP hcl hrec, B.pre (hP.sub isC (fm_of_map hp.1)) (hD.sub isC hp.2.2.1 hp.1) hS⟩ rfl hlen hls hst (lv_room hcat) hdg hf) hP hD hS hp kk
theorem x_VNv {C : String} {T : u_T} {N ci : Nat} {fs : List Value} (B : Bd p s m args meth c cc nL ret own E A) (hM : Cv l y (.code y bytes maxL none) rm E (.ref b :: As) wc wc') (hk : Kd y bytes maxL none n) (hl : Cond.methodLinkNest own index y host ∈ nests) (hs : Cond.instanceMethod y ∈ G ∧ Cond.selects C y y ∈ G) (hR : Rm rm R maxL 0 0) (hcl : classes[ci]? = some (C, T, N)) (q0 : Nat) (hrec : ws[q0]? = some (b, .inr (ci, fs))) (hP : va_P E.1 classes ws H) (hD : va_D A ws) (hS : va_S A s.heap H locs) (hp : Sp ws wc wr isC isR) (hlen : As.length = n) (hls : ls.size = nL) (hst : st0 = As.reverse ++ .ref b :: rest) (hcat : (rest.map fun v => v.category).sum ≤ 8) (hdg : decode cc pc = .ok (.invokevirtual index, 3)) (hf : cells ≤ R.cells ∧ slots ≤ R.slots)
    (kk : ∀ (H1 : Heap) (locs1 : List Loc), va_P E.1 classes (wr ++ wc') H1 → va_D A (wr ++ wc') → va_S A s.heap H1 locs1 → W p l e R s m args below meth c H1 locs1 cells slots Q (F0 m (pc + 3) ls rest)) : W p l e R s m args below meth c H locs cells slots Q (F0 m pc ls st0) :=
  x_gov B (va_runVN ⟨B.1, B.2.1, B.ml, B.ow, B.ts⟩ (hM H.size) ⟨x_cn B hk hl hR, B.ts _ hs.1, B.ts _ hs.2⟩ ⟨Pre.blind, va_recv B.cx.1 hP hcl hrec, B.pre (hP.sub isC (fm_of_map hp.1)) (hD.sub isC hp.2.2.1 hp.1) hS⟩ rfl hlen hls hst (lv_room hcat) hdg hf) hP hD hS hp kk
theorem x_VNi {ty : FieldType} {r : Int32} {C : String} {T : u_T} {N ci : Nat} {fs : List Value} (B : Bd p s m args meth c cc nL ret own E A) (hM : Ci l y (.code y bytes maxL (some ty)) rm E (.ref b :: As) r wc wc') (hk : Kd y bytes maxL (some ty) n) (hl : Cond.methodLinkNest own index y host ∈ nests) (hs : Cond.instanceMethod y ∈ G ∧ Cond.selects C y y ∈ G) (hR : Rm rm R maxL 0 0) (hcl : classes[ci]? = some (C, T, N)) (q0 : Nat) (hrec : ws[q0]? = some (b, .inr (ci, fs))) (hP : va_P E.1 classes ws H) (hD : va_D A ws) (hS : va_S A s.heap H locs) (hp : Sp ws wc wr isC isR) (hlen : As.length = n) (hls : ls.size = nL) (hst : st0 = As.reverse ++ .ref b :: rest) (hcat : (rest.map fun v => v.category).sum ≤ 8) (hdg : decode cc pc = .ok (.invokevirtual index, 3)) (hf : cells ≤ R.cells ∧ slots ≤ R.slots)
    (kk : ∀ (H1 : Heap) (locs1 : List Loc), va_P E.1 classes (wr ++ wc') H1 → va_D A (wr ++ wc') → va_S A s.heap H1 locs1 → W p l e R s m args below meth c H1 locs1 cells slots Q (F0 m (pc + 3) ls (.int r :: rest))) : W p l e R s m args below meth c H locs cells slots Q (F0 m pc ls st0) :=
  x_goi B (va_runVN ⟨B.1, B.2.1, B.ml, B.ow, B.ts⟩ (hM H.size) ⟨x_cn B hk hl hR, B.ts _ hs.1, B.ts _ hs.2⟩ ⟨Pre.blind, va_recv B.cx.1 hP hcl hrec, B.pre (hP.sub isC (fm_of_map hp.1)) (hD.sub isC hp.2.2.1 hp.1) hS⟩ rfl hlen hls hst (lv_room hcat) hdg hf) hP hD hS hp kk
theorem x_In {post : va_W → Prop} (B : Bd p s m args meth c cc nL ret own E A) (hM : Cn l y (.code y bytes maxL none) rm E (.ref b :: As) wc post) (hk : Kd y bytes maxL none n) (hl : Cond.methodLink own index y ∈ G) (hs : y.name = "<init>" ∧ Cond.instanceMethod y ∈ G) (hR : Rm rm R maxL mc ms) (hP : va_P E.1 classes ws H) (hD : va_D A ws) (hS : va_S A s.heap H locs) (hp : Sp ws wc wr isC isR) (hlen : As.length = n) (hls : ls.size = nL) (hst : st0 = As.reverse ++ .ref b :: rest) (hcat : (rest.map fun v => v.category).sum ≤ 8) (hdg : decode cc pc = .ok (.invokespecial index, 3)) (hf : cells + mc ≤ R.cells ∧ slots + ms ≤ R.slots)
    (kk : ∀ (wc' : va_W) (H1 : Heap) (locs1 : List Loc), post wc' → va_P E.1 classes (wr ++ wc') H1 → va_D A (wr ++ wc') → va_S A s.heap H1 locs1 → W p l e R s m args below meth c H1 locs1 (cells + mc) (slots + ms) Q (F0 m (pc + 3) ls rest)) : W p l e R s m args below meth c H locs cells slots Q (F0 m pc ls st0) :=
by
  obtain ⟨hR1, hR2, rfl, rfl⟩ := hR
  have hR : Rm rm R maxL rm.cells rm.slots := ⟨hR1, hR2, rfl, rfl⟩
  exact x_gon B (va_runI ⟨B.1, B.2.1, B.ml, B.ow, B.ts⟩ (hM H.size) ⟨x_cb B hk hl hR, hs.1, B.ts _ hs.2⟩ ⟨Pre.blind, B.pre (hP.sub isC (fm_of_map hp.1)) (hD.sub isC hp.2.2.1 hp.1) hS⟩ rfl hlen hls hst (lv_room hcat) hdg hf) hP hD hS hp kk
theorem x_INn {post : va_W → Prop} (B : Bd p s m args meth c cc nL ret own E A) (hM : Cn l y (.code y bytes maxL none) rm E (.ref b :: As) wc post) (hk : Kd y bytes maxL none n) (hl : Cond.methodLinkNest own index y host ∈ nests) (hs : y.name = "<init>" ∧ Cond.instanceMethod y ∈ G) (hR : Rm rm R maxL mc ms) (hP : va_P E.1 classes ws H) (hD : va_D A ws) (hS : va_S A s.heap H locs) (hp : Sp ws wc wr isC isR) (hlen : As.length = n) (hls : ls.size = nL) (hst : st0 = As.reverse ++ .ref b :: rest) (hcat : (rest.map fun v => v.category).sum ≤ 8) (hdg : decode cc pc = .ok (.invokespecial index, 3)) (hf : cells + mc ≤ R.cells ∧ slots + ms ≤ R.slots)
    (kk : ∀ (wc' : va_W) (H1 : Heap) (locs1 : List Loc), post wc' → va_P E.1 classes (wr ++ wc') H1 → va_D A (wr ++ wc') → va_S A s.heap H1 locs1 → W p l e R s m args below meth c H1 locs1 (cells + mc) (slots + ms) Q (F0 m (pc + 3) ls rest)) : W p l e R s m args below meth c H locs cells slots Q (F0 m pc ls st0) :=
by
  obtain ⟨hR1, hR2, rfl, rfl⟩ := hR
  have hR : Rm rm R maxL rm.cells rm.slots := ⟨hR1, hR2, rfl, rfl⟩
  exact x_gon B (va_runIN ⟨B.1, B.2.1, B.ml, B.ow, B.ts⟩ (hM H.size) ⟨x_cn B hk hl hR, hs.1, B.ts _ hs.2⟩ ⟨Pre.blind, B.pre (hP.sub isC (fm_of_map hp.1)) (hD.sub isC hp.2.2.1 hp.1) hS⟩ rfl hlen hls hst (lv_room hcat) hdg hf) hP hD hS hp kk
theorem x_Iv (B : Bd p s m args meth c cc nL ret own E A) (hM : Cv l y (.code y bytes maxL none) rm E (.ref b :: As) wc wc') (hk : Kd y bytes maxL none n) (hl : Cond.methodLink own index y ∈ G) (hs : y.name = "<init>" ∧ Cond.instanceMethod y ∈ G) (hR : Rm rm R maxL 0 0) (hP : va_P E.1 classes ws H) (hD : va_D A ws) (hS : va_S A s.heap H locs) (hp : Sp ws wc wr isC isR) (hlen : As.length = n) (hls : ls.size = nL) (hst : st0 = As.reverse ++ .ref b :: rest) (hcat : (rest.map fun v => v.category).sum ≤ 8) (hdg : decode cc pc = .ok (.invokespecial index, 3)) (hf : cells ≤ R.cells ∧ slots ≤ R.slots)
    (kk : ∀ (H1 : Heap) (locs1 : List Loc), va_P E.1 classes (wr ++ wc') H1 → va_D A (wr ++ wc') → va_S A s.heap H1 locs1 → W p l e R s m args below meth c H1 locs1 cells slots Q (F0 m (pc + 3) ls rest)) : W p l e R s m args below meth c H locs cells slots Q (F0 m pc ls st0) :=
  x_gov B (va_runI ⟨B.1, B.2.1, B.ml, B.ow, B.ts⟩ (hM H.size) ⟨x_cb B hk hl hR, hs.1, B.ts _ hs.2⟩ ⟨Pre.blind, B.pre (hP.sub isC (fm_of_map hp.1)) (hD.sub isC hp.2.2.1 hp.1) hS⟩ rfl hlen hls hst (lv_room hcat) hdg hf) hP hD hS hp kk
end BD
/-- a contract out of a walk of the body -/
theorem Cv.of {l : Launch} {y : MethodName} {cc : ByteArray} {nL : Nat} {rm : Room} {E : EE} {as : List Value} {ws ws' : va_W} (hy : plainName y.cls = true) (hn : (lg_sl as).length ≤ nL)
    (body : ∀ (p : Program) (e : Env) (s : State) (m : MethodId) (below : List Frame) (meth : Method) (c : Code) (A : Nat → Prop) (ls : Array Slot), Bd p s m as.toArray meth c cc nL none y.cls E A → va_P E.1 classes ws s.heap → va_D A ws → va_S A s.heap s.heap [] → lv_has ls nL (lv_args 0 as) →
      W p l e rm s m as.toArray below meth c s.heap [] 0 0 (MQ below (Wv E A ws') as.toArray s 0 0 A) (F0 m 0 ls [])) : Cv l y (.code y cc nL none) rm E as ws ws' := by
  intro sz
  refine Met.ofW (cc := cc) (maxL := nL) (ret := none) hy rfl ?_
  intro p e s m args below meth c s₁ B hml hv
  obtain ⟨rfl, hsz, hP, hD, hC⟩ := hv
  subst hsz
  have hts := atoms_spec (ws := .code y cc nL none :: G) B.pre
  rw [lg_entry_eq]
  exact body p e s m below meth c _ _ ⟨B.exec, B.bytes, B.returns, hml, findClass_of_methodNamed B.named, fun w h => hts w (List.mem_cons_of_mem _ h), B.notSynchronized, hC, fun q h => by
    rcases h with ⟨k, e, h⟩ | h
    · exact hD.2 k _ h
    · exact Nat.le_trans hC.2.2.1 h, fun q h => Or.inr h⟩ hP hD.self va_S.rf (lv_entry as hn)
theorem Ci.of {l : Launch} {y : MethodName} {cc : ByteArray} {nL : Nat} {ty : FieldType} {r : Int32} {rm : Room} {E : EE} {as : List Value} {ws ws' : va_W} (hy : plainName y.cls = true) (hn : (lg_sl as).length ≤ nL)
    (body : ∀ (p : Program) (e : Env) (s : State) (m : MethodId) (below : List Frame) (meth : Method) (c : Code) (A : Nat → Prop) (ls : Array Slot), Bd p s m as.toArray meth c cc nL (some ty) y.cls E A → va_P E.1 classes ws s.heap → va_D A ws → va_S A s.heap s.heap [] → lv_has ls nL (lv_args 0 as) →
      W p l e rm s m as.toArray below meth c s.heap [] 0 0 (MQ below (Wi E A r ws') as.toArray s 0 0 A) (F0 m 0 ls [])) : Ci l y (.code y cc nL (some ty)) rm E as r ws ws' := by
  intro sz
  refine Met.ofW (cc := cc) (maxL := nL) (ret := some ty) hy rfl ?_
  intro p e s m args below meth c s₁ B hml hv
  obtain ⟨rfl, hsz, hP, hD, hC⟩ := hv
  subst hsz
  have hts := atoms_spec (ws := .code y cc nL (some ty) :: G) B.pre
  rw [lg_entry_eq]
  exact body p e s m below meth c _ _ ⟨B.exec, B.bytes, B.returns, hml, findClass_of_methodNamed B.named, fun w h => hts w (List.mem_cons_of_mem _ h), B.notSynchronized, hC, fun q h => by
    rcases h with ⟨k, e, h⟩ | h
    · exact hD.2 k _ h
    · exact Nat.le_trans hC.2.2.1 h, fun q h => Or.inr h⟩ hP hD.self va_S.rf (lv_entry as hn)
theorem Cn.of {l : Launch} {y : MethodName} {cc : ByteArray} {nL : Nat} {post : va_W → Prop} {rm : Room} {E : EE} {as : List Value} {ws : va_W} (hy : plainName y.cls = true) (hn : (lg_sl as).length ≤ nL)
    (body : ∀ (p : Program) (e : Env) (s : State) (m : MethodId) (below : List Frame) (meth : Method) (c : Code) (A : Nat → Prop) (ls : Array Slot), Bd p s m as.toArray meth c cc nL none y.cls E A → meth.name = y.name → va_P E.1 classes ws s.heap → va_D A ws → va_S A s.heap s.heap [] → lv_has ls nL (lv_args 0 as) →
      W p l e rm s m as.toArray below meth c s.heap [] 0 0 (MQ below (Wn E A post) as.toArray s rm.cells rm.slots A) (F0 m 0 ls [])) : Cn l y (.code y cc nL none) rm E as ws post := by
  intro sz
  refine Met.ofW (cc := cc) (maxL := nL) (ret := none) hy rfl ?_
  intro p e s m args below meth c s₁ B hml hv
  obtain ⟨rfl, hsz, hP, hD, hC⟩ := hv
  subst hsz
  have hts := atoms_spec (ws := .code y cc nL none :: G) B.pre
  rw [lg_entry_eq]
  exact body p e s m below meth c _ _ ⟨B.exec, B.bytes, B.returns, hml, findClass_of_methodNamed B.named, fun w h => hts w (List.mem_cons_of_mem _ h), B.notSynchronized, hC, fun q h => by
    rcases h with ⟨k, e, h⟩ | h
    · exact hD.2 k _ h
    · exact Nat.le_trans hC.2.2.1 h, fun q h => Or.inr h⟩ (name_of_methodNamed B.named B.method).1 hP hD.self va_S.rf (lv_entry as hn)
section BN
variable {p : Program} {l : Launch} {e : Env} {R : Room} {s : State} {m : MethodId} {args : Array Value} {below : List Frame} {meth : Method} {c : Code} {H : Heap} {locs : List Loc} {cells slots : Nat} {Q : State → Prop}
variable {cc : ByteArray} {nL : Nat} {ret : Option FieldType} {own : String} {E : EE} {A : Nat → Prop} {ws : va_W} {pc : Nat} {ls : Array Slot} {rest : List Value}
/-- a new array of N ints, all 0 -/
theorem x_newa (B : Bd p s m args meth c cc nL ret own E A) (hP : va_P E.1 classes ws H) (hD : va_D A ws) (hS : va_S A s.heap H locs) (harr : Cond.arrayClass .int ∈ G) {n : Int32} (N : Nat) (hn : n = nI N) (hN : N ≤ 1000) (hcells : cells + 1 ≤ R.cells) (hslots : slots + N ≤ R.slots) (hdg : decode cc pc = .ok (.newarray .int, 2))
    (kk : ∀ (q : Nat) (H1 : Heap), va_P E.1 classes (ws ++ [(q, .inl (E.2.1, N, .inl (fun _ => 0)))]) H1 → va_D A (ws ++ [(q, .inl (E.2.1, N, .inl (fun _ => 0)))]) → va_S A s.heap H1 locs → W p l e R s m args below meth c H1 locs (cells + 1) (slots + N) Q (F0 m (pc + 2) ls (.ref q :: rest))) : W p l e R s m args below meth c H locs cells slots Q (F0 m pc ls (.int n :: rest)) := by
  subst hn
  refine va_newa (D := E.1) (atype := .int) (ty := .int) (N' := N) (a0 := (N, .inl (fun _ => 0))) B.1 B.2.1 (B.ts _ harr) rfl B.cx.1 hP hD hS B.ha (fun _ => rfl) (nI_pos (by omega)) (nI_clamp (by omega)) (by rw [show componentBytes .int = 4 from rfl]; omega) hcells hslots hdg (fun q cA H1 hK hP hD hS => ?_)
  have h0 := va_nm_int (hK.2 0 _ rfl).2
  have h1 := va_nm_int (hK.2 2 (cA, .int) rfl).2
  have e : cA = E.2.1 := Option.some.inj (h1.symm.trans h0)
  subst e
  exact kk q H1 hP hD hS
/-- a new array of N booleans, all false -/
theorem x_newz (B : Bd p s m args meth c cc nL ret own E A) (hP : va_P E.1 classes ws H) (hD : va_D A ws) (hS : va_S A s.heap H locs) (harr : Cond.arrayClass .boolean ∈ G) {n : Int32} (N : Nat) (hn : n = nI N) (hN : N ≤ 1000) (hcells : cells + 1 ≤ R.cells) (hslots : slots + N ≤ R.slots) (hdg : decode cc pc = .ok (.newarray .boolean, 2))
    (kk : ∀ (q : Nat) (H1 : Heap), va_P E.1 classes (ws ++ [(q, .inl (E.2.2.2.2, N, .inl (fun _ => 0)))]) H1 → va_D A (ws ++ [(q, .inl (E.2.2.2.2, N, .inl (fun _ => 0)))]) → va_S A s.heap H1 locs → W p l e R s m args below meth c H1 locs (cells + 1) (slots + N) Q (F0 m (pc + 2) ls (.ref q :: rest))) : W p l e R s m args below meth c H locs cells slots Q (F0 m pc ls (.int n :: rest)) := by
  subst hn
  refine va_newa (D := E.1) (atype := .boolean) (ty := .boolean) (N' := N) (a0 := (N, .inl (fun _ => 0))) B.1 B.2.1 (B.ts _ harr) rfl B.cx.1 hP hD hS B.ha (fun _ => rfl) (nI_pos (by omega)) (nI_clamp (by omega)) (by rw [show componentBytes .boolean = 1 from rfl]; omega) hcells hslots hdg (fun q cA H1 hK hP hD hS => ?_)
  have h0 := va_nm_boolean (hK.2 1 _ rfl).2
  have h1 := va_nm_boolean (hK.2 2 (cA, .boolean) rfl).2
  have e : cA = E.2.2.2.2 := Option.some.inj (h1.symm.trans h0)
  subst e
  exact kk q H1 hP hD hS
/-- arrays of booleans -/
theorem x_zld (B : Bd p s m args meth c cc nL ret own E A) (hP : va_P E.1 classes ws H) (q0 : Nat) {a n : Nat} {f : Nat → Int32} (he : ws[q0]? = some (a, .inl (E.2.2.2.2, n, .inl f))) {i : Int32} (k : Nat) (hi : i = nI k) (hk : k < n) (hn : n < 2 ^ 31) (hdg : decode cc pc = .ok (.baload, 1))
    (kk : W p l e R s m args below meth c H locs cells slots Q (F0 m (pc + 1) ls (.int (f k) :: rest))) : W p l e R s m args below meth c H locs cells slots Q (F0 m pc ls (.int i :: .ref a :: rest)) := by
  subst hi
  refine va_zald (D := E.1) B.1 B.2.1 B.cx.1 hP q0 1 he rfl (vp_in_nI hk hn) hdg ?_
  rw [nI_clamp (Nat.lt_trans hk hn)]
  exact kk
theorem x_zst (B : Bd p s m args meth c cc nL ret own E A) (hP : va_P E.1 classes ws H) (hD : va_D A ws) (hS : va_S A s.heap H locs) (q0 : Nat) {a n : Nat} {f : Nat → Int32} (he : ws[q0]? = some (a, .inl (E.2.2.2.2, n, .inl f))) {i x : Int32} (k : Nat) (hi : i = nI k) (hk : k < n) (hn : n < 2 ^ 31) (hx : vp_nar .boolean x = x) (hdg : decode cc pc = .ok (.bastore, 1))
    (kk : ∀ (H1 : Heap) (locs1 : List Loc), va_P E.1 classes (ws.set q0 (a, .inl (E.2.2.2.2, n, .inl (upd f k x)))) H1 → va_D A (ws.set q0 (a, .inl (E.2.2.2.2, n, .inl (upd f k x)))) → va_S A s.heap H1 locs1 → W p l e R s m args below meth c H1 locs1 cells slots Q (F0 m (pc + 1) ls rest)) : W p l e R s m args below meth c H locs cells slots Q (F0 m pc ls (.int x :: .int i :: .ref a :: rest)) := by
  subst hi
  refine va_zast (D := E.1) B.1 B.2.1 B.cx.1 hP hD hS q0 1 he rfl (vp_in_nI hk hn) hdg ?_
  rw [nI_clamp (Nat.lt_trans hk hn), hx]
  exact kk
/-- a new object -/
theorem x_new (B : Bd p s m args meth c cc nL ret own E A) (hP : va_P E.1 classes ws H) (hD : va_D A ws) (hS : va_S A s.heap H locs) {C : String} {T : u_T} {N ci index : Nat} (hc : classes[ci]? = some (C, T, N)) (hin : ∀ w ∈ u_ws C T N, w ∈ G) (ty : Nat → FieldType) (hty : ∀ k, k < N → parseFieldDescriptor (T k).2.2.1 = some (ty k)) (hl : Cond.classLink own index C ∈ G ∧ Cond.instantiable C N ∈ G ∧ Cond.initialized C ∈ G) (fs : List Value) (hfs : ∀ j, j < N → defaultValue (ty j) = vp_V fs j) (hcells : cells + 1 ≤ R.cells) (hslots : slots + N ≤ R.slots) (hdg : decode cc pc = .ok (.new index, 3))
    (kk : ∀ (q : Nat) (H1 : Heap), va_P E.1 classes (ws ++ [(q, .inr (ci, fs))]) H1 → va_D A (ws ++ [(q, .inr (ci, fs))]) → va_S A s.heap H1 locs → W p l e R s m args below meth c H1 locs (cells + 1) (slots + N) Q (F0 m (pc + 3) ls (.ref q :: rest))) : W p l e R s m args below meth c H locs cells slots Q (F0 m pc ls rest) :=
  va_new (D := E.1) B.1 B.2.1 B.ts hin ty hty B.ow (B.ts _ hl.1) (B.ts _ hl.2.1) (B.ts _ hl.2.2) B.cx.1 hP hD hS B.ha hc hfs hcells hslots hdg kk
/-- the constructor of Object -/
theorem x_obj (B : Bd p s m args meth c cc nL ret own E A) {index a : Nat} (hl : Cond.methodLink own index objectInit ∈ G) (ho : Cond.instanceMethod objectInit ∈ G ∧ Cond.code objectInit ⟨#[0xb1]⟩ 1 none ∈ G) (hls : ls.size = nL) (hcat : (rest.map fun v => v.category).sum ≤ 8) (hR : 1 ≤ R.frames ∧ 20 ≤ R.locals) (hdg : decode cc pc = .ok (.invokespecial index, 3))
    (kk : W p l e R s m args below meth c H locs cells slots Q (F0 m (pc + 3) ls rest)) : W p l e R s m args below meth c H locs cells slots Q (F0 m pc ls (.ref a :: rest)) :=
  W.objInit B.1 B.2.1 B.ow (B.ts _ hl) (B.ts _ ho.1) (B.ts _ ho.2) rfl (by rw [B.ml]; exact hls) rfl hdg hR.1 (Nat.le_trans (Nat.add_le_add_right (lv_room hcat) 12) hR.2) kk
/-- System.arraycopy(a, 0, b, 0, n) between two arrays of ints -/
theorem x_copy (B : Bd p s m args meth c cc nL ret own E A) (hP : va_P E.1 classes ws H) (hD : va_D A ws) (hS : va_S A s.heap H locs) {index : Nat} (hl : Cond.methodLink own index arraycopyName ∈ G) (hw : Cond.native arraycopyName ∈ G ∧ Cond.static arraycopyName ∈ G ∧ Cond.initialized "java/lang/System" ∈ G) (hls : ls.size = nL) (q0 q1 : Nat) {a0 a1 n0 n1 : Nat} {f g : Nat → Int32} (h0 : ws[q0]? = some (a0, .inl (E.2.1, n0, .inl f))) (h1 : ws[q1]? = some (a1, .inl (E.2.1, n1, .inl g))) {n : Int32} (N : Nat) (hn : n = nI N) (hN : N < 2 ^ 31) (hn0 : N ≤ n0) (hn1 : N ≤ n1) (hfr : 1 ≤ R.frames) (hlo : (rest.map fun v => v.category).sum + (nativeFrameWords "java/lang/System" "arraycopy" 5 + 11) ≤ R.locals) (hdg : decode cc pc = .ok (.invokestatic index, 3))
    (kk : ∀ (H1 : Heap) (locs1 : List Loc), va_P E.1 classes (ws.set q1 (a1, .inl (E.2.1, n1, .inl (va_cpy f g 0 0 N)))) H1 → va_D A (ws.set q1 (a1, .inl (E.2.1, n1, .inl (va_cpy f g 0 0 N)))) → va_S A s.heap H1 locs1 → W p l e R s m args below meth c H1 locs1 cells slots Q (F0 m (pc + 3) ls rest)) : W p l e R s m args below meth c H locs cells slots Q (F0 m pc ls (.int n :: .int 0 :: .ref a1 :: .int 0 :: .ref a0 :: rest)) := by
  subst hn
  have z0 : (0 : Int32).toNatClampNeg = 0 := rfl
  refine va_copyi (D := E.1) B.1 B.2.1 (by rw [B.ml]; exact hls.symm) B.ow (B.ts _ hl) (B.ts _ hw.1) (B.ts _ hw.2.1) (B.ts _ hw.2.2) B.cx.1 hP hD hS q0 q1 0 0 h0 h1 rfl rfl rfl (by decide) (by decide) (nI_pos hN) (by rw [z0, nI_clamp hN]; omega) (by rw [z0, nI_clamp hN]; omega) (fun i _ => rfl) hfr hlo hdg ?_
  rw [z0, nI_clamp hN]
  exact kk
end BN
/-! Bytes and small numbers. -/
def By (x : Int32) : Prop := x = nI x.toNatClampNeg ∧ x.toNatClampNeg < 256
theorem By.of {j : Nat} (h : j < 256) : By (nI j) := by
  unfold By
  rw [nI_clamp (by omega)]
  exact ⟨rfl, h⟩
theorem By.ex {x : Int32} (h : By x) : ∃ j : Nat, j < 256 ∧ x = nI j := ⟨_, h.2, h.1⟩
theorem by_all {P : Int32 → Prop} (h : ∀ j : Nat, j < 256 → P (nI j)) {x : Int32} (hx : By x) : P x := by
  rw [hx.1]
  exact h _ hx.2
theorem nI_xor (a b : Nat) : nI a ^^^ nI b = nI (a ^^^ b) := by
  apply Int32.toBitVec_inj.mp
  show BitVec.ofNat 32 a ^^^ BitVec.ofNat 32 b = BitVec.ofNat 32 (a ^^^ b)
  rw [BitVec.ofNat_xor]
theorem By.xor {x y : Int32} (hx : By x) (hy : By y) : By (x ^^^ y) := by
  rw [hx.1, hy.1, nI_xor]
  exact By.of (Nat.xor_lt_two_pow (n := 8) hx.2 hy.2)
theorem By.upd {f : Nat → Int32} {n k : Nat} {x : Int32} (hf : ∀ i, i < n → By (f i)) (hx : By x) : ∀ i, i < n → By (upd f k x i) := by
  intro i hi
  by_cases h : i = k
  · rw [h, pk_us]; exact hx
  · rw [pk_un h]; exact hf i hi
theorem By.cpy {f g : Nat → Int32} {n0 n1 N : Nat} (hN : N ≤ n0) (hf : ∀ i, i < n0 → By (f i)) (hg : ∀ i, i < n1 → By (g i)) : ∀ i, i < n1 → By (va_cpy f g 0 0 N i) := by
  intro i hi
  by_cases h : i < N
  · rw [pk_cpy_in (Nat.zero_le _) (by omega)]; exact hf _ (by omega)
  · rw [pk_cpy_out (by omega)]; exact hg i hi
theorem by0 {n : Nat} : ∀ i, i < n → By ((fun _ : Nat => (0 : Int32)) i) := fun _ _ => By.of (j := 0) (by decide)
theorem na_add {x y : Int32} {a b : Nat} (hx : x = nI a) (hy : y = nI b) : x + y = nI (a + b) := by rw [hx, hy, nI_add]
theorem na_sub {x y : Int32} {a b : Nat} (hx : x = nI a) (hy : y = nI b) (h : b ≤ a) : x - y = nI (a - b) := by rw [hx, hy, pk_sub h]
theorem na_mul {x y : Int32} {a b : Nat} (hx : x = nI a) (hy : y = nI b) : x * y = nI (a * b) := by rw [hx, hy, pk_mul]
theorem na_rem {x y : Int32} {a b : Nat} (hx : x = nI a) (hy : y = nI b) (ha : a < 2 ^ 31) (h0 : 0 < b) (hb : b < 2 ^ 31) : x - x / y * y = nI (a % b) := by rw [hx, hy, pk_rem ha h0 hb]
theorem na_div {x y : Int32} {a b : Nat} (hx : x = nI a) (hy : y = nI b) (ha : a < 2 ^ 31) (h0 : 0 < b) (hb : b < 2 ^ 31) : x / y = nI (a / b) := by rw [hx, hy, pk_div ha h0 hb]
theorem ii_1 (i : Nat) : nI i + Int32.ofInt 1 = nI (i + 1) := nI_1 i
theorem ii_n (d i : Nat) (hd : Int32.ofInt (d : Int) = nI d) : nI i + Int32.ofInt (d : Int) = nI (i + d) := by rw [hd, nI_add]
theorem ge_t {a b : Nat} (h : nI b ≤ nI a) (ha : a < 2 ^ 31) (hb : b < 2 ^ 31) : b ≤ a := (nI_leI hb ha).mp h
theorem ge_f {a b : Nat} (h : ¬ nI b ≤ nI a) (ha : a < 2 ^ 31) (hb : b < 2 ^ 31) : a < b := Nat.not_le.mp (fun q => h ((nI_leI hb ha).mpr q))
theorem lt_t {a b : Nat} (h : nI a < nI b) (ha : a < 2 ^ 31) (hb : b < 2 ^ 31) : a < b := (nI_ltI ha hb).mp h
theorem lt_f {a b : Nat} (h : ¬ nI a < nI b) (ha : a < 2 ^ 31) (hb : b < 2 ^ 31) : b ≤ a := Nat.not_lt.mp (fun q => h ((nI_ltI ha hb).mpr q))
theorem fS_by : ∀ j, j < 256 → By (fS j) := by
  have h : ∀ j : Nat, j < 256 → (fS j = nI (fS j).toNatClampNeg ∧ (fS j).toNatClampNeg < 256) := by decide +kernel
  exact h
theorem fU_by : ∀ j, j < 256 → By (fU j) := by
  have h : ∀ j : Nat, j < 256 → (fU j = nI (fU j).toNatClampNeg ∧ (fU j).toNatClampNeg < 256) := by decide +kernel
  exact h
/-! What the class's methods do to their arrays, place by place as the code does it. -/
/-- xor: sixteen places of f with those of g from fr on -/
def xorM (g : Nat → Int32) (fr : Nat) (f : Nat → Int32) : Nat → Nat → Int32
  | 0 => f
  | i + 1 => upd (xorM g fr f i) i (xorM g fr f i i ^^^ g (fr + i))
theorem xorM_by {g f : Nat → Int32} {fr n : Nat} (hg : ∀ i, i < n → By (g i)) (hf : ∀ i, i < 16 → By (f i)) : ∀ k, k ≤ 16 → fr + k ≤ n → ∀ i, i < 16 → By (xorM g fr f k i)
  | 0, _, _ => hf
  | k + 1, h1, h2 => By.upd (xorM_by hg hf k (by omega) (by omega)) ((xorM_by hg hf k (by omega) (by omega) k (by omega)).xor (hg _ (by omega)))
def plainM (a : Nat) (f : Nat → Int32) : Nat → Nat → Int32
  | 0 => f
  | r + 1 => upd (plainM a f r) (a + r) (plainM a f r (a - 16 + r) ^^^ plainM a f r (a - 4 + r))
theorem plainM_by {a : Nat} {f : Nat → Int32} {n : Nat} (ha : a + 4 ≤ n) (hf : ∀ i, i < n → By (f i)) : ∀ k, k ≤ 4 → ∀ i, i < n → By (plainM a f k i)
  | 0, _ => hf
  | k + 1, h => By.upd (plainM_by ha hf k (by omega)) ((plainM_by ha hf k (by omega) _ (by omega)).xor (plainM_by ha hf k (by omega) _ (by omega)))
def turnM (a : Nat) (f : Nat → Int32) : Nat → Nat → Int32
  | 0 => f
  | r + 1 => upd (turnM a f r) (a + r) (turnM a f r (a - 16 + r) ^^^ fS (turnM a f r (a - 4 + (r + 1) % 4)).toNatClampNeg)
theorem turnM_by {a : Nat} {f : Nat → Int32} {n : Nat} (ha : a + 4 ≤ n) (ha4 : 4 ≤ a) (hf : ∀ i, i < n → By (f i)) : ∀ k, k ≤ 4 → ∀ i, i < n → By (turnM a f k i)
  | 0, _ => hf
  | k + 1, h => By.upd (turnM_by ha ha4 hf k (by omega)) ((turnM_by ha ha4 hf k (by omega) _ (by omega)).xor (fS_by _ (turnM_by ha ha4 hf k (by omega) _ (by omega)).2))
def turnW (a : Nat) (pw : Int32) (f : Nat → Int32) : Nat → Int32 := upd (turnM a f 4) a (turnM a f 4 a ^^^ pw)
def twM (a : Int32) : Int32 := if 128 ≤ a then (a <<< ((1 : Int32) &&& 31)) ^^^ 283 else a <<< ((1 : Int32) &&& 31)
theorem twM_by {x : Int32} (h : By x) : By (twM x) := by
  have k : ∀ j : Nat, j < 256 → (twM (nI j) = nI (twM (nI j)).toNatClampNeg ∧ (twM (nI j)).toNatClampNeg < 256) := by decide +kernel
  exact by_all (P := fun z => By (twM z)) k h
/-- the words: 4 j places more, and the next power -/
def wordM (f : Nat → Int32) : Nat → (Nat → Int32) × Int32
  | 0 => (f, 1)
  | j + 1 => if (16 + 4 * j) % 16 = 0 then (turnW (16 + 4 * j) (wordM f j).2 (wordM f j).1, twM (wordM f j).2) else (plainM (16 + 4 * j) (wordM f j).1 4, (wordM f j).2)
theorem wordM_by {f : Nat → Int32} (hf : ∀ i, i < 176 → By (f i)) : ∀ j, j ≤ 40 → (∀ i, i < 176 → By ((wordM f j).1 i)) ∧ By (wordM f j).2
  | 0, _ => ⟨hf, By.of (j := 1) (by decide)⟩
  | j + 1, h => by
    obtain ⟨h1, h2⟩ := wordM_by hf j (by omega)
    unfold wordM
    split
    · exact ⟨By.upd (turnM_by (by omega) (by omega) h1 4 (by decide)) ((turnM_by (by omega) (by omega) h1 4 (by decide) _ (by omega)).xor h2), twM_by h2⟩
    · exact ⟨plainM_by (by omega) h1 4 (by decide), h2⟩
def foldM (f : Nat → Int32) : Int32 := if f 0 < 128 then 0 else 135
def dblE (x y : Int32) : Int32 := (x <<< ((1 : Int32) &&& 31) &&& 255) ||| y >>> ((7 : Int32) &&& 31)
theorem and255_by (x : Int32) : By (x &&& 255) := by
  obtain ⟨j, hj, e⟩ := pk_andE x (m := 255) 8 (by decide)
  rw [e]
  exact By.of hj
theorem nI_or (a b : Nat) : nI a ||| nI b = nI (a ||| b) := by
  apply Int32.toBitVec_inj.mp
  show BitVec.ofNat 32 a ||| BitVec.ofNat 32 b = BitVec.ofNat 32 (a ||| b)
  rw [BitVec.ofNat_or]
theorem By.or {x y : Int32} (hx : By x) (hy : By y) : By (x ||| y) := by
  rw [hx.1, hy.1, nI_or]
  exact By.of (Nat.or_lt_two_pow (n := 8) hx.2 hy.2)
theorem dblE_by {x y : Int32} (hy : By y) : By (dblE x y) := by
  refine (and255_by _).or ?_
  have k : ∀ j : Nat, j < 256 → ((nI j >>> ((7 : Int32) &&& 31)) = nI (nI j >>> ((7 : Int32) &&& 31)).toNatClampNeg ∧ (nI j >>> ((7 : Int32) &&& 31)).toNatClampNeg < 256) := by decide +kernel
  exact by_all (P := fun z => By (z >>> ((7 : Int32) &&& 31))) k hy
/-- doubled into another row -/
def dblM (f : Nat → Int32) (g : Nat → Int32) : Nat → Nat → Int32
  | 0 => g
  | i + 1 => upd (dblM f g i) i (dblE (f i) (f (i + 1)))
def dblW (f g : Nat → Int32) : Nat → Int32 := upd (dblM f g 15) 15 ((f 15 <<< ((1 : Int32) &&& 31) &&& 255) ^^^ foldM f)
/-- doubled into itself -/
def dblS (f : Nat → Int32) : Nat → Nat → Int32
  | 0 => f
  | i + 1 => upd (dblS f i) i (dblE (dblS f i i) (dblS f i (i + 1)))
def dblA (f : Nat → Int32) : Nat → Int32 := upd (dblS f 15) 15 ((dblS f 15 15 <<< ((1 : Int32) &&& 31) &&& 255) ^^^ foldM f)
theorem foldM_by (f : Nat → Int32) : By (foldM f) := by
  unfold foldM
  split
  · exact By.of (j := 0) (by decide)
  · exact By.of (j := 135) (by decide)
theorem dblM_by {f g : Nat → Int32} (hf : ∀ i, i < 16 → By (f i)) (hg : ∀ i, i < 16 → By (g i)) : ∀ k, k ≤ 15 → ∀ i, i < 16 → By (dblM f g k i)
  | 0, _ => hg
  | k + 1, h => By.upd (dblM_by hf hg k (by omega)) (dblE_by (hf _ (by omega)))
theorem dblW_by {f g : Nat → Int32} (hf : ∀ i, i < 16 → By (f i)) (hg : ∀ i, i < 16 → By (g i)) : ∀ i, i < 16 → By (dblW f g i) := By.upd (dblM_by hf hg 15 (by decide)) ((and255_by _).xor (foldM_by f))
theorem dblS_by {f : Nat → Int32} (hf : ∀ i, i < 16 → By (f i)) : ∀ k, k ≤ 15 → ∀ i, i < 16 → By (dblS f k i)
  | 0, _ => hf
  | k + 1, h => By.upd (dblS_by hf k (by omega)) (dblE_by (dblS_by hf k (by omega) _ (by omega)))
theorem dblA_by {f : Nat → Int32} (hf : ∀ i, i < 16 → By (f i)) : ∀ i, i < 16 → By (dblA f i) := By.upd (dblS_by hf 15 (by decide)) ((and255_by _).xor (foldM_by f))
def srcM (i : Nat) : Nat := (i + 4 * (i % 4)) % 16
theorem srcM_lt (i : Nat) : srcM i < 16 := Nat.mod_lt _ (by decide)
/-- replaceAndMove's row of moved bytes -/
def subM (f g : Nat → Int32) : Nat → Nat → Int32
  | 0 => g
  | i + 1 => upd (subM f g i) i (fS (f (srcM i)).toNatClampNeg)
theorem subM_by {f g : Nat → Int32} (hf : ∀ i, i < 16 → By (f i)) (hg : ∀ i, i < 16 → By (g i)) : ∀ k, k ≤ 16 → ∀ i, i < 16 → By (subM f g k i)
  | 0, _ => hg
  | k + 1, h => By.upd (subM_by hf hg k (by omega)) (fS_by _ (hf _ (Nat.mod_lt _ (by decide))).2)
def unsM (f g : Nat → Int32) : Nat → Nat → Int32
  | 0 => g
  | i + 1 => upd (unsM f g i) (srcM i) (fU (f i).toNatClampNeg)
theorem unsM_by {f g : Nat → Int32} (hf : ∀ i, i < 16 → By (f i)) (hg : ∀ i, i < 16 → By (g i)) : ∀ k, k ≤ 16 → ∀ i, i < 16 → By (unsM f g k i)
  | 0, _ => hg
  | k + 1, h => By.upd (unsM_by hf hg k (by omega)) (fU_by _ (hf _ (by omega)).2)
def mxE (a b c d : Int32) : Int32 := twM (a ^^^ b) ^^^ b ^^^ c ^^^ d
theorem mxE_by {a b c d : Int32} (ha : By a) (hb : By b) (hc : By c) (hd : By d) : By (mxE a b c d) := ((twM_by (ha.xor hb)).xor hb |>.xor hc).xor hd
/-- mix: four places at a time -/
def mixM (f : Nat → Int32) : Nat → Nat → Int32
  | 0 => f
  | q + 1 => upd (upd (upd (upd (mixM f q) (4 * q) (mxE (mixM f q (4 * q)) (mixM f q (4 * q + 1)) (mixM f q (4 * q + 2)) (mixM f q (4 * q + 3)))) (4 * q + 1) (mxE (mixM f q (4 * q + 1)) (mixM f q (4 * q + 2)) (mixM f q (4 * q + 3)) (mixM f q (4 * q)))) (4 * q + 2) (mxE (mixM f q (4 * q + 2)) (mixM f q (4 * q + 3)) (mixM f q (4 * q)) (mixM f q (4 * q + 1)))) (4 * q + 3) (mxE (mixM f q (4 * q + 3)) (mixM f q (4 * q)) (mixM f q (4 * q + 1)) (mixM f q (4 * q + 2)))
theorem mixM_by {f : Nat → Int32} (hf : ∀ i, i < 16 → By (f i)) : ∀ k, k ≤ 4 → ∀ i, i < 16 → By (mixM f k i)
  | 0, _ => hf
  | k + 1, h => by
    have h0 := mixM_by hf k (by omega)
    have a0 := h0 (4 * k) (by omega)
    have a1 := h0 (4 * k + 1) (by omega)
    have a2 := h0 (4 * k + 2) (by omega)
    have a3 := h0 (4 * k + 3) (by omega)
    exact By.upd (By.upd (By.upd (By.upd h0 (mxE_by a0 a1 a2 a3)) (mxE_by a1 a2 a3 a0)) (mxE_by a2 a3 a0 a1)) (mxE_by a3 a0 a1 a2)
abbrev mixW (f : Nat → Int32) : Nat → Int32 := mixM f 4
/-- forth: (the block, the moved row) after k rounds -/
def forM (w : Nat → Int32) (f g : Nat → Int32) : Nat → (Nat → Int32) × (Nat → Int32)
  | 0 => (xorM w 0 f 16, g)
  | k + 1 => (xorM w (16 * (k + 1)) (if k + 1 < 10 then mixW (va_cpy (subM (forM w f g k).1 (forM w f g k).2 16) (forM w f g k).1 0 0 16) else va_cpy (subM (forM w f g k).1 (forM w f g k).2 16) (forM w f g k).1 0 0 16) 16, subM (forM w f g k).1 (forM w f g k).2 16)
theorem forM_by {w f g : Nat → Int32} (hw : ∀ i, i < 176 → By (w i)) (hf : ∀ i, i < 16 → By (f i)) (hg : ∀ i, i < 16 → By (g i)) : ∀ k, k ≤ 10 → (∀ i, i < 16 → By ((forM w f g k).1 i)) ∧ ∀ i, i < 16 → By ((forM w f g k).2 i)
  | 0, _ => ⟨xorM_by hw hf 16 (by decide) (by decide), hg⟩
  | k + 1, h => by
    obtain ⟨h1, h2⟩ := forM_by hw hf hg k (by omega)
    have h3 := subM_by h1 h2 16 (by decide)
    have h4 := By.cpy (N := 16) (by decide) h3 h1
    unfold forM
    refine ⟨xorM_by hw ?_ 16 (by decide) (by omega), h3⟩
    split
    · exact mixM_by h4 4 (by decide)
    · exact h4
/-- back: after j rounds from the last -/
def bckM (w : Nat → Int32) (f g : Nat → Int32) : Nat → (Nat → Int32) × (Nat → Int32)
  | 0 => (f, g)
  | j + 1 => (va_cpy (unsM (if 10 - j < 10 then mixW (mixW (mixW (xorM w (16 * (10 - j)) (bckM w f g j).1 16))) else xorM w (16 * (10 - j)) (bckM w f g j).1 16) (bckM w f g j).2 16) (if 10 - j < 10 then mixW (mixW (mixW (xorM w (16 * (10 - j)) (bckM w f g j).1 16))) else xorM w (16 * (10 - j)) (bckM w f g j).1 16) 0 0 16, unsM (if 10 - j < 10 then mixW (mixW (mixW (xorM w (16 * (10 - j)) (bckM w f g j).1 16))) else xorM w (16 * (10 - j)) (bckM w f g j).1 16) (bckM w f g j).2 16)
def bckW (w f g : Nat → Int32) : Nat → Int32 := xorM w 0 (bckM w f g 10).1 16
theorem bckM_by {w f g : Nat → Int32} (hw : ∀ i, i < 176 → By (w i)) (hf : ∀ i, i < 16 → By (f i)) (hg : ∀ i, i < 16 → By (g i)) : ∀ k, k ≤ 10 → (∀ i, i < 16 → By ((bckM w f g k).1 i)) ∧ ∀ i, i < 16 → By ((bckM w f g k).2 i)
  | 0, _ => ⟨hf, hg⟩
  | k + 1, h => by
    obtain ⟨h1, h2⟩ := bckM_by hw hf hg k (by omega)
    have h3 := xorM_by (fr := 16 * (10 - k)) hw h1 16 (by decide) (by omega)
    have h4 : ∀ i, i < 16 → By ((if 10 - k < 10 then mixW (mixW (mixW (xorM w (16 * (10 - k)) (bckM w f g k).1 16))) else xorM w (16 * (10 - k)) (bckM w f g k).1 16) i) := by
      split
      · exact mixM_by (mixM_by (mixM_by h3 4 (by decide)) 4 (by decide)) 4 (by decide)
      · exact h3
    have h5 := unsM_by h4 h2 16 (by decide)
    unfold bckM
    exact ⟨By.cpy (N := 16) (by decide) h5 h4, h5⟩
theorem bckW_by {w f g : Nat → Int32} (hw : ∀ i, i < 176 → By (w i)) (hf : ∀ i, i < 16 → By (f i)) (hg : ∀ i, i < 16 → By (g i)) : ∀ i, i < 16 → By (bckW w f g i) := xorM_by hw (bckM_by hw hf hg 10 (by decide)).1 16 (by decide) (by decide)
