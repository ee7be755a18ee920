/-! NAMES: classes, fields, methods, the words that every method here stands on (written by wip/gen/names.py out of the claim) -/
def RX : String := "SlideRow"
def RM : String := "SlideRowModel"
def RL : String := "SlideRowLaw"
def RJ : String := "java/util/Arrays"
def TX : u_T := fun k => match k with
  | 0 => ("SlideRow", "roots", "[I", true)
  | 1 => ("SlideRow", "cells", "[I", false)
  | 2 => ("SlideRow", "limit", "I", false)
  | 3 => ("SlideRow", "used", "I", false)
  | 4 => ("SlideRow", "objects", "I", false)
  | 5 => ("SlideRow", "slides", "I", false)
  | 6 => ("SlideRow", "gone", "I", false)
  | 7 => ("SlideRow", "given", "I", false)
  | 8 => ("SlideRow", "firstReached", "I", false)
  | 9 => ("SlideRow", "lastReached", "I", false)
  | _ => ("SlideRow", "reached", "I", false)
def tX : Nat → FieldType := fun k => match k with
  | 0 => .array .int
  | 1 => .array .int
  | 2 => .int
  | 3 => .int
  | 4 => .int
  | 5 => .int
  | 6 => .int
  | 7 => .int
  | 8 => .int
  | 9 => .int
  | _ => .int
theorem nX : ∀ a, a < 11 → ∀ b, b < 11 → a ≠ b → (TX a).2.1 ≠ (TX b).2.1 := by decide +kernel
theorem tX_ok : ∀ k, k < 11 → parseFieldDescriptor (TX k).2.2.1 = some (tX k) := by decide +kernel
def TM : u_T := fun k => match k with
  | 0 => ("SlideRowModel", "thrown", "I", false)
  | 1 => ("SlideRowModel", "cells", "I", false)
  | 2 => ("SlideRowModel", "top", "I", false)
  | 3 => ("SlideRowModel", "fields", "[I", true)
  | 4 => ("SlideRowModel", "words", "[I", true)
  | 5 => ("SlideRowModel", "numbers", "[I", true)
  | 6 => ("SlideRowModel", "targets", "[I", true)
  | 7 => ("SlideRowModel", "reached", "[Z", true)
  | 8 => ("SlideRowModel", "data", "[I", true)
  | 9 => ("SlideRowModel", "roots", "[I", true)
  | 10 => ("SlideRowModel", "slides", "I", false)
  | 11 => ("SlideRowModel", "gone", "I", false)
  | _ => ("SlideRowModel", "given", "I", false)
def tM : Nat → FieldType := fun k => match k with
  | 0 => .int
  | 1 => .int
  | 2 => .int
  | 3 => .array .int
  | 4 => .array .int
  | 5 => .array .int
  | 6 => .array .int
  | 7 => .array .boolean
  | 8 => .array .int
  | 9 => .array .int
  | 10 => .int
  | 11 => .int
  | _ => .int
theorem nM : ∀ a, a < 13 → ∀ b, b < 13 → a ≠ b → (TM a).2.1 ≠ (TM b).2.1 := by decide +kernel
theorem tM_ok : ∀ k, k < 13 → parseFieldDescriptor (TM k).2.2.1 = some (tM k) := by decide +kernel
abbrev vwC : List vw_C := [(RX, TX, 11), (RM, TM, 13)]
abbrev bJ_fill : ByteArray := prog_10_method_103_code
def yJ_fill : MethodName := ⟨RJ, "fill", "([II)V"⟩
abbrev bL_count : ByteArray := method_13_code
def yL_count : MethodName := ⟨RL, "count", "(LSlideRow;I[J)I"⟩
abbrev bL_get : ByteArray := method_6_code
def yL_get : MethodName := ⟨RL, "get", "(LSlideRow;II[J)I"⟩
abbrev bL_law : ByteArray := code
def yL_law : MethodName := ⟨RL, "law", "([I)Z"⟩
abbrev bL_make : ByteArray := method_4_code
def yL_make : MethodName := ⟨RL, "make", "(LSlideRow;II[J)I"⟩
abbrev bL_next : ByteArray := method_12_code
def yL_next : MethodName := ⟨RL, "next", "(LSlideRow;I[J)I"⟩
abbrev bL_number : ByteArray := method_11_code
def yL_number : MethodName := ⟨RL, "number", "(LSlideRow;I[J)I"⟩
abbrev bL_put : ByteArray := method_7_code
def yL_put : MethodName := ⟨RL, "put", "(LSlideRow;III[J)I"⟩
abbrev bL_root : ByteArray := method_9_code
def yL_root : MethodName := ⟨RL, "root", "(LSlideRow;II[J)I"⟩
abbrev bL_rooted : ByteArray := method_10_code
def yL_rooted : MethodName := ⟨RL, "rooted", "(LSlideRow;I[J)I"⟩
abbrev bL_set : ByteArray := method_5_code
def yL_set : MethodName := ⟨RL, "set", "(LSlideRow;III[J)I"⟩
abbrev bL_space : ByteArray := method_3_code
def yL_space : MethodName := ⟨RL, "space", "(LSlideRow;I[J)I"⟩
abbrev bL_word : ByteArray := method_8_code
def yL_word : MethodName := ⟨RL, "word", "(LSlideRow;II[J)I"⟩
abbrev bM_bring : ByteArray := prog_3_method_18_code
def yM_bring : MethodName := ⟨RM, "bring", "(II)V"⟩
abbrev bM_count : ByteArray := prog_3_method_24_code
def yM_count : MethodName := ⟨RM, "count", "(I)I"⟩
abbrev bM_find : ByteArray := prog_3_method_22_code
def yM_find : MethodName := ⟨RM, "find", "(I)I"⟩
abbrev bM_get : ByteArray := prog_3_method_11_code
def yM_get : MethodName := ⟨RM, "get", "(II)I"⟩
abbrev bM_goes : ByteArray := prog_3_method_3_code
def yM_goes : MethodName := ⟨RM, "goes", "(Z)Z"⟩
abbrev bM_init : ByteArray := prog_3_method_1_code
def yM_init : MethodName := ⟨RM, "<init>", "()V"⟩
abbrev bM_isField : ByteArray := prog_3_method_8_code
def yM_isField : MethodName := ⟨RM, "isField", "(II)Z"⟩
abbrev bM_isObject : ByteArray := prog_3_method_4_code
def yM_isObject : MethodName := ⟨RM, "isObject", "(I)Z"⟩
abbrev bM_isRoot : ByteArray := prog_3_method_14_code
def yM_isRoot : MethodName := ⟨RM, "isRoot", "(I)Z"⟩
abbrev bM_isWord : ByteArray := prog_3_method_9_code
def yM_isWord : MethodName := ⟨RM, "isWord", "(II)Z"⟩
abbrev bM_make : ByteArray := prog_3_method_7_code
def yM_make : MethodName := ⟨RM, "make", "(II)I"⟩
abbrev bM_next : ByteArray := prog_3_method_23_code
def yM_next : MethodName := ⟨RM, "next", "(I)I"⟩
abbrev bM_number : ByteArray := prog_3_method_21_code
def yM_number : MethodName := ⟨RM, "number", "(I)I"⟩
abbrev bM_objects : ByteArray := prog_3_method_20_code
def yM_objects : MethodName := ⟨RM, "objects", "()I"⟩
abbrev bM_put : ByteArray := prog_3_method_12_code
def yM_put : MethodName := ⟨RM, "put", "(III)I"⟩
abbrev bM_reach : ByteArray := prog_3_method_17_code
def yM_reach : MethodName := ⟨RM, "reach", "()I"⟩
abbrev bM_root : ByteArray := prog_3_method_15_code
def yM_root : MethodName := ⟨RM, "root", "(II)I"⟩
abbrev bM_rooted : ByteArray := prog_3_method_16_code
def yM_rooted : MethodName := ⟨RM, "rooted", "(I)I"⟩
abbrev bM_set : ByteArray := prog_3_method_10_code
def yM_set : MethodName := ⟨RM, "set", "(III)I"⟩
abbrev bM_size : ByteArray := prog_3_method_5_code
def yM_size : MethodName := ⟨RM, "size", "(I)I"⟩
abbrev bM_slide : ByteArray := prog_3_method_19_code
def yM_slide : MethodName := ⟨RM, "slide", "()I"⟩
abbrev bM_space : ByteArray := prog_3_method_6_code
def yM_space : MethodName := ⟨RM, "space", "(I)I"⟩
abbrev bM_thrown : ByteArray := prog_3_method_2_code
def yM_thrown : MethodName := ⟨RM, "thrown", "()I"⟩
abbrev bM_word : ByteArray := prog_3_method_13_code
def yM_word : MethodName := ⟨RM, "word", "(II)I"⟩
abbrev bX_chainReached : ByteArray := prog_1_method_31_code
def yX_chainReached : MethodName := ⟨RX, "chainReached", "()V"⟩
abbrev bX_choosePlaces : ByteArray := prog_1_method_35_code
def yX_choosePlaces : MethodName := ⟨RX, "choosePlaces", "()I"⟩
abbrev bX_clearCells : ByteArray := prog_1_method_29_code
def yX_clearCells : MethodName := ⟨RX, "clearCells", "(II)V"⟩
abbrev bX_clearLinks : ByteArray := prog_1_method_32_code
def yX_clearLinks : MethodName := ⟨RX, "clearLinks", "()V"⟩
abbrev bX_count : ByteArray := prog_1_method_14_code
def yX_count : MethodName := ⟨RX, "count", "(I)I"⟩
abbrev bX_fieldCell : ByteArray := prog_1_method_21_code
def yX_fieldCell : MethodName := ⟨RX, "fieldCell", "(II)I"⟩
abbrev bX_fieldsOf : ByteArray := prog_1_method_23_code
def yX_fieldsOf : MethodName := ⟨RX, "fieldsOf", "(I)I"⟩
abbrev bX_find : ByteArray := prog_1_method_12_code
def yX_find : MethodName := ⟨RX, "find", "(I)I"⟩
abbrev bX_forgetAll : ByteArray := prog_1_method_15_code
def yX_forgetAll : MethodName := ⟨RX, "forgetAll", "()V"⟩
abbrev bX_get : ByteArray := prog_1_method_5_code
def yX_get : MethodName := ⟨RX, "get", "(II)I"⟩
abbrev bX_init : ByteArray := prog_1_method_1_code
def yX_init : MethodName := ⟨RX, "<init>", "()V"⟩
abbrev bX_isObject : ByteArray := prog_1_method_18_code
def yX_isObject : MethodName := ⟨RX, "isObject", "(I)Z"⟩
abbrev bX_isPartCount : ByteArray := prog_1_method_16_code
def yX_isPartCount : MethodName := ⟨RX, "isPartCount", "(I)Z"⟩
abbrev bX_make : ByteArray := prog_1_method_3_code
def yX_make : MethodName := ⟨RX, "make", "(II)I"⟩
abbrev bX_moveCells : ByteArray := prog_1_method_30_code
def yX_moveCells : MethodName := ⟨RX, "moveCells", "(III)V"⟩
abbrev bX_moveReached : ByteArray := prog_1_method_40_code
def yX_moveReached : MethodName := ⟨RX, "moveReached", "()V"⟩
abbrev bX_needObject : ByteArray := prog_1_method_19_code
def yX_needObject : MethodName := ⟨RX, "needObject", "(I)V"⟩
abbrev bX_needObjectOrNothing : ByteArray := prog_1_method_20_code
def yX_needObjectOrNothing : MethodName := ⟨RX, "needObjectOrNothing", "(I)V"⟩
abbrev bX_needRoot : ByteArray := prog_1_method_17_code
def yX_needRoot : MethodName := ⟨RX, "needRoot", "(I)V"⟩
abbrev bX_next : ByteArray := prog_1_method_13_code
def yX_next : MethodName := ⟨RX, "next", "(I)I"⟩
abbrev bX_number : ByteArray := prog_1_method_11_code
def yX_number : MethodName := ⟨RX, "number", "(I)I"⟩
abbrev bX_placeOf : ByteArray := prog_1_method_36_code
def yX_placeOf : MethodName := ⟨RX, "placeOf", "(I)I"⟩
abbrev bX_put : ByteArray := prog_1_method_6_code
def yX_put : MethodName := ⟨RX, "put", "(III)I"⟩
abbrev bX_reach : ByteArray := prog_1_method_34_code
def yX_reach : MethodName := ⟨RX, "reach", "(I)V"⟩
abbrev bX_reachFieldsOf : ByteArray := prog_1_method_33_code
def yX_reachFieldsOf : MethodName := ⟨RX, "reachFieldsOf", "(I)V"⟩
abbrev bX_read : ByteArray := prog_1_method_26_code
def yX_read : MethodName := ⟨RX, "read", "(I)I"⟩
abbrev bX_redirectFields : ByteArray := prog_1_method_38_code
def yX_redirectFields : MethodName := ⟨RX, "redirectFields", "()V"⟩
abbrev bX_redirectFieldsOf : ByteArray := prog_1_method_39_code
def yX_redirectFieldsOf : MethodName := ⟨RX, "redirectFieldsOf", "(I)V"⟩
abbrev bX_redirectRoots : ByteArray := prog_1_method_37_code
def yX_redirectRoots : MethodName := ⟨RX, "redirectRoots", "()V"⟩
abbrev bX_replace : ByteArray := prog_1_method_28_code
def yX_replace : MethodName := ⟨RX, "replace", "(II)I"⟩
abbrev bX_root : ByteArray := prog_1_method_8_code
def yX_root : MethodName := ⟨RX, "root", "(II)I"⟩
abbrev bX_rooted : ByteArray := prog_1_method_9_code
def yX_rooted : MethodName := ⟨RX, "rooted", "(I)I"⟩
abbrev bX_set : ByteArray := prog_1_method_4_code
def yX_set : MethodName := ⟨RX, "set", "(III)I"⟩
abbrev bX_sizeOf : ByteArray := prog_1_method_25_code
def yX_sizeOf : MethodName := ⟨RX, "sizeOf", "(I)I"⟩
abbrev bX_slide : ByteArray := prog_1_method_10_code
def yX_slide : MethodName := ⟨RX, "slide", "()I"⟩
abbrev bX_space : ByteArray := prog_1_method_2_code
def yX_space : MethodName := ⟨RX, "space", "(I)I"⟩
abbrev bX_word : ByteArray := prog_1_method_7_code
def yX_word : MethodName := ⟨RX, "word", "(II)I"⟩
abbrev bX_wordCell : ByteArray := prog_1_method_22_code
def yX_wordCell : MethodName := ⟨RX, "wordCell", "(II)I"⟩
abbrev bX_wordsOf : ByteArray := prog_1_method_24_code
def yX_wordsOf : MethodName := ⟨RX, "wordsOf", "(I)I"⟩
abbrev bX_write : ByteArray := prog_1_method_27_code
def yX_write : MethodName := ⟨RX, "write", "(II)V"⟩
def sr_big_0 : List Cond := [Cond.selects RX yX_chainReached yX_chainReached, Cond.selects RX yX_clearLinks yX_clearLinks, Cond.selects RX yX_write yX_write, Cond.selects RX yX_sizeOf yX_sizeOf, Cond.selects RX yX_read yX_read, Cond.selects RX yX_reach yX_reach, Cond.selects RX yX_reachFieldsOf yX_reachFieldsOf, Cond.selects RX yX_fieldsOf yX_fieldsOf, Cond.selects RX yX_choosePlaces yX_choosePlaces, Cond.selects RX yX_redirectRoots yX_redirectRoots, Cond.selects RX yX_placeOf yX_placeOf, Cond.selects RX yX_redirectFields yX_redirectFields, Cond.selects RX yX_redirectFieldsOf yX_redirectFieldsOf, Cond.selects RX yX_moveReached yX_moveReached, Cond.selects RX yX_moveCells yX_moveCells, Cond.selects RX yX_forgetAll yX_forgetAll, Cond.selects RX yX_clearCells yX_clearCells, Cond.selects RX yX_fieldCell yX_fieldCell, Cond.selects RX yX_needObject yX_needObject, Cond.selects RX yX_isObject yX_isObject, Cond.selects RX yX_needObjectOrNothing yX_needObjectOrNothing, Cond.selects RX yX_replace yX_replace, Cond.selects RX yX_wordCell yX_wordCell, Cond.selects RX yX_wordsOf yX_wordsOf, Cond.selects RX yX_needRoot yX_needRoot, Cond.selects RM yM_goes yM_goes, Cond.selects RM yM_isField yM_isField, Cond.selects RM yM_isObject yM_isObject, Cond.selects RM yM_isWord yM_isWord, Cond.selects RM yM_reach yM_reach, Cond.selects RM yM_size yM_size, Cond.selects RM yM_objects yM_objects, Cond.selects RM yM_bring yM_bring, Cond.initialized RL, Cond.initialized RX, Cond.initialized RM, Cond.initialized "java/lang/Throwable", Cond.initialized "java/lang/Exception", Cond.initialized "java/lang/RuntimeException", Cond.initialized "java/lang/IllegalArgumentException"]
def sr_big_1 : List Cond := [Cond.initialized RJ, Cond.initialized "java/util/NoSuchElementException", Cond.initialized "java/lang/System", Cond.classLink RL 8 "SlideRow", Cond.instantiable RX 11, Cond.methodLink RL 49 yX_init, Cond.instanceMethod yX_init, Cond.code yX_init bX_init 1 none, Cond.methodLink RX 3 ⟨"java/lang/Object", "<init>", "()V"⟩, Cond.instanceMethod ⟨"java/lang/Object", "<init>", "()V"⟩, Cond.code ⟨"java/lang/Object", "<init>", "()V"⟩ object_method_1_code 1 none, Cond.fieldLink RX 9 "SlideRow" "roots" "[I", Cond.fieldLink RX 13 "SlideRow" "cells" "[I", Cond.fieldLink RX 16 "SlideRow" "limit" "I", Cond.fieldLink RX 36 "SlideRow" "used" "I", Cond.fieldLink RX 46 "SlideRow" "objects" "I", Cond.fieldLink RX 86 "SlideRow" "slides" "I", Cond.fieldLink RX 89 "SlideRow" "gone" "I", Cond.fieldLink RX 98 "SlideRow" "given" "I", Cond.fieldLink RX 141 "SlideRow" "firstReached" "I", Cond.fieldLink RX 144 "SlideRow" "lastReached" "I", Cond.fieldLink RX 92 "SlideRow" "reached" "I", Cond.laysFinal RX "SlideRow" "roots" "[I", Cond.lays RX "SlideRow" "cells" "[I", Cond.lays RX "SlideRow" "limit" "I", Cond.lays RX "SlideRow" "used" "I", Cond.lays RX "SlideRow" "objects" "I", Cond.lays RX "SlideRow" "slides" "I", Cond.lays RX "SlideRow" "gone" "I", Cond.lays RX "SlideRow" "given" "I", Cond.lays RX "SlideRow" "firstReached" "I", Cond.lays RX "SlideRow" "lastReached" "I", Cond.lays RX "SlideRow" "reached" "I", Cond.arrayClass .int, Cond.methodLink RL 86 yX_slide, Cond.instanceMethod yX_slide, Cond.selects RX yX_slide yX_slide, Cond.code yX_slide bX_slide 2 (some .int), Cond.methodLink RX 70 yX_chainReached, Cond.instanceMethod yX_chainReached]
def sr_big_2 : List Cond := [Cond.code yX_chainReached bX_chainReached 3 none, Cond.methodLink RX 138 yX_clearLinks, Cond.instanceMethod yX_clearLinks, Cond.code yX_clearLinks bX_clearLinks 3 none, Cond.methodLink RX 43 yX_write, Cond.instanceMethod yX_write, Cond.code yX_write bX_write 3 none, Cond.methodLink RX 101 yX_sizeOf, Cond.instanceMethod yX_sizeOf, Cond.code yX_sizeOf bX_sizeOf 3 (some .int), Cond.methodLink RX 60 yX_read, Cond.instanceMethod yX_read, Cond.code yX_read bX_read 2 (some .int), Cond.methodLink RX 147 yX_reach, Cond.instanceMethod yX_reach, Cond.code yX_reach bX_reach 2 none, Cond.methodLink RX 150 yX_reachFieldsOf, Cond.instanceMethod yX_reachFieldsOf, Cond.code yX_reachFieldsOf bX_reachFieldsOf 4 none, Cond.methodLink RX 122 yX_fieldsOf, Cond.instanceMethod yX_fieldsOf, Cond.code yX_fieldsOf bX_fieldsOf 2 (some .int), Cond.methodLink RX 73 yX_choosePlaces, Cond.instanceMethod yX_choosePlaces, Cond.code yX_choosePlaces bX_choosePlaces 5 (some .int), Cond.methodLink RX 77 yX_redirectRoots, Cond.instanceMethod yX_redirectRoots, Cond.code yX_redirectRoots bX_redirectRoots 2 none, Cond.methodLink RX 153 yX_placeOf, Cond.instanceMethod yX_placeOf, Cond.code yX_placeOf bX_placeOf 2 (some .int), Cond.methodLink RX 80 yX_redirectFields, Cond.instanceMethod yX_redirectFields, Cond.code yX_redirectFields bX_redirectFields 3 none, Cond.methodLink RX 156 yX_redirectFieldsOf, Cond.instanceMethod yX_redirectFieldsOf, Cond.code yX_redirectFieldsOf bX_redirectFieldsOf 5 none, Cond.methodLink RX 83 yX_moveReached, Cond.instanceMethod yX_moveReached, Cond.code yX_moveReached bX_moveReached 5 none]
def sr_big_3 : List Cond := [Cond.methodLink RX 159 yX_moveCells, Cond.instanceMethod yX_moveCells, Cond.code yX_moveCells bX_moveCells 4 none, Cond.methodLink RX 132 ⟨"java/lang/System", "arraycopy", "(Ljava/lang/Object;ILjava/lang/Object;II)V"⟩, Cond.static ⟨"java/lang/System", "arraycopy", "(Ljava/lang/Object;ILjava/lang/Object;II)V"⟩, Cond.native ⟨"java/lang/System", "arraycopy", "(Ljava/lang/Object;ILjava/lang/Object;II)V"⟩, Cond.methodLink RL 93 yX_find, Cond.instanceMethod yX_find, Cond.selects RX yX_find yX_find, Cond.code yX_find bX_find 4 (some .int), Cond.methodLink RL 53 yL_space, Cond.static yL_space, Cond.codeWith yL_space bL_space 4 (some .int) [(0, 9, 12, 13)], Cond.classLink RL 13 "java/lang/IllegalArgumentException", Cond.methodLink RL 7 yX_space, Cond.instanceMethod yX_space, Cond.selects RX yX_space yX_space, Cond.code yX_space bX_space 3 (some .int), Cond.classLink RX 20 "java/lang/IllegalArgumentException", Cond.instantiable "java/lang/IllegalArgumentException" 6, Cond.selects "java/lang/IllegalArgumentException" ⟨"java/lang/Throwable", "fillInStackTrace", "(I)Ljava/lang/Throwable;"⟩ ⟨"java/lang/Throwable", "fillInStackTrace", "(I)Ljava/lang/Throwable;"⟩, Cond.selects "java/lang/IllegalArgumentException" ⟨"java/lang/Throwable", "fillInStackTrace", "()Ljava/lang/Throwable;"⟩ ⟨"java/lang/Throwable", "fillInStackTrace", "()Ljava/lang/Throwable;"⟩, Cond.lays "java/lang/IllegalArgumentException" "java/lang/Throwable" "cause" "Ljava/lang/Throwable;", Cond.lays "java/lang/Throwable" "java/lang/Throwable" "cause" "Ljava/lang/Throwable;", Cond.lays "java/lang/IllegalArgumentException" "java/lang/Throwable" "stackTrace" "[Ljava/lang/StackTraceElement;", Cond.lays "java/lang/Throwable" "java/lang/Throwable" "stackTrace" "[Ljava/lang/StackTraceElement;", Cond.lays "java/lang/IllegalArgumentException" "java/lang/Throwable" "suppressedExceptions" "Ljava/util/List;", Cond.lays "java/lang/Throwable" "java/lang/Throwable" "suppressedExceptions" "Ljava/util/List;", Cond.lays "java/lang/IllegalArgumentException" "java/lang/Throwable" "detailMessage" "Ljava/lang/String;", Cond.lays "java/lang/Throwable" "java/lang/Throwable" "detailMessage" "Ljava/lang/String;", Cond.lays "java/lang/IllegalArgumentException" "java/lang/Throwable" "backtrace" "Ljava/lang/Object;", Cond.lays "java/lang/Throwable" "java/lang/Throwable" "backtrace" "Ljava/lang/Object;", Cond.fieldLink "java/lang/Throwable" 198 "java/lang/Throwable" "backtrace" "Ljava/lang/Object;", Cond.instanceMethod ⟨"java/lang/Throwable", "<init>", "()V"⟩, Cond.code ⟨"java/lang/Throwable", "<init>", "()V"⟩ prog_9_method_1_code 1 none, Cond.methodLink "java/lang/Throwable" 1 ⟨"java/lang/Object", "<init>", "()V"⟩, Cond.fieldLink "java/lang/Throwable" 13 "java/lang/Throwable" "UNASSIGNED_STACK" "[Ljava/lang/StackTraceElement;", Cond.fieldLink "java/lang/Throwable" 20 "java/lang/Throwable" "SUPPRESSED_SENTINEL" "Ljava/util/List;", Cond.methodLink "java/lang/Throwable" 27 ⟨"java/lang/Throwable", "fillInStackTrace", "()Ljava/lang/Throwable;"⟩, Cond.instanceMethod ⟨"java/lang/Throwable", "fillInStackTrace", "()Ljava/lang/Throwable;"⟩]
def sr_big_4 : List Cond := [Cond.selects "java/util/NoSuchElementException" ⟨"java/lang/Throwable", "fillInStackTrace", "()Ljava/lang/Throwable;"⟩ ⟨"java/lang/Throwable", "fillInStackTrace", "()Ljava/lang/Throwable;"⟩, Cond.methodLink "java/lang/Throwable" 202 ⟨"java/lang/Throwable", "fillInStackTrace", "(I)Ljava/lang/Throwable;"⟩, Cond.instanceMethod ⟨"java/lang/Throwable", "fillInStackTrace", "(I)Ljava/lang/Throwable;"⟩, Cond.instantiable "java/lang/Throwable" 6, Cond.native ⟨"java/lang/Throwable", "fillInStackTrace", "(I)Ljava/lang/Throwable;"⟩, Cond.methodLink RX 24 ⟨"java/lang/IllegalArgumentException", "<init>", "(Ljava/lang/String;)V"⟩, Cond.instanceMethod ⟨"java/lang/IllegalArgumentException", "<init>", "(Ljava/lang/String;)V"⟩, Cond.code ⟨"java/lang/IllegalArgumentException", "<init>", "(Ljava/lang/String;)V"⟩ prog_5_method_2_code 2 none, Cond.methodLink "java/lang/IllegalArgumentException" 7 ⟨"java/lang/RuntimeException", "<init>", "(Ljava/lang/String;)V"⟩, Cond.instanceMethod ⟨"java/lang/RuntimeException", "<init>", "(Ljava/lang/String;)V"⟩, Cond.code ⟨"java/lang/RuntimeException", "<init>", "(Ljava/lang/String;)V"⟩ prog_6_method_2_code 2 none, Cond.methodLink "java/lang/RuntimeException" 7 ⟨"java/lang/Exception", "<init>", "(Ljava/lang/String;)V"⟩, Cond.instanceMethod ⟨"java/lang/Exception", "<init>", "(Ljava/lang/String;)V"⟩, Cond.code ⟨"java/lang/Exception", "<init>", "(Ljava/lang/String;)V"⟩ prog_4_method_2_code 2 none, Cond.methodLink "java/lang/Exception" 7 ⟨"java/lang/Throwable", "<init>", "(Ljava/lang/String;)V"⟩, Cond.instanceMethod ⟨"java/lang/Throwable", "<init>", "(Ljava/lang/String;)V"⟩, Cond.code ⟨"java/lang/Throwable", "<init>", "(Ljava/lang/String;)V"⟩ prog_9_method_2_code 2 none, Cond.fieldLink "java/lang/Throwable" 31 "java/lang/Throwable" "detailMessage" "Ljava/lang/String;", Cond.fieldLink "java/lang/Throwable" 7 "java/lang/Throwable" "cause" "Ljava/lang/Throwable;", Cond.fieldLink "java/lang/Throwable" 17 "java/lang/Throwable" "stackTrace" "[Ljava/lang/StackTraceElement;", Cond.fieldLink "java/lang/Throwable" 24 "java/lang/Throwable" "suppressedExceptions" "Ljava/util/List;", Cond.lays "java/lang/IllegalArgumentException" "java/lang/Throwable" "depth" "I", Cond.arrayClass .byte, Cond.methodLink RX 27 yX_forgetAll, Cond.instanceMethod yX_forgetAll, Cond.code yX_forgetAll bX_forgetAll 1 none, Cond.methodLink RX 106 yJ_fill, Cond.static yJ_fill, Cond.code yJ_fill bJ_fill 4 none, Cond.methodLink RL 63 yL_make, Cond.static yL_make, Cond.codeWith yL_make bL_make 5 (some .int) [(0, 10, 13, 13)], Cond.methodLink RL 15 yX_make, Cond.instanceMethod yX_make, Cond.selects RX yX_make yX_make, Cond.code yX_make bX_make 5 (some .int), Cond.methodLink RX 30 yX_isPartCount, Cond.static yX_isPartCount, Cond.code yX_isPartCount bX_isPartCount 1 (some .boolean), Cond.methodLink RX 39 yX_clearCells]
def sr_big_5 : List Cond := [Cond.instanceMethod yX_clearCells, Cond.code yX_clearCells bX_clearCells 4 none, Cond.methodLink RL 67 yL_set, Cond.static yL_set, Cond.codeWith yL_set bL_set 6 (some .int) [(0, 12, 15, 23)], Cond.classLink RL 23 "java/util/NoSuchElementException", Cond.methodLink RL 19 yX_set, Cond.instanceMethod yX_set, Cond.selects RX yX_set yX_set, Cond.code yX_set bX_set 5 (some .int), Cond.methodLink RX 49 yX_fieldCell, Cond.instanceMethod yX_fieldCell, Cond.code yX_fieldCell bX_fieldCell 3 (some .int), Cond.methodLink RX 95 yX_needObject, Cond.instanceMethod yX_needObject, Cond.code yX_needObject bX_needObject 2 none, Cond.methodLink RX 117 yX_isObject, Cond.instanceMethod yX_isObject, Cond.code yX_isObject bX_isObject 4 (some .boolean), Cond.classLink RX 112 "java/util/NoSuchElementException", Cond.instantiable "java/util/NoSuchElementException" 6, Cond.selects "java/util/NoSuchElementException" ⟨"java/lang/Throwable", "fillInStackTrace", "(I)Ljava/lang/Throwable;"⟩ ⟨"java/lang/Throwable", "fillInStackTrace", "(I)Ljava/lang/Throwable;"⟩, Cond.lays "java/util/NoSuchElementException" "java/lang/Throwable" "cause" "Ljava/lang/Throwable;", Cond.lays "java/util/NoSuchElementException" "java/lang/Throwable" "stackTrace" "[Ljava/lang/StackTraceElement;", Cond.lays "java/util/NoSuchElementException" "java/lang/Throwable" "suppressedExceptions" "Ljava/util/List;", Cond.lays "java/util/NoSuchElementException" "java/lang/Throwable" "detailMessage" "Ljava/lang/String;", Cond.lays "java/util/NoSuchElementException" "java/lang/Throwable" "backtrace" "Ljava/lang/Object;", Cond.methodLink RX 116 ⟨"java/util/NoSuchElementException", "<init>", "(Ljava/lang/String;)V"⟩, Cond.instanceMethod ⟨"java/util/NoSuchElementException", "<init>", "(Ljava/lang/String;)V"⟩, Cond.code ⟨"java/util/NoSuchElementException", "<init>", "(Ljava/lang/String;)V"⟩ prog_11_method_4_code 2 none, Cond.methodLink "java/util/NoSuchElementException" 13 ⟨"java/lang/RuntimeException", "<init>", "(Ljava/lang/String;)V"⟩, Cond.lays "java/util/NoSuchElementException" "java/lang/Throwable" "depth" "I", Cond.methodLink RX 53 yX_needObjectOrNothing, Cond.instanceMethod yX_needObjectOrNothing, Cond.code yX_needObjectOrNothing bX_needObjectOrNothing 2 none, Cond.methodLink RX 57 yX_replace, Cond.instanceMethod yX_replace, Cond.code yX_replace bX_replace 4 (some .int), Cond.methodLink RL 71 yL_get, Cond.static yL_get]
def sr_big_6 : List Cond := [Cond.codeWith yL_get bL_get 5 (some .int) [(0, 10, 13, 23)], Cond.methodLink RL 25 yX_get, Cond.instanceMethod yX_get, Cond.selects RX yX_get yX_get, Cond.code yX_get bX_get 3 (some .int), Cond.methodLink RL 74 yL_put, Cond.static yL_put, Cond.codeWith yL_put bL_put 6 (some .int) [(0, 12, 15, 23)], Cond.methodLink RL 28 yX_put, Cond.instanceMethod yX_put, Cond.selects RX yX_put yX_put, Cond.code yX_put bX_put 4 (some .int), Cond.methodLink RX 64 yX_wordCell, Cond.instanceMethod yX_wordCell, Cond.code yX_wordCell bX_wordCell 3 (some .int), Cond.methodLink RX 127 yX_wordsOf, Cond.instanceMethod yX_wordsOf, Cond.code yX_wordsOf bX_wordsOf 2 (some .int), Cond.methodLink RL 77 yL_word, Cond.static yL_word, Cond.codeWith yL_word bL_word 5 (some .int) [(0, 10, 13, 23)], Cond.methodLink RL 31 yX_word, Cond.instanceMethod yX_word, Cond.selects RX yX_word yX_word, Cond.code yX_word bX_word 3 (some .int), Cond.methodLink RL 80 yL_root, Cond.static yL_root, Cond.codeWith yL_root bL_root 5 (some .int) [(0, 10, 13, 23)], Cond.methodLink RL 34 yX_root, Cond.instanceMethod yX_root, Cond.selects RX yX_root yX_root, Cond.code yX_root bX_root 4 (some .int), Cond.methodLink RX 67 yX_needRoot, Cond.instanceMethod yX_needRoot, Cond.code yX_needRoot bX_needRoot 2 none, Cond.methodLink RL 83 yL_rooted, Cond.static yL_rooted, Cond.codeWith yL_rooted bL_rooted 4 (some .int) [(0, 9, 12, 23)], Cond.methodLink RL 37 yX_rooted, Cond.instanceMethod yX_rooted]
def sr_big_7 : List Cond := [Cond.selects RX yX_rooted yX_rooted, Cond.code yX_rooted bX_rooted 2 (some .int), Cond.methodLink RL 90 yL_number, Cond.static yL_number, Cond.codeWith yL_number bL_number 4 (some .int) [(0, 9, 12, 23)], Cond.methodLink RL 40 yX_number, Cond.instanceMethod yX_number, Cond.selects RX yX_number yX_number, Cond.code yX_number bX_number 2 (some .int), Cond.methodLink RL 97 yL_next, Cond.static yL_next, Cond.codeWith yL_next bL_next 4 (some .int) [(0, 9, 12, 23)], Cond.methodLink RL 43 yX_next, Cond.instanceMethod yX_next, Cond.selects RX yX_next yX_next, Cond.code yX_next bX_next 3 (some .int), Cond.methodLink RL 100 yL_count, Cond.static yL_count, Cond.codeWith yL_count bL_count 4 (some .int) [(0, 9, 12, 13)], Cond.methodLink RL 46 yX_count, Cond.instanceMethod yX_count, Cond.selects RX yX_count yX_count, Cond.code yX_count bX_count 2 (some .int), Cond.classLink RL 50 "SlideRowModel", Cond.instantiable RM 13, Cond.methodLink RL 52 yM_init, Cond.instanceMethod yM_init, Cond.code yM_init bM_init 1 none, Cond.methodLink RM 1 ⟨"java/lang/Object", "<init>", "()V"⟩, Cond.fieldLink RM 39 "SlideRowModel" "thrown" "I", Cond.fieldLink RM 7 "SlideRowModel" "cells" "I", Cond.fieldLink RM 13 "SlideRowModel" "top" "I", Cond.fieldLink RM 16 "SlideRowModel" "fields" "[I", Cond.fieldLink RM 20 "SlideRowModel" "words" "[I", Cond.fieldLink RM 23 "SlideRowModel" "numbers" "[I", Cond.fieldLink RM 26 "SlideRowModel" "targets" "[I", Cond.fieldLink RM 29 "SlideRowModel" "reached" "[Z", Cond.fieldLink RM 33 "SlideRowModel" "data" "[I", Cond.fieldLink RM 36 "SlideRowModel" "roots" "[I", Cond.fieldLink RM 46 "SlideRowModel" "slides" "I"]
def sr_big_8 : List Cond := [Cond.fieldLink RM 49 "SlideRowModel" "gone" "I", Cond.fieldLink RM 52 "SlideRowModel" "given" "I", Cond.lays RM "SlideRowModel" "thrown" "I", Cond.lays RM "SlideRowModel" "cells" "I", Cond.lays RM "SlideRowModel" "top" "I", Cond.laysFinal RM "SlideRowModel" "fields" "[I", Cond.laysFinal RM "SlideRowModel" "words" "[I", Cond.laysFinal RM "SlideRowModel" "numbers" "[I", Cond.laysFinal RM "SlideRowModel" "targets" "[I", Cond.laysFinal RM "SlideRowModel" "reached" "[Z", Cond.laysFinal RM "SlideRowModel" "data" "[I", Cond.laysFinal RM "SlideRowModel" "roots" "[I", Cond.lays RM "SlideRowModel" "slides" "I", Cond.lays RM "SlideRowModel" "gone" "I", Cond.lays RM "SlideRowModel" "given" "I", Cond.arrayClass .boolean, Cond.methodLink RL 59 yM_thrown, Cond.instanceMethod yM_thrown, Cond.selects RM yM_thrown yM_thrown, Cond.code yM_thrown bM_thrown 1 (some .int), Cond.methodLink RL 58 yM_space, Cond.instanceMethod yM_space, Cond.selects RM yM_space yM_space, Cond.code yM_space bM_space 4 (some .int), Cond.methodLink RM 42 yM_goes, Cond.instanceMethod yM_goes, Cond.code yM_goes bM_goes 2 (some .boolean), Cond.methodLink RL 66 yM_make, Cond.instanceMethod yM_make, Cond.selects RM yM_make yM_make, Cond.code yM_make bM_make 6 (some .int), Cond.methodLink RL 70 yM_set, Cond.instanceMethod yM_set, Cond.selects RM yM_set yM_set, Cond.code yM_set bM_set 5 (some .int), Cond.methodLink RM 59 yM_isField, Cond.instanceMethod yM_isField, Cond.code yM_isField bM_isField 3 (some .boolean), Cond.methodLink RM 55 yM_isObject, Cond.instanceMethod yM_isObject]
def sr_big_9 : List Cond := [Cond.code yM_isObject bM_isObject 2 (some .boolean), Cond.methodLink RL 73 yM_get, Cond.instanceMethod yM_get, Cond.selects RM yM_get yM_get, Cond.code yM_get bM_get 3 (some .int), Cond.methodLink RL 76 yM_put, Cond.instanceMethod yM_put, Cond.selects RM yM_put yM_put, Cond.code yM_put bM_put 6 (some .int), Cond.methodLink RM 63 yM_isWord, Cond.instanceMethod yM_isWord, Cond.code yM_isWord bM_isWord 3 (some .boolean), Cond.methodLink RL 79 yM_word, Cond.instanceMethod yM_word, Cond.selects RM yM_word yM_word, Cond.code yM_word bM_word 3 (some .int), Cond.methodLink RL 82 yM_root, Cond.instanceMethod yM_root, Cond.selects RM yM_root yM_root, Cond.code yM_root bM_root 4 (some .int), Cond.methodLink RM 66 yM_isRoot, Cond.static yM_isRoot, Cond.code yM_isRoot bM_isRoot 1 (some .boolean), Cond.methodLink RL 85 yM_rooted, Cond.instanceMethod yM_rooted, Cond.selects RM yM_rooted yM_rooted, Cond.code yM_rooted bM_rooted 2 (some .int), Cond.methodLink RL 89 yM_slide, Cond.instanceMethod yM_slide, Cond.selects RM yM_slide yM_slide, Cond.code yM_slide bM_slide 6 (some .int), Cond.methodLink RM 73 yM_reach, Cond.instanceMethod yM_reach, Cond.code yM_reach bM_reach 6 (some .int), Cond.methodLink RM 69 yM_size, Cond.instanceMethod yM_size, Cond.code yM_size bM_size 2 (some .int), Cond.methodLink RM 77 yM_objects, Cond.instanceMethod yM_objects, Cond.code yM_objects bM_objects 3 (some .int)]
def sr_big_10 : List Cond := [Cond.methodLink RM 80 yM_bring, Cond.instanceMethod yM_bring, Cond.code yM_bring bM_bring 8 none, Cond.methodLink RL 92 yM_number, Cond.instanceMethod yM_number, Cond.selects RM yM_number yM_number, Cond.code yM_number bM_number 2 (some .int), Cond.methodLink RL 96 yM_find, Cond.instanceMethod yM_find, Cond.selects RM yM_find yM_find, Cond.code yM_find bM_find 3 (some .int), Cond.methodLink RL 99 yM_next, Cond.instanceMethod yM_next, Cond.selects RM yM_next yM_next, Cond.code yM_next bM_next 3 (some .int), Cond.methodLink RL 102 yM_count, Cond.instanceMethod yM_count, Cond.selects RM yM_count yM_count, Cond.code yM_count bM_count 2 (some .int), Cond.arrayClass .long]
def sr_big : List Cond := sr_big_0 ++ (sr_big_1 ++ (sr_big_2 ++ (sr_big_3 ++ (sr_big_4 ++ (sr_big_5 ++ (sr_big_6 ++ (sr_big_7 ++ (sr_big_8 ++ (sr_big_9 ++ (sr_big_10))))))))))
theorem bw_0 : Cond.selects RX yX_chainReached yX_chainReached ∈ sr_big := (List.mem_append_left _ (List.mem_of_getElem? (i := 0) rfl))
theorem bw_1 : Cond.selects RX yX_clearLinks yX_clearLinks ∈ sr_big := (List.mem_append_left _ (List.mem_of_getElem? (i := 1) rfl))
theorem bw_2 : Cond.selects RX yX_write yX_write ∈ sr_big := (List.mem_append_left _ (List.mem_of_getElem? (i := 2) rfl))
theorem bw_3 : Cond.selects RX yX_sizeOf yX_sizeOf ∈ sr_big := (List.mem_append_left _ (List.mem_of_getElem? (i := 3) rfl))
theorem bw_4 : Cond.selects RX yX_read yX_read ∈ sr_big := (List.mem_append_left _ (List.mem_of_getElem? (i := 4) rfl))
theorem bw_5 : Cond.selects RX yX_reach yX_reach ∈ sr_big := (List.mem_append_left _ (List.mem_of_getElem? (i := 5) rfl))
theorem bw_6 : Cond.selects RX yX_reachFieldsOf yX_reachFieldsOf ∈ sr_big := (List.mem_append_left _ (List.mem_of_getElem? (i := 6) rfl))
theorem bw_7 : Cond.selects RX yX_fieldsOf yX_fieldsOf ∈ sr_big := (List.mem_append_left _ (List.mem_of_getElem? (i := 7) rfl))
theorem bw_8 : Cond.selects RX yX_choosePlaces yX_choosePlaces ∈ sr_big := (List.mem_append_left _ (List.mem_of_getElem? (i := 8) rfl))
theorem bw_9 : Cond.selects RX yX_redirectRoots yX_redirectRoots ∈ sr_big := (List.mem_append_left _ (List.mem_of_getElem? (i := 9) rfl))
theorem bw_10 : Cond.selects RX yX_placeOf yX_placeOf ∈ sr_big := (List.mem_append_left _ (List.mem_of_getElem? (i := 10) rfl))
theorem bw_11 : Cond.selects RX yX_redirectFields yX_redirectFields ∈ sr_big := (List.mem_append_left _ (List.mem_of_getElem? (i := 11) rfl))
theorem bw_12 : Cond.selects RX yX_redirectFieldsOf yX_redirectFieldsOf ∈ sr_big := (List.mem_append_left _ (List.mem_of_getElem? (i := 12) rfl))
theorem bw_13 : Cond.selects RX yX_moveReached yX_moveReached ∈ sr_big := (List.mem_append_left _ (List.mem_of_getElem? (i := 13) rfl))
theorem bw_14 : Cond.selects RX yX_moveCells yX_moveCells ∈ sr_big := (List.mem_append_left _ (List.mem_of_getElem? (i := 14) rfl))
theorem bw_15 : Cond.selects RX yX_forgetAll yX_forgetAll ∈ sr_big := (List.mem_append_left _ (List.mem_of_getElem? (i := 15) rfl))
theorem bw_16 : Cond.selects RX yX_clearCells yX_clearCells ∈ sr_big := (List.mem_append_left _ (List.mem_of_getElem? (i := 16) rfl))
theorem bw_17 : Cond.selects RX yX_fieldCell yX_fieldCell ∈ sr_big := (List.mem_append_left _ (List.mem_of_getElem? (i := 17) rfl))
theorem bw_18 : Cond.selects RX yX_needObject yX_needObject ∈ sr_big := (List.mem_append_left _ (List.mem_of_getElem? (i := 18) rfl))
theorem bw_19 : Cond.selects RX yX_isObject yX_isObject ∈ sr_big := (List.mem_append_left _ (List.mem_of_getElem? (i := 19) rfl))
theorem bw_20 : Cond.selects RX yX_needObjectOrNothing yX_needObjectOrNothing ∈ sr_big := (List.mem_append_left _ (List.mem_of_getElem? (i := 20) rfl))
theorem bw_21 : Cond.selects RX yX_replace yX_replace ∈ sr_big := (List.mem_append_left _ (List.mem_of_getElem? (i := 21) rfl))
theorem bw_22 : Cond.selects RX yX_wordCell yX_wordCell ∈ sr_big := (List.mem_append_left _ (List.mem_of_getElem? (i := 22) rfl))
theorem bw_23 : Cond.selects RX yX_wordsOf yX_wordsOf ∈ sr_big := (List.mem_append_left _ (List.mem_of_getElem? (i := 23) rfl))
theorem bw_24 : Cond.selects RX yX_needRoot yX_needRoot ∈ sr_big := (List.mem_append_left _ (List.mem_of_getElem? (i := 24) rfl))
theorem bw_25 : Cond.selects RM yM_goes yM_goes ∈ sr_big := (List.mem_append_left _ (List.mem_of_getElem? (i := 25) rfl))
theorem bw_26 : Cond.selects RM yM_isField yM_isField ∈ sr_big := (List.mem_append_left _ (List.mem_of_getElem? (i := 26) rfl))
theorem bw_27 : Cond.selects RM yM_isObject yM_isObject ∈ sr_big := (List.mem_append_left _ (List.mem_of_getElem? (i := 27) rfl))
theorem bw_28 : Cond.selects RM yM_isWord yM_isWord ∈ sr_big := (List.mem_append_left _ (List.mem_of_getElem? (i := 28) rfl))
theorem bw_29 : Cond.selects RM yM_reach yM_reach ∈ sr_big := (List.mem_append_left _ (List.mem_of_getElem? (i := 29) rfl))
theorem bw_30 : Cond.selects RM yM_size yM_size ∈ sr_big := (List.mem_append_left _ (List.mem_of_getElem? (i := 30) rfl))
theorem bw_31 : Cond.selects RM yM_objects yM_objects ∈ sr_big := (List.mem_append_left _ (List.mem_of_getElem? (i := 31) rfl))
theorem bw_32 : Cond.selects RM yM_bring yM_bring ∈ sr_big := (List.mem_append_left _ (List.mem_of_getElem? (i := 32) rfl))
theorem bw_33 : Cond.initialized RL ∈ sr_big := (List.mem_append_left _ (List.mem_of_getElem? (i := 33) rfl))
theorem bw_34 : Cond.initialized RX ∈ sr_big := (List.mem_append_left _ (List.mem_of_getElem? (i := 34) rfl))
theorem bw_35 : Cond.initialized RM ∈ sr_big := (List.mem_append_left _ (List.mem_of_getElem? (i := 35) rfl))
theorem bw_36 : Cond.initialized "java/lang/Throwable" ∈ sr_big := (List.mem_append_left _ (List.mem_of_getElem? (i := 36) rfl))
theorem bw_37 : Cond.initialized "java/lang/Exception" ∈ sr_big := (List.mem_append_left _ (List.mem_of_getElem? (i := 37) rfl))
theorem bw_38 : Cond.initialized "java/lang/RuntimeException" ∈ sr_big := (List.mem_append_left _ (List.mem_of_getElem? (i := 38) rfl))
theorem bw_39 : Cond.initialized "java/lang/IllegalArgumentException" ∈ sr_big := (List.mem_append_left _ (List.mem_of_getElem? (i := 39) rfl))
theorem bw_40 : Cond.initialized RJ ∈ sr_big := (List.mem_append_right _ (List.mem_append_left _ (List.mem_of_getElem? (i := 0) rfl)))
theorem bw_41 : Cond.initialized "java/util/NoSuchElementException" ∈ sr_big := (List.mem_append_right _ (List.mem_append_left _ (List.mem_of_getElem? (i := 1) rfl)))
theorem bw_42 : Cond.initialized "java/lang/System" ∈ sr_big := (List.mem_append_right _ (List.mem_append_left _ (List.mem_of_getElem? (i := 2) rfl)))
theorem bw_43 : Cond.classLink RL 8 "SlideRow" ∈ sr_big := (List.mem_append_right _ (List.mem_append_left _ (List.mem_of_getElem? (i := 3) rfl)))
theorem bw_44 : Cond.instantiable RX 11 ∈ sr_big := (List.mem_append_right _ (List.mem_append_left _ (List.mem_of_getElem? (i := 4) rfl)))
theorem bw_45 : Cond.methodLink RL 49 yX_init ∈ sr_big := (List.mem_append_right _ (List.mem_append_left _ (List.mem_of_getElem? (i := 5) rfl)))
theorem bw_46 : Cond.instanceMethod yX_init ∈ sr_big := (List.mem_append_right _ (List.mem_append_left _ (List.mem_of_getElem? (i := 6) rfl)))
theorem bw_47 : Cond.code yX_init bX_init 1 none ∈ sr_big := (List.mem_append_right _ (List.mem_append_left _ (List.mem_of_getElem? (i := 7) rfl)))
theorem bw_48 : Cond.methodLink RX 3 ⟨"java/lang/Object", "<init>", "()V"⟩ ∈ sr_big := (List.mem_append_right _ (List.mem_append_left _ (List.mem_of_getElem? (i := 8) rfl)))
theorem bw_49 : Cond.instanceMethod ⟨"java/lang/Object", "<init>", "()V"⟩ ∈ sr_big := (List.mem_append_right _ (List.mem_append_left _ (List.mem_of_getElem? (i := 9) rfl)))
theorem bw_50 : Cond.code ⟨"java/lang/Object", "<init>", "()V"⟩ object_method_1_code 1 none ∈ sr_big := (List.mem_append_right _ (List.mem_append_left _ (List.mem_of_getElem? (i := 10) rfl)))
theorem bw_51 : Cond.fieldLink RX 9 "SlideRow" "roots" "[I" ∈ sr_big := (List.mem_append_right _ (List.mem_append_left _ (List.mem_of_getElem? (i := 11) rfl)))
theorem bw_52 : Cond.fieldLink RX 13 "SlideRow" "cells" "[I" ∈ sr_big := (List.mem_append_right _ (List.mem_append_left _ (List.mem_of_getElem? (i := 12) rfl)))
theorem bw_53 : Cond.fieldLink RX 16 "SlideRow" "limit" "I" ∈ sr_big := (List.mem_append_right _ (List.mem_append_left _ (List.mem_of_getElem? (i := 13) rfl)))
theorem bw_54 : Cond.fieldLink RX 36 "SlideRow" "used" "I" ∈ sr_big := (List.mem_append_right _ (List.mem_append_left _ (List.mem_of_getElem? (i := 14) rfl)))
theorem bw_55 : Cond.fieldLink RX 46 "SlideRow" "objects" "I" ∈ sr_big := (List.mem_append_right _ (List.mem_append_left _ (List.mem_of_getElem? (i := 15) rfl)))
theorem bw_56 : Cond.fieldLink RX 86 "SlideRow" "slides" "I" ∈ sr_big := (List.mem_append_right _ (List.mem_append_left _ (List.mem_of_getElem? (i := 16) rfl)))
theorem bw_57 : Cond.fieldLink RX 89 "SlideRow" "gone" "I" ∈ sr_big := (List.mem_append_right _ (List.mem_append_left _ (List.mem_of_getElem? (i := 17) rfl)))
theorem bw_58 : Cond.fieldLink RX 98 "SlideRow" "given" "I" ∈ sr_big := (List.mem_append_right _ (List.mem_append_left _ (List.mem_of_getElem? (i := 18) rfl)))
theorem bw_59 : Cond.fieldLink RX 141 "SlideRow" "firstReached" "I" ∈ sr_big := (List.mem_append_right _ (List.mem_append_left _ (List.mem_of_getElem? (i := 19) rfl)))
theorem bw_60 : Cond.fieldLink RX 144 "SlideRow" "lastReached" "I" ∈ sr_big := (List.mem_append_right _ (List.mem_append_left _ (List.mem_of_getElem? (i := 20) rfl)))
theorem bw_61 : Cond.fieldLink RX 92 "SlideRow" "reached" "I" ∈ sr_big := (List.mem_append_right _ (List.mem_append_left _ (List.mem_of_getElem? (i := 21) rfl)))
theorem bw_62 : Cond.laysFinal RX "SlideRow" "roots" "[I" ∈ sr_big := (List.mem_append_right _ (List.mem_append_left _ (List.mem_of_getElem? (i := 22) rfl)))
theorem bw_63 : Cond.lays RX "SlideRow" "cells" "[I" ∈ sr_big := (List.mem_append_right _ (List.mem_append_left _ (List.mem_of_getElem? (i := 23) rfl)))
theorem bw_64 : Cond.lays RX "SlideRow" "limit" "I" ∈ sr_big := (List.mem_append_right _ (List.mem_append_left _ (List.mem_of_getElem? (i := 24) rfl)))
theorem bw_65 : Cond.lays RX "SlideRow" "used" "I" ∈ sr_big := (List.mem_append_right _ (List.mem_append_left _ (List.mem_of_getElem? (i := 25) rfl)))
theorem bw_66 : Cond.lays RX "SlideRow" "objects" "I" ∈ sr_big := (List.mem_append_right _ (List.mem_append_left _ (List.mem_of_getElem? (i := 26) rfl)))
theorem bw_67 : Cond.lays RX "SlideRow" "slides" "I" ∈ sr_big := (List.mem_append_right _ (List.mem_append_left _ (List.mem_of_getElem? (i := 27) rfl)))
theorem bw_68 : Cond.lays RX "SlideRow" "gone" "I" ∈ sr_big := (List.mem_append_right _ (List.mem_append_left _ (List.mem_of_getElem? (i := 28) rfl)))
theorem bw_69 : Cond.lays RX "SlideRow" "given" "I" ∈ sr_big := (List.mem_append_right _ (List.mem_append_left _ (List.mem_of_getElem? (i := 29) rfl)))
theorem bw_70 : Cond.lays RX "SlideRow" "firstReached" "I" ∈ sr_big := (List.mem_append_right _ (List.mem_append_left _ (List.mem_of_getElem? (i := 30) rfl)))
theorem bw_71 : Cond.lays RX "SlideRow" "lastReached" "I" ∈ sr_big := (List.mem_append_right _ (List.mem_append_left _ (List.mem_of_getElem? (i := 31) rfl)))
theorem bw_72 : Cond.lays RX "SlideRow" "reached" "I" ∈ sr_big := (List.mem_append_right _ (List.mem_append_left _ (List.mem_of_getElem? (i := 32) rfl)))
theorem bw_73 : Cond.arrayClass .int ∈ sr_big := (List.mem_append_right _ (List.mem_append_left _ (List.mem_of_getElem? (i := 33) rfl)))
theorem bw_74 : Cond.methodLink RL 86 yX_slide ∈ sr_big := (List.mem_append_right _ (List.mem_append_left _ (List.mem_of_getElem? (i := 34) rfl)))
theorem bw_75 : Cond.instanceMethod yX_slide ∈ sr_big := (List.mem_append_right _ (List.mem_append_left _ (List.mem_of_getElem? (i := 35) rfl)))
theorem bw_76 : Cond.selects RX yX_slide yX_slide ∈ sr_big := (List.mem_append_right _ (List.mem_append_left _ (List.mem_of_getElem? (i := 36) rfl)))
theorem bw_77 : Cond.code yX_slide bX_slide 2 (some .int) ∈ sr_big := (List.mem_append_right _ (List.mem_append_left _ (List.mem_of_getElem? (i := 37) rfl)))
theorem bw_78 : Cond.methodLink RX 70 yX_chainReached ∈ sr_big := (List.mem_append_right _ (List.mem_append_left _ (List.mem_of_getElem? (i := 38) rfl)))
theorem bw_79 : Cond.instanceMethod yX_chainReached ∈ sr_big := (List.mem_append_right _ (List.mem_append_left _ (List.mem_of_getElem? (i := 39) rfl)))
theorem bw_80 : Cond.code yX_chainReached bX_chainReached 3 none ∈ sr_big := (List.mem_append_right _ (List.mem_append_right _ (List.mem_append_left _ (List.mem_of_getElem? (i := 0) rfl))))
theorem bw_81 : Cond.methodLink RX 138 yX_clearLinks ∈ sr_big := (List.mem_append_right _ (List.mem_append_right _ (List.mem_append_left _ (List.mem_of_getElem? (i := 1) rfl))))
theorem bw_82 : Cond.instanceMethod yX_clearLinks ∈ sr_big := (List.mem_append_right _ (List.mem_append_right _ (List.mem_append_left _ (List.mem_of_getElem? (i := 2) rfl))))
theorem bw_83 : Cond.code yX_clearLinks bX_clearLinks 3 none ∈ sr_big := (List.mem_append_right _ (List.mem_append_right _ (List.mem_append_left _ (List.mem_of_getElem? (i := 3) rfl))))
theorem bw_84 : Cond.methodLink RX 43 yX_write ∈ sr_big := (List.mem_append_right _ (List.mem_append_right _ (List.mem_append_left _ (List.mem_of_getElem? (i := 4) rfl))))
theorem bw_85 : Cond.instanceMethod yX_write ∈ sr_big := (List.mem_append_right _ (List.mem_append_right _ (List.mem_append_left _ (List.mem_of_getElem? (i := 5) rfl))))
theorem bw_86 : Cond.code yX_write bX_write 3 none ∈ sr_big := (List.mem_append_right _ (List.mem_append_right _ (List.mem_append_left _ (List.mem_of_getElem? (i := 6) rfl))))
theorem bw_87 : Cond.methodLink RX 101 yX_sizeOf ∈ sr_big := (List.mem_append_right _ (List.mem_append_right _ (List.mem_append_left _ (List.mem_of_getElem? (i := 7) rfl))))
theorem bw_88 : Cond.instanceMethod yX_sizeOf ∈ sr_big := (List.mem_append_right _ (List.mem_append_right _ (List.mem_append_left _ (List.mem_of_getElem? (i := 8) rfl))))
theorem bw_89 : Cond.code yX_sizeOf bX_sizeOf 3 (some .int) ∈ sr_big := (List.mem_append_right _ (List.mem_append_right _ (List.mem_append_left _ (List.mem_of_getElem? (i := 9) rfl))))
theorem bw_90 : Cond.methodLink RX 60 yX_read ∈ sr_big := (List.mem_append_right _ (List.mem_append_right _ (List.mem_append_left _ (List.mem_of_getElem? (i := 10) rfl))))
theorem bw_91 : Cond.instanceMethod yX_read ∈ sr_big := (List.mem_append_right _ (List.mem_append_right _ (List.mem_append_left _ (List.mem_of_getElem? (i := 11) rfl))))
theorem bw_92 : Cond.code yX_read bX_read 2 (some .int) ∈ sr_big := (List.mem_append_right _ (List.mem_append_right _ (List.mem_append_left _ (List.mem_of_getElem? (i := 12) rfl))))
theorem bw_93 : Cond.methodLink RX 147 yX_reach ∈ sr_big := (List.mem_append_right _ (List.mem_append_right _ (List.mem_append_left _ (List.mem_of_getElem? (i := 13) rfl))))
theorem bw_94 : Cond.instanceMethod yX_reach ∈ sr_big := (List.mem_append_right _ (List.mem_append_right _ (List.mem_append_left _ (List.mem_of_getElem? (i := 14) rfl))))
theorem bw_95 : Cond.code yX_reach bX_reach 2 none ∈ sr_big := (List.mem_append_right _ (List.mem_append_right _ (List.mem_append_left _ (List.mem_of_getElem? (i := 15) rfl))))
theorem bw_96 : Cond.methodLink RX 150 yX_reachFieldsOf ∈ sr_big := (List.mem_append_right _ (List.mem_append_right _ (List.mem_append_left _ (List.mem_of_getElem? (i := 16) rfl))))
theorem bw_97 : Cond.instanceMethod yX_reachFieldsOf ∈ sr_big := (List.mem_append_right _ (List.mem_append_right _ (List.mem_append_left _ (List.mem_of_getElem? (i := 17) rfl))))
theorem bw_98 : Cond.code yX_reachFieldsOf bX_reachFieldsOf 4 none ∈ sr_big := (List.mem_append_right _ (List.mem_append_right _ (List.mem_append_left _ (List.mem_of_getElem? (i := 18) rfl))))
theorem bw_99 : Cond.methodLink RX 122 yX_fieldsOf ∈ sr_big := (List.mem_append_right _ (List.mem_append_right _ (List.mem_append_left _ (List.mem_of_getElem? (i := 19) rfl))))
theorem bw_100 : Cond.instanceMethod yX_fieldsOf ∈ sr_big := (List.mem_append_right _ (List.mem_append_right _ (List.mem_append_left _ (List.mem_of_getElem? (i := 20) rfl))))
theorem bw_101 : Cond.code yX_fieldsOf bX_fieldsOf 2 (some .int) ∈ sr_big := (List.mem_append_right _ (List.mem_append_right _ (List.mem_append_left _ (List.mem_of_getElem? (i := 21) rfl))))
theorem bw_102 : Cond.methodLink RX 73 yX_choosePlaces ∈ sr_big := (List.mem_append_right _ (List.mem_append_right _ (List.mem_append_left _ (List.mem_of_getElem? (i := 22) rfl))))
theorem bw_103 : Cond.instanceMethod yX_choosePlaces ∈ sr_big := (List.mem_append_right _ (List.mem_append_right _ (List.mem_append_left _ (List.mem_of_getElem? (i := 23) rfl))))
theorem bw_104 : Cond.code yX_choosePlaces bX_choosePlaces 5 (some .int) ∈ sr_big := (List.mem_append_right _ (List.mem_append_right _ (List.mem_append_left _ (List.mem_of_getElem? (i := 24) rfl))))
theorem bw_105 : Cond.methodLink RX 77 yX_redirectRoots ∈ sr_big := (List.mem_append_right _ (List.mem_append_right _ (List.mem_append_left _ (List.mem_of_getElem? (i := 25) rfl))))
theorem bw_106 : Cond.instanceMethod yX_redirectRoots ∈ sr_big := (List.mem_append_right _ (List.mem_append_right _ (List.mem_append_left _ (List.mem_of_getElem? (i := 26) rfl))))
theorem bw_107 : Cond.code yX_redirectRoots bX_redirectRoots 2 none ∈ sr_big := (List.mem_append_right _ (List.mem_append_right _ (List.mem_append_left _ (List.mem_of_getElem? (i := 27) rfl))))
theorem bw_108 : Cond.methodLink RX 153 yX_placeOf ∈ sr_big := (List.mem_append_right _ (List.mem_append_right _ (List.mem_append_left _ (List.mem_of_getElem? (i := 28) rfl))))
theorem bw_109 : Cond.instanceMethod yX_placeOf ∈ sr_big := (List.mem_append_right _ (List.mem_append_right _ (List.mem_append_left _ (List.mem_of_getElem? (i := 29) rfl))))
theorem bw_110 : Cond.code yX_placeOf bX_placeOf 2 (some .int) ∈ sr_big := (List.mem_append_right _ (List.mem_append_right _ (List.mem_append_left _ (List.mem_of_getElem? (i := 30) rfl))))
theorem bw_111 : Cond.methodLink RX 80 yX_redirectFields ∈ sr_big := (List.mem_append_right _ (List.mem_append_right _ (List.mem_append_left _ (List.mem_of_getElem? (i := 31) rfl))))
theorem bw_112 : Cond.instanceMethod yX_redirectFields ∈ sr_big := (List.mem_append_right _ (List.mem_append_right _ (List.mem_append_left _ (List.mem_of_getElem? (i := 32) rfl))))
theorem bw_113 : Cond.code yX_redirectFields bX_redirectFields 3 none ∈ sr_big := (List.mem_append_right _ (List.mem_append_right _ (List.mem_append_left _ (List.mem_of_getElem? (i := 33) rfl))))
theorem bw_114 : Cond.methodLink RX 156 yX_redirectFieldsOf ∈ sr_big := (List.mem_append_right _ (List.mem_append_right _ (List.mem_append_left _ (List.mem_of_getElem? (i := 34) rfl))))
theorem bw_115 : Cond.instanceMethod yX_redirectFieldsOf ∈ sr_big := (List.mem_append_right _ (List.mem_append_right _ (List.mem_append_left _ (List.mem_of_getElem? (i := 35) rfl))))
theorem bw_116 : Cond.code yX_redirectFieldsOf bX_redirectFieldsOf 5 none ∈ sr_big := (List.mem_append_right _ (List.mem_append_right _ (List.mem_append_left _ (List.mem_of_getElem? (i := 36) rfl))))
theorem bw_117 : Cond.methodLink RX 83 yX_moveReached ∈ sr_big := (List.mem_append_right _ (List.mem_append_right _ (List.mem_append_left _ (List.mem_of_getElem? (i := 37) rfl))))
theorem bw_118 : Cond.instanceMethod yX_moveReached ∈ sr_big := (List.mem_append_right _ (List.mem_append_right _ (List.mem_append_left _ (List.mem_of_getElem? (i := 38) rfl))))
theorem bw_119 : Cond.code yX_moveReached bX_moveReached 5 none ∈ sr_big := (List.mem_append_right _ (List.mem_append_right _ (List.mem_append_left _ (List.mem_of_getElem? (i := 39) rfl))))
theorem bw_120 : Cond.methodLink RX 159 yX_moveCells ∈ sr_big := (List.mem_append_right _ (List.mem_append_right _ (List.mem_append_right _ (List.mem_append_left _ (List.mem_of_getElem? (i := 0) rfl)))))
theorem bw_121 : Cond.instanceMethod yX_moveCells ∈ sr_big := (List.mem_append_right _ (List.mem_append_right _ (List.mem_append_right _ (List.mem_append_left _ (List.mem_of_getElem? (i := 1) rfl)))))
theorem bw_122 : Cond.code yX_moveCells bX_moveCells 4 none ∈ sr_big := (List.mem_append_right _ (List.mem_append_right _ (List.mem_append_right _ (List.mem_append_left _ (List.mem_of_getElem? (i := 2) rfl)))))
theorem bw_123 : Cond.methodLink RX 132 ⟨"java/lang/System", "arraycopy", "(Ljava/lang/Object;ILjava/lang/Object;II)V"⟩ ∈ sr_big := (List.mem_append_right _ (List.mem_append_right _ (List.mem_append_right _ (List.mem_append_left _ (List.mem_of_getElem? (i := 3) rfl)))))
theorem bw_124 : Cond.static ⟨"java/lang/System", "arraycopy", "(Ljava/lang/Object;ILjava/lang/Object;II)V"⟩ ∈ sr_big := (List.mem_append_right _ (List.mem_append_right _ (List.mem_append_right _ (List.mem_append_left _ (List.mem_of_getElem? (i := 4) rfl)))))
theorem bw_125 : Cond.native ⟨"java/lang/System", "arraycopy", "(Ljava/lang/Object;ILjava/lang/Object;II)V"⟩ ∈ sr_big := (List.mem_append_right _ (List.mem_append_right _ (List.mem_append_right _ (List.mem_append_left _ (List.mem_of_getElem? (i := 5) rfl)))))
theorem bw_126 : Cond.methodLink RL 93 yX_find ∈ sr_big := (List.mem_append_right _ (List.mem_append_right _ (List.mem_append_right _ (List.mem_append_left _ (List.mem_of_getElem? (i := 6) rfl)))))
theorem bw_127 : Cond.instanceMethod yX_find ∈ sr_big := (List.mem_append_right _ (List.mem_append_right _ (List.mem_append_right _ (List.mem_append_left _ (List.mem_of_getElem? (i := 7) rfl)))))
theorem bw_128 : Cond.selects RX yX_find yX_find ∈ sr_big := (List.mem_append_right _ (List.mem_append_right _ (List.mem_append_right _ (List.mem_append_left _ (List.mem_of_getElem? (i := 8) rfl)))))
theorem bw_129 : Cond.code yX_find bX_find 4 (some .int) ∈ sr_big := (List.mem_append_right _ (List.mem_append_right _ (List.mem_append_right _ (List.mem_append_left _ (List.mem_of_getElem? (i := 9) rfl)))))
theorem bw_130 : Cond.methodLink RL 53 yL_space ∈ sr_big := (List.mem_append_right _ (List.mem_append_right _ (List.mem_append_right _ (List.mem_append_left _ (List.mem_of_getElem? (i := 10) rfl)))))
theorem bw_131 : Cond.static yL_space ∈ sr_big := (List.mem_append_right _ (List.mem_append_right _ (List.mem_append_right _ (List.mem_append_left _ (List.mem_of_getElem? (i := 11) rfl)))))
theorem bw_132 : Cond.codeWith yL_space bL_space 4 (some .int) [(0, 9, 12, 13)] ∈ sr_big := (List.mem_append_right _ (List.mem_append_right _ (List.mem_append_right _ (List.mem_append_left _ (List.mem_of_getElem? (i := 12) rfl)))))
theorem bw_133 : Cond.classLink RL 13 "java/lang/IllegalArgumentException" ∈ sr_big := (List.mem_append_right _ (List.mem_append_right _ (List.mem_append_right _ (List.mem_append_left _ (List.mem_of_getElem? (i := 13) rfl)))))
theorem bw_134 : Cond.methodLink RL 7 yX_space ∈ sr_big := (List.mem_append_right _ (List.mem_append_right _ (List.mem_append_right _ (List.mem_append_left _ (List.mem_of_getElem? (i := 14) rfl)))))
theorem bw_135 : Cond.instanceMethod yX_space ∈ sr_big := (List.mem_append_right _ (List.mem_append_right _ (List.mem_append_right _ (List.mem_append_left _ (List.mem_of_getElem? (i := 15) rfl)))))
theorem bw_136 : Cond.selects RX yX_space yX_space ∈ sr_big := (List.mem_append_right _ (List.mem_append_right _ (List.mem_append_right _ (List.mem_append_left _ (List.mem_of_getElem? (i := 16) rfl)))))
theorem bw_137 : Cond.code yX_space bX_space 3 (some .int) ∈ sr_big := (List.mem_append_right _ (List.mem_append_right _ (List.mem_append_right _ (List.mem_append_left _ (List.mem_of_getElem? (i := 17) rfl)))))
theorem bw_138 : Cond.classLink RX 20 "java/lang/IllegalArgumentException" ∈ sr_big := (List.mem_append_right _ (List.mem_append_right _ (List.mem_append_right _ (List.mem_append_left _ (List.mem_of_getElem? (i := 18) rfl)))))
theorem bw_139 : Cond.instantiable "java/lang/IllegalArgumentException" 6 ∈ sr_big := (List.mem_append_right _ (List.mem_append_right _ (List.mem_append_right _ (List.mem_append_left _ (List.mem_of_getElem? (i := 19) rfl)))))
theorem bw_140 : Cond.selects "java/lang/IllegalArgumentException" ⟨"java/lang/Throwable", "fillInStackTrace", "(I)Ljava/lang/Throwable;"⟩ ⟨"java/lang/Throwable", "fillInStackTrace", "(I)Ljava/lang/Throwable;"⟩ ∈ sr_big := (List.mem_append_right _ (List.mem_append_right _ (List.mem_append_right _ (List.mem_append_left _ (List.mem_of_getElem? (i := 20) rfl)))))
theorem bw_141 : Cond.selects "java/lang/IllegalArgumentException" ⟨"java/lang/Throwable", "fillInStackTrace", "()Ljava/lang/Throwable;"⟩ ⟨"java/lang/Throwable", "fillInStackTrace", "()Ljava/lang/Throwable;"⟩ ∈ sr_big := (List.mem_append_right _ (List.mem_append_right _ (List.mem_append_right _ (List.mem_append_left _ (List.mem_of_getElem? (i := 21) rfl)))))
theorem bw_142 : Cond.lays "java/lang/IllegalArgumentException" "java/lang/Throwable" "cause" "Ljava/lang/Throwable;" ∈ sr_big := (List.mem_append_right _ (List.mem_append_right _ (List.mem_append_right _ (List.mem_append_left _ (List.mem_of_getElem? (i := 22) rfl)))))
theorem bw_143 : Cond.lays "java/lang/Throwable" "java/lang/Throwable" "cause" "Ljava/lang/Throwable;" ∈ sr_big := (List.mem_append_right _ (List.mem_append_right _ (List.mem_append_right _ (List.mem_append_left _ (List.mem_of_getElem? (i := 23) rfl)))))
theorem bw_144 : Cond.lays "java/lang/IllegalArgumentException" "java/lang/Throwable" "stackTrace" "[Ljava/lang/StackTraceElement;" ∈ sr_big := (List.mem_append_right _ (List.mem_append_right _ (List.mem_append_right _ (List.mem_append_left _ (List.mem_of_getElem? (i := 24) rfl)))))
theorem bw_145 : Cond.lays "java/lang/Throwable" "java/lang/Throwable" "stackTrace" "[Ljava/lang/StackTraceElement;" ∈ sr_big := (List.mem_append_right _ (List.mem_append_right _ (List.mem_append_right _ (List.mem_append_left _ (List.mem_of_getElem? (i := 25) rfl)))))
theorem bw_146 : Cond.lays "java/lang/IllegalArgumentException" "java/lang/Throwable" "suppressedExceptions" "Ljava/util/List;" ∈ sr_big := (List.mem_append_right _ (List.mem_append_right _ (List.mem_append_right _ (List.mem_append_left _ (List.mem_of_getElem? (i := 26) rfl)))))
theorem bw_147 : Cond.lays "java/lang/Throwable" "java/lang/Throwable" "suppressedExceptions" "Ljava/util/List;" ∈ sr_big := (List.mem_append_right _ (List.mem_append_right _ (List.mem_append_right _ (List.mem_append_left _ (List.mem_of_getElem? (i := 27) rfl)))))
theorem bw_148 : Cond.lays "java/lang/IllegalArgumentException" "java/lang/Throwable" "detailMessage" "Ljava/lang/String;" ∈ sr_big := (List.mem_append_right _ (List.mem_append_right _ (List.mem_append_right _ (List.mem_append_left _ (List.mem_of_getElem? (i := 28) rfl)))))
theorem bw_149 : Cond.lays "java/lang/Throwable" "java/lang/Throwable" "detailMessage" "Ljava/lang/String;" ∈ sr_big := (List.mem_append_right _ (List.mem_append_right _ (List.mem_append_right _ (List.mem_append_left _ (List.mem_of_getElem? (i := 29) rfl)))))
theorem bw_150 : Cond.lays "java/lang/IllegalArgumentException" "java/lang/Throwable" "backtrace" "Ljava/lang/Object;" ∈ sr_big := (List.mem_append_right _ (List.mem_append_right _ (List.mem_append_right _ (List.mem_append_left _ (List.mem_of_getElem? (i := 30) rfl)))))
theorem bw_151 : Cond.lays "java/lang/Throwable" "java/lang/Throwable" "backtrace" "Ljava/lang/Object;" ∈ sr_big := (List.mem_append_right _ (List.mem_append_right _ (List.mem_append_right _ (List.mem_append_left _ (List.mem_of_getElem? (i := 31) rfl)))))
theorem bw_152 : Cond.fieldLink "java/lang/Throwable" 198 "java/lang/Throwable" "backtrace" "Ljava/lang/Object;" ∈ sr_big := (List.mem_append_right _ (List.mem_append_right _ (List.mem_append_right _ (List.mem_append_left _ (List.mem_of_getElem? (i := 32) rfl)))))
theorem bw_153 : Cond.instanceMethod ⟨"java/lang/Throwable", "<init>", "()V"⟩ ∈ sr_big := (List.mem_append_right _ (List.mem_append_right _ (List.mem_append_right _ (List.mem_append_left _ (List.mem_of_getElem? (i := 33) rfl)))))
theorem bw_154 : Cond.code ⟨"java/lang/Throwable", "<init>", "()V"⟩ prog_9_method_1_code 1 none ∈ sr_big := (List.mem_append_right _ (List.mem_append_right _ (List.mem_append_right _ (List.mem_append_left _ (List.mem_of_getElem? (i := 34) rfl)))))
theorem bw_155 : Cond.methodLink "java/lang/Throwable" 1 ⟨"java/lang/Object", "<init>", "()V"⟩ ∈ sr_big := (List.mem_append_right _ (List.mem_append_right _ (List.mem_append_right _ (List.mem_append_left _ (List.mem_of_getElem? (i := 35) rfl)))))
theorem bw_156 : Cond.fieldLink "java/lang/Throwable" 13 "java/lang/Throwable" "UNASSIGNED_STACK" "[Ljava/lang/StackTraceElement;" ∈ sr_big := (List.mem_append_right _ (List.mem_append_right _ (List.mem_append_right _ (List.mem_append_left _ (List.mem_of_getElem? (i := 36) rfl)))))
theorem bw_157 : Cond.fieldLink "java/lang/Throwable" 20 "java/lang/Throwable" "SUPPRESSED_SENTINEL" "Ljava/util/List;" ∈ sr_big := (List.mem_append_right _ (List.mem_append_right _ (List.mem_append_right _ (List.mem_append_left _ (List.mem_of_getElem? (i := 37) rfl)))))
theorem bw_158 : Cond.methodLink "java/lang/Throwable" 27 ⟨"java/lang/Throwable", "fillInStackTrace", "()Ljava/lang/Throwable;"⟩ ∈ sr_big := (List.mem_append_right _ (List.mem_append_right _ (List.mem_append_right _ (List.mem_append_left _ (List.mem_of_getElem? (i := 38) rfl)))))
theorem bw_159 : Cond.instanceMethod ⟨"java/lang/Throwable", "fillInStackTrace", "()Ljava/lang/Throwable;"⟩ ∈ sr_big := (List.mem_append_right _ (List.mem_append_right _ (List.mem_append_right _ (List.mem_append_left _ (List.mem_of_getElem? (i := 39) rfl)))))
theorem bw_160 : Cond.selects "java/util/NoSuchElementException" ⟨"java/lang/Throwable", "fillInStackTrace", "()Ljava/lang/Throwable;"⟩ ⟨"java/lang/Throwable", "fillInStackTrace", "()Ljava/lang/Throwable;"⟩ ∈ sr_big := (List.mem_append_right _ (List.mem_append_right _ (List.mem_append_right _ (List.mem_append_right _ (List.mem_append_left _ (List.mem_of_getElem? (i := 0) rfl))))))
theorem bw_161 : Cond.methodLink "java/lang/Throwable" 202 ⟨"java/lang/Throwable", "fillInStackTrace", "(I)Ljava/lang/Throwable;"⟩ ∈ sr_big := (List.mem_append_right _ (List.mem_append_right _ (List.mem_append_right _ (List.mem_append_right _ (List.mem_append_left _ (List.mem_of_getElem? (i := 1) rfl))))))
theorem bw_162 : Cond.instanceMethod ⟨"java/lang/Throwable", "fillInStackTrace", "(I)Ljava/lang/Throwable;"⟩ ∈ sr_big := (List.mem_append_right _ (List.mem_append_right _ (List.mem_append_right _ (List.mem_append_right _ (List.mem_append_left _ (List.mem_of_getElem? (i := 2) rfl))))))
theorem bw_163 : Cond.instantiable "java/lang/Throwable" 6 ∈ sr_big := (List.mem_append_right _ (List.mem_append_right _ (List.mem_append_right _ (List.mem_append_right _ (List.mem_append_left _ (List.mem_of_getElem? (i := 3) rfl))))))
theorem bw_164 : Cond.native ⟨"java/lang/Throwable", "fillInStackTrace", "(I)Ljava/lang/Throwable;"⟩ ∈ sr_big := (List.mem_append_right _ (List.mem_append_right _ (List.mem_append_right _ (List.mem_append_right _ (List.mem_append_left _ (List.mem_of_getElem? (i := 4) rfl))))))
theorem bw_165 : Cond.methodLink RX 24 ⟨"java/lang/IllegalArgumentException", "<init>", "(Ljava/lang/String;)V"⟩ ∈ sr_big := (List.mem_append_right _ (List.mem_append_right _ (List.mem_append_right _ (List.mem_append_right _ (List.mem_append_left _ (List.mem_of_getElem? (i := 5) rfl))))))
theorem bw_166 : Cond.instanceMethod ⟨"java/lang/IllegalArgumentException", "<init>", "(Ljava/lang/String;)V"⟩ ∈ sr_big := (List.mem_append_right _ (List.mem_append_right _ (List.mem_append_right _ (List.mem_append_right _ (List.mem_append_left _ (List.mem_of_getElem? (i := 6) rfl))))))
theorem bw_167 : Cond.code ⟨"java/lang/IllegalArgumentException", "<init>", "(Ljava/lang/String;)V"⟩ prog_5_method_2_code 2 none ∈ sr_big := (List.mem_append_right _ (List.mem_append_right _ (List.mem_append_right _ (List.mem_append_right _ (List.mem_append_left _ (List.mem_of_getElem? (i := 7) rfl))))))
theorem bw_168 : Cond.methodLink "java/lang/IllegalArgumentException" 7 ⟨"java/lang/RuntimeException", "<init>", "(Ljava/lang/String;)V"⟩ ∈ sr_big := (List.mem_append_right _ (List.mem_append_right _ (List.mem_append_right _ (List.mem_append_right _ (List.mem_append_left _ (List.mem_of_getElem? (i := 8) rfl))))))
theorem bw_169 : Cond.instanceMethod ⟨"java/lang/RuntimeException", "<init>", "(Ljava/lang/String;)V"⟩ ∈ sr_big := (List.mem_append_right _ (List.mem_append_right _ (List.mem_append_right _ (List.mem_append_right _ (List.mem_append_left _ (List.mem_of_getElem? (i := 9) rfl))))))
theorem bw_170 : Cond.code ⟨"java/lang/RuntimeException", "<init>", "(Ljava/lang/String;)V"⟩ prog_6_method_2_code 2 none ∈ sr_big := (List.mem_append_right _ (List.mem_append_right _ (List.mem_append_right _ (List.mem_append_right _ (List.mem_append_left _ (List.mem_of_getElem? (i := 10) rfl))))))
theorem bw_171 : Cond.methodLink "java/lang/RuntimeException" 7 ⟨"java/lang/Exception", "<init>", "(Ljava/lang/String;)V"⟩ ∈ sr_big := (List.mem_append_right _ (List.mem_append_right _ (List.mem_append_right _ (List.mem_append_right _ (List.mem_append_left _ (List.mem_of_getElem? (i := 11) rfl))))))
theorem bw_172 : Cond.instanceMethod ⟨"java/lang/Exception", "<init>", "(Ljava/lang/String;)V"⟩ ∈ sr_big := (List.mem_append_right _ (List.mem_append_right _ (List.mem_append_right _ (List.mem_append_right _ (List.mem_append_left _ (List.mem_of_getElem? (i := 12) rfl))))))
theorem bw_173 : Cond.code ⟨"java/lang/Exception", "<init>", "(Ljava/lang/String;)V"⟩ prog_4_method_2_code 2 none ∈ sr_big := (List.mem_append_right _ (List.mem_append_right _ (List.mem_append_right _ (List.mem_append_right _ (List.mem_append_left _ (List.mem_of_getElem? (i := 13) rfl))))))
theorem bw_174 : Cond.methodLink "java/lang/Exception" 7 ⟨"java/lang/Throwable", "<init>", "(Ljava/lang/String;)V"⟩ ∈ sr_big := (List.mem_append_right _ (List.mem_append_right _ (List.mem_append_right _ (List.mem_append_right _ (List.mem_append_left _ (List.mem_of_getElem? (i := 14) rfl))))))
theorem bw_175 : Cond.instanceMethod ⟨"java/lang/Throwable", "<init>", "(Ljava/lang/String;)V"⟩ ∈ sr_big := (List.mem_append_right _ (List.mem_append_right _ (List.mem_append_right _ (List.mem_append_right _ (List.mem_append_left _ (List.mem_of_getElem? (i := 15) rfl))))))
theorem bw_176 : Cond.code ⟨"java/lang/Throwable", "<init>", "(Ljava/lang/String;)V"⟩ prog_9_method_2_code 2 none ∈ sr_big := (List.mem_append_right _ (List.mem_append_right _ (List.mem_append_right _ (List.mem_append_right _ (List.mem_append_left _ (List.mem_of_getElem? (i := 16) rfl))))))
theorem bw_177 : Cond.fieldLink "java/lang/Throwable" 31 "java/lang/Throwable" "detailMessage" "Ljava/lang/String;" ∈ sr_big := (List.mem_append_right _ (List.mem_append_right _ (List.mem_append_right _ (List.mem_append_right _ (List.mem_append_left _ (List.mem_of_getElem? (i := 17) rfl))))))
theorem bw_178 : Cond.fieldLink "java/lang/Throwable" 7 "java/lang/Throwable" "cause" "Ljava/lang/Throwable;" ∈ sr_big := (List.mem_append_right _ (List.mem_append_right _ (List.mem_append_right _ (List.mem_append_right _ (List.mem_append_left _ (List.mem_of_getElem? (i := 18) rfl))))))
theorem bw_179 : Cond.fieldLink "java/lang/Throwable" 17 "java/lang/Throwable" "stackTrace" "[Ljava/lang/StackTraceElement;" ∈ sr_big := (List.mem_append_right _ (List.mem_append_right _ (List.mem_append_right _ (List.mem_append_right _ (List.mem_append_left _ (List.mem_of_getElem? (i := 19) rfl))))))
theorem bw_180 : Cond.fieldLink "java/lang/Throwable" 24 "java/lang/Throwable" "suppressedExceptions" "Ljava/util/List;" ∈ sr_big := (List.mem_append_right _ (List.mem_append_right _ (List.mem_append_right _ (List.mem_append_right _ (List.mem_append_left _ (List.mem_of_getElem? (i := 20) rfl))))))
theorem bw_181 : Cond.lays "java/lang/IllegalArgumentException" "java/lang/Throwable" "depth" "I" ∈ sr_big := (List.mem_append_right _ (List.mem_append_right _ (List.mem_append_right _ (List.mem_append_right _ (List.mem_append_left _ (List.mem_of_getElem? (i := 21) rfl))))))
theorem bw_182 : Cond.arrayClass .byte ∈ sr_big := (List.mem_append_right _ (List.mem_append_right _ (List.mem_append_right _ (List.mem_append_right _ (List.mem_append_left _ (List.mem_of_getElem? (i := 22) rfl))))))
theorem bw_183 : Cond.methodLink RX 27 yX_forgetAll ∈ sr_big := (List.mem_append_right _ (List.mem_append_right _ (List.mem_append_right _ (List.mem_append_right _ (List.mem_append_left _ (List.mem_of_getElem? (i := 23) rfl))))))
theorem bw_184 : Cond.instanceMethod yX_forgetAll ∈ sr_big := (List.mem_append_right _ (List.mem_append_right _ (List.mem_append_right _ (List.mem_append_right _ (List.mem_append_left _ (List.mem_of_getElem? (i := 24) rfl))))))
theorem bw_185 : Cond.code yX_forgetAll bX_forgetAll 1 none ∈ sr_big := (List.mem_append_right _ (List.mem_append_right _ (List.mem_append_right _ (List.mem_append_right _ (List.mem_append_left _ (List.mem_of_getElem? (i := 25) rfl))))))
theorem bw_186 : Cond.methodLink RX 106 yJ_fill ∈ sr_big := (List.mem_append_right _ (List.mem_append_right _ (List.mem_append_right _ (List.mem_append_right _ (List.mem_append_left _ (List.mem_of_getElem? (i := 26) rfl))))))
theorem bw_187 : Cond.static yJ_fill ∈ sr_big := (List.mem_append_right _ (List.mem_append_right _ (List.mem_append_right _ (List.mem_append_right _ (List.mem_append_left _ (List.mem_of_getElem? (i := 27) rfl))))))
theorem bw_188 : Cond.code yJ_fill bJ_fill 4 none ∈ sr_big := (List.mem_append_right _ (List.mem_append_right _ (List.mem_append_right _ (List.mem_append_right _ (List.mem_append_left _ (List.mem_of_getElem? (i := 28) rfl))))))
theorem bw_189 : Cond.methodLink RL 63 yL_make ∈ sr_big := (List.mem_append_right _ (List.mem_append_right _ (List.mem_append_right _ (List.mem_append_right _ (List.mem_append_left _ (List.mem_of_getElem? (i := 29) rfl))))))
theorem bw_190 : Cond.static yL_make ∈ sr_big := (List.mem_append_right _ (List.mem_append_right _ (List.mem_append_right _ (List.mem_append_right _ (List.mem_append_left _ (List.mem_of_getElem? (i := 30) rfl))))))
theorem bw_191 : Cond.codeWith yL_make bL_make 5 (some .int) [(0, 10, 13, 13)] ∈ sr_big := (List.mem_append_right _ (List.mem_append_right _ (List.mem_append_right _ (List.mem_append_right _ (List.mem_append_left _ (List.mem_of_getElem? (i := 31) rfl))))))
theorem bw_192 : Cond.methodLink RL 15 yX_make ∈ sr_big := (List.mem_append_right _ (List.mem_append_right _ (List.mem_append_right _ (List.mem_append_right _ (List.mem_append_left _ (List.mem_of_getElem? (i := 32) rfl))))))
theorem bw_193 : Cond.instanceMethod yX_make ∈ sr_big := (List.mem_append_right _ (List.mem_append_right _ (List.mem_append_right _ (List.mem_append_right _ (List.mem_append_left _ (List.mem_of_getElem? (i := 33) rfl))))))
theorem bw_194 : Cond.selects RX yX_make yX_make ∈ sr_big := (List.mem_append_right _ (List.mem_append_right _ (List.mem_append_right _ (List.mem_append_right _ (List.mem_append_left _ (List.mem_of_getElem? (i := 34) rfl))))))
theorem bw_195 : Cond.code yX_make bX_make 5 (some .int) ∈ sr_big := (List.mem_append_right _ (List.mem_append_right _ (List.mem_append_right _ (List.mem_append_right _ (List.mem_append_left _ (List.mem_of_getElem? (i := 35) rfl))))))
theorem bw_196 : Cond.methodLink RX 30 yX_isPartCount ∈ sr_big := (List.mem_append_right _ (List.mem_append_right _ (List.mem_append_right _ (List.mem_append_right _ (List.mem_append_left _ (List.mem_of_getElem? (i := 36) rfl))))))
theorem bw_197 : Cond.static yX_isPartCount ∈ sr_big := (List.mem_append_right _ (List.mem_append_right _ (List.mem_append_right _ (List.mem_append_right _ (List.mem_append_left _ (List.mem_of_getElem? (i := 37) rfl))))))
theorem bw_198 : Cond.code yX_isPartCount bX_isPartCount 1 (some .boolean) ∈ sr_big := (List.mem_append_right _ (List.mem_append_right _ (List.mem_append_right _ (List.mem_append_right _ (List.mem_append_left _ (List.mem_of_getElem? (i := 38) rfl))))))
theorem bw_199 : Cond.methodLink RX 39 yX_clearCells ∈ sr_big := (List.mem_append_right _ (List.mem_append_right _ (List.mem_append_right _ (List.mem_append_right _ (List.mem_append_left _ (List.mem_of_getElem? (i := 39) rfl))))))
theorem bw_200 : Cond.instanceMethod yX_clearCells ∈ sr_big := (List.mem_append_right _ (List.mem_append_right _ (List.mem_append_right _ (List.mem_append_right _ (List.mem_append_right _ (List.mem_append_left _ (List.mem_of_getElem? (i := 0) rfl)))))))
theorem bw_201 : Cond.code yX_clearCells bX_clearCells 4 none ∈ sr_big := (List.mem_append_right _ (List.mem_append_right _ (List.mem_append_right _ (List.mem_append_right _ (List.mem_append_right _ (List.mem_append_left _ (List.mem_of_getElem? (i := 1) rfl)))))))
theorem bw_202 : Cond.methodLink RL 67 yL_set ∈ sr_big := (List.mem_append_right _ (List.mem_append_right _ (List.mem_append_right _ (List.mem_append_right _ (List.mem_append_right _ (List.mem_append_left _ (List.mem_of_getElem? (i := 2) rfl)))))))
theorem bw_203 : Cond.static yL_set ∈ sr_big := (List.mem_append_right _ (List.mem_append_right _ (List.mem_append_right _ (List.mem_append_right _ (List.mem_append_right _ (List.mem_append_left _ (List.mem_of_getElem? (i := 3) rfl)))))))
theorem bw_204 : Cond.codeWith yL_set bL_set 6 (some .int) [(0, 12, 15, 23)] ∈ sr_big := (List.mem_append_right _ (List.mem_append_right _ (List.mem_append_right _ (List.mem_append_right _ (List.mem_append_right _ (List.mem_append_left _ (List.mem_of_getElem? (i := 4) rfl)))))))
theorem bw_205 : Cond.classLink RL 23 "java/util/NoSuchElementException" ∈ sr_big := (List.mem_append_right _ (List.mem_append_right _ (List.mem_append_right _ (List.mem_append_right _ (List.mem_append_right _ (List.mem_append_left _ (List.mem_of_getElem? (i := 5) rfl)))))))
theorem bw_206 : Cond.methodLink RL 19 yX_set ∈ sr_big := (List.mem_append_right _ (List.mem_append_right _ (List.mem_append_right _ (List.mem_append_right _ (List.mem_append_right _ (List.mem_append_left _ (List.mem_of_getElem? (i := 6) rfl)))))))
theorem bw_207 : Cond.instanceMethod yX_set ∈ sr_big := (List.mem_append_right _ (List.mem_append_right _ (List.mem_append_right _ (List.mem_append_right _ (List.mem_append_right _ (List.mem_append_left _ (List.mem_of_getElem? (i := 7) rfl)))))))
theorem bw_208 : Cond.selects RX yX_set yX_set ∈ sr_big := (List.mem_append_right _ (List.mem_append_right _ (List.mem_append_right _ (List.mem_append_right _ (List.mem_append_right _ (List.mem_append_left _ (List.mem_of_getElem? (i := 8) rfl)))))))
theorem bw_209 : Cond.code yX_set bX_set 5 (some .int) ∈ sr_big := (List.mem_append_right _ (List.mem_append_right _ (List.mem_append_right _ (List.mem_append_right _ (List.mem_append_right _ (List.mem_append_left _ (List.mem_of_getElem? (i := 9) rfl)))))))
theorem bw_210 : Cond.methodLink RX 49 yX_fieldCell ∈ sr_big := (List.mem_append_right _ (List.mem_append_right _ (List.mem_append_right _ (List.mem_append_right _ (List.mem_append_right _ (List.mem_append_left _ (List.mem_of_getElem? (i := 10) rfl)))))))
theorem bw_211 : Cond.instanceMethod yX_fieldCell ∈ sr_big := (List.mem_append_right _ (List.mem_append_right _ (List.mem_append_right _ (List.mem_append_right _ (List.mem_append_right _ (List.mem_append_left _ (List.mem_of_getElem? (i := 11) rfl)))))))
theorem bw_212 : Cond.code yX_fieldCell bX_fieldCell 3 (some .int) ∈ sr_big := (List.mem_append_right _ (List.mem_append_right _ (List.mem_append_right _ (List.mem_append_right _ (List.mem_append_right _ (List.mem_append_left _ (List.mem_of_getElem? (i := 12) rfl)))))))
theorem bw_213 : Cond.methodLink RX 95 yX_needObject ∈ sr_big := (List.mem_append_right _ (List.mem_append_right _ (List.mem_append_right _ (List.mem_append_right _ (List.mem_append_right _ (List.mem_append_left _ (List.mem_of_getElem? (i := 13) rfl)))))))
theorem bw_214 : Cond.instanceMethod yX_needObject ∈ sr_big := (List.mem_append_right _ (List.mem_append_right _ (List.mem_append_right _ (List.mem_append_right _ (List.mem_append_right _ (List.mem_append_left _ (List.mem_of_getElem? (i := 14) rfl)))))))
theorem bw_215 : Cond.code yX_needObject bX_needObject 2 none ∈ sr_big := (List.mem_append_right _ (List.mem_append_right _ (List.mem_append_right _ (List.mem_append_right _ (List.mem_append_right _ (List.mem_append_left _ (List.mem_of_getElem? (i := 15) rfl)))))))
theorem bw_216 : Cond.methodLink RX 117 yX_isObject ∈ sr_big := (List.mem_append_right _ (List.mem_append_right _ (List.mem_append_right _ (List.mem_append_right _ (List.mem_append_right _ (List.mem_append_left _ (List.mem_of_getElem? (i := 16) rfl)))))))
theorem bw_217 : Cond.instanceMethod yX_isObject ∈ sr_big := (List.mem_append_right _ (List.mem_append_right _ (List.mem_append_right _ (List.mem_append_right _ (List.mem_append_right _ (List.mem_append_left _ (List.mem_of_getElem? (i := 17) rfl)))))))
theorem bw_218 : Cond.code yX_isObject bX_isObject 4 (some .boolean) ∈ sr_big := (List.mem_append_right _ (List.mem_append_right _ (List.mem_append_right _ (List.mem_append_right _ (List.mem_append_right _ (List.mem_append_left _ (List.mem_of_getElem? (i := 18) rfl)))))))
theorem bw_219 : Cond.classLink RX 112 "java/util/NoSuchElementException" ∈ sr_big := (List.mem_append_right _ (List.mem_append_right _ (List.mem_append_right _ (List.mem_append_right _ (List.mem_append_right _ (List.mem_append_left _ (List.mem_of_getElem? (i := 19) rfl)))))))
theorem bw_220 : Cond.instantiable "java/util/NoSuchElementException" 6 ∈ sr_big := (List.mem_append_right _ (List.mem_append_right _ (List.mem_append_right _ (List.mem_append_right _ (List.mem_append_right _ (List.mem_append_left _ (List.mem_of_getElem? (i := 20) rfl)))))))
theorem bw_221 : Cond.selects "java/util/NoSuchElementException" ⟨"java/lang/Throwable", "fillInStackTrace", "(I)Ljava/lang/Throwable;"⟩ ⟨"java/lang/Throwable", "fillInStackTrace", "(I)Ljava/lang/Throwable;"⟩ ∈ sr_big := (List.mem_append_right _ (List.mem_append_right _ (List.mem_append_right _ (List.mem_append_right _ (List.mem_append_right _ (List.mem_append_left _ (List.mem_of_getElem? (i := 21) rfl)))))))
theorem bw_222 : Cond.lays "java/util/NoSuchElementException" "java/lang/Throwable" "cause" "Ljava/lang/Throwable;" ∈ sr_big := (List.mem_append_right _ (List.mem_append_right _ (List.mem_append_right _ (List.mem_append_right _ (List.mem_append_right _ (List.mem_append_left _ (List.mem_of_getElem? (i := 22) rfl)))))))
theorem bw_223 : Cond.lays "java/util/NoSuchElementException" "java/lang/Throwable" "stackTrace" "[Ljava/lang/StackTraceElement;" ∈ sr_big := (List.mem_append_right _ (List.mem_append_right _ (List.mem_append_right _ (List.mem_append_right _ (List.mem_append_right _ (List.mem_append_left _ (List.mem_of_getElem? (i := 23) rfl)))))))
theorem bw_224 : Cond.lays "java/util/NoSuchElementException" "java/lang/Throwable" "suppressedExceptions" "Ljava/util/List;" ∈ sr_big := (List.mem_append_right _ (List.mem_append_right _ (List.mem_append_right _ (List.mem_append_right _ (List.mem_append_right _ (List.mem_append_left _ (List.mem_of_getElem? (i := 24) rfl)))))))
theorem bw_225 : Cond.lays "java/util/NoSuchElementException" "java/lang/Throwable" "detailMessage" "Ljava/lang/String;" ∈ sr_big := (List.mem_append_right _ (List.mem_append_right _ (List.mem_append_right _ (List.mem_append_right _ (List.mem_append_right _ (List.mem_append_left _ (List.mem_of_getElem? (i := 25) rfl)))))))
theorem bw_226 : Cond.lays "java/util/NoSuchElementException" "java/lang/Throwable" "backtrace" "Ljava/lang/Object;" ∈ sr_big := (List.mem_append_right _ (List.mem_append_right _ (List.mem_append_right _ (List.mem_append_right _ (List.mem_append_right _ (List.mem_append_left _ (List.mem_of_getElem? (i := 26) rfl)))))))
theorem bw_227 : Cond.methodLink RX 116 ⟨"java/util/NoSuchElementException", "<init>", "(Ljava/lang/String;)V"⟩ ∈ sr_big := (List.mem_append_right _ (List.mem_append_right _ (List.mem_append_right _ (List.mem_append_right _ (List.mem_append_right _ (List.mem_append_left _ (List.mem_of_getElem? (i := 27) rfl)))))))
theorem bw_228 : Cond.instanceMethod ⟨"java/util/NoSuchElementException", "<init>", "(Ljava/lang/String;)V"⟩ ∈ sr_big := (List.mem_append_right _ (List.mem_append_right _ (List.mem_append_right _ (List.mem_append_right _ (List.mem_append_right _ (List.mem_append_left _ (List.mem_of_getElem? (i := 28) rfl)))))))
theorem bw_229 : Cond.code ⟨"java/util/NoSuchElementException", "<init>", "(Ljava/lang/String;)V"⟩ prog_11_method_4_code 2 none ∈ sr_big := (List.mem_append_right _ (List.mem_append_right _ (List.mem_append_right _ (List.mem_append_right _ (List.mem_append_right _ (List.mem_append_left _ (List.mem_of_getElem? (i := 29) rfl)))))))
theorem bw_230 : Cond.methodLink "java/util/NoSuchElementException" 13 ⟨"java/lang/RuntimeException", "<init>", "(Ljava/lang/String;)V"⟩ ∈ sr_big := (List.mem_append_right _ (List.mem_append_right _ (List.mem_append_right _ (List.mem_append_right _ (List.mem_append_right _ (List.mem_append_left _ (List.mem_of_getElem? (i := 30) rfl)))))))
theorem bw_231 : Cond.lays "java/util/NoSuchElementException" "java/lang/Throwable" "depth" "I" ∈ sr_big := (List.mem_append_right _ (List.mem_append_right _ (List.mem_append_right _ (List.mem_append_right _ (List.mem_append_right _ (List.mem_append_left _ (List.mem_of_getElem? (i := 31) rfl)))))))
theorem bw_232 : Cond.methodLink RX 53 yX_needObjectOrNothing ∈ sr_big := (List.mem_append_right _ (List.mem_append_right _ (List.mem_append_right _ (List.mem_append_right _ (List.mem_append_right _ (List.mem_append_left _ (List.mem_of_getElem? (i := 32) rfl)))))))
theorem bw_233 : Cond.instanceMethod yX_needObjectOrNothing ∈ sr_big := (List.mem_append_right _ (List.mem_append_right _ (List.mem_append_right _ (List.mem_append_right _ (List.mem_append_right _ (List.mem_append_left _ (List.mem_of_getElem? (i := 33) rfl)))))))
theorem bw_234 : Cond.code yX_needObjectOrNothing bX_needObjectOrNothing 2 none ∈ sr_big := (List.mem_append_right _ (List.mem_append_right _ (List.mem_append_right _ (List.mem_append_right _ (List.mem_append_right _ (List.mem_append_left _ (List.mem_of_getElem? (i := 34) rfl)))))))
theorem bw_235 : Cond.methodLink RX 57 yX_replace ∈ sr_big := (List.mem_append_right _ (List.mem_append_right _ (List.mem_append_right _ (List.mem_append_right _ (List.mem_append_right _ (List.mem_append_left _ (List.mem_of_getElem? (i := 35) rfl)))))))
theorem bw_236 : Cond.instanceMethod yX_replace ∈ sr_big := (List.mem_append_right _ (List.mem_append_right _ (List.mem_append_right _ (List.mem_append_right _ (List.mem_append_right _ (List.mem_append_left _ (List.mem_of_getElem? (i := 36) rfl)))))))
theorem bw_237 : Cond.code yX_replace bX_replace 4 (some .int) ∈ sr_big := (List.mem_append_right _ (List.mem_append_right _ (List.mem_append_right _ (List.mem_append_right _ (List.mem_append_right _ (List.mem_append_left _ (List.mem_of_getElem? (i := 37) rfl)))))))
theorem bw_238 : Cond.methodLink RL 71 yL_get ∈ sr_big := (List.mem_append_right _ (List.mem_append_right _ (List.mem_append_right _ (List.mem_append_right _ (List.mem_append_right _ (List.mem_append_left _ (List.mem_of_getElem? (i := 38) rfl)))))))
theorem bw_239 : Cond.static yL_get ∈ sr_big := (List.mem_append_right _ (List.mem_append_right _ (List.mem_append_right _ (List.mem_append_right _ (List.mem_append_right _ (List.mem_append_left _ (List.mem_of_getElem? (i := 39) rfl)))))))
theorem bw_240 : Cond.codeWith yL_get bL_get 5 (some .int) [(0, 10, 13, 23)] ∈ sr_big := (List.mem_append_right _ (List.mem_append_right _ (List.mem_append_right _ (List.mem_append_right _ (List.mem_append_right _ (List.mem_append_right _ (List.mem_append_left _ (List.mem_of_getElem? (i := 0) rfl))))))))
theorem bw_241 : Cond.methodLink RL 25 yX_get ∈ sr_big := (List.mem_append_right _ (List.mem_append_right _ (List.mem_append_right _ (List.mem_append_right _ (List.mem_append_right _ (List.mem_append_right _ (List.mem_append_left _ (List.mem_of_getElem? (i := 1) rfl))))))))
theorem bw_242 : Cond.instanceMethod yX_get ∈ sr_big := (List.mem_append_right _ (List.mem_append_right _ (List.mem_append_right _ (List.mem_append_right _ (List.mem_append_right _ (List.mem_append_right _ (List.mem_append_left _ (List.mem_of_getElem? (i := 2) rfl))))))))
theorem bw_243 : Cond.selects RX yX_get yX_get ∈ sr_big := (List.mem_append_right _ (List.mem_append_right _ (List.mem_append_right _ (List.mem_append_right _ (List.mem_append_right _ (List.mem_append_right _ (List.mem_append_left _ (List.mem_of_getElem? (i := 3) rfl))))))))
theorem bw_244 : Cond.code yX_get bX_get 3 (some .int) ∈ sr_big := (List.mem_append_right _ (List.mem_append_right _ (List.mem_append_right _ (List.mem_append_right _ (List.mem_append_right _ (List.mem_append_right _ (List.mem_append_left _ (List.mem_of_getElem? (i := 4) rfl))))))))
theorem bw_245 : Cond.methodLink RL 74 yL_put ∈ sr_big := (List.mem_append_right _ (List.mem_append_right _ (List.mem_append_right _ (List.mem_append_right _ (List.mem_append_right _ (List.mem_append_right _ (List.mem_append_left _ (List.mem_of_getElem? (i := 5) rfl))))))))
theorem bw_246 : Cond.static yL_put ∈ sr_big := (List.mem_append_right _ (List.mem_append_right _ (List.mem_append_right _ (List.mem_append_right _ (List.mem_append_right _ (List.mem_append_right _ (List.mem_append_left _ (List.mem_of_getElem? (i := 6) rfl))))))))
theorem bw_247 : Cond.codeWith yL_put bL_put 6 (some .int) [(0, 12, 15, 23)] ∈ sr_big := (List.mem_append_right _ (List.mem_append_right _ (List.mem_append_right _ (List.mem_append_right _ (List.mem_append_right _ (List.mem_append_right _ (List.mem_append_left _ (List.mem_of_getElem? (i := 7) rfl))))))))
theorem bw_248 : Cond.methodLink RL 28 yX_put ∈ sr_big := (List.mem_append_right _ (List.mem_append_right _ (List.mem_append_right _ (List.mem_append_right _ (List.mem_append_right _ (List.mem_append_right _ (List.mem_append_left _ (List.mem_of_getElem? (i := 8) rfl))))))))
theorem bw_249 : Cond.instanceMethod yX_put ∈ sr_big := (List.mem_append_right _ (List.mem_append_right _ (List.mem_append_right _ (List.mem_append_right _ (List.mem_append_right _ (List.mem_append_right _ (List.mem_append_left _ (List.mem_of_getElem? (i := 9) rfl))))))))
theorem bw_250 : Cond.selects RX yX_put yX_put ∈ sr_big := (List.mem_append_right _ (List.mem_append_right _ (List.mem_append_right _ (List.mem_append_right _ (List.mem_append_right _ (List.mem_append_right _ (List.mem_append_left _ (List.mem_of_getElem? (i := 10) rfl))))))))
theorem bw_251 : Cond.code yX_put bX_put 4 (some .int) ∈ sr_big := (List.mem_append_right _ (List.mem_append_right _ (List.mem_append_right _ (List.mem_append_right _ (List.mem_append_right _ (List.mem_append_right _ (List.mem_append_left _ (List.mem_of_getElem? (i := 11) rfl))))))))
theorem bw_252 : Cond.methodLink RX 64 yX_wordCell ∈ sr_big := (List.mem_append_right _ (List.mem_append_right _ (List.mem_append_right _ (List.mem_append_right _ (List.mem_append_right _ (List.mem_append_right _ (List.mem_append_left _ (List.mem_of_getElem? (i := 12) rfl))))))))
theorem bw_253 : Cond.instanceMethod yX_wordCell ∈ sr_big := (List.mem_append_right _ (List.mem_append_right _ (List.mem_append_right _ (List.mem_append_right _ (List.mem_append_right _ (List.mem_append_right _ (List.mem_append_left _ (List.mem_of_getElem? (i := 13) rfl))))))))
theorem bw_254 : Cond.code yX_wordCell bX_wordCell 3 (some .int) ∈ sr_big := (List.mem_append_right _ (List.mem_append_right _ (List.mem_append_right _ (List.mem_append_right _ (List.mem_append_right _ (List.mem_append_right _ (List.mem_append_left _ (List.mem_of_getElem? (i := 14) rfl))))))))
theorem bw_255 : Cond.methodLink RX 127 yX_wordsOf ∈ sr_big := (List.mem_append_right _ (List.mem_append_right _ (List.mem_append_right _ (List.mem_append_right _ (List.mem_append_right _ (List.mem_append_right _ (List.mem_append_left _ (List.mem_of_getElem? (i := 15) rfl))))))))
theorem bw_256 : Cond.instanceMethod yX_wordsOf ∈ sr_big := (List.mem_append_right _ (List.mem_append_right _ (List.mem_append_right _ (List.mem_append_right _ (List.mem_append_right _ (List.mem_append_right _ (List.mem_append_left _ (List.mem_of_getElem? (i := 16) rfl))))))))
theorem bw_257 : Cond.code yX_wordsOf bX_wordsOf 2 (some .int) ∈ sr_big := (List.mem_append_right _ (List.mem_append_right _ (List.mem_append_right _ (List.mem_append_right _ (List.mem_append_right _ (List.mem_append_right _ (List.mem_append_left _ (List.mem_of_getElem? (i := 17) rfl))))))))
theorem bw_258 : Cond.methodLink RL 77 yL_word ∈ sr_big := (List.mem_append_right _ (List.mem_append_right _ (List.mem_append_right _ (List.mem_append_right _ (List.mem_append_right _ (List.mem_append_right _ (List.mem_append_left _ (List.mem_of_getElem? (i := 18) rfl))))))))
theorem bw_259 : Cond.static yL_word ∈ sr_big := (List.mem_append_right _ (List.mem_append_right _ (List.mem_append_right _ (List.mem_append_right _ (List.mem_append_right _ (List.mem_append_right _ (List.mem_append_left _ (List.mem_of_getElem? (i := 19) rfl))))))))
theorem bw_260 : Cond.codeWith yL_word bL_word 5 (some .int) [(0, 10, 13, 23)] ∈ sr_big := (List.mem_append_right _ (List.mem_append_right _ (List.mem_append_right _ (List.mem_append_right _ (List.mem_append_right _ (List.mem_append_right _ (List.mem_append_left _ (List.mem_of_getElem? (i := 20) rfl))))))))
theorem bw_261 : Cond.methodLink RL 31 yX_word ∈ sr_big := (List.mem_append_right _ (List.mem_append_right _ (List.mem_append_right _ (List.mem_append_right _ (List.mem_append_right _ (List.mem_append_right _ (List.mem_append_left _ (List.mem_of_getElem? (i := 21) rfl))))))))
theorem bw_262 : Cond.instanceMethod yX_word ∈ sr_big := (List.mem_append_right _ (List.mem_append_right _ (List.mem_append_right _ (List.mem_append_right _ (List.mem_append_right _ (List.mem_append_right _ (List.mem_append_left _ (List.mem_of_getElem? (i := 22) rfl))))))))
theorem bw_263 : Cond.selects RX yX_word yX_word ∈ sr_big := (List.mem_append_right _ (List.mem_append_right _ (List.mem_append_right _ (List.mem_append_right _ (List.mem_append_right _ (List.mem_append_right _ (List.mem_append_left _ (List.mem_of_getElem? (i := 23) rfl))))))))
theorem bw_264 : Cond.code yX_word bX_word 3 (some .int) ∈ sr_big := (List.mem_append_right _ (List.mem_append_right _ (List.mem_append_right _ (List.mem_append_right _ (List.mem_append_right _ (List.mem_append_right _ (List.mem_append_left _ (List.mem_of_getElem? (i := 24) rfl))))))))
theorem bw_265 : Cond.methodLink RL 80 yL_root ∈ sr_big := (List.mem_append_right _ (List.mem_append_right _ (List.mem_append_right _ (List.mem_append_right _ (List.mem_append_right _ (List.mem_append_right _ (List.mem_append_left _ (List.mem_of_getElem? (i := 25) rfl))))))))
theorem bw_266 : Cond.static yL_root ∈ sr_big := (List.mem_append_right _ (List.mem_append_right _ (List.mem_append_right _ (List.mem_append_right _ (List.mem_append_right _ (List.mem_append_right _ (List.mem_append_left _ (List.mem_of_getElem? (i := 26) rfl))))))))
theorem bw_267 : Cond.codeWith yL_root bL_root 5 (some .int) [(0, 10, 13, 23)] ∈ sr_big := (List.mem_append_right _ (List.mem_append_right _ (List.mem_append_right _ (List.mem_append_right _ (List.mem_append_right _ (List.mem_append_right _ (List.mem_append_left _ (List.mem_of_getElem? (i := 27) rfl))))))))
theorem bw_268 : Cond.methodLink RL 34 yX_root ∈ sr_big := (List.mem_append_right _ (List.mem_append_right _ (List.mem_append_right _ (List.mem_append_right _ (List.mem_append_right _ (List.mem_append_right _ (List.mem_append_left _ (List.mem_of_getElem? (i := 28) rfl))))))))
theorem bw_269 : Cond.instanceMethod yX_root ∈ sr_big := (List.mem_append_right _ (List.mem_append_right _ (List.mem_append_right _ (List.mem_append_right _ (List.mem_append_right _ (List.mem_append_right _ (List.mem_append_left _ (List.mem_of_getElem? (i := 29) rfl))))))))
theorem bw_270 : Cond.selects RX yX_root yX_root ∈ sr_big := (List.mem_append_right _ (List.mem_append_right _ (List.mem_append_right _ (List.mem_append_right _ (List.mem_append_right _ (List.mem_append_right _ (List.mem_append_left _ (List.mem_of_getElem? (i := 30) rfl))))))))
theorem bw_271 : Cond.code yX_root bX_root 4 (some .int) ∈ sr_big := (List.mem_append_right _ (List.mem_append_right _ (List.mem_append_right _ (List.mem_append_right _ (List.mem_append_right _ (List.mem_append_right _ (List.mem_append_left _ (List.mem_of_getElem? (i := 31) rfl))))))))
theorem bw_272 : Cond.methodLink RX 67 yX_needRoot ∈ sr_big := (List.mem_append_right _ (List.mem_append_right _ (List.mem_append_right _ (List.mem_append_right _ (List.mem_append_right _ (List.mem_append_right _ (List.mem_append_left _ (List.mem_of_getElem? (i := 32) rfl))))))))
theorem bw_273 : Cond.instanceMethod yX_needRoot ∈ sr_big := (List.mem_append_right _ (List.mem_append_right _ (List.mem_append_right _ (List.mem_append_right _ (List.mem_append_right _ (List.mem_append_right _ (List.mem_append_left _ (List.mem_of_getElem? (i := 33) rfl))))))))
theorem bw_274 : Cond.code yX_needRoot bX_needRoot 2 none ∈ sr_big := (List.mem_append_right _ (List.mem_append_right _ (List.mem_append_right _ (List.mem_append_right _ (List.mem_append_right _ (List.mem_append_right _ (List.mem_append_left _ (List.mem_of_getElem? (i := 34) rfl))))))))
theorem bw_275 : Cond.methodLink RL 83 yL_rooted ∈ sr_big := (List.mem_append_right _ (List.mem_append_right _ (List.mem_append_right _ (List.mem_append_right _ (List.mem_append_right _ (List.mem_append_right _ (List.mem_append_left _ (List.mem_of_getElem? (i := 35) rfl))))))))
theorem bw_276 : Cond.static yL_rooted ∈ sr_big := (List.mem_append_right _ (List.mem_append_right _ (List.mem_append_right _ (List.mem_append_right _ (List.mem_append_right _ (List.mem_append_right _ (List.mem_append_left _ (List.mem_of_getElem? (i := 36) rfl))))))))
theorem bw_277 : Cond.codeWith yL_rooted bL_rooted 4 (some .int) [(0, 9, 12, 23)] ∈ sr_big := (List.mem_append_right _ (List.mem_append_right _ (List.mem_append_right _ (List.mem_append_right _ (List.mem_append_right _ (List.mem_append_right _ (List.mem_append_left _ (List.mem_of_getElem? (i := 37) rfl))))))))
theorem bw_278 : Cond.methodLink RL 37 yX_rooted ∈ sr_big := (List.mem_append_right _ (List.mem_append_right _ (List.mem_append_right _ (List.mem_append_right _ (List.mem_append_right _ (List.mem_append_right _ (List.mem_append_left _ (List.mem_of_getElem? (i := 38) rfl))))))))
theorem bw_279 : Cond.instanceMethod yX_rooted ∈ sr_big := (List.mem_append_right _ (List.mem_append_right _ (List.mem_append_right _ (List.mem_append_right _ (List.mem_append_right _ (List.mem_append_right _ (List.mem_append_left _ (List.mem_of_getElem? (i := 39) rfl))))))))
theorem bw_280 : Cond.selects RX yX_rooted yX_rooted ∈ sr_big := (List.mem_append_right _ (List.mem_append_right _ (List.mem_append_right _ (List.mem_append_right _ (List.mem_append_right _ (List.mem_append_right _ (List.mem_append_right _ (List.mem_append_left _ (List.mem_of_getElem? (i := 0) rfl)))))))))
theorem bw_281 : Cond.code yX_rooted bX_rooted 2 (some .int) ∈ sr_big := (List.mem_append_right _ (List.mem_append_right _ (List.mem_append_right _ (List.mem_append_right _ (List.mem_append_right _ (List.mem_append_right _ (List.mem_append_right _ (List.mem_append_left _ (List.mem_of_getElem? (i := 1) rfl)))))))))
theorem bw_282 : Cond.methodLink RL 90 yL_number ∈ sr_big := (List.mem_append_right _ (List.mem_append_right _ (List.mem_append_right _ (List.mem_append_right _ (List.mem_append_right _ (List.mem_append_right _ (List.mem_append_right _ (List.mem_append_left _ (List.mem_of_getElem? (i := 2) rfl)))))))))
theorem bw_283 : Cond.static yL_number ∈ sr_big := (List.mem_append_right _ (List.mem_append_right _ (List.mem_append_right _ (List.mem_append_right _ (List.mem_append_right _ (List.mem_append_right _ (List.mem_append_right _ (List.mem_append_left _ (List.mem_of_getElem? (i := 3) rfl)))))))))
theorem bw_284 : Cond.codeWith yL_number bL_number 4 (some .int) [(0, 9, 12, 23)] ∈ sr_big := (List.mem_append_right _ (List.mem_append_right _ (List.mem_append_right _ (List.mem_append_right _ (List.mem_append_right _ (List.mem_append_right _ (List.mem_append_right _ (List.mem_append_left _ (List.mem_of_getElem? (i := 4) rfl)))))))))
theorem bw_285 : Cond.methodLink RL 40 yX_number ∈ sr_big := (List.mem_append_right _ (List.mem_append_right _ (List.mem_append_right _ (List.mem_append_right _ (List.mem_append_right _ (List.mem_append_right _ (List.mem_append_right _ (List.mem_append_left _ (List.mem_of_getElem? (i := 5) rfl)))))))))
theorem bw_286 : Cond.instanceMethod yX_number ∈ sr_big := (List.mem_append_right _ (List.mem_append_right _ (List.mem_append_right _ (List.mem_append_right _ (List.mem_append_right _ (List.mem_append_right _ (List.mem_append_right _ (List.mem_append_left _ (List.mem_of_getElem? (i := 6) rfl)))))))))
theorem bw_287 : Cond.selects RX yX_number yX_number ∈ sr_big := (List.mem_append_right _ (List.mem_append_right _ (List.mem_append_right _ (List.mem_append_right _ (List.mem_append_right _ (List.mem_append_right _ (List.mem_append_right _ (List.mem_append_left _ (List.mem_of_getElem? (i := 7) rfl)))))))))
theorem bw_288 : Cond.code yX_number bX_number 2 (some .int) ∈ sr_big := (List.mem_append_right _ (List.mem_append_right _ (List.mem_append_right _ (List.mem_append_right _ (List.mem_append_right _ (List.mem_append_right _ (List.mem_append_right _ (List.mem_append_left _ (List.mem_of_getElem? (i := 8) rfl)))))))))
theorem bw_289 : Cond.methodLink RL 97 yL_next ∈ sr_big := (List.mem_append_right _ (List.mem_append_right _ (List.mem_append_right _ (List.mem_append_right _ (List.mem_append_right _ (List.mem_append_right _ (List.mem_append_right _ (List.mem_append_left _ (List.mem_of_getElem? (i := 9) rfl)))))))))
theorem bw_290 : Cond.static yL_next ∈ sr_big := (List.mem_append_right _ (List.mem_append_right _ (List.mem_append_right _ (List.mem_append_right _ (List.mem_append_right _ (List.mem_append_right _ (List.mem_append_right _ (List.mem_append_left _ (List.mem_of_getElem? (i := 10) rfl)))))))))
theorem bw_291 : Cond.codeWith yL_next bL_next 4 (some .int) [(0, 9, 12, 23)] ∈ sr_big := (List.mem_append_right _ (List.mem_append_right _ (List.mem_append_right _ (List.mem_append_right _ (List.mem_append_right _ (List.mem_append_right _ (List.mem_append_right _ (List.mem_append_left _ (List.mem_of_getElem? (i := 11) rfl)))))))))
theorem bw_292 : Cond.methodLink RL 43 yX_next ∈ sr_big := (List.mem_append_right _ (List.mem_append_right _ (List.mem_append_right _ (List.mem_append_right _ (List.mem_append_right _ (List.mem_append_right _ (List.mem_append_right _ (List.mem_append_left _ (List.mem_of_getElem? (i := 12) rfl)))))))))
theorem bw_293 : Cond.instanceMethod yX_next ∈ sr_big := (List.mem_append_right _ (List.mem_append_right _ (List.mem_append_right _ (List.mem_append_right _ (List.mem_append_right _ (List.mem_append_right _ (List.mem_append_right _ (List.mem_append_left _ (List.mem_of_getElem? (i := 13) rfl)))))))))
theorem bw_294 : Cond.selects RX yX_next yX_next ∈ sr_big := (List.mem_append_right _ (List.mem_append_right _ (List.mem_append_right _ (List.mem_append_right _ (List.mem_append_right _ (List.mem_append_right _ (List.mem_append_right _ (List.mem_append_left _ (List.mem_of_getElem? (i := 14) rfl)))))))))
theorem bw_295 : Cond.code yX_next bX_next 3 (some .int) ∈ sr_big := (List.mem_append_right _ (List.mem_append_right _ (List.mem_append_right _ (List.mem_append_right _ (List.mem_append_right _ (List.mem_append_right _ (List.mem_append_right _ (List.mem_append_left _ (List.mem_of_getElem? (i := 15) rfl)))))))))
theorem bw_296 : Cond.methodLink RL 100 yL_count ∈ sr_big := (List.mem_append_right _ (List.mem_append_right _ (List.mem_append_right _ (List.mem_append_right _ (List.mem_append_right _ (List.mem_append_right _ (List.mem_append_right _ (List.mem_append_left _ (List.mem_of_getElem? (i := 16) rfl)))))))))
theorem bw_297 : Cond.static yL_count ∈ sr_big := (List.mem_append_right _ (List.mem_append_right _ (List.mem_append_right _ (List.mem_append_right _ (List.mem_append_right _ (List.mem_append_right _ (List.mem_append_right _ (List.mem_append_left _ (List.mem_of_getElem? (i := 17) rfl)))))))))
theorem bw_298 : Cond.codeWith yL_count bL_count 4 (some .int) [(0, 9, 12, 13)] ∈ sr_big := (List.mem_append_right _ (List.mem_append_right _ (List.mem_append_right _ (List.mem_append_right _ (List.mem_append_right _ (List.mem_append_right _ (List.mem_append_right _ (List.mem_append_left _ (List.mem_of_getElem? (i := 18) rfl)))))))))
theorem bw_299 : Cond.methodLink RL 46 yX_count ∈ sr_big := (List.mem_append_right _ (List.mem_append_right _ (List.mem_append_right _ (List.mem_append_right _ (List.mem_append_right _ (List.mem_append_right _ (List.mem_append_right _ (List.mem_append_left _ (List.mem_of_getElem? (i := 19) rfl)))))))))
theorem bw_300 : Cond.instanceMethod yX_count ∈ sr_big := (List.mem_append_right _ (List.mem_append_right _ (List.mem_append_right _ (List.mem_append_right _ (List.mem_append_right _ (List.mem_append_right _ (List.mem_append_right _ (List.mem_append_left _ (List.mem_of_getElem? (i := 20) rfl)))))))))
theorem bw_301 : Cond.selects RX yX_count yX_count ∈ sr_big := (List.mem_append_right _ (List.mem_append_right _ (List.mem_append_right _ (List.mem_append_right _ (List.mem_append_right _ (List.mem_append_right _ (List.mem_append_right _ (List.mem_append_left _ (List.mem_of_getElem? (i := 21) rfl)))))))))
theorem bw_302 : Cond.code yX_count bX_count 2 (some .int) ∈ sr_big := (List.mem_append_right _ (List.mem_append_right _ (List.mem_append_right _ (List.mem_append_right _ (List.mem_append_right _ (List.mem_append_right _ (List.mem_append_right _ (List.mem_append_left _ (List.mem_of_getElem? (i := 22) rfl)))))))))
theorem bw_303 : Cond.classLink RL 50 "SlideRowModel" ∈ sr_big := (List.mem_append_right _ (List.mem_append_right _ (List.mem_append_right _ (List.mem_append_right _ (List.mem_append_right _ (List.mem_append_right _ (List.mem_append_right _ (List.mem_append_left _ (List.mem_of_getElem? (i := 23) rfl)))))))))
theorem bw_304 : Cond.instantiable RM 13 ∈ sr_big := (List.mem_append_right _ (List.mem_append_right _ (List.mem_append_right _ (List.mem_append_right _ (List.mem_append_right _ (List.mem_append_right _ (List.mem_append_right _ (List.mem_append_left _ (List.mem_of_getElem? (i := 24) rfl)))))))))
theorem bw_305 : Cond.methodLink RL 52 yM_init ∈ sr_big := (List.mem_append_right _ (List.mem_append_right _ (List.mem_append_right _ (List.mem_append_right _ (List.mem_append_right _ (List.mem_append_right _ (List.mem_append_right _ (List.mem_append_left _ (List.mem_of_getElem? (i := 25) rfl)))))))))
theorem bw_306 : Cond.instanceMethod yM_init ∈ sr_big := (List.mem_append_right _ (List.mem_append_right _ (List.mem_append_right _ (List.mem_append_right _ (List.mem_append_right _ (List.mem_append_right _ (List.mem_append_right _ (List.mem_append_left _ (List.mem_of_getElem? (i := 26) rfl)))))))))
theorem bw_307 : Cond.code yM_init bM_init 1 none ∈ sr_big := (List.mem_append_right _ (List.mem_append_right _ (List.mem_append_right _ (List.mem_append_right _ (List.mem_append_right _ (List.mem_append_right _ (List.mem_append_right _ (List.mem_append_left _ (List.mem_of_getElem? (i := 27) rfl)))))))))
theorem bw_308 : Cond.methodLink RM 1 ⟨"java/lang/Object", "<init>", "()V"⟩ ∈ sr_big := (List.mem_append_right _ (List.mem_append_right _ (List.mem_append_right _ (List.mem_append_right _ (List.mem_append_right _ (List.mem_append_right _ (List.mem_append_right _ (List.mem_append_left _ (List.mem_of_getElem? (i := 28) rfl)))))))))
theorem bw_309 : Cond.fieldLink RM 39 "SlideRowModel" "thrown" "I" ∈ sr_big := (List.mem_append_right _ (List.mem_append_right _ (List.mem_append_right _ (List.mem_append_right _ (List.mem_append_right _ (List.mem_append_right _ (List.mem_append_right _ (List.mem_append_left _ (List.mem_of_getElem? (i := 29) rfl)))))))))
theorem bw_310 : Cond.fieldLink RM 7 "SlideRowModel" "cells" "I" ∈ sr_big := (List.mem_append_right _ (List.mem_append_right _ (List.mem_append_right _ (List.mem_append_right _ (List.mem_append_right _ (List.mem_append_right _ (List.mem_append_right _ (List.mem_append_left _ (List.mem_of_getElem? (i := 30) rfl)))))))))
theorem bw_311 : Cond.fieldLink RM 13 "SlideRowModel" "top" "I" ∈ sr_big := (List.mem_append_right _ (List.mem_append_right _ (List.mem_append_right _ (List.mem_append_right _ (List.mem_append_right _ (List.mem_append_right _ (List.mem_append_right _ (List.mem_append_left _ (List.mem_of_getElem? (i := 31) rfl)))))))))
theorem bw_312 : Cond.fieldLink RM 16 "SlideRowModel" "fields" "[I" ∈ sr_big := (List.mem_append_right _ (List.mem_append_right _ (List.mem_append_right _ (List.mem_append_right _ (List.mem_append_right _ (List.mem_append_right _ (List.mem_append_right _ (List.mem_append_left _ (List.mem_of_getElem? (i := 32) rfl)))))))))
theorem bw_313 : Cond.fieldLink RM 20 "SlideRowModel" "words" "[I" ∈ sr_big := (List.mem_append_right _ (List.mem_append_right _ (List.mem_append_right _ (List.mem_append_right _ (List.mem_append_right _ (List.mem_append_right _ (List.mem_append_right _ (List.mem_append_left _ (List.mem_of_getElem? (i := 33) rfl)))))))))
theorem bw_314 : Cond.fieldLink RM 23 "SlideRowModel" "numbers" "[I" ∈ sr_big := (List.mem_append_right _ (List.mem_append_right _ (List.mem_append_right _ (List.mem_append_right _ (List.mem_append_right _ (List.mem_append_right _ (List.mem_append_right _ (List.mem_append_left _ (List.mem_of_getElem? (i := 34) rfl)))))))))
theorem bw_315 : Cond.fieldLink RM 26 "SlideRowModel" "targets" "[I" ∈ sr_big := (List.mem_append_right _ (List.mem_append_right _ (List.mem_append_right _ (List.mem_append_right _ (List.mem_append_right _ (List.mem_append_right _ (List.mem_append_right _ (List.mem_append_left _ (List.mem_of_getElem? (i := 35) rfl)))))))))
theorem bw_316 : Cond.fieldLink RM 29 "SlideRowModel" "reached" "[Z" ∈ sr_big := (List.mem_append_right _ (List.mem_append_right _ (List.mem_append_right _ (List.mem_append_right _ (List.mem_append_right _ (List.mem_append_right _ (List.mem_append_right _ (List.mem_append_left _ (List.mem_of_getElem? (i := 36) rfl)))))))))
theorem bw_317 : Cond.fieldLink RM 33 "SlideRowModel" "data" "[I" ∈ sr_big := (List.mem_append_right _ (List.mem_append_right _ (List.mem_append_right _ (List.mem_append_right _ (List.mem_append_right _ (List.mem_append_right _ (List.mem_append_right _ (List.mem_append_left _ (List.mem_of_getElem? (i := 37) rfl)))))))))
theorem bw_318 : Cond.fieldLink RM 36 "SlideRowModel" "roots" "[I" ∈ sr_big := (List.mem_append_right _ (List.mem_append_right _ (List.mem_append_right _ (List.mem_append_right _ (List.mem_append_right _ (List.mem_append_right _ (List.mem_append_right _ (List.mem_append_left _ (List.mem_of_getElem? (i := 38) rfl)))))))))
theorem bw_319 : Cond.fieldLink RM 46 "SlideRowModel" "slides" "I" ∈ sr_big := (List.mem_append_right _ (List.mem_append_right _ (List.mem_append_right _ (List.mem_append_right _ (List.mem_append_right _ (List.mem_append_right _ (List.mem_append_right _ (List.mem_append_left _ (List.mem_of_getElem? (i := 39) rfl)))))))))
theorem bw_320 : Cond.fieldLink RM 49 "SlideRowModel" "gone" "I" ∈ sr_big := (List.mem_append_right _ (List.mem_append_right _ (List.mem_append_right _ (List.mem_append_right _ (List.mem_append_right _ (List.mem_append_right _ (List.mem_append_right _ (List.mem_append_right _ (List.mem_append_left _ (List.mem_of_getElem? (i := 0) rfl))))))))))
theorem bw_321 : Cond.fieldLink RM 52 "SlideRowModel" "given" "I" ∈ sr_big := (List.mem_append_right _ (List.mem_append_right _ (List.mem_append_right _ (List.mem_append_right _ (List.mem_append_right _ (List.mem_append_right _ (List.mem_append_right _ (List.mem_append_right _ (List.mem_append_left _ (List.mem_of_getElem? (i := 1) rfl))))))))))
theorem bw_322 : Cond.lays RM "SlideRowModel" "thrown" "I" ∈ sr_big := (List.mem_append_right _ (List.mem_append_right _ (List.mem_append_right _ (List.mem_append_right _ (List.mem_append_right _ (List.mem_append_right _ (List.mem_append_right _ (List.mem_append_right _ (List.mem_append_left _ (List.mem_of_getElem? (i := 2) rfl))))))))))
theorem bw_323 : Cond.lays RM "SlideRowModel" "cells" "I" ∈ sr_big := (List.mem_append_right _ (List.mem_append_right _ (List.mem_append_right _ (List.mem_append_right _ (List.mem_append_right _ (List.mem_append_right _ (List.mem_append_right _ (List.mem_append_right _ (List.mem_append_left _ (List.mem_of_getElem? (i := 3) rfl))))))))))
theorem bw_324 : Cond.lays RM "SlideRowModel" "top" "I" ∈ sr_big := (List.mem_append_right _ (List.mem_append_right _ (List.mem_append_right _ (List.mem_append_right _ (List.mem_append_right _ (List.mem_append_right _ (List.mem_append_right _ (List.mem_append_right _ (List.mem_append_left _ (List.mem_of_getElem? (i := 4) rfl))))))))))
theorem bw_325 : Cond.laysFinal RM "SlideRowModel" "fields" "[I" ∈ sr_big := (List.mem_append_right _ (List.mem_append_right _ (List.mem_append_right _ (List.mem_append_right _ (List.mem_append_right _ (List.mem_append_right _ (List.mem_append_right _ (List.mem_append_right _ (List.mem_append_left _ (List.mem_of_getElem? (i := 5) rfl))))))))))
theorem bw_326 : Cond.laysFinal RM "SlideRowModel" "words" "[I" ∈ sr_big := (List.mem_append_right _ (List.mem_append_right _ (List.mem_append_right _ (List.mem_append_right _ (List.mem_append_right _ (List.mem_append_right _ (List.mem_append_right _ (List.mem_append_right _ (List.mem_append_left _ (List.mem_of_getElem? (i := 6) rfl))))))))))
theorem bw_327 : Cond.laysFinal RM "SlideRowModel" "numbers" "[I" ∈ sr_big := (List.mem_append_right _ (List.mem_append_right _ (List.mem_append_right _ (List.mem_append_right _ (List.mem_append_right _ (List.mem_append_right _ (List.mem_append_right _ (List.mem_append_right _ (List.mem_append_left _ (List.mem_of_getElem? (i := 7) rfl))))))))))
theorem bw_328 : Cond.laysFinal RM "SlideRowModel" "targets" "[I" ∈ sr_big := (List.mem_append_right _ (List.mem_append_right _ (List.mem_append_right _ (List.mem_append_right _ (List.mem_append_right _ (List.mem_append_right _ (List.mem_append_right _ (List.mem_append_right _ (List.mem_append_left _ (List.mem_of_getElem? (i := 8) rfl))))))))))
theorem bw_329 : Cond.laysFinal RM "SlideRowModel" "reached" "[Z" ∈ sr_big := (List.mem_append_right _ (List.mem_append_right _ (List.mem_append_right _ (List.mem_append_right _ (List.mem_append_right _ (List.mem_append_right _ (List.mem_append_right _ (List.mem_append_right _ (List.mem_append_left _ (List.mem_of_getElem? (i := 9) rfl))))))))))
theorem bw_330 : Cond.laysFinal RM "SlideRowModel" "data" "[I" ∈ sr_big := (List.mem_append_right _ (List.mem_append_right _ (List.mem_append_right _ (List.mem_append_right _ (List.mem_append_right _ (List.mem_append_right _ (List.mem_append_right _ (List.mem_append_right _ (List.mem_append_left _ (List.mem_of_getElem? (i := 10) rfl))))))))))
theorem bw_331 : Cond.laysFinal RM "SlideRowModel" "roots" "[I" ∈ sr_big := (List.mem_append_right _ (List.mem_append_right _ (List.mem_append_right _ (List.mem_append_right _ (List.mem_append_right _ (List.mem_append_right _ (List.mem_append_right _ (List.mem_append_right _ (List.mem_append_left _ (List.mem_of_getElem? (i := 11) rfl))))))))))
theorem bw_332 : Cond.lays RM "SlideRowModel" "slides" "I" ∈ sr_big := (List.mem_append_right _ (List.mem_append_right _ (List.mem_append_right _ (List.mem_append_right _ (List.mem_append_right _ (List.mem_append_right _ (List.mem_append_right _ (List.mem_append_right _ (List.mem_append_left _ (List.mem_of_getElem? (i := 12) rfl))))))))))
theorem bw_333 : Cond.lays RM "SlideRowModel" "gone" "I" ∈ sr_big := (List.mem_append_right _ (List.mem_append_right _ (List.mem_append_right _ (List.mem_append_right _ (List.mem_append_right _ (List.mem_append_right _ (List.mem_append_right _ (List.mem_append_right _ (List.mem_append_left _ (List.mem_of_getElem? (i := 13) rfl))))))))))
theorem bw_334 : Cond.lays RM "SlideRowModel" "given" "I" ∈ sr_big := (List.mem_append_right _ (List.mem_append_right _ (List.mem_append_right _ (List.mem_append_right _ (List.mem_append_right _ (List.mem_append_right _ (List.mem_append_right _ (List.mem_append_right _ (List.mem_append_left _ (List.mem_of_getElem? (i := 14) rfl))))))))))
theorem bw_335 : Cond.arrayClass .boolean ∈ sr_big := (List.mem_append_right _ (List.mem_append_right _ (List.mem_append_right _ (List.mem_append_right _ (List.mem_append_right _ (List.mem_append_right _ (List.mem_append_right _ (List.mem_append_right _ (List.mem_append_left _ (List.mem_of_getElem? (i := 15) rfl))))))))))
theorem bw_336 : Cond.methodLink RL 59 yM_thrown ∈ sr_big := (List.mem_append_right _ (List.mem_append_right _ (List.mem_append_right _ (List.mem_append_right _ (List.mem_append_right _ (List.mem_append_right _ (List.mem_append_right _ (List.mem_append_right _ (List.mem_append_left _ (List.mem_of_getElem? (i := 16) rfl))))))))))
theorem bw_337 : Cond.instanceMethod yM_thrown ∈ sr_big := (List.mem_append_right _ (List.mem_append_right _ (List.mem_append_right _ (List.mem_append_right _ (List.mem_append_right _ (List.mem_append_right _ (List.mem_append_right _ (List.mem_append_right _ (List.mem_append_left _ (List.mem_of_getElem? (i := 17) rfl))))))))))
theorem bw_338 : Cond.selects RM yM_thrown yM_thrown ∈ sr_big := (List.mem_append_right _ (List.mem_append_right _ (List.mem_append_right _ (List.mem_append_right _ (List.mem_append_right _ (List.mem_append_right _ (List.mem_append_right _ (List.mem_append_right _ (List.mem_append_left _ (List.mem_of_getElem? (i := 18) rfl))))))))))
theorem bw_339 : Cond.code yM_thrown bM_thrown 1 (some .int) ∈ sr_big := (List.mem_append_right _ (List.mem_append_right _ (List.mem_append_right _ (List.mem_append_right _ (List.mem_append_right _ (List.mem_append_right _ (List.mem_append_right _ (List.mem_append_right _ (List.mem_append_left _ (List.mem_of_getElem? (i := 19) rfl))))))))))
theorem bw_340 : Cond.methodLink RL 58 yM_space ∈ sr_big := (List.mem_append_right _ (List.mem_append_right _ (List.mem_append_right _ (List.mem_append_right _ (List.mem_append_right _ (List.mem_append_right _ (List.mem_append_right _ (List.mem_append_right _ (List.mem_append_left _ (List.mem_of_getElem? (i := 20) rfl))))))))))
theorem bw_341 : Cond.instanceMethod yM_space ∈ sr_big := (List.mem_append_right _ (List.mem_append_right _ (List.mem_append_right _ (List.mem_append_right _ (List.mem_append_right _ (List.mem_append_right _ (List.mem_append_right _ (List.mem_append_right _ (List.mem_append_left _ (List.mem_of_getElem? (i := 21) rfl))))))))))
theorem bw_342 : Cond.selects RM yM_space yM_space ∈ sr_big := (List.mem_append_right _ (List.mem_append_right _ (List.mem_append_right _ (List.mem_append_right _ (List.mem_append_right _ (List.mem_append_right _ (List.mem_append_right _ (List.mem_append_right _ (List.mem_append_left _ (List.mem_of_getElem? (i := 22) rfl))))))))))
theorem bw_343 : Cond.code yM_space bM_space 4 (some .int) ∈ sr_big := (List.mem_append_right _ (List.mem_append_right _ (List.mem_append_right _ (List.mem_append_right _ (List.mem_append_right _ (List.mem_append_right _ (List.mem_append_right _ (List.mem_append_right _ (List.mem_append_left _ (List.mem_of_getElem? (i := 23) rfl))))))))))
theorem bw_344 : Cond.methodLink RM 42 yM_goes ∈ sr_big := (List.mem_append_right _ (List.mem_append_right _ (List.mem_append_right _ (List.mem_append_right _ (List.mem_append_right _ (List.mem_append_right _ (List.mem_append_right _ (List.mem_append_right _ (List.mem_append_left _ (List.mem_of_getElem? (i := 24) rfl))))))))))
theorem bw_345 : Cond.instanceMethod yM_goes ∈ sr_big := (List.mem_append_right _ (List.mem_append_right _ (List.mem_append_right _ (List.mem_append_right _ (List.mem_append_right _ (List.mem_append_right _ (List.mem_append_right _ (List.mem_append_right _ (List.mem_append_left _ (List.mem_of_getElem? (i := 25) rfl))))))))))
theorem bw_346 : Cond.code yM_goes bM_goes 2 (some .boolean) ∈ sr_big := (List.mem_append_right _ (List.mem_append_right _ (List.mem_append_right _ (List.mem_append_right _ (List.mem_append_right _ (List.mem_append_right _ (List.mem_append_right _ (List.mem_append_right _ (List.mem_append_left _ (List.mem_of_getElem? (i := 26) rfl))))))))))
theorem bw_347 : Cond.methodLink RL 66 yM_make ∈ sr_big := (List.mem_append_right _ (List.mem_append_right _ (List.mem_append_right _ (List.mem_append_right _ (List.mem_append_right _ (List.mem_append_right _ (List.mem_append_right _ (List.mem_append_right _ (List.mem_append_left _ (List.mem_of_getElem? (i := 27) rfl))))))))))
theorem bw_348 : Cond.instanceMethod yM_make ∈ sr_big := (List.mem_append_right _ (List.mem_append_right _ (List.mem_append_right _ (List.mem_append_right _ (List.mem_append_right _ (List.mem_append_right _ (List.mem_append_right _ (List.mem_append_right _ (List.mem_append_left _ (List.mem_of_getElem? (i := 28) rfl))))))))))
theorem bw_349 : Cond.selects RM yM_make yM_make ∈ sr_big := (List.mem_append_right _ (List.mem_append_right _ (List.mem_append_right _ (List.mem_append_right _ (List.mem_append_right _ (List.mem_append_right _ (List.mem_append_right _ (List.mem_append_right _ (List.mem_append_left _ (List.mem_of_getElem? (i := 29) rfl))))))))))
theorem bw_350 : Cond.code yM_make bM_make 6 (some .int) ∈ sr_big := (List.mem_append_right _ (List.mem_append_right _ (List.mem_append_right _ (List.mem_append_right _ (List.mem_append_right _ (List.mem_append_right _ (List.mem_append_right _ (List.mem_append_right _ (List.mem_append_left _ (List.mem_of_getElem? (i := 30) rfl))))))))))
theorem bw_351 : Cond.methodLink RL 70 yM_set ∈ sr_big := (List.mem_append_right _ (List.mem_append_right _ (List.mem_append_right _ (List.mem_append_right _ (List.mem_append_right _ (List.mem_append_right _ (List.mem_append_right _ (List.mem_append_right _ (List.mem_append_left _ (List.mem_of_getElem? (i := 31) rfl))))))))))
theorem bw_352 : Cond.instanceMethod yM_set ∈ sr_big := (List.mem_append_right _ (List.mem_append_right _ (List.mem_append_right _ (List.mem_append_right _ (List.mem_append_right _ (List.mem_append_right _ (List.mem_append_right _ (List.mem_append_right _ (List.mem_append_left _ (List.mem_of_getElem? (i := 32) rfl))))))))))
theorem bw_353 : Cond.selects RM yM_set yM_set ∈ sr_big := (List.mem_append_right _ (List.mem_append_right _ (List.mem_append_right _ (List.mem_append_right _ (List.mem_append_right _ (List.mem_append_right _ (List.mem_append_right _ (List.mem_append_right _ (List.mem_append_left _ (List.mem_of_getElem? (i := 33) rfl))))))))))
theorem bw_354 : Cond.code yM_set bM_set 5 (some .int) ∈ sr_big := (List.mem_append_right _ (List.mem_append_right _ (List.mem_append_right _ (List.mem_append_right _ (List.mem_append_right _ (List.mem_append_right _ (List.mem_append_right _ (List.mem_append_right _ (List.mem_append_left _ (List.mem_of_getElem? (i := 34) rfl))))))))))
theorem bw_355 : Cond.methodLink RM 59 yM_isField ∈ sr_big := (List.mem_append_right _ (List.mem_append_right _ (List.mem_append_right _ (List.mem_append_right _ (List.mem_append_right _ (List.mem_append_right _ (List.mem_append_right _ (List.mem_append_right _ (List.mem_append_left _ (List.mem_of_getElem? (i := 35) rfl))))))))))
theorem bw_356 : Cond.instanceMethod yM_isField ∈ sr_big := (List.mem_append_right _ (List.mem_append_right _ (List.mem_append_right _ (List.mem_append_right _ (List.mem_append_right _ (List.mem_append_right _ (List.mem_append_right _ (List.mem_append_right _ (List.mem_append_left _ (List.mem_of_getElem? (i := 36) rfl))))))))))
theorem bw_357 : Cond.code yM_isField bM_isField 3 (some .boolean) ∈ sr_big := (List.mem_append_right _ (List.mem_append_right _ (List.mem_append_right _ (List.mem_append_right _ (List.mem_append_right _ (List.mem_append_right _ (List.mem_append_right _ (List.mem_append_right _ (List.mem_append_left _ (List.mem_of_getElem? (i := 37) rfl))))))))))
theorem bw_358 : Cond.methodLink RM 55 yM_isObject ∈ sr_big := (List.mem_append_right _ (List.mem_append_right _ (List.mem_append_right _ (List.mem_append_right _ (List.mem_append_right _ (List.mem_append_right _ (List.mem_append_right _ (List.mem_append_right _ (List.mem_append_left _ (List.mem_of_getElem? (i := 38) rfl))))))))))
theorem bw_359 : Cond.instanceMethod yM_isObject ∈ sr_big := (List.mem_append_right _ (List.mem_append_right _ (List.mem_append_right _ (List.mem_append_right _ (List.mem_append_right _ (List.mem_append_right _ (List.mem_append_right _ (List.mem_append_right _ (List.mem_append_left _ (List.mem_of_getElem? (i := 39) rfl))))))))))
theorem bw_360 : Cond.code yM_isObject bM_isObject 2 (some .boolean) ∈ sr_big := (List.mem_append_right _ (List.mem_append_right _ (List.mem_append_right _ (List.mem_append_right _ (List.mem_append_right _ (List.mem_append_right _ (List.mem_append_right _ (List.mem_append_right _ (List.mem_append_right _ (List.mem_append_left _ (List.mem_of_getElem? (i := 0) rfl)))))))))))
theorem bw_361 : Cond.methodLink RL 73 yM_get ∈ sr_big := (List.mem_append_right _ (List.mem_append_right _ (List.mem_append_right _ (List.mem_append_right _ (List.mem_append_right _ (List.mem_append_right _ (List.mem_append_right _ (List.mem_append_right _ (List.mem_append_right _ (List.mem_append_left _ (List.mem_of_getElem? (i := 1) rfl)))))))))))
theorem bw_362 : Cond.instanceMethod yM_get ∈ sr_big := (List.mem_append_right _ (List.mem_append_right _ (List.mem_append_right _ (List.mem_append_right _ (List.mem_append_right _ (List.mem_append_right _ (List.mem_append_right _ (List.mem_append_right _ (List.mem_append_right _ (List.mem_append_left _ (List.mem_of_getElem? (i := 2) rfl)))))))))))
theorem bw_363 : Cond.selects RM yM_get yM_get ∈ sr_big := (List.mem_append_right _ (List.mem_append_right _ (List.mem_append_right _ (List.mem_append_right _ (List.mem_append_right _ (List.mem_append_right _ (List.mem_append_right _ (List.mem_append_right _ (List.mem_append_right _ (List.mem_append_left _ (List.mem_of_getElem? (i := 3) rfl)))))))))))
theorem bw_364 : Cond.code yM_get bM_get 3 (some .int) ∈ sr_big := (List.mem_append_right _ (List.mem_append_right _ (List.mem_append_right _ (List.mem_append_right _ (List.mem_append_right _ (List.mem_append_right _ (List.mem_append_right _ (List.mem_append_right _ (List.mem_append_right _ (List.mem_append_left _ (List.mem_of_getElem? (i := 4) rfl)))))))))))
theorem bw_365 : Cond.methodLink RL 76 yM_put ∈ sr_big := (List.mem_append_right _ (List.mem_append_right _ (List.mem_append_right _ (List.mem_append_right _ (List.mem_append_right _ (List.mem_append_right _ (List.mem_append_right _ (List.mem_append_right _ (List.mem_append_right _ (List.mem_append_left _ (List.mem_of_getElem? (i := 5) rfl)))))))))))
theorem bw_366 : Cond.instanceMethod yM_put ∈ sr_big := (List.mem_append_right _ (List.mem_append_right _ (List.mem_append_right _ (List.mem_append_right _ (List.mem_append_right _ (List.mem_append_right _ (List.mem_append_right _ (List.mem_append_right _ (List.mem_append_right _ (List.mem_append_left _ (List.mem_of_getElem? (i := 6) rfl)))))))))))
theorem bw_367 : Cond.selects RM yM_put yM_put ∈ sr_big := (List.mem_append_right _ (List.mem_append_right _ (List.mem_append_right _ (List.mem_append_right _ (List.mem_append_right _ (List.mem_append_right _ (List.mem_append_right _ (List.mem_append_right _ (List.mem_append_right _ (List.mem_append_left _ (List.mem_of_getElem? (i := 7) rfl)))))))))))
theorem bw_368 : Cond.code yM_put bM_put 6 (some .int) ∈ sr_big := (List.mem_append_right _ (List.mem_append_right _ (List.mem_append_right _ (List.mem_append_right _ (List.mem_append_right _ (List.mem_append_right _ (List.mem_append_right _ (List.mem_append_right _ (List.mem_append_right _ (List.mem_append_left _ (List.mem_of_getElem? (i := 8) rfl)))))))))))
theorem bw_369 : Cond.methodLink RM 63 yM_isWord ∈ sr_big := (List.mem_append_right _ (List.mem_append_right _ (List.mem_append_right _ (List.mem_append_right _ (List.mem_append_right _ (List.mem_append_right _ (List.mem_append_right _ (List.mem_append_right _ (List.mem_append_right _ (List.mem_append_left _ (List.mem_of_getElem? (i := 9) rfl)))))))))))
theorem bw_370 : Cond.instanceMethod yM_isWord ∈ sr_big := (List.mem_append_right _ (List.mem_append_right _ (List.mem_append_right _ (List.mem_append_right _ (List.mem_append_right _ (List.mem_append_right _ (List.mem_append_right _ (List.mem_append_right _ (List.mem_append_right _ (List.mem_append_left _ (List.mem_of_getElem? (i := 10) rfl)))))))))))
theorem bw_371 : Cond.code yM_isWord bM_isWord 3 (some .boolean) ∈ sr_big := (List.mem_append_right _ (List.mem_append_right _ (List.mem_append_right _ (List.mem_append_right _ (List.mem_append_right _ (List.mem_append_right _ (List.mem_append_right _ (List.mem_append_right _ (List.mem_append_right _ (List.mem_append_left _ (List.mem_of_getElem? (i := 11) rfl)))))))))))
theorem bw_372 : Cond.methodLink RL 79 yM_word ∈ sr_big := (List.mem_append_right _ (List.mem_append_right _ (List.mem_append_right _ (List.mem_append_right _ (List.mem_append_right _ (List.mem_append_right _ (List.mem_append_right _ (List.mem_append_right _ (List.mem_append_right _ (List.mem_append_left _ (List.mem_of_getElem? (i := 12) rfl)))))))))))
theorem bw_373 : Cond.instanceMethod yM_word ∈ sr_big := (List.mem_append_right _ (List.mem_append_right _ (List.mem_append_right _ (List.mem_append_right _ (List.mem_append_right _ (List.mem_append_right _ (List.mem_append_right _ (List.mem_append_right _ (List.mem_append_right _ (List.mem_append_left _ (List.mem_of_getElem? (i := 13) rfl)))))))))))
theorem bw_374 : Cond.selects RM yM_word yM_word ∈ sr_big := (List.mem_append_right _ (List.mem_append_right _ (List.mem_append_right _ (List.mem_append_right _ (List.mem_append_right _ (List.mem_append_right _ (List.mem_append_right _ (List.mem_append_right _ (List.mem_append_right _ (List.mem_append_left _ (List.mem_of_getElem? (i := 14) rfl)))))))))))
theorem bw_375 : Cond.code yM_word bM_word 3 (some .int) ∈ sr_big := (List.mem_append_right _ (List.mem_append_right _ (List.mem_append_right _ (List.mem_append_right _ (List.mem_append_right _ (List.mem_append_right _ (List.mem_append_right _ (List.mem_append_right _ (List.mem_append_right _ (List.mem_append_left _ (List.mem_of_getElem? (i := 15) rfl)))))))))))
theorem bw_376 : Cond.methodLink RL 82 yM_root ∈ sr_big := (List.mem_append_right _ (List.mem_append_right _ (List.mem_append_right _ (List.mem_append_right _ (List.mem_append_right _ (List.mem_append_right _ (List.mem_append_right _ (List.mem_append_right _ (List.mem_append_right _ (List.mem_append_left _ (List.mem_of_getElem? (i := 16) rfl)))))))))))
theorem bw_377 : Cond.instanceMethod yM_root ∈ sr_big := (List.mem_append_right _ (List.mem_append_right _ (List.mem_append_right _ (List.mem_append_right _ (List.mem_append_right _ (List.mem_append_right _ (List.mem_append_right _ (List.mem_append_right _ (List.mem_append_right _ (List.mem_append_left _ (List.mem_of_getElem? (i := 17) rfl)))))))))))
theorem bw_378 : Cond.selects RM yM_root yM_root ∈ sr_big := (List.mem_append_right _ (List.mem_append_right _ (List.mem_append_right _ (List.mem_append_right _ (List.mem_append_right _ (List.mem_append_right _ (List.mem_append_right _ (List.mem_append_right _ (List.mem_append_right _ (List.mem_append_left _ (List.mem_of_getElem? (i := 18) rfl)))))))))))
theorem bw_379 : Cond.code yM_root bM_root 4 (some .int) ∈ sr_big := (List.mem_append_right _ (List.mem_append_right _ (List.mem_append_right _ (List.mem_append_right _ (List.mem_append_right _ (List.mem_append_right _ (List.mem_append_right _ (List.mem_append_right _ (List.mem_append_right _ (List.mem_append_left _ (List.mem_of_getElem? (i := 19) rfl)))))))))))
theorem bw_380 : Cond.methodLink RM 66 yM_isRoot ∈ sr_big := (List.mem_append_right _ (List.mem_append_right _ (List.mem_append_right _ (List.mem_append_right _ (List.mem_append_right _ (List.mem_append_right _ (List.mem_append_right _ (List.mem_append_right _ (List.mem_append_right _ (List.mem_append_left _ (List.mem_of_getElem? (i := 20) rfl)))))))))))
theorem bw_381 : Cond.static yM_isRoot ∈ sr_big := (List.mem_append_right _ (List.mem_append_right _ (List.mem_append_right _ (List.mem_append_right _ (List.mem_append_right _ (List.mem_append_right _ (List.mem_append_right _ (List.mem_append_right _ (List.mem_append_right _ (List.mem_append_left _ (List.mem_of_getElem? (i := 21) rfl)))))))))))
theorem bw_382 : Cond.code yM_isRoot bM_isRoot 1 (some .boolean) ∈ sr_big := (List.mem_append_right _ (List.mem_append_right _ (List.mem_append_right _ (List.mem_append_right _ (List.mem_append_right _ (List.mem_append_right _ (List.mem_append_right _ (List.mem_append_right _ (List.mem_append_right _ (List.mem_append_left _ (List.mem_of_getElem? (i := 22) rfl)))))))))))
theorem bw_383 : Cond.methodLink RL 85 yM_rooted ∈ sr_big := (List.mem_append_right _ (List.mem_append_right _ (List.mem_append_right _ (List.mem_append_right _ (List.mem_append_right _ (List.mem_append_right _ (List.mem_append_right _ (List.mem_append_right _ (List.mem_append_right _ (List.mem_append_left _ (List.mem_of_getElem? (i := 23) rfl)))))))))))
theorem bw_384 : Cond.instanceMethod yM_rooted ∈ sr_big := (List.mem_append_right _ (List.mem_append_right _ (List.mem_append_right _ (List.mem_append_right _ (List.mem_append_right _ (List.mem_append_right _ (List.mem_append_right _ (List.mem_append_right _ (List.mem_append_right _ (List.mem_append_left _ (List.mem_of_getElem? (i := 24) rfl)))))))))))
theorem bw_385 : Cond.selects RM yM_rooted yM_rooted ∈ sr_big := (List.mem_append_right _ (List.mem_append_right _ (List.mem_append_right _ (List.mem_append_right _ (List.mem_append_right _ (List.mem_append_right _ (List.mem_append_right _ (List.mem_append_right _ (List.mem_append_right _ (List.mem_append_left _ (List.mem_of_getElem? (i := 25) rfl)))))))))))
theorem bw_386 : Cond.code yM_rooted bM_rooted 2 (some .int) ∈ sr_big := (List.mem_append_right _ (List.mem_append_right _ (List.mem_append_right _ (List.mem_append_right _ (List.mem_append_right _ (List.mem_append_right _ (List.mem_append_right _ (List.mem_append_right _ (List.mem_append_right _ (List.mem_append_left _ (List.mem_of_getElem? (i := 26) rfl)))))))))))
theorem bw_387 : Cond.methodLink RL 89 yM_slide ∈ sr_big := (List.mem_append_right _ (List.mem_append_right _ (List.mem_append_right _ (List.mem_append_right _ (List.mem_append_right _ (List.mem_append_right _ (List.mem_append_right _ (List.mem_append_right _ (List.mem_append_right _ (List.mem_append_left _ (List.mem_of_getElem? (i := 27) rfl)))))))))))
theorem bw_388 : Cond.instanceMethod yM_slide ∈ sr_big := (List.mem_append_right _ (List.mem_append_right _ (List.mem_append_right _ (List.mem_append_right _ (List.mem_append_right _ (List.mem_append_right _ (List.mem_append_right _ (List.mem_append_right _ (List.mem_append_right _ (List.mem_append_left _ (List.mem_of_getElem? (i := 28) rfl)))))))))))
theorem bw_389 : Cond.selects RM yM_slide yM_slide ∈ sr_big := (List.mem_append_right _ (List.mem_append_right _ (List.mem_append_right _ (List.mem_append_right _ (List.mem_append_right _ (List.mem_append_right _ (List.mem_append_right _ (List.mem_append_right _ (List.mem_append_right _ (List.mem_append_left _ (List.mem_of_getElem? (i := 29) rfl)))))))))))
theorem bw_390 : Cond.code yM_slide bM_slide 6 (some .int) ∈ sr_big := (List.mem_append_right _ (List.mem_append_right _ (List.mem_append_right _ (List.mem_append_right _ (List.mem_append_right _ (List.mem_append_right _ (List.mem_append_right _ (List.mem_append_right _ (List.mem_append_right _ (List.mem_append_left _ (List.mem_of_getElem? (i := 30) rfl)))))))))))
theorem bw_391 : Cond.methodLink RM 73 yM_reach ∈ sr_big := (List.mem_append_right _ (List.mem_append_right _ (List.mem_append_right _ (List.mem_append_right _ (List.mem_append_right _ (List.mem_append_right _ (List.mem_append_right _ (List.mem_append_right _ (List.mem_append_right _ (List.mem_append_left _ (List.mem_of_getElem? (i := 31) rfl)))))))))))
theorem bw_392 : Cond.instanceMethod yM_reach ∈ sr_big := (List.mem_append_right _ (List.mem_append_right _ (List.mem_append_right _ (List.mem_append_right _ (List.mem_append_right _ (List.mem_append_right _ (List.mem_append_right _ (List.mem_append_right _ (List.mem_append_right _ (List.mem_append_left _ (List.mem_of_getElem? (i := 32) rfl)))))))))))
theorem bw_393 : Cond.code yM_reach bM_reach 6 (some .int) ∈ sr_big := (List.mem_append_right _ (List.mem_append_right _ (List.mem_append_right _ (List.mem_append_right _ (List.mem_append_right _ (List.mem_append_right _ (List.mem_append_right _ (List.mem_append_right _ (List.mem_append_right _ (List.mem_append_left _ (List.mem_of_getElem? (i := 33) rfl)))))))))))
theorem bw_394 : Cond.methodLink RM 69 yM_size ∈ sr_big := (List.mem_append_right _ (List.mem_append_right _ (List.mem_append_right _ (List.mem_append_right _ (List.mem_append_right _ (List.mem_append_right _ (List.mem_append_right _ (List.mem_append_right _ (List.mem_append_right _ (List.mem_append_left _ (List.mem_of_getElem? (i := 34) rfl)))))))))))
theorem bw_395 : Cond.instanceMethod yM_size ∈ sr_big := (List.mem_append_right _ (List.mem_append_right _ (List.mem_append_right _ (List.mem_append_right _ (List.mem_append_right _ (List.mem_append_right _ (List.mem_append_right _ (List.mem_append_right _ (List.mem_append_right _ (List.mem_append_left _ (List.mem_of_getElem? (i := 35) rfl)))))))))))
theorem bw_396 : Cond.code yM_size bM_size 2 (some .int) ∈ sr_big := (List.mem_append_right _ (List.mem_append_right _ (List.mem_append_right _ (List.mem_append_right _ (List.mem_append_right _ (List.mem_append_right _ (List.mem_append_right _ (List.mem_append_right _ (List.mem_append_right _ (List.mem_append_left _ (List.mem_of_getElem? (i := 36) rfl)))))))))))
theorem bw_397 : Cond.methodLink RM 77 yM_objects ∈ sr_big := (List.mem_append_right _ (List.mem_append_right _ (List.mem_append_right _ (List.mem_append_right _ (List.mem_append_right _ (List.mem_append_right _ (List.mem_append_right _ (List.mem_append_right _ (List.mem_append_right _ (List.mem_append_left _ (List.mem_of_getElem? (i := 37) rfl)))))))))))
theorem bw_398 : Cond.instanceMethod yM_objects ∈ sr_big := (List.mem_append_right _ (List.mem_append_right _ (List.mem_append_right _ (List.mem_append_right _ (List.mem_append_right _ (List.mem_append_right _ (List.mem_append_right _ (List.mem_append_right _ (List.mem_append_right _ (List.mem_append_left _ (List.mem_of_getElem? (i := 38) rfl)))))))))))
theorem bw_399 : Cond.code yM_objects bM_objects 3 (some .int) ∈ sr_big := (List.mem_append_right _ (List.mem_append_right _ (List.mem_append_right _ (List.mem_append_right _ (List.mem_append_right _ (List.mem_append_right _ (List.mem_append_right _ (List.mem_append_right _ (List.mem_append_right _ (List.mem_append_left _ (List.mem_of_getElem? (i := 39) rfl)))))))))))
theorem bw_400 : Cond.methodLink RM 80 yM_bring ∈ sr_big := (List.mem_append_right _ (List.mem_append_right _ (List.mem_append_right _ (List.mem_append_right _ (List.mem_append_right _ (List.mem_append_right _ (List.mem_append_right _ (List.mem_append_right _ (List.mem_append_right _ (List.mem_append_right _ (List.mem_of_getElem? (i := 0) rfl)))))))))))
theorem bw_401 : Cond.instanceMethod yM_bring ∈ sr_big := (List.mem_append_right _ (List.mem_append_right _ (List.mem_append_right _ (List.mem_append_right _ (List.mem_append_right _ (List.mem_append_right _ (List.mem_append_right _ (List.mem_append_right _ (List.mem_append_right _ (List.mem_append_right _ (List.mem_of_getElem? (i := 1) rfl)))))))))))
theorem bw_402 : Cond.code yM_bring bM_bring 8 none ∈ sr_big := (List.mem_append_right _ (List.mem_append_right _ (List.mem_append_right _ (List.mem_append_right _ (List.mem_append_right _ (List.mem_append_right _ (List.mem_append_right _ (List.mem_append_right _ (List.mem_append_right _ (List.mem_append_right _ (List.mem_of_getElem? (i := 2) rfl)))))))))))
theorem bw_403 : Cond.methodLink RL 92 yM_number ∈ sr_big := (List.mem_append_right _ (List.mem_append_right _ (List.mem_append_right _ (List.mem_append_right _ (List.mem_append_right _ (List.mem_append_right _ (List.mem_append_right _ (List.mem_append_right _ (List.mem_append_right _ (List.mem_append_right _ (List.mem_of_getElem? (i := 3) rfl)))))))))))
theorem bw_404 : Cond.instanceMethod yM_number ∈ sr_big := (List.mem_append_right _ (List.mem_append_right _ (List.mem_append_right _ (List.mem_append_right _ (List.mem_append_right _ (List.mem_append_right _ (List.mem_append_right _ (List.mem_append_right _ (List.mem_append_right _ (List.mem_append_right _ (List.mem_of_getElem? (i := 4) rfl)))))))))))
theorem bw_405 : Cond.selects RM yM_number yM_number ∈ sr_big := (List.mem_append_right _ (List.mem_append_right _ (List.mem_append_right _ (List.mem_append_right _ (List.mem_append_right _ (List.mem_append_right _ (List.mem_append_right _ (List.mem_append_right _ (List.mem_append_right _ (List.mem_append_right _ (List.mem_of_getElem? (i := 5) rfl)))))))))))
theorem bw_406 : Cond.code yM_number bM_number 2 (some .int) ∈ sr_big := (List.mem_append_right _ (List.mem_append_right _ (List.mem_append_right _ (List.mem_append_right _ (List.mem_append_right _ (List.mem_append_right _ (List.mem_append_right _ (List.mem_append_right _ (List.mem_append_right _ (List.mem_append_right _ (List.mem_of_getElem? (i := 6) rfl)))))))))))
theorem bw_407 : Cond.methodLink RL 96 yM_find ∈ sr_big := (List.mem_append_right _ (List.mem_append_right _ (List.mem_append_right _ (List.mem_append_right _ (List.mem_append_right _ (List.mem_append_right _ (List.mem_append_right _ (List.mem_append_right _ (List.mem_append_right _ (List.mem_append_right _ (List.mem_of_getElem? (i := 7) rfl)))))))))))
theorem bw_408 : Cond.instanceMethod yM_find ∈ sr_big := (List.mem_append_right _ (List.mem_append_right _ (List.mem_append_right _ (List.mem_append_right _ (List.mem_append_right _ (List.mem_append_right _ (List.mem_append_right _ (List.mem_append_right _ (List.mem_append_right _ (List.mem_append_right _ (List.mem_of_getElem? (i := 8) rfl)))))))))))
theorem bw_409 : Cond.selects RM yM_find yM_find ∈ sr_big := (List.mem_append_right _ (List.mem_append_right _ (List.mem_append_right _ (List.mem_append_right _ (List.mem_append_right _ (List.mem_append_right _ (List.mem_append_right _ (List.mem_append_right _ (List.mem_append_right _ (List.mem_append_right _ (List.mem_of_getElem? (i := 9) rfl)))))))))))
theorem bw_410 : Cond.code yM_find bM_find 3 (some .int) ∈ sr_big := (List.mem_append_right _ (List.mem_append_right _ (List.mem_append_right _ (List.mem_append_right _ (List.mem_append_right _ (List.mem_append_right _ (List.mem_append_right _ (List.mem_append_right _ (List.mem_append_right _ (List.mem_append_right _ (List.mem_of_getElem? (i := 10) rfl)))))))))))
theorem bw_411 : Cond.methodLink RL 99 yM_next ∈ sr_big := (List.mem_append_right _ (List.mem_append_right _ (List.mem_append_right _ (List.mem_append_right _ (List.mem_append_right _ (List.mem_append_right _ (List.mem_append_right _ (List.mem_append_right _ (List.mem_append_right _ (List.mem_append_right _ (List.mem_of_getElem? (i := 11) rfl)))))))))))
theorem bw_412 : Cond.instanceMethod yM_next ∈ sr_big := (List.mem_append_right _ (List.mem_append_right _ (List.mem_append_right _ (List.mem_append_right _ (List.mem_append_right _ (List.mem_append_right _ (List.mem_append_right _ (List.mem_append_right _ (List.mem_append_right _ (List.mem_append_right _ (List.mem_of_getElem? (i := 12) rfl)))))))))))
theorem bw_413 : Cond.selects RM yM_next yM_next ∈ sr_big := (List.mem_append_right _ (List.mem_append_right _ (List.mem_append_right _ (List.mem_append_right _ (List.mem_append_right _ (List.mem_append_right _ (List.mem_append_right _ (List.mem_append_right _ (List.mem_append_right _ (List.mem_append_right _ (List.mem_of_getElem? (i := 13) rfl)))))))))))
theorem bw_414 : Cond.code yM_next bM_next 3 (some .int) ∈ sr_big := (List.mem_append_right _ (List.mem_append_right _ (List.mem_append_right _ (List.mem_append_right _ (List.mem_append_right _ (List.mem_append_right _ (List.mem_append_right _ (List.mem_append_right _ (List.mem_append_right _ (List.mem_append_right _ (List.mem_of_getElem? (i := 14) rfl)))))))))))
theorem bw_415 : Cond.methodLink RL 102 yM_count ∈ sr_big := (List.mem_append_right _ (List.mem_append_right _ (List.mem_append_right _ (List.mem_append_right _ (List.mem_append_right _ (List.mem_append_right _ (List.mem_append_right _ (List.mem_append_right _ (List.mem_append_right _ (List.mem_append_right _ (List.mem_of_getElem? (i := 15) rfl)))))))))))
theorem bw_416 : Cond.instanceMethod yM_count ∈ sr_big := (List.mem_append_right _ (List.mem_append_right _ (List.mem_append_right _ (List.mem_append_right _ (List.mem_append_right _ (List.mem_append_right _ (List.mem_append_right _ (List.mem_append_right _ (List.mem_append_right _ (List.mem_append_right _ (List.mem_of_getElem? (i := 16) rfl)))))))))))
theorem bw_417 : Cond.selects RM yM_count yM_count ∈ sr_big := (List.mem_append_right _ (List.mem_append_right _ (List.mem_append_right _ (List.mem_append_right _ (List.mem_append_right _ (List.mem_append_right _ (List.mem_append_right _ (List.mem_append_right _ (List.mem_append_right _ (List.mem_append_right _ (List.mem_of_getElem? (i := 17) rfl)))))))))))
theorem bw_418 : Cond.code yM_count bM_count 2 (some .int) ∈ sr_big := (List.mem_append_right _ (List.mem_append_right _ (List.mem_append_right _ (List.mem_append_right _ (List.mem_append_right _ (List.mem_append_right _ (List.mem_append_right _ (List.mem_append_right _ (List.mem_append_right _ (List.mem_append_right _ (List.mem_of_getElem? (i := 18) rfl)))))))))))
theorem bw_419 : Cond.arrayClass .long ∈ sr_big := (List.mem_append_right _ (List.mem_append_right _ (List.mem_append_right _ (List.mem_append_right _ (List.mem_append_right _ (List.mem_append_right _ (List.mem_append_right _ (List.mem_append_right _ (List.mem_append_right _ (List.mem_append_right _ (List.mem_of_getElem? (i := 19) rfl)))))))))))
theorem bg_0 : sr_big_0.all goodWord = true := by decide +kernel
theorem bg_1 : sr_big_1.all goodWord = true := by decide +kernel
theorem bg_2 : sr_big_2.all goodWord = true := by decide +kernel
theorem bg_3 : sr_big_3.all goodWord = true := by decide +kernel
theorem bg_4 : sr_big_4.all goodWord = true := by decide +kernel
theorem bg_5 : sr_big_5.all goodWord = true := by decide +kernel
theorem bg_6 : sr_big_6.all goodWord = true := by decide +kernel
theorem bg_7 : sr_big_7.all goodWord = true := by decide +kernel
theorem bg_8 : sr_big_8.all goodWord = true := by decide +kernel
theorem bg_9 : sr_big_9.all goodWord = true := by decide +kernel
theorem bg_10 : sr_big_10.all goodWord = true := by decide +kernel
theorem bg_all : sr_big.all goodWord = true := by
  unfold sr_big
  simp only [List.all_append, bg_0, bg_1, bg_2, bg_3, bg_4, bg_5, bg_6, bg_7, bg_8, bg_9, bg_10, Bool.and_self]
theorem bg_self : GoodIn sr_big sr_big := goodIn_sub (fun _ h => h) bg_all
theorem bg_of {w : Cond} (h : w ∈ sr_big) : w ∈ sr_big ∧ ((w.onTables && w.keeps) = true ∨ ∃ ty, w = .arrayClass ty) := bg_self w h
theorem bg_V {own C : String} {idx : Nat} {y : MethodName} {c : Cond} (h1 : Cond.methodLink own idx y ∈ sr_big) (h2 : Cond.instanceMethod y ∈ sr_big) (h3 : Cond.selects C y y ∈ sr_big) (h4 : Cond.initialized C ∈ sr_big) (h5 : c ∈ sr_big) : GoodIn sr_big (wsV own idx C y (c :: sr_big)) := by
  intro w hw
  unfold wsV at hw
  simp only [List.cons_append, List.nil_append, List.mem_cons] at hw
  rcases hw with rfl | rfl | rfl | rfl | rfl | h
  · exact bg_of h1
  · exact bg_of h2
  · exact bg_of h3
  · exact bg_of h4
  · exact bg_of h5
  · exact bg_of h
theorem bg_S {own : String} {idx : Nat} {y : MethodName} {c : Cond} (h1 : Cond.methodLink own idx y ∈ sr_big) (h2 : Cond.static y ∈ sr_big) (h3 : Cond.initialized own ∈ sr_big) (h5 : c ∈ sr_big) : GoodIn sr_big (wsS own idx y (c :: sr_big)) := by
  intro w hw
  unfold wsS at hw
  simp only [List.cons_append, List.nil_append, List.mem_cons] at hw
  rcases hw with rfl | rfl | rfl | rfl | h
  · exact bg_of h1
  · exact bg_of h2
  · exact bg_of h3
  · exact bg_of h5
  · exact bg_of h
theorem bg_SS {own : String} {idx : Nat} {y : MethodName} {c : Cond} (h1 : Cond.methodLink own idx y ∈ sr_big) (h2 : Cond.static y ∈ sr_big) (h3 : Cond.initialized y.cls ∈ sr_big) (h5 : c ∈ sr_big) : GoodIn sr_big (va_wsS own idx y (c :: sr_big)) := by
  intro w hw
  unfold va_wsS at hw
  simp only [List.cons_append, List.nil_append, List.mem_cons] at hw
  rcases hw with rfl | rfl | rfl | rfl | h
  · exact bg_of h1
  · exact bg_of h2
  · exact bg_of h3
  · exact bg_of h5
  · exact bg_of h
theorem bg_c {c : Cond} (h5 : c ∈ sr_big) : GoodIn sr_big (c :: sr_big) := by
  intro w hw
  rcases List.mem_cons.mp hw with rfl | h
  · exact bg_of h5
  · exact bg_of h
theorem bg_X : ∀ w ∈ u_ws RX TX 11, w ∈ sr_big := by decide +kernel
theorem bg_M : ∀ w ∈ u_ws RM TM 13, w ∈ sr_big := by decide +kernel
set_option maxRecDepth 20000 in
theorem bt_0 : ∀ w ∈ sr_big_0, w ∈ lw_tbl := by decide +kernel
set_option maxRecDepth 20000 in
theorem bt_1 : ∀ w ∈ sr_big_1, w ∈ lw_tbl := by decide +kernel
set_option maxRecDepth 20000 in
theorem bt_2 : ∀ w ∈ sr_big_2, w ∈ lw_tbl := by decide +kernel
set_option maxRecDepth 20000 in
theorem bt_3 : ∀ w ∈ sr_big_3, w ∈ lw_tbl := by decide +kernel
set_option maxRecDepth 20000 in
theorem bt_4 : ∀ w ∈ sr_big_4, w ∈ lw_tbl := by decide +kernel
set_option maxRecDepth 20000 in
theorem bt_5 : ∀ w ∈ sr_big_5, w ∈ lw_tbl := by decide +kernel
set_option maxRecDepth 20000 in
theorem bt_6 : ∀ w ∈ sr_big_6, w ∈ lw_tbl := by decide +kernel
set_option maxRecDepth 20000 in
theorem bt_7 : ∀ w ∈ sr_big_7, w ∈ lw_tbl := by decide +kernel
set_option maxRecDepth 20000 in
theorem bt_8 : ∀ w ∈ sr_big_8, w ∈ lw_tbl := by decide +kernel
set_option maxRecDepth 20000 in
theorem bt_9 : ∀ w ∈ sr_big_9, w ∈ lw_tbl := by decide +kernel
set_option maxRecDepth 20000 in
theorem bt_10 : ∀ w ∈ sr_big_10, w ∈ lw_tbl := by decide +kernel
theorem bt_all : ∀ w ∈ sr_big, w ∈ lw_tbl := by
  unfold sr_big
  exact List.forall_mem_append.mpr ⟨bt_0, List.forall_mem_append.mpr ⟨bt_1, List.forall_mem_append.mpr ⟨bt_2, List.forall_mem_append.mpr ⟨bt_3, List.forall_mem_append.mpr ⟨bt_4, List.forall_mem_append.mpr ⟨bt_5, List.forall_mem_append.mpr ⟨bt_6, List.forall_mem_append.mpr ⟨bt_7, List.forall_mem_append.mpr ⟨bt_8, List.forall_mem_append.mpr ⟨bt_9, bt_10⟩⟩⟩⟩⟩⟩⟩⟩⟩⟩
