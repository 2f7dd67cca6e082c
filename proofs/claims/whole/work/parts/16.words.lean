/-! The words, and the small checks of the tables -/
/-- private methods of a class above the receiver's -/
def xt_selP : List Cond := [.selects "java/lang/StringBuilder" ⟨"java/lang/AbstractStringBuilder", "ensureCapacityInternal", "(I)V"⟩ ⟨"java/lang/AbstractStringBuilder", "ensureCapacityInternal", "(I)V"⟩, .selects "java/lang/StringBuilder" ⟨"java/lang/AbstractStringBuilder", "inflate", "()V"⟩ ⟨"java/lang/AbstractStringBuilder", "inflate", "()V"⟩, .selects "java/lang/StringBuilder" ⟨"java/lang/AbstractStringBuilder", "newCapacity", "(I)I"⟩ ⟨"java/lang/AbstractStringBuilder", "newCapacity", "(I)I"⟩]
def xt_W : List Cond := (lw_tbl ++ xt_selP).filter goodWord
def xt_TY : List FieldType := [.int, .char, .byte, .boolean, .long, .object "ContractDesk$Interaction", .object "ContractDesk$Mismatch", .object "ContractDesk$Rule", .object "java/lang/Object"]
def xt_NW : List Cond := [.castable "ContractDesk$Value" "ContractDesk$Value", .castable "ContractDesk$Matcher" "ContractDesk$Matcher", .castable "java/lang/String" "java/lang/String", .methodLinkNest "ContractDesk$Interaction" 29 ⟨"ContractDesk$Value", "areEqual", "(LContractDesk$Value;LContractDesk$Value;I)Z"⟩ "ContractDesk", .methodLinkNest "ContractDesk$Matcher" 70 ⟨"ContractDesk$Value", "areEqual", "(LContractDesk$Value;LContractDesk$Value;I)Z"⟩ "ContractDesk", .castable "[B" "java/lang/Cloneable", .declares ⟨"java/lang/Object", "getClass", "()Ljava/lang/Class;"⟩]
theorem xt_in1 (i : Nat) {w : Cond} (h : tables_1_1[i]? = some w) (hg : goodWord w = true) : w ∈ xt_W := List.mem_filter.mpr ⟨List.mem_append_left _ (List.mem_append_right _ (show w ∈ tables_1 from (List.mem_append_left _ (List.mem_of_getElem? h)))), hg⟩
theorem xt_in2 (i : Nat) {w : Cond} (h : tables_1_2[i]? = some w) (hg : goodWord w = true) : w ∈ xt_W := List.mem_filter.mpr ⟨List.mem_append_left _ (List.mem_append_right _ (show w ∈ tables_1 from (List.mem_append_right _ (List.mem_append_left _ (List.mem_of_getElem? h))))), hg⟩
theorem xt_in3 (i : Nat) {w : Cond} (h : tables_1_3[i]? = some w) (hg : goodWord w = true) : w ∈ xt_W := List.mem_filter.mpr ⟨List.mem_append_left _ (List.mem_append_right _ (show w ∈ tables_1 from (List.mem_append_right _ (List.mem_append_right _ (List.mem_append_left _ (List.mem_of_getElem? h)))))), hg⟩
theorem xt_in4 (i : Nat) {w : Cond} (h : tables_1_4[i]? = some w) (hg : goodWord w = true) : w ∈ xt_W := List.mem_filter.mpr ⟨List.mem_append_left _ (List.mem_append_right _ (show w ∈ tables_1 from (List.mem_append_right _ (List.mem_append_right _ (List.mem_append_right _ (List.mem_append_left _ (List.mem_of_getElem? h))))))), hg⟩
theorem xt_in5 (i : Nat) {w : Cond} (h : tables_1_5[i]? = some w) (hg : goodWord w = true) : w ∈ xt_W := List.mem_filter.mpr ⟨List.mem_append_left _ (List.mem_append_right _ (show w ∈ tables_1 from (List.mem_append_right _ (List.mem_append_right _ (List.mem_append_right _ (List.mem_append_right _ (List.mem_append_left _ (List.mem_of_getElem? h)))))))), hg⟩
theorem xt_in6 (i : Nat) {w : Cond} (h : tables_1_6[i]? = some w) (hg : goodWord w = true) : w ∈ xt_W := List.mem_filter.mpr ⟨List.mem_append_left _ (List.mem_append_right _ (show w ∈ tables_1 from (List.mem_append_right _ (List.mem_append_right _ (List.mem_append_right _ (List.mem_append_right _ (List.mem_append_right _ (List.mem_append_left _ (List.mem_of_getElem? h))))))))), hg⟩
theorem xt_in7 (i : Nat) {w : Cond} (h : tables_1_7[i]? = some w) (hg : goodWord w = true) : w ∈ xt_W := List.mem_filter.mpr ⟨List.mem_append_left _ (List.mem_append_right _ (show w ∈ tables_1 from (List.mem_append_right _ (List.mem_append_right _ (List.mem_append_right _ (List.mem_append_right _ (List.mem_append_right _ (List.mem_append_right _ (List.mem_of_getElem? h))))))))), hg⟩
theorem xt_inP (i : Nat) {w : Cond} (h : (k2_sels lw_privs)[i]? = some w) (hg : goodWord w = true := by rfl) : w ∈ xt_W := List.mem_filter.mpr ⟨List.mem_append_left _ (List.mem_append_left _ (List.mem_of_getElem? h)), hg⟩
theorem xt_inS (i : Nat) {w : Cond} (h : xt_selP[i]? = some w) (hg : goodWord w = true := by rfl) : w ∈ xt_W := List.mem_filter.mpr ⟨List.mem_append_right _ (List.mem_of_getElem? h), hg⟩
theorem xt_good : ∀ w ∈ xt_W, (w.onTables && w.keeps) = true ∨ ∃ ty, w = .arrayClass ty := fun _ h => good_of_word (List.mem_filter.mp h).2
def xt_il : List (Option xs_M) := [none, some (⟨"ContractDesk", "<init>", "()V"⟩, prog_1_method_1_code, 1, none), none, some (⟨"java/lang/StringBuilder", "<init>", "()V"⟩, prog_26_method_1_code, 1, none), some (⟨"java/lang/AbstractStringBuilder", "<init>", "(I)V"⟩, prog_15_method_2_code, 2, none), some (⟨"java/lang/StringUTF16", "newBytesFor", "(I)[B"⟩, prog_28_method_2_code, 1, some (.array (.byte))), some (⟨"java/lang/StringUTF16", "newBytesLength", "(I)I"⟩, prog_28_method_3_code, 1, some (.int)), some (⟨"ContractDesk$States", "<init>", "()V"⟩, prog_10_method_1_code, 1, none), some (⟨"ContractDesk$Comparison", "<init>", "()V"⟩, prog_2_method_1_code, 2, none), some (⟨"ContractDesk$Path", "<init>", "(I)V"⟩, prog_8_method_1_code, 2, none), some (⟨"ContractDesk$Mismatch", "<init>", "()V"⟩, prog_7_method_1_code, 1, none), some (⟨"ContractDesk", "write", "(J)Z"⟩, prog_1_method_2_code, 6, some (.boolean)), some (⟨"ContractDesk", "byteOf", "(JI)I"⟩, prog_1_method_14_code, 3, some (.int)), some (⟨"java/lang/StringBuilder", "length", "()I"⟩, prog_26_method_93_code, 1, some (.int)), some (⟨"java/lang/AbstractStringBuilder", "length", "()I"⟩, prog_15_method_6_code, 1, some (.int)), some (⟨"java/lang/StringBuilder", "append", "(C)Ljava/lang/StringBuilder;"⟩, prog_26_method_14_code, 2, some (.object "java/lang/StringBuilder")), some (⟨"java/lang/AbstractStringBuilder", "append", "(C)Ljava/lang/AbstractStringBuilder;"⟩, prog_15_method_31_code, 2, some (.object "java/lang/AbstractStringBuilder")), some (⟨"java/lang/AbstractStringBuilder", "ensureCapacityInternal", "(I)V"⟩, prog_15_method_9_code, 3, none), some (⟨"java/lang/AbstractStringBuilder", "newCapacity", "(I)I"⟩, prog_15_method_10_code, 6, some (.int)), some (⟨"jdk/internal/util/ArraysSupport", "newLength", "(III)I"⟩, prog_40_method_27_code, 4, some (.int)), none, some (⟨"jdk/internal/util/ArraysSupport", "hugeLength", "(II)I"⟩, prog_40_method_28_code, 3, some (.int)), some (⟨"java/util/Arrays", "copyOf", "([BI)[B"⟩, prog_34_method_121_code, 3, some (.array (.byte))), none, some (⟨"java/lang/AbstractStringBuilder", "isLatin1", "()Z"⟩, prog_15_method_68_code, 1, some (.boolean)), some (⟨"java/lang/StringLatin1", "canEncode", "(C)Z"⟩, prog_27_method_3_code, 1, some (.boolean)), some (⟨"java/lang/AbstractStringBuilder", "inflate", "()V"⟩, prog_15_method_11_code, 2, none), some (⟨"java/lang/StringLatin1", "inflate", "([BI[BII)V"⟩, prog_27_method_50_code, 5, none), some (⟨"java/lang/StringUTF16", "inflate", "([BI[BII)V"⟩, prog_28_method_86_code, 6, none), some (⟨"java/lang/StringUTF16", "checkBoundsOffCount", "(II[B)V"⟩, prog_28_method_94_code, 3, none), some (⟨"java/lang/StringUTF16", "length", "([B)I"⟩, prog_28_method_6_code, 1, some (.int)), some (⟨"java/lang/String", "checkBoundsOffCount", "(III)I"⟩, prog_25_method_157_code, 3, some (.int)), some (⟨"jdk/internal/util/Preconditions", "checkFromIndexSize", "(IIILjava/util/function/BiFunction;)I"⟩, prog_41_method_13_code, 4, some (.int)), some (⟨"java/lang/StringUTF16", "putChar", "([BII)V"⟩, prog_28_method_4_code, 3, none), some (⟨"java/lang/StringUTF16", "putCharSB", "([BII)V"⟩, prog_28_method_71_code, 3, none), some (⟨"java/lang/StringUTF16", "checkIndex", "(I[B)V"⟩, prog_28_method_91_code, 2, none), some (⟨"java/lang/String", "checkIndex", "(II)V"⟩, prog_25_method_155_code, 2, none), some (⟨"jdk/internal/util/Preconditions", "checkIndex", "(IILjava/util/function/BiFunction;)I"⟩, prog_41_method_11_code, 3, some (.int)), some (⟨"ContractDesk", "needs", "(II)Z"⟩, prog_1_method_6_code, 4, some (.boolean)), some (⟨"ContractDesk", "find", "(I)LContractDesk$Interaction;"⟩, prog_1_method_15_code, 2, some (.object "ContractDesk$Interaction")), some (⟨"ContractDesk$States", "exists", "(I)Z"⟩, prog_10_method_2_code, 1, some (.boolean)), some (⟨"ContractDesk$Interaction", "addState", "(I)Z"⟩, prog_4_method_8_code, 2, some (.boolean)), some (⟨"ContractDesk$Interaction", "hasState", "(I)Z"⟩, prog_4_method_9_code, 3, some (.boolean)), some (⟨"ContractDesk", "handler", "(II)Z"⟩, prog_1_method_7_code, 3, some (.boolean)), some (⟨"ContractDesk$States", "assign", "(II)Z"⟩, prog_10_method_3_code, 3, some (.boolean)), some (⟨"ContractDesk", "select", "(I)I"⟩, prog_1_method_8_code, 4, some (.int)), some (⟨"ContractDesk", "takeText", "()LContractDesk$Cursor;"⟩, prog_1_method_16_code, 2, some (.object "ContractDesk$Cursor")), some (⟨"java/lang/StringBuilder", "toString", "()Ljava/lang/String;"⟩, prog_26_method_42_code, 1, some (.object "java/lang/String")), some (⟨"java/lang/String", "<init>", "(Ljava/lang/StringBuilder;)V"⟩, prog_25_method_53_code, 2, none), some (⟨"java/lang/String", "<init>", "(Ljava/lang/AbstractStringBuilder;Ljava/lang/Void;)V"⟩, prog_25_method_150_code, 5, none), some (⟨"java/lang/AbstractStringBuilder", "getValue", "()[B"⟩, prog_15_method_64_code, 1, some (.array (.byte))), some (⟨"java/util/Arrays", "copyOfRange", "([BII)[B"⟩, prog_34_method_132_code, 3, some (.array (.byte))), some (⟨"java/util/Arrays", "copyOfRangeByte", "([BII)[B"⟩, prog_34_method_133_code, 5, some (.array (.byte))), some (⟨"java/util/Arrays", "checkLength", "(II)V"⟩, prog_34_method_131_code, 2, none), some (⟨"java/lang/StringUTF16", "compress", "([BII)[B"⟩, prog_28_method_17_code, 6, some (.array (.byte))), some (⟨"java/lang/StringUTF16", "compress", "([BI[BII)I"⟩, prog_28_method_22_code, 7, some (.int)), some (⟨"java/lang/StringUTF16", "getChar", "([BI)C"⟩, prog_28_method_5_code, 2, some (.char)), some (⟨"java/lang/StringUTF16", "coderFromArrayLen", "([BI)B"⟩, prog_28_method_15_code, 2, some (.byte)), some (⟨"ContractDesk$Cursor", "<init>", "(Ljava/lang/String;)V"⟩, prog_3_method_1_code, 2, none), some (⟨"java/lang/StringBuilder", "setLength", "(I)V"⟩, prog_26_method_89_code, 2, none), some (⟨"java/lang/AbstractStringBuilder", "setLength", "(I)V"⟩, prog_15_method_13_code, 2, none), some (⟨"java/lang/StringLatin1", "fillNull", "([BII)V"⟩, prog_27_method_48_code, 3, none), some (⟨"java/util/Arrays", "fill", "([BIIB)V"⟩, prog_34_method_110_code, 5, none), some (⟨"java/util/Arrays", "rangeCheck", "(III)V"⟩, prog_34_method_30_code, 3, none), some (⟨"java/lang/StringUTF16", "fillNull", "([BII)V"⟩, prog_28_method_70_code, 3, none), some (⟨"ContractDesk$Path", "readPlace", "(LContractDesk$Cursor;)LContractDesk$Path;"⟩, prog_8_method_3_code, 2, some (.object "ContractDesk$Path")), some (⟨"ContractDesk$Path", "readPath", "(LContractDesk$Cursor;IZ)LContractDesk$Path;"⟩, prog_8_method_4_code, 6, some (.object "ContractDesk$Path")), some (⟨"ContractDesk$Cursor", "accept", "(C)Z"⟩, prog_3_method_6_code, 2, some (.boolean)), some (⟨"ContractDesk$Cursor", "peek", "()C"⟩, prog_3_method_4_code, 1, some (.char)), some (⟨"java/lang/String", "length", "()I"⟩, prog_25_method_54_code, 1, some (.int)), some (⟨"java/lang/String", "coder", "()B"⟩, prog_25_method_152_code, 1, some (.byte)), some (⟨"java/lang/String", "charAt", "(I)C"⟩, prog_25_method_56_code, 2, some (.char)), some (⟨"java/lang/String", "isLatin1", "()Z"⟩, prog_25_method_154_code, 1, some (.boolean)), some (⟨"java/lang/StringLatin1", "charAt", "([BI)C"⟩, prog_27_method_2_code, 2, some (.char)), some (⟨"java/lang/StringUTF16", "charAt", "([BI)C"⟩, prog_28_method_83_code, 2, some (.char)), some (⟨"ContractDesk$Cursor", "next", "()C"⟩, prog_3_method_5_code, 2, some (.char)), some (⟨"ContractDesk$Path", "readKey", "(LContractDesk$Cursor;Z)I"⟩, prog_8_method_5_code, 3, some (.int)), some (⟨"ContractDesk$Cursor", "acceptLetters", "(I)I"⟩, prog_3_method_8_code, 3, some (.int)), some (⟨"ContractDesk$Path", "keyStep", "(C)I"⟩, prog_8_method_2_code, 1, some (.int)), some (⟨"ContractDesk$Path", "readNumber", "(LContractDesk$Cursor;Z)I"⟩, prog_8_method_6_code, 3, some (.int)), some (⟨"ContractDesk$Path", "readDigits", "(LContractDesk$Cursor;Z)I"⟩, prog_8_method_7_code, 5, some (.int)), some (⟨"ContractDesk$Cursor", "acceptDigits", "(I)I"⟩, prog_3_method_9_code, 3, some (.int)), some (⟨"ContractDesk$Path", "enter", "(I)V"⟩, prog_8_method_8_code, 2, none), some (⟨"ContractDesk$Cursor", "atEnd", "()Z"⟩, prog_3_method_3_code, 1, some (.boolean)), some (⟨"ContractDesk$Interaction", "selected", "(LContractDesk$Path;)I"⟩, prog_4_method_6_code, 4, some (.int)), some (⟨"ContractDesk$Rule", "fits", "(LContractDesk$Path;)Z"⟩, prog_9_method_4_code, 2, some (.boolean)), some (⟨"ContractDesk$Path", "fits", "(LContractDesk$Path;)Z"⟩, prog_8_method_12_code, 3, some (.boolean)), some (⟨"ContractDesk$Path", "stepFits", "(II)Z"⟩, prog_8_method_13_code, 2, some (.boolean)), some (⟨"ContractDesk$Rule", "outranks", "(LContractDesk$Rule;)Z"⟩, prog_9_method_5_code, 4, some (.boolean)), some (⟨"ContractDesk$Path", "weight", "()I"⟩, prog_8_method_14_code, 3, some (.int)), some (⟨"ContractDesk$Path", "length", "()I"⟩, prog_8_method_11_code, 1, some (.int)), some (⟨"ContractDesk", "listed", "()I"⟩, prog_1_method_10_code, 1, some (.int)), some (⟨"ContractDesk$Comparison", "listedCount", "()I"⟩, prog_2_method_3_code, 1, some (.int)), some (⟨"ContractDesk", "mismatch", "(I)I"⟩, prog_1_method_11_code, 3, some (.int)), some (⟨"ContractDesk$Comparison", "listedAt", "(I)LContractDesk$Mismatch;"⟩, prog_2_method_4_code, 2, some (.object "ContractDesk$Mismatch")), some (⟨"ContractDesk$Mismatch", "kind", "()I"⟩, prog_7_method_3_code, 1, some (.int)), some (⟨"ContractDesk", "letter", "(II)I"⟩, prog_1_method_12_code, 4, some (.int)), some (⟨"ContractDesk$Mismatch", "placeCode", "(I)I"⟩, prog_7_method_4_code, 2, some (.int)), some (⟨"java/lang/StringBuilder", "charAt", "(I)C"⟩, prog_26_method_88_code, 2, some (.char)), some (⟨"java/lang/AbstractStringBuilder", "charAt", "(I)C"⟩, prog_15_method_14_code, 5, some (.char)), some (⟨"ContractDesk", "event", "(I)I"⟩, prog_1_method_13_code, 2, some (.int)), some (⟨"ContractDesk$States", "eventCount", "()I"⟩, prog_10_method_8_code, 1, some (.int)), some (⟨"ContractDesk$States", "eventAt", "(I)I"⟩, prog_10_method_9_code, 2, some (.int)), some (⟨"ContractDesk", "make", "(Z)I"⟩, prog_1_method_3_code, 2, some (.int)), none, none, none, none, some (⟨"ContractDesk$Interaction", "<init>", "(Z)V"⟩, prog_4_method_1_code, 2, none), some (⟨"ContractDesk", "body", "(I)I"⟩, prog_1_method_4_code, 4, some (.int)), some (⟨"ContractDesk$Value", "read", "(LContractDesk$Cursor;)LContractDesk$Value;"⟩, prog_11_method_2_code, 2, some (.object "ContractDesk$Value")), some (⟨"ContractDesk$Value", "readValue", "(LContractDesk$Cursor;I)LContractDesk$Value;"⟩, prog_11_method_3_code, 2, some (.object "ContractDesk$Value")), some (⟨"ContractDesk$Value", "readArray", "(LContractDesk$Cursor;I)LContractDesk$Value;"⟩, prog_11_method_4_code, 5, some (.object "ContractDesk$Value")), some (⟨"ContractDesk$Value", "<init>", "(LContractDesk$Kind;Ljava/lang/String;)V"⟩, prog_11_method_1_code, 3, none), some (⟨"java/util/ArrayList", "<init>", "()V"⟩, prog_33_method_2_code, 1, none), some (⟨"java/util/AbstractList", "<init>", "()V"⟩, prog_32_method_1_code, 1, none), some (⟨"java/util/AbstractCollection", "<init>", "()V"⟩, prog_31_method_1_code, 1, none), some (⟨"ContractDesk$Value", "add", "(LContractDesk$Value;)V"⟩, prog_11_method_10_code, 2, none), some (⟨"java/util/ArrayList", "add", "(Ljava/lang/Object;)Z"⟩, prog_33_method_25_code, 2, some (.boolean)), some (⟨"java/util/ArrayList", "add", "(Ljava/lang/Object;[Ljava/lang/Object;I)V"⟩, prog_33_method_24_code, 4, none), some (⟨"java/util/ArrayList", "grow", "()[Ljava/lang/Object;"⟩, prog_33_method_7_code, 1, some (.array (.object "java/lang/Object"))), some (⟨"java/util/ArrayList", "grow", "(I)[Ljava/lang/Object;"⟩, prog_33_method_6_code, 4, some (.array (.object "java/lang/Object"))), some (⟨"java/util/Arrays", "copyOf", "([Ljava/lang/Object;I)[Ljava/lang/Object;"⟩, prog_34_method_119_code, 2, some (.array (.object "java/lang/Object"))), some (⟨"java/util/Arrays", "copyOf", "([Ljava/lang/Object;ILjava/lang/Class;)[Ljava/lang/Object;"⟩, prog_34_method_120_code, 4, some (.array (.object "java/lang/Object"))), some (⟨"ContractDesk$Value", "readObject", "(LContractDesk$Cursor;I)LContractDesk$Value;"⟩, prog_11_method_5_code, 6, some (.object "ContractDesk$Value")), some (⟨"ContractDesk$Value", "readKey", "(LContractDesk$Cursor;)C"⟩, prog_11_method_6_code, 2, some (.char)), some (⟨"ContractDesk$Value", "member", "(C)LContractDesk$Value;"⟩, prog_11_method_17_code, 4, some (.object "ContractDesk$Value")), some (⟨"java/util/ArrayList", "size", "()I"⟩, prog_33_method_8_code, 1, some (.int)), some (⟨"java/util/ArrayList", "get", "(I)Ljava/lang/Object;"⟩, prog_33_method_20_code, 2, some (.object "java/lang/Object")), some (⟨"java/util/Objects", "checkIndex", "(II)I"⟩, prog_37_method_17_code, 2, some (.int)), some (⟨"java/util/ArrayList", "elementData", "(I)Ljava/lang/Object;"⟩, prog_33_method_18_code, 2, some (.object "java/lang/Object")), some (⟨"ContractDesk$Value", "readString", "(LContractDesk$Cursor;)LContractDesk$Value;"⟩, prog_11_method_7_code, 3, some (.object "ContractDesk$Value")), some (⟨"ContractDesk$Cursor", "position", "()I"⟩, prog_3_method_2_code, 1, some (.int)), some (⟨"ContractDesk$Cursor", "since", "(I)Ljava/lang/String;"⟩, prog_3_method_10_code, 2, some (.object "java/lang/String")), some (⟨"java/lang/String", "substring", "(II)Ljava/lang/String;"⟩, prog_25_method_92_code, 5, some (.object "java/lang/String")), some (⟨"java/lang/String", "checkBoundsBeginEnd", "(III)V"⟩, prog_25_method_158_code, 3, none), some (⟨"jdk/internal/util/Preconditions", "checkFromToIndex", "(IIILjava/util/function/BiFunction;)I"⟩, prog_41_method_12_code, 4, some (.int)), some (⟨"java/lang/StringLatin1", "newString", "([BII)Ljava/lang/String;"⟩, prog_27_method_47_code, 3, some (.object "java/lang/String")), some (⟨"java/lang/String", "<init>", "([BB)V"⟩, prog_25_method_151_code, 3, none), some (⟨"java/lang/StringUTF16", "newString", "([BII)Ljava/lang/String;"⟩, prog_28_method_69_code, 5, some (.object "java/lang/String")), some (⟨"ContractDesk$Value", "readWord", "(LContractDesk$Cursor;Ljava/lang/String;LContractDesk$Kind;)LContractDesk$Value;"⟩, prog_11_method_8_code, 3, some (.object "ContractDesk$Value")), some (⟨"ContractDesk$Cursor", "acceptWord", "(Ljava/lang/String;)Z"⟩, prog_3_method_7_code, 3, some (.boolean)), some (⟨"ContractDesk$Value", "readNumber", "(LContractDesk$Cursor;)LContractDesk$Value;"⟩, prog_11_method_9_code, 2, some (.object "ContractDesk$Value")), none, some (⟨"ContractDesk$Interaction", "expect", "(LContractDesk$Value;)Z"⟩, prog_4_method_4_code, 2, some (.boolean)), some (⟨"ContractDesk$Value", "areEqual", "(LContractDesk$Value;LContractDesk$Value;I)Z"⟩, prog_11_method_19_code, 6, some (.boolean)), some (⟨"ContractDesk$Value", "isAlike", "(LContractDesk$Value;)Z"⟩, prog_11_method_18_code, 2, some (.boolean)), some (⟨"java/lang/String", "equals", "(Ljava/lang/Object;)Z"⟩, prog_25_method_66_code, 3, some (.boolean)), some (⟨"java/lang/StringLatin1", "equals", "([B[B)Z"⟩, prog_27_method_13_code, 3, some (.boolean)), some (⟨"ContractDesk$Value", "size", "()I"⟩, prog_11_method_15_code, 1, some (.int)), some (⟨"ContractDesk$Value", "part", "(I)LContractDesk$Value;"⟩, prog_11_method_16_code, 2, some (.object "ContractDesk$Value")), some (⟨"ContractDesk$Value", "count", "()I"⟩, prog_11_method_14_code, 1, some (.int)), some (⟨"ContractDesk", "rule", "(I)I"⟩, prog_1_method_5_code, 5, some (.int)), some (⟨"ContractDesk$Rule", "read", "(LContractDesk$Cursor;)LContractDesk$Rule;"⟩, prog_9_method_2_code, 3, some (.object "ContractDesk$Rule")), some (⟨"ContractDesk$Rule", "<init>", "(LContractDesk$Path;)V"⟩, prog_9_method_1_code, 2, none), some (⟨"ContractDesk$Rule", "readMatchers", "(LContractDesk$Cursor;)Z"⟩, prog_9_method_3_code, 4, some (.boolean)), some (⟨"ContractDesk$Matcher", "read", "(LContractDesk$Cursor;)LContractDesk$Matcher;"⟩, prog_6_method_2_code, 2, some (.object "ContractDesk$Matcher")), some (⟨"ContractDesk$Matcher", "<init>", "(CILjava/lang/String;)V"⟩, prog_6_method_1_code, 4, none), some (⟨"ContractDesk$Matcher", "readBound", "(CLContractDesk$Cursor;)LContractDesk$Matcher;"⟩, prog_6_method_3_code, 3, some (.object "ContractDesk$Matcher")), some (⟨"ContractDesk$Matcher", "readPart", "(CLContractDesk$Cursor;)LContractDesk$Matcher;"⟩, prog_6_method_4_code, 3, some (.object "ContractDesk$Matcher")), some (⟨"ContractDesk$Matcher", "readItems", "(CLContractDesk$Cursor;)LContractDesk$Matcher;"⟩, prog_6_method_5_code, 5, some (.object "ContractDesk$Matcher")), some (⟨"ContractDesk$Matcher", "isLoose", "()Z"⟩, prog_6_method_6_code, 1, some (.boolean)), some (⟨"ContractDesk$Interaction", "addRule", "(LContractDesk$Rule;)I"⟩, prog_4_method_5_code, 2, some (.int)), some (⟨"ContractDesk", "verify", "(I)I"⟩, prog_1_method_9_code, 5, some (.int)), some (⟨"ContractDesk$Interaction", "expected", "()LContractDesk$Value;"⟩, prog_4_method_3_code, 1, some (.object "ContractDesk$Value")), some (⟨"ContractDesk", "setUpStates", "(LContractDesk$Interaction;)Z"⟩, prog_1_method_17_code, 3, some (.boolean)), some (⟨"ContractDesk$Interaction", "stateCount", "()I"⟩, prog_4_method_10_code, 1, some (.int)), some (⟨"ContractDesk$Interaction", "stateAt", "(I)I"⟩, prog_4_method_11_code, 2, some (.int)), some (⟨"ContractDesk$States", "setUp", "(I)Z"⟩, prog_10_method_4_code, 4, some (.boolean)), some (⟨"ContractDesk$States", "handlerOf", "(I)I"⟩, prog_10_method_6_code, 2, some (.int)), some (⟨"ContractDesk$States", "note", "(II)V"⟩, prog_10_method_7_code, 3, none), some (⟨"ContractDesk", "tearDownStates", "(LContractDesk$Interaction;I)V"⟩, prog_1_method_18_code, 4, none), some (⟨"ContractDesk$States", "tearDown", "(I)V"⟩, prog_10_method_5_code, 2, none), some (⟨"ContractDesk$Comparison", "run", "(LContractDesk$Interaction;LContractDesk$Value;)I"⟩, prog_2_method_2_code, 3, some (.int)), some (⟨"ContractDesk$Path", "clear", "()V"⟩, prog_8_method_10_code, 1, none), some (⟨"ContractDesk$Comparison", "compare", "(LContractDesk$Value;LContractDesk$Value;I)V"⟩, prog_2_method_6_code, 5, none), some (⟨"ContractDesk$Interaction", "ruleAt", "(I)LContractDesk$Rule;"⟩, prog_4_method_7_code, 2, some (.object "ContractDesk$Rule")), some (⟨"ContractDesk$Comparison", "note", "(I)V"⟩, prog_2_method_5_code, 2, none), some (⟨"ContractDesk$Mismatch", "set", "(ILContractDesk$Path;)V"⟩, prog_7_method_2_code, 3, none), some (⟨"ContractDesk$Path", "appendTo", "(Ljava/lang/StringBuilder;)V"⟩, prog_8_method_15_code, 3, none), some (⟨"java/lang/StringBuilder", "append", "(I)Ljava/lang/StringBuilder;"⟩, prog_26_method_15_code, 2, some (.object "java/lang/StringBuilder")), some (⟨"java/lang/AbstractStringBuilder", "append", "(I)Ljava/lang/AbstractStringBuilder;"⟩, prog_15_method_32_code, 4, some (.object "java/lang/AbstractStringBuilder")), some (⟨"java/lang/Integer", "stringSize", "(I)I"⟩, prog_21_method_13_code, 4, some (.int)), some (⟨"java/lang/Integer", "getChars", "(II[B)I"⟩, prog_21_method_12_code, 7, some (.int)), some (⟨"java/lang/StringUTF16", "getChars", "(III[B)I"⟩, prog_28_method_77_code, 5, some (.int)), some (⟨"java/lang/StringUTF16", "checkBoundsBeginEnd", "(II[B)V"⟩, prog_28_method_93_code, 3, none), some (⟨"java/lang/StringUTF16", "getChars", "(II[B)I"⟩, prog_28_method_89_code, 7, some (.int)), some (⟨"ContractDesk$Rule", "holds", "(LContractDesk$Value;LContractDesk$Value;)Z"⟩, prog_9_method_7_code, 4, some (.boolean)), some (⟨"ContractDesk$Matcher", "holds", "(LContractDesk$Value;LContractDesk$Value;)Z"⟩, prog_6_method_7_code, 3, some (.boolean)), some (⟨"ContractDesk$Value", "kind", "()LContractDesk$Kind;"⟩, prog_11_method_11_code, 1, some (.object "ContractDesk$Kind")), some (⟨"ContractDesk$Value", "letters", "()Ljava/lang/String;"⟩, prog_11_method_12_code, 1, some (.object "java/lang/String")), some (⟨"ContractDesk$Matcher", "hasPart", "(Ljava/lang/String;)Z"⟩, prog_6_method_8_code, 3, some (.boolean)), some (⟨"ContractDesk$Matcher", "partStandsAt", "(Ljava/lang/String;I)Z"⟩, prog_6_method_9_code, 4, some (.boolean)), some (⟨"ContractDesk$Matcher", "isAsItemsSay", "(Ljava/lang/String;)Z"⟩, prog_6_method_10_code, 6, some (.boolean)), some (⟨"ContractDesk$Matcher", "endsBehind", "(CCLjava/lang/String;I)I"⟩, prog_6_method_11_code, 8, some (.int)), some (⟨"ContractDesk$Matcher", "hasBit", "(II)Z"⟩, prog_6_method_12_code, 2, some (.boolean)), some (⟨"ContractDesk$Rule", "isLoose", "()Z"⟩, prog_9_method_6_code, 1, some (.boolean)), some (⟨"ContractDesk$Comparison", "compareElements", "(LContractDesk$Value;LContractDesk$Value;ZI)V"⟩, prog_2_method_7_code, 9, none), some (⟨"ContractDesk$Path", "leave", "()V"⟩, prog_8_method_9_code, 1, none), some (⟨"ContractDesk$Comparison", "compareMembers", "(LContractDesk$Value;LContractDesk$Value;I)V"⟩, prog_2_method_8_code, 7, none), some (⟨"ContractDesk$Value", "key", "()C"⟩, prog_11_method_13_code, 1, some (.char)), some (⟨"ContractDesk$Interaction", "isStrict", "()Z"⟩, prog_4_method_2_code, 1, some (.boolean)), some (⟨"ContractDesk$Comparison", "noteUnexpected", "(LContractDesk$Value;LContractDesk$Value;)V"⟩, prog_2_method_9_code, 5, none), some (⟨"ContractDeskModel", "<init>", "()V"⟩, prog_13_method_1_code, 1, none), some (⟨"ContractDeskModel", "thrown", "()I"⟩, prog_13_method_2_code, 1, some (.int)), some (⟨"ContractDeskModel", "write", "(J)Z"⟩, prog_13_method_3_code, 6, some (.boolean)), some (⟨"ContractDeskModel", "make", "(Z)I"⟩, prog_13_method_19_code, 2, some (.int)), some (⟨"ContractDeskModel", "body", "(I)I"⟩, prog_13_method_22_code, 5, some (.int)), some (⟨"ContractDeskModel", "values", "()I"⟩, prog_13_method_10_code, 8, some (.int)), some (⟨"ContractDeskModel", "at", "(I)C"⟩, prog_13_method_7_code, 2, some (.char)), some (⟨"ContractDeskModel", "isLetter", "(C)Z"⟩, prog_13_method_5_code, 1, some (.boolean)), some (⟨"ContractDeskModel", "plainEnd", "(I)I"⟩, prog_13_method_9_code, 4, some (.int)), some (⟨"ContractDeskModel", "word", "(ICCCC)Z"⟩, prog_13_method_8_code, 6, some (.boolean)), some (⟨"ContractDeskModel", "digit", "(C)Z"⟩, prog_13_method_6_code, 1, some (.boolean)), some (⟨"ContractDeskModel", "close", "()V"⟩, prog_13_method_20_code, 1, none), some (⟨"ContractDeskModel", "isInteraction", "(I)Z"⟩, prog_13_method_4_code, 2, some (.boolean)), some (⟨"ContractDeskModel", "equal", "(II)Z"⟩, prog_13_method_18_code, 10, some (.boolean)), some (⟨"ContractDeskModel", "kind", "(I)I"⟩, prog_13_method_11_code, 3, some (.int)), some (⟨"ContractDeskModel", "sameText", "(II)Z"⟩, prog_13_method_17_code, 6, some (.boolean)), some (⟨"ContractDeskModel", "end", "(I)I"⟩, prog_13_method_13_code, 5, some (.int)), some (⟨"ContractDeskModel", "stops", "(C)Z"⟩, prog_13_method_12_code, 1, some (.boolean)), some (⟨"ContractDeskModel", "parts", "(I)I"⟩, prog_13_method_15_code, 3, some (.int)), some (⟨"ContractDeskModel", "part", "(II)I"⟩, prog_13_method_14_code, 6, some (.int)), some (⟨"ContractDeskModel", "member", "(IC)I"⟩, prog_13_method_16_code, 6, some (.int)), some (⟨"ContractDeskModel", "keep", "(I)V"⟩, prog_13_method_21_code, 3, none), some (⟨"ContractDeskModel", "needs", "(II)Z"⟩, prog_13_method_23_code, 4, some (.boolean)), some (⟨"ContractDeskModel", "handler", "(II)Z"⟩, prog_13_method_24_code, 3, some (.boolean)), some (⟨"ContractDeskModel", "rule", "(I)I"⟩, prog_13_method_29_code, 5, some (.int)), some (⟨"ContractDeskModel", "isRule", "()Z"⟩, prog_13_method_28_code, 7, some (.boolean)), some (⟨"ContractDeskModel", "stepEnd", "(I)I"⟩, prog_13_method_25_code, 2, some (.int)), some (⟨"ContractDeskModel", "matcherEnd", "(I)I"⟩, prog_13_method_27_code, 4, some (.int)), some (⟨"ContractDeskModel", "itemsEnd", "(I)I"⟩, prog_13_method_26_code, 4, some (.int)), some (⟨"ContractDeskModel", "select", "(I)I"⟩, prog_13_method_34_code, 3, some (.int)), some (⟨"ContractDeskModel", "readPlace", "()Z"⟩, prog_13_method_33_code, 5, some (.boolean)), some (⟨"ContractDeskModel", "selected", "(I)I"⟩, prog_13_method_32_code, 6, some (.int)), some (⟨"ContractDeskModel", "fits", "(I)I"⟩, prog_13_method_31_code, 9, some (.int)), some (⟨"ContractDeskModel", "colon", "(I)I"⟩, prog_13_method_30_code, 3, some (.int)), some (⟨"ContractDeskModel", "verify", "(I)I"⟩, prog_13_method_52_code, 5, some (.int)), some (⟨"ContractDeskModel", "verified", "(I)I"⟩, prog_13_method_53_code, 5, some (.int)), some (⟨"ContractDeskModel", "happen", "(II)V"⟩, prog_13_method_51_code, 3, none), some (⟨"ContractDeskModel", "compareAll", "(I)I"⟩, prog_13_method_49_code, 7, some (.int)), some (⟨"ContractDeskModel", "push", "(IIII)V"⟩, prog_13_method_41_code, 5, none), some (⟨"ContractDeskModel", "lay", "(I)V"⟩, prog_13_method_43_code, 4, none), some (⟨"ContractDeskModel", "list", "(I)V"⟩, prog_13_method_45_code, 5, none), some (⟨"ContractDeskModel", "put", "(II)V"⟩, prog_13_method_44_code, 3, none), some (⟨"ContractDeskModel", "compared", "(IIII)I"⟩, prog_13_method_46_code, 8, some (.int)), some (⟨"ContractDeskModel", "outcome", "(III)I"⟩, prog_13_method_40_code, 12, some (.int)), some (⟨"ContractDeskModel", "behind", "(II)I"⟩, prog_13_method_39_code, 4, some (.int)), some (⟨"ContractDeskModel", "holds", "(IIII)Z"⟩, prog_13_method_38_code, 5, some (.boolean)), some (⟨"ContractDeskModel", "contains", "(III)Z"⟩, prog_13_method_35_code, 9, some (.boolean)), some (⟨"ContractDeskModel", "isAs", "(III)Z"⟩, prog_13_method_36_code, 10, some (.boolean)), some (⟨"ContractDeskModel", "spread", "(I)V"⟩, prog_13_method_37_code, 3, none), some (⟨"ContractDeskModel", "elements", "(ZIII)I"⟩, prog_13_method_47_code, 11, some (.int)), some (⟨"ContractDeskModel", "place", "(II)I"⟩, prog_13_method_42_code, 3, some (.int)), some (⟨"ContractDeskModel", "members", "(IIII)V"⟩, prog_13_method_48_code, 11, none), some (⟨"ContractDeskModel", "tear", "(II)V"⟩, prog_13_method_50_code, 5, none), some (⟨"ContractDeskModel", "listed", "()I"⟩, prog_13_method_54_code, 1, some (.int)), some (⟨"ContractDeskModel", "mismatch", "(I)I"⟩, prog_13_method_55_code, 2, some (.int)), some (⟨"ContractDeskModel", "letter", "(II)I"⟩, prog_13_method_56_code, 3, some (.int)), some (⟨"ContractDeskModel", "event", "(I)I"⟩, prog_13_method_57_code, 2, some (.int)), none]
def xt_inf : Nat → Option xs_M := fun y => xt_il.getD y none
def xk_len (nL : Nat) (pc : Nat) (q : xb_I) : Bool := match q.1 with
  | .bipush n => decide (q.2.1 = 2 ∧ (Int8.ofInt n).toInt32 = Int32.ofInt n)
  | .sipush n => decide (q.2.1 = 3 ∧ (Int16.ofInt n).toInt32 = Int32.ofInt n)
  | .iload _ => decide (q.2.1 = 2)
  | .lload _ => decide (q.2.1 = 2)
  | .aload _ => decide (q.2.1 = 2)
  | .istore_n n => decide (q.2.1 = 1 ∧ (n : Nat) < nL)
  | .istore n => decide (q.2.1 = 2 ∧ n < nL)
  | .lstore_n n => decide (q.2.1 = 1 ∧ (n : Nat) + 1 < nL)
  | .lstore n => decide (q.2.1 = 2 ∧ n + 1 < nL)
  | .astore_n n => decide (q.2.1 = 1 ∧ (n : Nat) < nL)
  | .astore n => decide (q.2.1 = 2 ∧ n < nL)
  | .iinc n _ => decide (q.2.1 = 3 ∧ n < nL)
  | .ifCond _ off => decide (q.2.1 = 3 ∧ (pc : Int) + off = (q.2.2.1 : Int))
  | .if_icmp _ off => decide (q.2.1 = 3 ∧ (pc : Int) + off = (q.2.2.1 : Int))
  | .if_acmp _ off => decide (q.2.1 = 3 ∧ (pc : Int) + off = (q.2.2.1 : Int))
  | .ifnull off => decide (q.2.1 = 3 ∧ (pc : Int) + off = (q.2.2.1 : Int))
  | .ifnonnull off => decide (q.2.1 = 3 ∧ (pc : Int) + off = (q.2.2.1 : Int))
  | .goto off => decide (q.2.1 = 3 ∧ (pc : Int) + off = (q.2.2.1 : Int))
  | .lookupswitch _ ps => (ps.toList.zip (ps.toList.drop 1)).all (fun (a, next) => a.1 < next.1)
  | .tableswitch _ _ _ _ => true
  | .ldc _ => decide (q.2.1 = 2)
  | .ldc2_w _ => decide (q.2.1 = 3)
  | .getfield _ => decide (q.2.1 = 3)
  | .putfield _ => decide (q.2.1 = 3)
  | .getstatic _ => decide (q.2.1 = 3)
  | .new _ => decide (q.2.1 = 3)
  | .newarray _ => decide (q.2.1 = 2)
  | .anewarray _ => decide (q.2.1 = 3)
  | .checkcast _ => decide (q.2.1 = 3)
  | .instanceof _ => decide (q.2.1 = 3)
  | .invokevirtual _ => decide (q.2.1 = 3)
  | .invokespecial _ => decide (q.2.1 = 3)
  | .invokestatic _ => decide (q.2.1 = 3)
  | _ => decide (q.2.1 = 1)
theorem xk_len_ok {nL pc : Nat} {q : xb_I} (h : xk_len nL pc q = true) : xs_len nL pc q := by
  obtain ⟨ins, len, r1, r2⟩ := q
  cases ins <;> first | (simp only [xk_len, decide_eq_true_eq] at h; exact h) | exact h | exact trivial
def xk_link (q : xb_I) : Bool := match q.1 with
  | .getfield _ => true
  | .putfield _ => true
  | .getstatic _ => true
  | .new _ => decide (q.2.2.2 = 0)
  | .newarray _ => true
  | .anewarray _ => true
  | .checkcast _ => true
  | .instanceof _ => true
  | .ldc _ => true
  | .ldc2_w _ => true
  | _ => false
def xk_mem (q : xb_I) (l : List xb_I) : Bool := l.any fun x => decide (x = q)
theorem xk_mem_ok {q : xb_I} {l : List xb_I} (h : xk_mem q l = true) : q ∈ l := by
  obtain ⟨x, hx, he⟩ := List.any_eq_true.mp h
  have e := of_decide_eq_true he
  rw [← e]
  exact hx
def xk_row (cc : ByteArray) (nL : Nat) (lk cs : List xb_I) (r : Nat × xb_I) : Bool :=
  decide (decode cc r.1 = .ok (r.2.1, r.2.2.1)) && (xk_len nL r.1 r.2 && ((!xk_link r.2 || xk_mem r.2 lk) && (!decide (xb_sort r.2.1 = 5) || xk_mem r.2 cs)))
/-- a call's row -/
def xk_call (G : xb_G) (own : String) (q : xb_I) : Prop :=
  (q.2.2.1 = 0 → (∃ idx : Nat, q.1 = .invokespecial idx ∧ Cond.methodLink own idx Lib.objectInit ∈ xt_W ∧ Cond.instanceMethod Lib.objectInit ∈ xt_W ∧ Cond.code Lib.objectInit ⟨#[0xb1]⟩ 1 none ∈ xt_W) ∨ xs_bw G own xt_W xt_NW xt_TY q) ∧
  (¬ q.2.2.1 = 0 → ∃ inf' : xs_M, xt_inf q.2.2.1 = some inf' ∧ xs_cl own xt_W xt_NW xt_cl inf' (xb_gV G q.2.2.1) q.2.2.2 q.1)
def xk_meth (G : xb_G) (y : Nat) (inf : xs_M) : Prop :=
    plainName inf.1.cls = true ∧ Cond.code inf.1 inf.2.1 inf.2.2.1 inf.2.2.2 ∈ xt_W ∧ xb_gR G y = inf.2.2.2 ∧ xb_gN G y = inf.2.2.1 ∧ inf.2.2.1 ≤ 45 ∧
    ∀ (pc : Nat) (q : xb_I), xb_gP G y pc = some q → decode inf.2.1 pc = .ok (q.1, q.2.1) ∧ xs_len inf.2.2.1 pc q ∧
      (xb_sort q.1 = 0 ∨ (xb_sort q.1 = 6 ∧ q.2.2.2 = 0) → xs_lk G xt_cl xt_W xt_TY xt_NW xt_sd xt_sl inf.1.cls (inf.1.name == "<init>") q) ∧
      (xb_sort q.1 = 5 → q.2.2.1 = 0 → (∃ idx : Nat, q.1 = .invokespecial idx ∧ Cond.methodLink inf.1.cls idx Lib.objectInit ∈ xt_W ∧ Cond.instanceMethod Lib.objectInit ∈ xt_W ∧ Cond.code Lib.objectInit ⟨#[0xb1]⟩ 1 none ∈ xt_W) ∨ xs_bw G inf.1.cls xt_W xt_NW xt_TY q) ∧
      (xb_sort q.1 = 5 → ¬ q.2.2.1 = 0 → ∃ inf' : xs_M, xt_inf q.2.2.1 = some inf' ∧ xs_cl inf.1.cls xt_W xt_NW xt_cl inf' (xb_gV G q.2.2.1) q.2.2.2 q.1)
theorem xk_nolink {G : xb_G} {own : String} {ini : Bool} {q : xb_I} (h : xk_link q = false) (hs : xb_sort q.1 = 0 ∨ (xb_sort q.1 = 6 ∧ q.2.2.2 = 0)) : xs_lk G xt_cl xt_W xt_TY xt_NW xt_sd xt_sl own ini q := by
  obtain ⟨ins, len, r1, r2⟩ := q
  cases ins <;> first | exact trivial | (cases h; done) | (rcases hs with hs | ⟨-, hs⟩; cases hs; exact absurd (of_decide_eq_false h) (fun z => z hs))
theorem xk_meth_of {w : Value} {y : Nat} {inf : xs_M} {lk cs : List xb_I} (h1 : plainName inf.1.cls = true) (h2 : Cond.code inf.1 inf.2.1 inf.2.2.1 inf.2.2.2 ∈ xt_W) (h3 : xb_gR (xt_G w) y = inf.2.2.2) (h4 : xb_gN (xt_G w) y = inf.2.2.1) (h5 : inf.2.2.1 ≤ 45) {tab : List (Nat × xb_I)} (h6 : xt_l.getD y [] = tab) (h7 : tab.all (xk_row inf.2.1 inf.2.2.1 lk cs) = true)
    (h8 : ∀ q ∈ lk, xs_lk (xt_G w) xt_cl xt_W xt_TY xt_NW xt_sd xt_sl inf.1.cls (inf.1.name == "<init>") q) (h9 : ∀ q ∈ cs, xk_call (xt_G w) inf.1.cls q) : xk_meth (xt_G w) y inf := by
  refine ⟨h1, h2, h3, h4, h5, fun pc q hq => ?_⟩
  have hm : (pc, q) ∈ tab := by
    rw [← h6]
    have hq' : (xt_l.getD y []).lookup pc = some q := hq
    generalize xt_l.getD y [] = t at hq'
    induction t with
    | nil => cases hq'
    | cons r t ih =>
      obtain ⟨j, v⟩ := r
      rw [List.lookup_cons] at hq'
      by_cases hij : (pc == j) = true
      · rw [hij] at hq'
        have e1 : pc = j := by simpa using hij
        cases hq'
        rw [e1]
        exact List.mem_cons_self
      · have e2 : (pc == j) = false := by simpa using hij
        rw [e2] at hq'
        exact List.mem_cons_of_mem _ (ih hq')
  have hr := List.all_eq_true.mp h7 _ hm
  simp only [xk_row, Bool.and_eq_true, Bool.or_eq_true, Bool.not_eq_true', decide_eq_true_eq, decide_eq_false_iff_not] at hr
  obtain ⟨a1, a2, a3, a4⟩ := hr
  refine ⟨a1, xk_len_ok a2, fun hs => ?_, fun hs hz => ?_, fun hs hz => ?_⟩
  · rcases a3 with a3 | a3
    · exact xk_nolink a3 hs
    · exact h8 q (xk_mem_ok a3)
  · rcases a4 with a4 | a4
    · exact absurd hs a4
    · exact (h9 q (xk_mem_ok a4)).1 hz
  · rcases a4 with a4 | a4
    · exact absurd hs a4
    · exact (h9 q (xk_mem_ok a4)).2 hz
theorem xt_cast {w : Value} {b : Nat} {n : Nat} {nm : String} {c : Cond} (hc : c ∈ xt_NW) (h : ∀ k, xt_X k b = true → k = n) (he : ∀ r : vw_C, xt_cl[n]? = some r → Cond.castable r.1 nm = c) : ∀ (k : Nat) (r : vw_C), xb_gX (xt_G w) k b = true → xt_cl[k]? = some r → Cond.castable r.1 nm ∈ xt_NW := by
  intro k r hk hr
  have e := h k hk
  subst e
  rw [he r hr]
  exact hc
theorem xt_X0 : ∀ k, xt_X k 0 = true → k = 9 := by
  intro k h
  unfold xt_X at h
  split at h <;> first | rfl | (cases h; done) | skip
  all_goals simp_all
theorem xt_X1 : ∀ k, xt_X k 1 = true → k = 4 := by
  intro k h
  unfold xt_X at h
  split at h <;> first | rfl | (cases h; done) | skip
  all_goals simp_all
theorem xt_X2 : ∀ k, xt_X k 2 = true → k = 12 := by
  intro k h
  unfold xt_X at h
  split at h <;> first | rfl | (cases h; done) | skip
  all_goals simp_all
theorem xt_c0 {w : Value} : ∀ (k : Nat) (r : vw_C), xb_gX (xt_G w) k 0 = true → xt_cl[k]? = some r → Cond.castable r.1 "ContractDesk$Value" ∈ xt_NW := xt_cast (List.mem_of_getElem? (i := 0) rfl) xt_X0 (fun r hr => by cases hr; rfl)
theorem xt_c1 {w : Value} : ∀ (k : Nat) (r : vw_C), xb_gX (xt_G w) k 1 = true → xt_cl[k]? = some r → Cond.castable r.1 "ContractDesk$Matcher" ∈ xt_NW := xt_cast (List.mem_of_getElem? (i := 1) rfl) xt_X1 (fun r hr => by cases hr; rfl)
theorem xt_c2 {w : Value} : ∀ (k : Nat) (r : vw_C), xb_gX (xt_G w) k 2 = true → xt_cl[k]? = some r → Cond.castable r.1 "java/lang/String" ∈ xt_NW := xt_cast (List.mem_of_getElem? (i := 2) rfl) xt_X2 (fun r hr => by cases hr; rfl)
theorem xt_X3 : ∀ k, xt_X k 3 = true → k = 100 := by
  intro k h
  unfold xt_X at h
  split at h <;> first | rfl | (cases h; done) | skip
  all_goals simp_all
theorem xt_c3 {w : Value} : ∀ (k : Nat) (r : vw_C), xb_gX (xt_G w) k 3 = true → xt_cl[k]? = some r → Cond.castable r.1 "[B" ∈ xt_NW := by
  intro k r hk hr
  have e := xt_X3 k hk
  subst e
  cases hr
theorem xw_1 : Cond.initialized "ContractDesk" ∈ xt_W := xt_in1 1 rfl rfl
theorem xw_2 : Cond.initialized "java/lang/AbstractStringBuilder" ∈ xt_W := xt_in1 2 rfl rfl
theorem xw_3 : Cond.initialized "java/lang/StringBuilder" ∈ xt_W := xt_in1 3 rfl rfl
theorem xw_4 : Cond.initialized "java/lang/String" ∈ xt_W := xt_in1 4 rfl rfl
theorem xw_5 : Cond.initialized "java/lang/StringUTF16" ∈ xt_W := xt_in1 5 rfl rfl
theorem xw_6 : Cond.initialized "ContractDesk$States" ∈ xt_W := xt_in1 6 rfl rfl
theorem xw_7 : Cond.initialized "ContractDesk$Comparison" ∈ xt_W := xt_in1 7 rfl rfl
theorem xw_8 : Cond.initialized "ContractDesk$Path" ∈ xt_W := xt_in1 8 rfl rfl
theorem xw_9 : Cond.initialized "ContractDesk$Mismatch" ∈ xt_W := xt_in1 9 rfl rfl
theorem xw_10 : Cond.initialized "ContractDeskModel" ∈ xt_W := xt_in1 10 rfl rfl
theorem xw_11 : Cond.initialized "jdk/internal/util/ArraysSupport" ∈ xt_W := xt_in1 11 rfl rfl
theorem xw_12 : Cond.initialized "java/lang/Math" ∈ xt_W := xt_in1 12 rfl rfl
theorem xw_13 : Cond.initialized "java/util/Arrays" ∈ xt_W := xt_in1 13 rfl rfl
theorem xw_14 : Cond.initialized "java/lang/System" ∈ xt_W := xt_in1 14 rfl rfl
theorem xw_15 : Cond.initialized "java/lang/StringLatin1" ∈ xt_W := xt_in1 15 rfl rfl
theorem xw_16 : Cond.initialized "jdk/internal/util/Preconditions" ∈ xt_W := xt_in1 16 rfl rfl
theorem xw_21 : Cond.initialized "ContractDesk$Interaction" ∈ xt_W := xt_in1 21 rfl rfl
theorem xw_22 : Cond.initialized "ContractDesk$Cursor" ∈ xt_W := xt_in1 22 rfl rfl
theorem xw_23 : Cond.initialized "ContractDesk$Value" ∈ xt_W := xt_in1 23 rfl rfl
theorem xw_26 : Cond.initialized "java/util/AbstractCollection" ∈ xt_W := xt_in1 26 rfl rfl
theorem xw_27 : Cond.initialized "java/util/AbstractList" ∈ xt_W := xt_in1 27 rfl rfl
theorem xw_28 : Cond.initialized "java/util/ArrayList" ∈ xt_W := xt_in1 28 rfl rfl
theorem xw_29 : Cond.initialized "java/util/Objects" ∈ xt_W := xt_in1 29 rfl rfl
theorem xw_31 : Cond.initialized "ContractDesk$Rule" ∈ xt_W := xt_in1 31 rfl rfl
theorem xw_32 : Cond.initialized "ContractDesk$Matcher" ∈ xt_W := xt_in1 32 rfl rfl
theorem xw_33 : Cond.initialized "java/lang/Integer" ∈ xt_W := xt_in1 33 rfl rfl
theorem xw_34 : Cond.classLink "ContractDeskLaw" 8 "ContractDesk" ∈ xt_W := xt_in1 34 rfl rfl
theorem xw_35 : Cond.instantiable "ContractDesk" 5 ∈ xt_W := xt_in1 35 rfl rfl
theorem xw_36 : Cond.methodLink "ContractDeskLaw" 27 ⟨"ContractDesk", "<init>", "()V"⟩ ∈ xt_W := xt_in1 36 rfl rfl
theorem xw_37 : Cond.instanceMethod ⟨"ContractDesk", "<init>", "()V"⟩ ∈ xt_W := xt_in1 37 rfl rfl
theorem xw_38 : Cond.code ⟨"ContractDesk", "<init>", "()V"⟩ prog_1_method_1_code 1 none ∈ xt_W := xt_in1 38 rfl rfl
theorem xw_39 : Cond.methodLink "ContractDesk" 1 ⟨"java/lang/Object", "<init>", "()V"⟩ ∈ xt_W := xt_in1 39 rfl rfl
theorem xw_40 : Cond.instanceMethod ⟨"java/lang/Object", "<init>", "()V"⟩ ∈ xt_W := xt_in1 40 rfl rfl
theorem xw_41 : Cond.code ⟨"java/lang/Object", "<init>", "()V"⟩ object_method_1_code 1 none ∈ xt_W := xt_in1 41 rfl rfl
theorem xw_42 : Cond.classLink "ContractDesk" 7 "java/lang/StringBuilder" ∈ xt_W := xt_in1 42 rfl rfl
theorem xw_43 : Cond.instantiable "java/lang/StringBuilder" 4 ∈ xt_W := xt_in1 43 rfl rfl
theorem xw_44 : Cond.methodLink "ContractDesk" 9 ⟨"java/lang/StringBuilder", "<init>", "()V"⟩ ∈ xt_W := xt_in1 44 rfl rfl
theorem xw_45 : Cond.instanceMethod ⟨"java/lang/StringBuilder", "<init>", "()V"⟩ ∈ xt_W := xt_in1 45 rfl rfl
theorem xw_46 : Cond.code ⟨"java/lang/StringBuilder", "<init>", "()V"⟩ prog_26_method_1_code 1 none ∈ xt_W := xt_in1 46 rfl rfl
theorem xw_47 : Cond.methodLink "java/lang/StringBuilder" 1 ⟨"java/lang/AbstractStringBuilder", "<init>", "(I)V"⟩ ∈ xt_W := xt_in1 47 rfl rfl
theorem xw_48 : Cond.instanceMethod ⟨"java/lang/AbstractStringBuilder", "<init>", "(I)V"⟩ ∈ xt_W := xt_in1 48 rfl rfl
theorem xw_49 : Cond.code ⟨"java/lang/AbstractStringBuilder", "<init>", "(I)V"⟩ prog_15_method_2_code 2 none ∈ xt_W := xt_in1 49 rfl rfl
theorem xw_50 : Cond.methodLink "java/lang/AbstractStringBuilder" 3 ⟨"java/lang/Object", "<init>", "()V"⟩ ∈ xt_W := xt_in1 50 rfl rfl
theorem xw_51 : Cond.fieldLink "java/lang/AbstractStringBuilder" 18 "java/lang/String" "COMPACT_STRINGS" "Z" ∈ xt_W := xt_in1 51 rfl rfl
theorem xw_53 : Cond.methodLink "java/lang/AbstractStringBuilder" 26 ⟨"java/lang/StringUTF16", "newBytesFor", "(I)[B"⟩ ∈ xt_W := xt_in1 53 rfl rfl
theorem xw_54 : Cond.static ⟨"java/lang/StringUTF16", "newBytesFor", "(I)[B"⟩ ∈ xt_W := xt_in1 54 rfl rfl
theorem xw_55 : Cond.code ⟨"java/lang/StringUTF16", "newBytesFor", "(I)[B"⟩ prog_28_method_2_code 1 (some (.array (.byte))) ∈ xt_W := xt_in1 55 rfl rfl
theorem xw_56 : Cond.methodLink "java/lang/StringUTF16" 11 ⟨"java/lang/StringUTF16", "newBytesLength", "(I)I"⟩ ∈ xt_W := xt_in1 56 rfl rfl
theorem xw_57 : Cond.static ⟨"java/lang/StringUTF16", "newBytesLength", "(I)I"⟩ ∈ xt_W := xt_in1 57 rfl rfl
theorem xw_58 : Cond.code ⟨"java/lang/StringUTF16", "newBytesLength", "(I)I"⟩ prog_28_method_3_code 1 (some (.int)) ∈ xt_W := xt_in1 58 rfl rfl
theorem xw_59 : Cond.constant "java/lang/StringUTF16" 20 1073741823 ∈ xt_W := xt_in1 59 rfl rfl
theorem xw_60 : Cond.fieldLink "java/lang/AbstractStringBuilder" 15 "java/lang/AbstractStringBuilder" "value" "[B" ∈ xt_W := xt_in1 60 rfl rfl
theorem xw_61 : Cond.fieldLink "java/lang/AbstractStringBuilder" 22 "java/lang/AbstractStringBuilder" "coder" "B" ∈ xt_W := xt_in1 61 rfl rfl
theorem xw_62 : Cond.fieldLink "java/lang/AbstractStringBuilder" 73 "java/lang/AbstractStringBuilder" "maybeLatin1" "Z" ∈ xt_W := xt_in1 62 rfl rfl
theorem xw_63 : Cond.fieldLink "java/lang/String" 1048 "java/lang/AbstractStringBuilder" "maybeLatin1" "Z" ∈ xt_W := xt_in1 63 rfl rfl
theorem xw_64 : Cond.fieldLink "java/lang/AbstractStringBuilder" 79 "java/lang/AbstractStringBuilder" "count" "I" ∈ xt_W := xt_in1 64 rfl rfl
theorem xw_65 : Cond.lays "java/lang/StringBuilder" "java/lang/AbstractStringBuilder" "value" "[B" ∈ xt_W := xt_in1 65 rfl rfl
theorem xw_67 : Cond.lays "java/lang/StringBuilder" "java/lang/AbstractStringBuilder" "coder" "B" ∈ xt_W := xt_in1 67 rfl rfl
theorem xw_69 : Cond.lays "java/lang/StringBuilder" "java/lang/AbstractStringBuilder" "maybeLatin1" "Z" ∈ xt_W := xt_in1 69 rfl rfl
theorem xw_71 : Cond.lays "java/lang/StringBuilder" "java/lang/AbstractStringBuilder" "count" "I" ∈ xt_W := xt_in1 71 rfl rfl
theorem xw_73 : Cond.superclass "java/lang/StringBuilder" "java/lang/AbstractStringBuilder" ∈ xt_W := xt_in1 73 rfl rfl
theorem xw_74 : Cond.arrayClass .byte ∈ xt_W := xt_in1 74 rfl rfl
theorem xw_75 : Cond.classLink "ContractDesk" 16 "ContractDesk$Interaction" ∈ xt_W := xt_in1 75 rfl rfl
theorem xw_77 : Cond.classLink "ContractDesk" 22 "ContractDesk$States" ∈ xt_W := xt_in1 77 rfl rfl
theorem xw_78 : Cond.instantiable "ContractDesk$States" 3 ∈ xt_W := xt_in1 78 rfl rfl
theorem xw_79 : Cond.methodLink "ContractDesk" 24 ⟨"ContractDesk$States", "<init>", "()V"⟩ ∈ xt_W := xt_in1 79 rfl rfl
theorem xw_80 : Cond.instanceMethod ⟨"ContractDesk$States", "<init>", "()V"⟩ ∈ xt_W := xt_in1 80 rfl rfl
theorem xw_81 : Cond.code ⟨"ContractDesk$States", "<init>", "()V"⟩ prog_10_method_1_code 1 none ∈ xt_W := xt_in1 81 rfl rfl
theorem xw_82 : Cond.methodLink "ContractDesk$States" 3 ⟨"java/lang/Object", "<init>", "()V"⟩ ∈ xt_W := xt_in1 82 rfl rfl
theorem xw_83 : Cond.fieldLink "ContractDesk$States" 11 "ContractDesk$States" "handlers" "[I" ∈ xt_W := xt_in1 83 rfl rfl
theorem xw_84 : Cond.fieldLink "ContractDesk$States" 15 "ContractDesk$States" "events" "[I" ∈ xt_W := xt_in1 84 rfl rfl
theorem xw_85 : Cond.fieldLink "ContractDesk$States" 30 "ContractDesk$States" "eventCount" "I" ∈ xt_W := xt_in1 85 rfl rfl
theorem xw_86 : Cond.laysFinal "ContractDesk$States" "ContractDesk$States" "handlers" "[I" ∈ xt_W := xt_in1 86 rfl rfl
theorem xw_88 : Cond.laysFinal "ContractDesk$States" "ContractDesk$States" "events" "[I" ∈ xt_W := xt_in1 88 rfl rfl
theorem xw_90 : Cond.lays "ContractDesk$States" "ContractDesk$States" "eventCount" "I" ∈ xt_W := xt_in1 90 rfl rfl
theorem xw_93 : Cond.arrayClass .int ∈ xt_W := xt_in1 93 rfl rfl
theorem xw_94 : Cond.classLink "ContractDesk" 29 "ContractDesk$Comparison" ∈ xt_W := xt_in1 94 rfl rfl
theorem xw_95 : Cond.instantiable "ContractDesk$Comparison" 4 ∈ xt_W := xt_in1 95 rfl rfl
theorem xw_96 : Cond.methodLink "ContractDesk" 31 ⟨"ContractDesk$Comparison", "<init>", "()V"⟩ ∈ xt_W := xt_in1 96 rfl rfl
theorem xw_97 : Cond.instanceMethod ⟨"ContractDesk$Comparison", "<init>", "()V"⟩ ∈ xt_W := xt_in1 97 rfl rfl
theorem xw_98 : Cond.code ⟨"ContractDesk$Comparison", "<init>", "()V"⟩ prog_2_method_1_code 2 none ∈ xt_W := xt_in1 98 rfl rfl
theorem xw_99 : Cond.methodLink "ContractDesk$Comparison" 3 ⟨"java/lang/Object", "<init>", "()V"⟩ ∈ xt_W := xt_in1 99 rfl rfl
theorem xw_100 : Cond.classLink "ContractDesk$Comparison" 9 "ContractDesk$Path" ∈ xt_W := xt_in1 100 rfl rfl
theorem xw_101 : Cond.instantiable "ContractDesk$Path" 2 ∈ xt_W := xt_in1 101 rfl rfl
theorem xw_102 : Cond.methodLink "ContractDesk$Comparison" 11 ⟨"ContractDesk$Path", "<init>", "(I)V"⟩ ∈ xt_W := xt_in1 102 rfl rfl
theorem xw_103 : Cond.instanceMethod ⟨"ContractDesk$Path", "<init>", "(I)V"⟩ ∈ xt_W := xt_in1 103 rfl rfl
theorem xw_104 : Cond.code ⟨"ContractDesk$Path", "<init>", "(I)V"⟩ prog_8_method_1_code 2 none ∈ xt_W := xt_in1 104 rfl rfl
theorem xw_105 : Cond.methodLink "ContractDesk$Path" 3 ⟨"java/lang/Object", "<init>", "()V"⟩ ∈ xt_W := xt_in1 105 rfl rfl
theorem xw_106 : Cond.fieldLink "ContractDesk$Path" 9 "ContractDesk$Path" "steps" "[I" ∈ xt_W := xt_in1 106 rfl rfl
theorem xw_107 : Cond.fieldLink "ContractDesk$Path" 63 "ContractDesk$Path" "length" "I" ∈ xt_W := xt_in1 107 rfl rfl
theorem xw_108 : Cond.laysFinal "ContractDesk$Path" "ContractDesk$Path" "steps" "[I" ∈ xt_W := xt_in1 108 rfl rfl
theorem xw_110 : Cond.lays "ContractDesk$Path" "ContractDesk$Path" "length" "I" ∈ xt_W := xt_in1 110 rfl rfl
theorem xw_113 : Cond.classLink "ContractDesk$Comparison" 20 "ContractDesk$Mismatch" ∈ xt_W := xt_in1 113 rfl rfl
theorem xw_115 : Cond.instantiable "ContractDesk$Mismatch" 2 ∈ xt_W := xt_in1 115 rfl rfl
theorem xw_116 : Cond.methodLink "ContractDesk$Comparison" 26 ⟨"ContractDesk$Mismatch", "<init>", "()V"⟩ ∈ xt_W := xt_in1 116 rfl rfl
theorem xw_117 : Cond.instanceMethod ⟨"ContractDesk$Mismatch", "<init>", "()V"⟩ ∈ xt_W := xt_in1 117 rfl rfl
theorem xw_118 : Cond.code ⟨"ContractDesk$Mismatch", "<init>", "()V"⟩ prog_7_method_1_code 1 none ∈ xt_W := xt_in1 118 rfl rfl
theorem xw_119 : Cond.methodLink "ContractDesk$Mismatch" 3 ⟨"java/lang/Object", "<init>", "()V"⟩ ∈ xt_W := xt_in1 119 rfl rfl
theorem xw_120 : Cond.classLink "ContractDesk$Mismatch" 9 "java/lang/StringBuilder" ∈ xt_W := xt_in1 120 rfl rfl
theorem xw_121 : Cond.methodLink "ContractDesk$Mismatch" 11 ⟨"java/lang/StringBuilder", "<init>", "()V"⟩ ∈ xt_W := xt_in1 121 rfl rfl
theorem xw_122 : Cond.fieldLink "ContractDesk$Mismatch" 12 "ContractDesk$Mismatch" "place" "Ljava/lang/StringBuilder;" ∈ xt_W := xt_in1 122 rfl rfl
theorem xw_123 : Cond.fieldLink "ContractDesk$Mismatch" 18 "ContractDesk$Mismatch" "kind" "I" ∈ xt_W := xt_in1 123 rfl rfl
theorem xw_124 : Cond.laysFinal "ContractDesk$Mismatch" "ContractDesk$Mismatch" "place" "Ljava/lang/StringBuilder;" ∈ xt_W := xt_in1 124 rfl rfl
theorem xw_126 : Cond.lays "ContractDesk$Mismatch" "ContractDesk$Mismatch" "kind" "I" ∈ xt_W := xt_in1 126 rfl rfl
theorem xw_129 : Cond.fieldLink "ContractDesk$Comparison" 14 "ContractDesk$Comparison" "place" "LContractDesk$Path;" ∈ xt_W := xt_in1 129 rfl rfl
theorem xw_130 : Cond.fieldLink "ContractDesk$Comparison" 22 "ContractDesk$Comparison" "mismatches" "[LContractDesk$Mismatch;" ∈ xt_W := xt_in1 130 rfl rfl
theorem xw_131 : Cond.fieldLink "ContractDesk$Comparison" 31 "ContractDesk$Comparison" "found" "I" ∈ xt_W := xt_in1 131 rfl rfl
theorem xw_132 : Cond.fieldLink "ContractDesk$Comparison" 27 "ContractDesk$Comparison" "interaction" "LContractDesk$Interaction;" ∈ xt_W := xt_in1 132 rfl rfl
theorem xw_133 : Cond.laysFinal "ContractDesk$Comparison" "ContractDesk$Comparison" "place" "LContractDesk$Path;" ∈ xt_W := xt_in1 133 rfl rfl
theorem xw_135 : Cond.laysFinal "ContractDesk$Comparison" "ContractDesk$Comparison" "mismatches" "[LContractDesk$Mismatch;" ∈ xt_W := xt_in1 135 rfl rfl
theorem xw_137 : Cond.lays "ContractDesk$Comparison" "ContractDesk$Comparison" "found" "I" ∈ xt_W := xt_in1 137 rfl rfl
theorem xw_139 : Cond.lays "ContractDesk$Comparison" "ContractDesk$Comparison" "interaction" "LContractDesk$Interaction;" ∈ xt_W := xt_in1 139 rfl rfl
theorem xw_142 : Cond.fieldLink "ContractDesk" 10 "ContractDesk" "text" "Ljava/lang/StringBuilder;" ∈ xt_W := xt_in1 142 rfl rfl
theorem xw_143 : Cond.fieldLink "ContractDesk" 18 "ContractDesk" "interactions" "[LContractDesk$Interaction;" ∈ xt_W := xt_in1 143 rfl rfl
theorem xw_144 : Cond.fieldLink "ContractDesk" 48 "ContractDesk" "interactionCount" "I" ∈ xt_W := xt_in1 144 rfl rfl
theorem xw_145 : Cond.fieldLink "ContractDesk" 25 "ContractDesk" "states" "LContractDesk$States;" ∈ xt_W := xt_in1 145 rfl rfl
theorem xw_146 : Cond.fieldLink "ContractDesk" 32 "ContractDesk" "comparison" "LContractDesk$Comparison;" ∈ xt_W := xt_in1 146 rfl rfl
theorem xw_147 : Cond.laysFinal "ContractDesk" "ContractDesk" "text" "Ljava/lang/StringBuilder;" ∈ xt_W := xt_in1 147 rfl rfl
theorem xw_149 : Cond.laysFinal "ContractDesk" "ContractDesk" "interactions" "[LContractDesk$Interaction;" ∈ xt_W := xt_in1 149 rfl rfl
theorem xw_151 : Cond.lays "ContractDesk" "ContractDesk" "interactionCount" "I" ∈ xt_W := xt_in1 151 rfl rfl
theorem xw_153 : Cond.laysFinal "ContractDesk" "ContractDesk" "states" "LContractDesk$States;" ∈ xt_W := xt_in1 153 rfl rfl
theorem xw_155 : Cond.laysFinal "ContractDesk" "ContractDesk" "comparison" "LContractDesk$Comparison;" ∈ xt_W := xt_in1 155 rfl rfl
theorem xw_158 : Cond.methodLink "ContractDeskLaw" 33 ⟨"ContractDesk", "write", "(J)Z"⟩ ∈ xt_W := xt_in1 158 rfl rfl
theorem xw_159 : Cond.instanceMethod ⟨"ContractDesk", "write", "(J)Z"⟩ ∈ xt_W := xt_in1 159 rfl rfl
theorem xw_160 : Cond.selects "ContractDesk" ⟨"ContractDesk", "write", "(J)Z"⟩ ⟨"ContractDesk", "write", "(J)Z"⟩ ∈ xt_W := xt_in1 160 rfl rfl
theorem xw_161 : Cond.code ⟨"ContractDesk", "write", "(J)Z"⟩ prog_1_method_2_code 6 (some (.boolean)) ∈ xt_W := xt_in1 161 rfl rfl
theorem xw_162 : Cond.methodLink "ContractDesk" 36 ⟨"ContractDesk", "byteOf", "(JI)I"⟩ ∈ xt_W := xt_in1 162 rfl rfl
theorem xw_163 : Cond.static ⟨"ContractDesk", "byteOf", "(JI)I"⟩ ∈ xt_W := xt_in1 163 rfl rfl
theorem xw_164 : Cond.code ⟨"ContractDesk", "byteOf", "(JI)I"⟩ prog_1_method_14_code 3 (some (.int)) ∈ xt_W := xt_in1 164 rfl rfl
theorem xw_165 : Cond.methodLink "ContractDesk" 40 ⟨"java/lang/StringBuilder", "length", "()I"⟩ ∈ xt_W := xt_in1 165 rfl rfl
theorem xw_166 : Cond.instanceMethod ⟨"java/lang/StringBuilder", "length", "()I"⟩ ∈ xt_W := xt_in1 166 rfl rfl
theorem xw_167 : Cond.selects "java/lang/StringBuilder" ⟨"java/lang/StringBuilder", "length", "()I"⟩ ⟨"java/lang/StringBuilder", "length", "()I"⟩ ∈ xt_W := xt_in1 167 rfl rfl
theorem xw_168 : Cond.code ⟨"java/lang/StringBuilder", "length", "()I"⟩ prog_26_method_93_code 1 (some (.int)) ∈ xt_W := xt_in1 168 rfl rfl
theorem xw_169 : Cond.methodLink "java/lang/StringBuilder" 343 ⟨"java/lang/AbstractStringBuilder", "length", "()I"⟩ ∈ xt_W := xt_in1 169 rfl rfl
theorem xw_170 : Cond.instanceMethod ⟨"java/lang/AbstractStringBuilder", "length", "()I"⟩ ∈ xt_W := xt_in1 170 rfl rfl
theorem xw_171 : Cond.code ⟨"java/lang/AbstractStringBuilder", "length", "()I"⟩ prog_15_method_6_code 1 (some (.int)) ∈ xt_W := xt_in1 171 rfl rfl
theorem xw_172 : Cond.methodLink "ContractDesk" 44 ⟨"java/lang/StringBuilder", "append", "(C)Ljava/lang/StringBuilder;"⟩ ∈ xt_W := xt_in1 172 rfl rfl
theorem xw_173 : Cond.instanceMethod ⟨"java/lang/StringBuilder", "append", "(C)Ljava/lang/StringBuilder;"⟩ ∈ xt_W := xt_in1 173 rfl rfl
theorem xw_174 : Cond.selects "java/lang/StringBuilder" ⟨"java/lang/StringBuilder", "append", "(C)Ljava/lang/StringBuilder;"⟩ ⟨"java/lang/StringBuilder", "append", "(C)Ljava/lang/StringBuilder;"⟩ ∈ xt_W := xt_in1 174 rfl rfl
theorem xw_175 : Cond.code ⟨"java/lang/StringBuilder", "append", "(C)Ljava/lang/StringBuilder;"⟩ prog_26_method_14_code 2 (some (.object "java/lang/StringBuilder")) ∈ xt_W := xt_in1 175 rfl rfl
theorem xw_176 : Cond.methodLink "java/lang/StringBuilder" 50 ⟨"java/lang/AbstractStringBuilder", "append", "(C)Ljava/lang/AbstractStringBuilder;"⟩ ∈ xt_W := xt_in1 176 rfl rfl
theorem xw_177 : Cond.instanceMethod ⟨"java/lang/AbstractStringBuilder", "append", "(C)Ljava/lang/AbstractStringBuilder;"⟩ ∈ xt_W := xt_in1 177 rfl rfl
theorem xw_178 : Cond.code ⟨"java/lang/AbstractStringBuilder", "append", "(C)Ljava/lang/AbstractStringBuilder;"⟩ prog_15_method_31_code 2 (some (.object "java/lang/AbstractStringBuilder")) ∈ xt_W := xt_in1 178 rfl rfl
theorem xw_179 : Cond.methodLink "java/lang/AbstractStringBuilder" 100 ⟨"java/lang/AbstractStringBuilder", "ensureCapacityInternal", "(I)V"⟩ ∈ xt_W := xt_in1 179 rfl rfl
theorem xw_181 : Cond.instanceMethod ⟨"java/lang/AbstractStringBuilder", "ensureCapacityInternal", "(I)V"⟩ ∈ xt_W := xt_in1 181 rfl rfl
theorem xw_182 : Cond.code ⟨"java/lang/AbstractStringBuilder", "ensureCapacityInternal", "(I)V"⟩ prog_15_method_9_code 3 none ∈ xt_W := xt_in1 182 rfl rfl
theorem xw_183 : Cond.methodLink "java/lang/AbstractStringBuilder" 104 ⟨"java/lang/AbstractStringBuilder", "newCapacity", "(I)I"⟩ ∈ xt_W := xt_in1 183 rfl rfl
theorem xw_185 : Cond.instanceMethod ⟨"java/lang/AbstractStringBuilder", "newCapacity", "(I)I"⟩ ∈ xt_W := xt_in1 185 rfl rfl
theorem xw_186 : Cond.code ⟨"java/lang/AbstractStringBuilder", "newCapacity", "(I)I"⟩ prog_15_method_10_code 6 (some (.int)) ∈ xt_W := xt_in1 186 rfl rfl
theorem xw_187 : Cond.methodLink "java/lang/AbstractStringBuilder" 114 ⟨"jdk/internal/util/ArraysSupport", "newLength", "(III)I"⟩ ∈ xt_W := xt_in1 187 rfl rfl
theorem xw_188 : Cond.static ⟨"jdk/internal/util/ArraysSupport", "newLength", "(III)I"⟩ ∈ xt_W := xt_in1 188 rfl rfl
theorem xw_189 : Cond.code ⟨"jdk/internal/util/ArraysSupport", "newLength", "(III)I"⟩ prog_40_method_27_code 4 (some (.int)) ∈ xt_W := xt_in1 189 rfl rfl
theorem xw_190 : Cond.methodLink "jdk/internal/util/ArraysSupport" 194 ⟨"java/lang/Math", "max", "(II)I"⟩ ∈ xt_W := xt_in1 190 rfl rfl
theorem xw_191 : Cond.static ⟨"java/lang/Math", "max", "(II)I"⟩ ∈ xt_W := xt_in1 191 rfl rfl
theorem xw_192 : Cond.code ⟨"java/lang/Math", "max", "(II)I"⟩ prog_23_method_65_code 2 (some (.int)) ∈ xt_W := xt_in1 192 rfl rfl
theorem xw_193 : Cond.constant "jdk/internal/util/ArraysSupport" 200 2147483639 ∈ xt_W := xt_in1 193 rfl rfl
theorem xw_194 : Cond.methodLink "jdk/internal/util/ArraysSupport" 201 ⟨"jdk/internal/util/ArraysSupport", "hugeLength", "(II)I"⟩ ∈ xt_W := xt_in1 194 rfl rfl
theorem xw_195 : Cond.static ⟨"jdk/internal/util/ArraysSupport", "hugeLength", "(II)I"⟩ ∈ xt_W := xt_in1 195 rfl rfl
theorem xw_196 : Cond.code ⟨"jdk/internal/util/ArraysSupport", "hugeLength", "(II)I"⟩ prog_40_method_28_code 3 (some (.int)) ∈ xt_W := xt_in1 196 rfl rfl
theorem xw_197 : Cond.constant "java/lang/AbstractStringBuilder" 39 2147483647 ∈ xt_W := xt_in1 197 rfl rfl
theorem xw_198 : Cond.methodLink "java/lang/AbstractStringBuilder" 108 ⟨"java/util/Arrays", "copyOf", "([BI)[B"⟩ ∈ xt_W := xt_in1 198 rfl rfl
theorem xw_199 : Cond.static ⟨"java/util/Arrays", "copyOf", "([BI)[B"⟩ ∈ xt_W := xt_in1 199 rfl rfl
theorem xw_200 : Cond.code ⟨"java/util/Arrays", "copyOf", "([BI)[B"⟩ prog_34_method_121_code 3 (some (.array (.byte))) ∈ xt_W := xt_in1 200 rfl rfl
theorem xw_201 : Cond.methodLink "java/util/Arrays" 310 ⟨"[B", "clone", "()Ljava/lang/Object;"⟩ ∈ xt_W := xt_in1 201 rfl rfl
theorem xw_202 : Cond.sameMethod "[B" "java/lang/Object" "clone" "()Ljava/lang/Object;" ∈ xt_W := xt_in1 202 rfl rfl
theorem xw_203 : Cond.native ⟨"java/lang/Object", "clone", "()Ljava/lang/Object;"⟩ ∈ xt_W := xt_in1 203 rfl rfl
theorem xw_204 : Cond.instanceMethod ⟨"java/lang/Object", "clone", "()Ljava/lang/Object;"⟩ ∈ xt_W := xt_in1 204 rfl rfl
theorem xw_205 : Cond.selects "[B" ⟨"[B", "clone", "()Ljava/lang/Object;"⟩ ⟨"java/lang/Object", "clone", "()Ljava/lang/Object;"⟩ ∈ xt_W := xt_in1 205 rfl rfl
theorem xw_207 : Cond.classLink "java/util/Arrays" 311 "[B" ∈ xt_W := xt_in1 207 rfl rfl
theorem xw_208 : Cond.methodLink "java/util/Arrays" 304 ⟨"java/lang/Math", "min", "(II)I"⟩ ∈ xt_W := xt_in1 208 rfl rfl
theorem xw_209 : Cond.static ⟨"java/lang/Math", "min", "(II)I"⟩ ∈ xt_W := xt_in1 209 rfl rfl
theorem xw_210 : Cond.code ⟨"java/lang/Math", "min", "(II)I"⟩ prog_23_method_69_code 2 (some (.int)) ∈ xt_W := xt_in1 210 rfl rfl
theorem xw_211 : Cond.methodLink "java/util/Arrays" 150 ⟨"java/lang/System", "arraycopy", "(Ljava/lang/Object;ILjava/lang/Object;II)V"⟩ ∈ xt_W := xt_in1 211 rfl rfl
theorem xw_212 : Cond.static ⟨"java/lang/System", "arraycopy", "(Ljava/lang/Object;ILjava/lang/Object;II)V"⟩ ∈ xt_W := xt_in1 212 rfl rfl
theorem xw_213 : Cond.native ⟨"java/lang/System", "arraycopy", "(Ljava/lang/Object;ILjava/lang/Object;II)V"⟩ ∈ xt_W := xt_in1 213 rfl rfl
theorem xw_214 : Cond.methodLink "java/lang/AbstractStringBuilder" 83 ⟨"java/lang/AbstractStringBuilder", "isLatin1", "()Z"⟩ ∈ xt_W := xt_in1 214 rfl rfl
theorem xw_215 : Cond.instanceMethod ⟨"java/lang/AbstractStringBuilder", "isLatin1", "()Z"⟩ ∈ xt_W := xt_in1 215 rfl rfl
theorem xw_217 : Cond.selects "java/lang/StringBuilder" ⟨"java/lang/AbstractStringBuilder", "isLatin1", "()Z"⟩ ⟨"java/lang/AbstractStringBuilder", "isLatin1", "()Z"⟩ ∈ xt_W := xt_in1 217 rfl rfl
theorem xw_218 : Cond.code ⟨"java/lang/AbstractStringBuilder", "isLatin1", "()Z"⟩ prog_15_method_68_code 1 (some (.boolean)) ∈ xt_W := xt_in1 218 rfl rfl
theorem xw_219 : Cond.methodLink "java/lang/AbstractStringBuilder" 191 ⟨"java/lang/StringLatin1", "canEncode", "(C)Z"⟩ ∈ xt_W := xt_in1 219 rfl rfl
theorem xw_220 : Cond.static ⟨"java/lang/StringLatin1", "canEncode", "(C)Z"⟩ ∈ xt_W := xt_in1 220 rfl rfl
theorem xw_221 : Cond.code ⟨"java/lang/StringLatin1", "canEncode", "(C)Z"⟩ prog_27_method_3_code 1 (some (.boolean)) ∈ xt_W := xt_in1 221 rfl rfl
theorem xw_222 : Cond.methodLink "java/lang/AbstractStringBuilder" 195 ⟨"java/lang/AbstractStringBuilder", "inflate", "()V"⟩ ∈ xt_W := xt_in1 222 rfl rfl
theorem xw_224 : Cond.instanceMethod ⟨"java/lang/AbstractStringBuilder", "inflate", "()V"⟩ ∈ xt_W := xt_in1 224 rfl rfl
theorem xw_225 : Cond.code ⟨"java/lang/AbstractStringBuilder", "inflate", "()V"⟩ prog_15_method_11_code 2 none ∈ xt_W := xt_in1 225 rfl rfl
theorem xw_226 : Cond.methodLink "java/lang/AbstractStringBuilder" 125 ⟨"java/lang/StringLatin1", "inflate", "([BI[BII)V"⟩ ∈ xt_W := xt_in1 226 rfl rfl
theorem xw_227 : Cond.static ⟨"java/lang/StringLatin1", "inflate", "([BI[BII)V"⟩ ∈ xt_W := xt_in1 227 rfl rfl
theorem xw_228 : Cond.code ⟨"java/lang/StringLatin1", "inflate", "([BI[BII)V"⟩ prog_27_method_50_code 5 none ∈ xt_W := xt_in1 228 rfl rfl
theorem xw_229 : Cond.methodLink "java/lang/StringLatin1" 240 ⟨"java/lang/StringUTF16", "inflate", "([BI[BII)V"⟩ ∈ xt_W := xt_in1 229 rfl rfl
theorem xw_230 : Cond.static ⟨"java/lang/StringUTF16", "inflate", "([BI[BII)V"⟩ ∈ xt_W := xt_in1 230 rfl rfl
theorem xw_231 : Cond.code ⟨"java/lang/StringUTF16", "inflate", "([BI[BII)V"⟩ prog_28_method_86_code 6 none ∈ xt_W := xt_in1 231 rfl rfl
theorem xw_232 : Cond.methodLink "java/lang/StringUTF16" 173 ⟨"java/lang/StringUTF16", "checkBoundsOffCount", "(II[B)V"⟩ ∈ xt_W := xt_in1 232 rfl rfl
theorem xw_233 : Cond.static ⟨"java/lang/StringUTF16", "checkBoundsOffCount", "(II[B)V"⟩ ∈ xt_W := xt_in1 233 rfl rfl
theorem xw_234 : Cond.code ⟨"java/lang/StringUTF16", "checkBoundsOffCount", "(II[B)V"⟩ prog_28_method_94_code 3 none ∈ xt_W := xt_in1 234 rfl rfl
theorem xw_235 : Cond.methodLink "java/lang/StringUTF16" 48 ⟨"java/lang/StringUTF16", "length", "([B)I"⟩ ∈ xt_W := xt_in1 235 rfl rfl
theorem xw_236 : Cond.static ⟨"java/lang/StringUTF16", "length", "([B)I"⟩ ∈ xt_W := xt_in1 236 rfl rfl
theorem xw_237 : Cond.code ⟨"java/lang/StringUTF16", "length", "([B)I"⟩ prog_28_method_6_code 1 (some (.int)) ∈ xt_W := xt_in1 237 rfl rfl
theorem xw_238 : Cond.methodLink "java/lang/StringUTF16" 419 ⟨"java/lang/String", "checkBoundsOffCount", "(III)I"⟩ ∈ xt_W := xt_in1 238 rfl rfl
theorem xw_239 : Cond.static ⟨"java/lang/String", "checkBoundsOffCount", "(III)I"⟩ ∈ xt_W := xt_in1 239 rfl rfl
theorem xw_240 : Cond.code ⟨"java/lang/String", "checkBoundsOffCount", "(III)I"⟩ prog_25_method_157_code 3 (some (.int)) ∈ xt_W := xt_in2 0 rfl rfl
theorem xw_241 : Cond.fieldLink "java/lang/String" 1053 "jdk/internal/util/Preconditions" "SIOOBE_FORMATTER" "Ljava/util/function/BiFunction;" ∈ xt_W := xt_in2 1 rfl rfl
theorem xw_243 : Cond.methodLink "java/lang/String" 1065 ⟨"jdk/internal/util/Preconditions", "checkFromIndexSize", "(IIILjava/util/function/BiFunction;)I"⟩ ∈ xt_W := xt_in2 3 rfl rfl
theorem xw_244 : Cond.static ⟨"jdk/internal/util/Preconditions", "checkFromIndexSize", "(IIILjava/util/function/BiFunction;)I"⟩ ∈ xt_W := xt_in2 4 rfl rfl
theorem xw_245 : Cond.code ⟨"jdk/internal/util/Preconditions", "checkFromIndexSize", "(IIILjava/util/function/BiFunction;)I"⟩ prog_41_method_13_code 4 (some (.int)) ∈ xt_W := xt_in2 5 rfl rfl
theorem xw_246 : Cond.methodLink "java/lang/StringUTF16" 111 ⟨"java/lang/StringUTF16", "putChar", "([BII)V"⟩ ∈ xt_W := xt_in2 6 rfl rfl
theorem xw_247 : Cond.static ⟨"java/lang/StringUTF16", "putChar", "([BII)V"⟩ ∈ xt_W := xt_in2 7 rfl rfl
theorem xw_248 : Cond.code ⟨"java/lang/StringUTF16", "putChar", "([BII)V"⟩ prog_28_method_4_code 3 none ∈ xt_W := xt_in2 8 rfl rfl
theorem xw_249 : Cond.fieldLink "java/lang/StringUTF16" 44 "java/lang/StringUTF16" "$assertionsDisabled" "Z" ∈ xt_W := xt_in2 9 rfl rfl
theorem xw_251 : Cond.fieldLink "java/lang/StringUTF16" 59 "java/lang/StringUTF16" "HI_BYTE_SHIFT" "I" ∈ xt_W := xt_in2 11 rfl rfl
theorem xw_253 : Cond.fieldLink "java/lang/StringUTF16" 63 "java/lang/StringUTF16" "LO_BYTE_SHIFT" "I" ∈ xt_W := xt_in2 13 rfl rfl
theorem xw_255 : Cond.methodLink "java/lang/AbstractStringBuilder" 197 ⟨"java/lang/StringUTF16", "putCharSB", "([BII)V"⟩ ∈ xt_W := xt_in2 15 rfl rfl
theorem xw_256 : Cond.static ⟨"java/lang/StringUTF16", "putCharSB", "([BII)V"⟩ ∈ xt_W := xt_in2 16 rfl rfl
theorem xw_257 : Cond.code ⟨"java/lang/StringUTF16", "putCharSB", "([BII)V"⟩ prog_28_method_71_code 3 none ∈ xt_W := xt_in2 17 rfl rfl
theorem xw_258 : Cond.methodLink "java/lang/StringUTF16" 67 ⟨"java/lang/StringUTF16", "checkIndex", "(I[B)V"⟩ ∈ xt_W := xt_in2 18 rfl rfl
theorem xw_259 : Cond.static ⟨"java/lang/StringUTF16", "checkIndex", "(I[B)V"⟩ ∈ xt_W := xt_in2 19 rfl rfl
theorem xw_260 : Cond.code ⟨"java/lang/StringUTF16", "checkIndex", "(I[B)V"⟩ prog_28_method_91_code 2 none ∈ xt_W := xt_in2 20 rfl rfl
theorem xw_261 : Cond.methodLink "java/lang/StringUTF16" 414 ⟨"java/lang/String", "checkIndex", "(II)V"⟩ ∈ xt_W := xt_in2 21 rfl rfl
theorem xw_262 : Cond.static ⟨"java/lang/String", "checkIndex", "(II)V"⟩ ∈ xt_W := xt_in2 22 rfl rfl
theorem xw_263 : Cond.code ⟨"java/lang/String", "checkIndex", "(II)V"⟩ prog_25_method_155_code 2 none ∈ xt_W := xt_in2 23 rfl rfl
theorem xw_264 : Cond.methodLink "java/lang/String" 1059 ⟨"jdk/internal/util/Preconditions", "checkIndex", "(IILjava/util/function/BiFunction;)I"⟩ ∈ xt_W := xt_in2 24 rfl rfl
theorem xw_265 : Cond.static ⟨"jdk/internal/util/Preconditions", "checkIndex", "(IILjava/util/function/BiFunction;)I"⟩ ∈ xt_W := xt_in2 25 rfl rfl
theorem xw_266 : Cond.code ⟨"jdk/internal/util/Preconditions", "checkIndex", "(IILjava/util/function/BiFunction;)I"⟩ prog_41_method_11_code 3 (some (.int)) ∈ xt_W := xt_in2 26 rfl rfl
theorem xw_267 : Cond.methodLink "ContractDeskLaw" 55 ⟨"ContractDesk", "needs", "(II)Z"⟩ ∈ xt_W := xt_in2 27 rfl rfl
theorem xw_268 : Cond.instanceMethod ⟨"ContractDesk", "needs", "(II)Z"⟩ ∈ xt_W := xt_in2 28 rfl rfl
theorem xw_269 : Cond.selects "ContractDesk" ⟨"ContractDesk", "needs", "(II)Z"⟩ ⟨"ContractDesk", "needs", "(II)Z"⟩ ∈ xt_W := xt_in2 29 rfl rfl
theorem xw_270 : Cond.code ⟨"ContractDesk", "needs", "(II)Z"⟩ prog_1_method_6_code 4 (some (.boolean)) ∈ xt_W := xt_in2 30 rfl rfl
theorem xw_271 : Cond.methodLink "ContractDesk" 58 ⟨"ContractDesk", "find", "(I)LContractDesk$Interaction;"⟩ ∈ xt_W := xt_in2 31 rfl rfl
theorem xw_273 : Cond.instanceMethod ⟨"ContractDesk", "find", "(I)LContractDesk$Interaction;"⟩ ∈ xt_W := xt_in2 33 rfl rfl
theorem xw_274 : Cond.code ⟨"ContractDesk", "find", "(I)LContractDesk$Interaction;"⟩ prog_1_method_15_code 2 (some (.object "ContractDesk$Interaction")) ∈ xt_W := xt_in2 34 rfl rfl
theorem xw_275 : Cond.methodLink "ContractDesk" 91 ⟨"ContractDesk$States", "exists", "(I)Z"⟩ ∈ xt_W := xt_in2 35 rfl rfl
theorem xw_276 : Cond.static ⟨"ContractDesk$States", "exists", "(I)Z"⟩ ∈ xt_W := xt_in2 36 rfl rfl
theorem xw_277 : Cond.code ⟨"ContractDesk$States", "exists", "(I)Z"⟩ prog_10_method_2_code 1 (some (.boolean)) ∈ xt_W := xt_in2 37 rfl rfl
theorem xw_278 : Cond.methodLink "ContractDesk" 95 ⟨"ContractDesk$Interaction", "addState", "(I)Z"⟩ ∈ xt_W := xt_in2 38 rfl rfl
theorem xw_279 : Cond.instanceMethod ⟨"ContractDesk$Interaction", "addState", "(I)Z"⟩ ∈ xt_W := xt_in2 39 rfl rfl
theorem xw_280 : Cond.selects "ContractDesk$Interaction" ⟨"ContractDesk$Interaction", "addState", "(I)Z"⟩ ⟨"ContractDesk$Interaction", "addState", "(I)Z"⟩ ∈ xt_W := xt_in2 40 rfl rfl
theorem xw_281 : Cond.code ⟨"ContractDesk$Interaction", "addState", "(I)Z"⟩ prog_4_method_8_code 2 (some (.boolean)) ∈ xt_W := xt_in2 41 rfl rfl
theorem xw_282 : Cond.methodLink "ContractDesk$Interaction" 50 ⟨"ContractDesk$Interaction", "hasState", "(I)Z"⟩ ∈ xt_W := xt_in2 42 rfl rfl
theorem xw_284 : Cond.instanceMethod ⟨"ContractDesk$Interaction", "hasState", "(I)Z"⟩ ∈ xt_W := xt_in2 44 rfl rfl
theorem xw_285 : Cond.instantiable "ContractDesk$Interaction" 6 ∈ xt_W := xt_in2 45 rfl rfl
theorem xw_286 : Cond.code ⟨"ContractDesk$Interaction", "hasState", "(I)Z"⟩ prog_4_method_9_code 3 (some (.boolean)) ∈ xt_W := xt_in2 46 rfl rfl
theorem xw_287 : Cond.methodLink "ContractDeskLaw" 60 ⟨"ContractDesk", "handler", "(II)Z"⟩ ∈ xt_W := xt_in2 47 rfl rfl
theorem xw_288 : Cond.instanceMethod ⟨"ContractDesk", "handler", "(II)Z"⟩ ∈ xt_W := xt_in2 48 rfl rfl
theorem xw_289 : Cond.selects "ContractDesk" ⟨"ContractDesk", "handler", "(II)Z"⟩ ⟨"ContractDesk", "handler", "(II)Z"⟩ ∈ xt_W := xt_in2 49 rfl rfl
theorem xw_290 : Cond.code ⟨"ContractDesk", "handler", "(II)Z"⟩ prog_1_method_7_code 3 (some (.boolean)) ∈ xt_W := xt_in2 50 rfl rfl
theorem xw_291 : Cond.methodLink "ContractDesk" 98 ⟨"ContractDesk$States", "assign", "(II)Z"⟩ ∈ xt_W := xt_in2 51 rfl rfl
theorem xw_292 : Cond.instanceMethod ⟨"ContractDesk$States", "assign", "(II)Z"⟩ ∈ xt_W := xt_in2 52 rfl rfl
theorem xw_293 : Cond.selects "ContractDesk$States" ⟨"ContractDesk$States", "assign", "(II)Z"⟩ ⟨"ContractDesk$States", "assign", "(II)Z"⟩ ∈ xt_W := xt_in2 53 rfl rfl
theorem xw_294 : Cond.code ⟨"ContractDesk$States", "assign", "(II)Z"⟩ prog_10_method_3_code 3 (some (.boolean)) ∈ xt_W := xt_in2 54 rfl rfl
theorem xw_295 : Cond.methodLink "ContractDesk$States" 18 ⟨"ContractDesk$States", "exists", "(I)Z"⟩ ∈ xt_W := xt_in2 55 rfl rfl
theorem xw_296 : Cond.methodLink "ContractDeskLaw" 64 ⟨"ContractDesk", "select", "(I)I"⟩ ∈ xt_W := xt_in2 56 rfl rfl
theorem xw_297 : Cond.instanceMethod ⟨"ContractDesk", "select", "(I)I"⟩ ∈ xt_W := xt_in2 57 rfl rfl
theorem xw_298 : Cond.selects "ContractDesk" ⟨"ContractDesk", "select", "(I)I"⟩ ⟨"ContractDesk", "select", "(I)I"⟩ ∈ xt_W := xt_in2 58 rfl rfl
theorem xw_299 : Cond.code ⟨"ContractDesk", "select", "(I)I"⟩ prog_1_method_8_code 4 (some (.int)) ∈ xt_W := xt_in2 59 rfl rfl
theorem xw_300 : Cond.methodLink "ContractDesk" 62 ⟨"ContractDesk", "takeText", "()LContractDesk$Cursor;"⟩ ∈ xt_W := xt_in2 60 rfl rfl
theorem xw_302 : Cond.instanceMethod ⟨"ContractDesk", "takeText", "()LContractDesk$Cursor;"⟩ ∈ xt_W := xt_in2 62 rfl rfl
theorem xw_303 : Cond.code ⟨"ContractDesk", "takeText", "()LContractDesk$Cursor;"⟩ prog_1_method_16_code 2 (some (.object "ContractDesk$Cursor")) ∈ xt_W := xt_in2 63 rfl rfl
theorem xw_304 : Cond.classLink "ContractDesk" 153 "ContractDesk$Cursor" ∈ xt_W := xt_in2 64 rfl rfl
theorem xw_305 : Cond.instantiable "ContractDesk$Cursor" 2 ∈ xt_W := xt_in2 65 rfl rfl
theorem xw_306 : Cond.methodLink "ContractDesk" 155 ⟨"java/lang/StringBuilder", "toString", "()Ljava/lang/String;"⟩ ∈ xt_W := xt_in2 66 rfl rfl
theorem xw_307 : Cond.instanceMethod ⟨"java/lang/StringBuilder", "toString", "()Ljava/lang/String;"⟩ ∈ xt_W := xt_in2 67 rfl rfl
theorem xw_308 : Cond.selects "java/lang/StringBuilder" ⟨"java/lang/StringBuilder", "toString", "()Ljava/lang/String;"⟩ ⟨"java/lang/StringBuilder", "toString", "()Ljava/lang/String;"⟩ ∈ xt_W := xt_in2 68 rfl rfl
theorem xw_309 : Cond.code ⟨"java/lang/StringBuilder", "toString", "()Ljava/lang/String;"⟩ prog_26_method_42_code 1 (some (.object "java/lang/String")) ∈ xt_W := xt_in2 69 rfl rfl
theorem xw_310 : Cond.classLink "java/lang/StringBuilder" 18 "java/lang/String" ∈ xt_W := xt_in2 70 rfl rfl
theorem xw_311 : Cond.instantiable "java/lang/String" 4 ∈ xt_W := xt_in2 71 rfl rfl
theorem xw_312 : Cond.methodLink "java/lang/StringBuilder" 137 ⟨"java/lang/String", "<init>", "(Ljava/lang/StringBuilder;)V"⟩ ∈ xt_W := xt_in2 72 rfl rfl
theorem xw_313 : Cond.instanceMethod ⟨"java/lang/String", "<init>", "(Ljava/lang/StringBuilder;)V"⟩ ∈ xt_W := xt_in2 73 rfl rfl
theorem xw_314 : Cond.code ⟨"java/lang/String", "<init>", "(Ljava/lang/StringBuilder;)V"⟩ prog_25_method_53_code 2 none ∈ xt_W := xt_in2 74 rfl rfl
theorem xw_315 : Cond.methodLink "java/lang/String" 489 ⟨"java/lang/String", "<init>", "(Ljava/lang/AbstractStringBuilder;Ljava/lang/Void;)V"⟩ ∈ xt_W := xt_in2 75 rfl rfl
theorem xw_316 : Cond.instanceMethod ⟨"java/lang/String", "<init>", "(Ljava/lang/AbstractStringBuilder;Ljava/lang/Void;)V"⟩ ∈ xt_W := xt_in2 76 rfl rfl
theorem xw_317 : Cond.code ⟨"java/lang/String", "<init>", "(Ljava/lang/AbstractStringBuilder;Ljava/lang/Void;)V"⟩ prog_25_method_150_code 5 none ∈ xt_W := xt_in2 77 rfl rfl
theorem xw_318 : Cond.methodLink "java/lang/String" 1 ⟨"java/lang/Object", "<init>", "()V"⟩ ∈ xt_W := xt_in2 78 rfl rfl
theorem xw_319 : Cond.methodLink "java/lang/String" 552 ⟨"java/lang/AbstractStringBuilder", "getValue", "()[B"⟩ ∈ xt_W := xt_in2 79 rfl rfl
theorem xw_320 : Cond.instanceMethod ⟨"java/lang/AbstractStringBuilder", "getValue", "()[B"⟩ ∈ xt_W := xt_in2 80 rfl rfl
theorem xw_322 : Cond.selects "java/lang/StringBuilder" ⟨"java/lang/AbstractStringBuilder", "getValue", "()[B"⟩ ⟨"java/lang/AbstractStringBuilder", "getValue", "()[B"⟩ ∈ xt_W := xt_in2 82 rfl rfl
theorem xw_323 : Cond.code ⟨"java/lang/AbstractStringBuilder", "getValue", "()[B"⟩ prog_15_method_64_code 1 (some (.array (.byte))) ∈ xt_W := xt_in2 83 rfl rfl
theorem xw_324 : Cond.methodLink "java/lang/String" 549 ⟨"java/lang/AbstractStringBuilder", "length", "()I"⟩ ∈ xt_W := xt_in2 84 rfl rfl
theorem xw_325 : Cond.methodLink "java/lang/String" 1047 ⟨"java/lang/AbstractStringBuilder", "isLatin1", "()Z"⟩ ∈ xt_W := xt_in2 85 rfl rfl
theorem xw_326 : Cond.methodLink "java/lang/String" 54 ⟨"java/util/Arrays", "copyOfRange", "([BII)[B"⟩ ∈ xt_W := xt_in2 86 rfl rfl
theorem xw_327 : Cond.static ⟨"java/util/Arrays", "copyOfRange", "([BII)[B"⟩ ∈ xt_W := xt_in2 87 rfl rfl
theorem xw_328 : Cond.code ⟨"java/util/Arrays", "copyOfRange", "([BII)[B"⟩ prog_34_method_132_code 3 (some (.array (.byte))) ∈ xt_W := xt_in2 88 rfl rfl
theorem xw_329 : Cond.methodLink "java/util/Arrays" 339 ⟨"java/util/Arrays", "copyOfRangeByte", "([BII)[B"⟩ ∈ xt_W := xt_in2 89 rfl rfl
theorem xw_330 : Cond.static ⟨"java/util/Arrays", "copyOfRangeByte", "([BII)[B"⟩ ∈ xt_W := xt_in2 90 rfl rfl
theorem xw_331 : Cond.code ⟨"java/util/Arrays", "copyOfRangeByte", "([BII)[B"⟩ prog_34_method_133_code 5 (some (.array (.byte))) ∈ xt_W := xt_in2 91 rfl rfl
theorem xw_332 : Cond.methodLink "java/util/Arrays" 343 ⟨"java/util/Arrays", "checkLength", "(II)V"⟩ ∈ xt_W := xt_in2 92 rfl rfl
theorem xw_333 : Cond.static ⟨"java/util/Arrays", "checkLength", "(II)V"⟩ ∈ xt_W := xt_in2 93 rfl rfl
theorem xw_334 : Cond.code ⟨"java/util/Arrays", "checkLength", "(II)V"⟩ prog_34_method_131_code 2 none ∈ xt_W := xt_in2 94 rfl rfl
theorem xw_335 : Cond.fieldLink "java/lang/String" 38 "java/lang/String" "COMPACT_STRINGS" "Z" ∈ xt_W := xt_in2 95 rfl rfl
theorem xw_336 : Cond.methodLink "java/lang/String" 1051 ⟨"java/lang/StringUTF16", "compress", "([BII)[B"⟩ ∈ xt_W := xt_in2 96 rfl rfl
theorem xw_337 : Cond.static ⟨"java/lang/StringUTF16", "compress", "([BII)[B"⟩ ∈ xt_W := xt_in2 97 rfl rfl
theorem xw_338 : Cond.code ⟨"java/lang/StringUTF16", "compress", "([BII)[B"⟩ prog_28_method_17_code 6 (some (.array (.byte))) ∈ xt_W := xt_in2 98 rfl rfl
theorem xw_339 : Cond.methodLink "java/lang/StringUTF16" 123 ⟨"java/lang/StringUTF16", "compress", "([BI[BII)I"⟩ ∈ xt_W := xt_in2 99 rfl rfl
theorem xw_340 : Cond.static ⟨"java/lang/StringUTF16", "compress", "([BI[BII)I"⟩ ∈ xt_W := xt_in2 100 rfl rfl
theorem xw_341 : Cond.code ⟨"java/lang/StringUTF16", "compress", "([BI[BII)I"⟩ prog_28_method_22_code 7 (some (.int)) ∈ xt_W := xt_in2 101 rfl rfl
theorem xw_342 : Cond.methodLink "java/lang/StringUTF16" 71 ⟨"java/lang/StringUTF16", "getChar", "([BI)C"⟩ ∈ xt_W := xt_in2 102 rfl rfl
theorem xw_343 : Cond.static ⟨"java/lang/StringUTF16", "getChar", "([BI)C"⟩ ∈ xt_W := xt_in2 103 rfl rfl
theorem xw_344 : Cond.code ⟨"java/lang/StringUTF16", "getChar", "([BI)C"⟩ prog_28_method_5_code 2 (some (.char)) ∈ xt_W := xt_in2 104 rfl rfl
theorem xw_345 : Cond.methodLink "java/lang/StringUTF16" 126 ⟨"java/util/Arrays", "copyOfRange", "([BII)[B"⟩ ∈ xt_W := xt_in2 105 rfl rfl
theorem xw_346 : Cond.methodLink "java/lang/String" 47 ⟨"java/lang/StringUTF16", "coderFromArrayLen", "([BI)B"⟩ ∈ xt_W := xt_in2 106 rfl rfl
theorem xw_347 : Cond.static ⟨"java/lang/StringUTF16", "coderFromArrayLen", "([BI)B"⟩ ∈ xt_W := xt_in2 107 rfl rfl
theorem xw_348 : Cond.code ⟨"java/lang/StringUTF16", "coderFromArrayLen", "([BI)B"⟩ prog_28_method_15_code 2 (some (.byte)) ∈ xt_W := xt_in2 108 rfl rfl
theorem xw_349 : Cond.fieldLink "java/lang/String" 9 "java/lang/String" "value" "[B" ∈ xt_W := xt_in2 109 rfl rfl
theorem xw_350 : Cond.fieldLink "java/lang/String" 15 "java/lang/String" "coder" "B" ∈ xt_W := xt_in2 110 rfl rfl
theorem xw_351 : Cond.laysFinal "java/lang/String" "java/lang/String" "value" "[B" ∈ xt_W := xt_in2 111 rfl rfl
theorem xw_353 : Cond.laysFinal "java/lang/String" "java/lang/String" "coder" "B" ∈ xt_W := xt_in2 113 rfl rfl
theorem xw_355 : Cond.lays "java/lang/String" "java/lang/String" "hash" "I" ∈ xt_W := xt_in2 115 rfl rfl
theorem xw_357 : Cond.lays "java/lang/String" "java/lang/String" "hashIsZero" "Z" ∈ xt_W := xt_in2 117 rfl rfl
theorem xw_360 : Cond.methodLink "ContractDesk" 159 ⟨"ContractDesk$Cursor", "<init>", "(Ljava/lang/String;)V"⟩ ∈ xt_W := xt_in2 120 rfl rfl
theorem xw_361 : Cond.instanceMethod ⟨"ContractDesk$Cursor", "<init>", "(Ljava/lang/String;)V"⟩ ∈ xt_W := xt_in2 121 rfl rfl
theorem xw_362 : Cond.code ⟨"ContractDesk$Cursor", "<init>", "(Ljava/lang/String;)V"⟩ prog_3_method_1_code 2 none ∈ xt_W := xt_in2 122 rfl rfl
theorem xw_363 : Cond.methodLink "ContractDesk$Cursor" 1 ⟨"java/lang/Object", "<init>", "()V"⟩ ∈ xt_W := xt_in2 123 rfl rfl
theorem xw_364 : Cond.fieldLink "ContractDesk$Cursor" 7 "ContractDesk$Cursor" "letters" "Ljava/lang/String;" ∈ xt_W := xt_in2 124 rfl rfl
theorem xw_365 : Cond.fieldLink "ContractDesk$Cursor" 13 "ContractDesk$Cursor" "position" "I" ∈ xt_W := xt_in2 125 rfl rfl
theorem xw_366 : Cond.laysFinal "ContractDesk$Cursor" "ContractDesk$Cursor" "letters" "Ljava/lang/String;" ∈ xt_W := xt_in2 126 rfl rfl
theorem xw_368 : Cond.lays "ContractDesk$Cursor" "ContractDesk$Cursor" "position" "I" ∈ xt_W := xt_in2 128 rfl rfl
theorem xw_371 : Cond.methodLink "ContractDesk" 162 ⟨"java/lang/StringBuilder", "setLength", "(I)V"⟩ ∈ xt_W := xt_in2 131 rfl rfl
theorem xw_372 : Cond.instanceMethod ⟨"java/lang/StringBuilder", "setLength", "(I)V"⟩ ∈ xt_W := xt_in2 132 rfl rfl
theorem xw_373 : Cond.selects "java/lang/StringBuilder" ⟨"java/lang/StringBuilder", "setLength", "(I)V"⟩ ⟨"java/lang/StringBuilder", "setLength", "(I)V"⟩ ∈ xt_W := xt_in2 133 rfl rfl
theorem xw_374 : Cond.code ⟨"java/lang/StringBuilder", "setLength", "(I)V"⟩ prog_26_method_89_code 2 none ∈ xt_W := xt_in2 134 rfl rfl
theorem xw_375 : Cond.methodLink "java/lang/StringBuilder" 333 ⟨"java/lang/AbstractStringBuilder", "setLength", "(I)V"⟩ ∈ xt_W := xt_in2 135 rfl rfl
theorem xw_376 : Cond.instanceMethod ⟨"java/lang/AbstractStringBuilder", "setLength", "(I)V"⟩ ∈ xt_W := xt_in2 136 rfl rfl
theorem xw_377 : Cond.code ⟨"java/lang/AbstractStringBuilder", "setLength", "(I)V"⟩ prog_15_method_13_code 2 none ∈ xt_W := xt_in2 137 rfl rfl
theorem xw_378 : Cond.methodLink "java/lang/AbstractStringBuilder" 133 ⟨"java/lang/StringLatin1", "fillNull", "([BII)V"⟩ ∈ xt_W := xt_in2 138 rfl rfl
theorem xw_379 : Cond.static ⟨"java/lang/StringLatin1", "fillNull", "([BII)V"⟩ ∈ xt_W := xt_in2 139 rfl rfl
theorem xw_380 : Cond.code ⟨"java/lang/StringLatin1", "fillNull", "([BII)V"⟩ prog_27_method_48_code 3 none ∈ xt_W := xt_in2 140 rfl rfl
theorem xw_381 : Cond.methodLink "java/lang/StringLatin1" 236 ⟨"java/util/Arrays", "fill", "([BIIB)V"⟩ ∈ xt_W := xt_in2 141 rfl rfl
theorem xw_382 : Cond.static ⟨"java/util/Arrays", "fill", "([BIIB)V"⟩ ∈ xt_W := xt_in2 142 rfl rfl
theorem xw_383 : Cond.code ⟨"java/util/Arrays", "fill", "([BIIB)V"⟩ prog_34_method_110_code 5 none ∈ xt_W := xt_in2 143 rfl rfl
theorem xw_384 : Cond.methodLink "java/util/Arrays" 13 ⟨"java/util/Arrays", "rangeCheck", "(III)V"⟩ ∈ xt_W := xt_in2 144 rfl rfl
theorem xw_385 : Cond.static ⟨"java/util/Arrays", "rangeCheck", "(III)V"⟩ ∈ xt_W := xt_in2 145 rfl rfl
theorem xw_386 : Cond.code ⟨"java/util/Arrays", "rangeCheck", "(III)V"⟩ prog_34_method_30_code 3 none ∈ xt_W := xt_in2 146 rfl rfl
theorem xw_387 : Cond.methodLink "java/lang/AbstractStringBuilder" 137 ⟨"java/lang/StringUTF16", "fillNull", "([BII)V"⟩ ∈ xt_W := xt_in2 147 rfl rfl
theorem xw_388 : Cond.static ⟨"java/lang/StringUTF16", "fillNull", "([BII)V"⟩ ∈ xt_W := xt_in2 148 rfl rfl
theorem xw_389 : Cond.code ⟨"java/lang/StringUTF16", "fillNull", "([BII)V"⟩ prog_28_method_70_code 3 none ∈ xt_W := xt_in2 149 rfl rfl
theorem xw_390 : Cond.methodLink "java/lang/StringUTF16" 380 ⟨"java/util/Arrays", "fill", "([BIIB)V"⟩ ∈ xt_W := xt_in2 150 rfl rfl
theorem xw_391 : Cond.methodLink "ContractDesk" 102 ⟨"ContractDesk$Path", "readPlace", "(LContractDesk$Cursor;)LContractDesk$Path;"⟩ ∈ xt_W := xt_in2 151 rfl rfl
theorem xw_392 : Cond.static ⟨"ContractDesk$Path", "readPlace", "(LContractDesk$Cursor;)LContractDesk$Path;"⟩ ∈ xt_W := xt_in2 152 rfl rfl
theorem xw_393 : Cond.code ⟨"ContractDesk$Path", "readPlace", "(LContractDesk$Cursor;)LContractDesk$Path;"⟩ prog_8_method_3_code 2 (some (.object "ContractDesk$Path")) ∈ xt_W := xt_in2 153 rfl rfl
theorem xw_394 : Cond.methodLink "ContractDesk$Path" 15 ⟨"ContractDesk$Path", "readPath", "(LContractDesk$Cursor;IZ)LContractDesk$Path;"⟩ ∈ xt_W := xt_in2 154 rfl rfl
theorem xw_395 : Cond.static ⟨"ContractDesk$Path", "readPath", "(LContractDesk$Cursor;IZ)LContractDesk$Path;"⟩ ∈ xt_W := xt_in2 155 rfl rfl
theorem xw_396 : Cond.code ⟨"ContractDesk$Path", "readPath", "(LContractDesk$Cursor;IZ)LContractDesk$Path;"⟩ prog_8_method_4_code 6 (some (.object "ContractDesk$Path")) ∈ xt_W := xt_in2 156 rfl rfl
theorem xw_397 : Cond.methodLink "ContractDesk$Path" 25 ⟨"ContractDesk$Cursor", "accept", "(C)Z"⟩ ∈ xt_W := xt_in2 157 rfl rfl
theorem xw_398 : Cond.instanceMethod ⟨"ContractDesk$Cursor", "accept", "(C)Z"⟩ ∈ xt_W := xt_in2 158 rfl rfl
theorem xw_399 : Cond.selects "ContractDesk$Cursor" ⟨"ContractDesk$Cursor", "accept", "(C)Z"⟩ ⟨"ContractDesk$Cursor", "accept", "(C)Z"⟩ ∈ xt_W := xt_in2 159 rfl rfl
theorem xw_400 : Cond.code ⟨"ContractDesk$Cursor", "accept", "(C)Z"⟩ prog_3_method_6_code 2 (some (.boolean)) ∈ xt_W := xt_in2 160 rfl rfl
theorem xw_401 : Cond.methodLink "ContractDesk$Cursor" 27 ⟨"ContractDesk$Cursor", "peek", "()C"⟩ ∈ xt_W := xt_in2 161 rfl rfl
theorem xw_402 : Cond.instanceMethod ⟨"ContractDesk$Cursor", "peek", "()C"⟩ ∈ xt_W := xt_in2 162 rfl rfl
theorem xw_403 : Cond.selects "ContractDesk$Cursor" ⟨"ContractDesk$Cursor", "peek", "()C"⟩ ⟨"ContractDesk$Cursor", "peek", "()C"⟩ ∈ xt_W := xt_in2 163 rfl rfl
theorem xw_404 : Cond.code ⟨"ContractDesk$Cursor", "peek", "()C"⟩ prog_3_method_4_code 1 (some (.char)) ∈ xt_W := xt_in2 164 rfl rfl
theorem xw_405 : Cond.methodLink "ContractDesk$Cursor" 17 ⟨"java/lang/String", "length", "()I"⟩ ∈ xt_W := xt_in2 165 rfl rfl
theorem xw_406 : Cond.instanceMethod ⟨"java/lang/String", "length", "()I"⟩ ∈ xt_W := xt_in2 166 rfl rfl
theorem xw_407 : Cond.selects "java/lang/String" ⟨"java/lang/String", "length", "()I"⟩ ⟨"java/lang/String", "length", "()I"⟩ ∈ xt_W := xt_in2 167 rfl rfl
theorem xw_408 : Cond.code ⟨"java/lang/String", "length", "()I"⟩ prog_25_method_54_code 1 (some (.int)) ∈ xt_W := xt_in2 168 rfl rfl
theorem xw_409 : Cond.methodLink "java/lang/String" 335 ⟨"java/lang/String", "coder", "()B"⟩ ∈ xt_W := xt_in2 169 rfl rfl
theorem xw_410 : Cond.instanceMethod ⟨"java/lang/String", "coder", "()B"⟩ ∈ xt_W := xt_in2 170 rfl rfl
theorem xw_411 : Cond.selects "java/lang/String" ⟨"java/lang/String", "coder", "()B"⟩ ⟨"java/lang/String", "coder", "()B"⟩ ∈ xt_W := xt_in2 171 rfl rfl
theorem xw_412 : Cond.code ⟨"java/lang/String", "coder", "()B"⟩ prog_25_method_152_code 1 (some (.byte)) ∈ xt_W := xt_in2 172 rfl rfl
theorem xw_413 : Cond.methodLink "ContractDesk$Cursor" 23 ⟨"java/lang/String", "charAt", "(I)C"⟩ ∈ xt_W := xt_in2 173 rfl rfl
theorem xw_414 : Cond.instanceMethod ⟨"java/lang/String", "charAt", "(I)C"⟩ ∈ xt_W := xt_in2 174 rfl rfl
theorem xw_415 : Cond.selects "java/lang/String" ⟨"java/lang/String", "charAt", "(I)C"⟩ ⟨"java/lang/String", "charAt", "(I)C"⟩ ∈ xt_W := xt_in2 175 rfl rfl
theorem xw_416 : Cond.code ⟨"java/lang/String", "charAt", "(I)C"⟩ prog_25_method_56_code 2 (some (.char)) ∈ xt_W := xt_in2 176 rfl rfl
theorem xw_417 : Cond.methodLink "java/lang/String" 492 ⟨"java/lang/String", "isLatin1", "()Z"⟩ ∈ xt_W := xt_in2 177 rfl rfl
theorem xw_418 : Cond.instanceMethod ⟨"java/lang/String", "isLatin1", "()Z"⟩ ∈ xt_W := xt_in2 178 rfl rfl
theorem xw_419 : Cond.selects "java/lang/String" ⟨"java/lang/String", "isLatin1", "()Z"⟩ ⟨"java/lang/String", "isLatin1", "()Z"⟩ ∈ xt_W := xt_in2 179 rfl rfl
theorem xw_420 : Cond.code ⟨"java/lang/String", "isLatin1", "()Z"⟩ prog_25_method_154_code 1 (some (.boolean)) ∈ xt_W := xt_in2 180 rfl rfl
theorem xw_421 : Cond.methodLink "java/lang/String" 495 ⟨"java/lang/StringLatin1", "charAt", "([BI)C"⟩ ∈ xt_W := xt_in2 181 rfl rfl
theorem xw_422 : Cond.static ⟨"java/lang/StringLatin1", "charAt", "([BI)C"⟩ ∈ xt_W := xt_in2 182 rfl rfl
theorem xw_423 : Cond.code ⟨"java/lang/StringLatin1", "charAt", "([BI)C"⟩ prog_27_method_2_code 2 (some (.char)) ∈ xt_W := xt_in2 183 rfl rfl
theorem xw_424 : Cond.methodLink "java/lang/StringLatin1" 9 ⟨"java/lang/String", "checkIndex", "(II)V"⟩ ∈ xt_W := xt_in2 184 rfl rfl
theorem xw_425 : Cond.methodLink "java/lang/String" 498 ⟨"java/lang/StringUTF16", "charAt", "([BI)C"⟩ ∈ xt_W := xt_in2 185 rfl rfl
theorem xw_426 : Cond.static ⟨"java/lang/StringUTF16", "charAt", "([BI)C"⟩ ∈ xt_W := xt_in2 186 rfl rfl
theorem xw_427 : Cond.code ⟨"java/lang/StringUTF16", "charAt", "([BI)C"⟩ prog_28_method_83_code 2 (some (.char)) ∈ xt_W := xt_in2 187 rfl rfl
theorem xw_428 : Cond.classLink "ContractDesk$Path" 10 "ContractDesk$Path" ∈ xt_W := xt_in2 188 rfl rfl
theorem xw_429 : Cond.methodLink "ContractDesk$Path" 29 ⟨"ContractDesk$Path", "<init>", "(I)V"⟩ ∈ xt_W := xt_in2 189 rfl rfl
theorem xw_430 : Cond.methodLink "ContractDesk$Path" 32 ⟨"ContractDesk$Cursor", "peek", "()C"⟩ ∈ xt_W := xt_in2 190 rfl rfl
theorem xw_431 : Cond.methodLink "ContractDesk$Path" 36 ⟨"ContractDesk$Cursor", "next", "()C"⟩ ∈ xt_W := xt_in2 191 rfl rfl
theorem xw_432 : Cond.instanceMethod ⟨"ContractDesk$Cursor", "next", "()C"⟩ ∈ xt_W := xt_in2 192 rfl rfl
theorem xw_433 : Cond.selects "ContractDesk$Cursor" ⟨"ContractDesk$Cursor", "next", "()C"⟩ ⟨"ContractDesk$Cursor", "next", "()C"⟩ ∈ xt_W := xt_in2 193 rfl rfl
theorem xw_434 : Cond.code ⟨"ContractDesk$Cursor", "next", "()C"⟩ prog_3_method_5_code 2 (some (.char)) ∈ xt_W := xt_in2 194 rfl rfl
theorem xw_435 : Cond.methodLink "ContractDesk$Path" 39 ⟨"ContractDesk$Path", "readKey", "(LContractDesk$Cursor;Z)I"⟩ ∈ xt_W := xt_in2 195 rfl rfl
theorem xw_436 : Cond.static ⟨"ContractDesk$Path", "readKey", "(LContractDesk$Cursor;Z)I"⟩ ∈ xt_W := xt_in2 196 rfl rfl
theorem xw_437 : Cond.code ⟨"ContractDesk$Path", "readKey", "(LContractDesk$Cursor;Z)I"⟩ prog_8_method_5_code 3 (some (.int)) ∈ xt_W := xt_in2 197 rfl rfl
theorem xw_438 : Cond.methodLink "ContractDesk$Path" 49 ⟨"ContractDesk$Cursor", "acceptLetters", "(I)I"⟩ ∈ xt_W := xt_in2 198 rfl rfl
theorem xw_439 : Cond.instanceMethod ⟨"ContractDesk$Cursor", "acceptLetters", "(I)I"⟩ ∈ xt_W := xt_in2 199 rfl rfl
theorem xw_440 : Cond.selects "ContractDesk$Cursor" ⟨"ContractDesk$Cursor", "acceptLetters", "(I)I"⟩ ⟨"ContractDesk$Cursor", "acceptLetters", "(I)I"⟩ ∈ xt_W := xt_in2 200 rfl rfl
theorem xw_441 : Cond.code ⟨"ContractDesk$Cursor", "acceptLetters", "(I)I"⟩ prog_3_method_8_code 3 (some (.int)) ∈ xt_W := xt_in2 201 rfl rfl
theorem xw_442 : Cond.methodLink "ContractDesk$Path" 53 ⟨"ContractDesk$Path", "keyStep", "(C)I"⟩ ∈ xt_W := xt_in2 202 rfl rfl
theorem xw_443 : Cond.static ⟨"ContractDesk$Path", "keyStep", "(C)I"⟩ ∈ xt_W := xt_in2 203 rfl rfl
theorem xw_444 : Cond.code ⟨"ContractDesk$Path", "keyStep", "(C)I"⟩ prog_8_method_2_code 1 (some (.int)) ∈ xt_W := xt_in2 204 rfl rfl
theorem xw_445 : Cond.methodLink "ContractDesk$Path" 43 ⟨"ContractDesk$Path", "readNumber", "(LContractDesk$Cursor;Z)I"⟩ ∈ xt_W := xt_in2 205 rfl rfl
theorem xw_446 : Cond.static ⟨"ContractDesk$Path", "readNumber", "(LContractDesk$Cursor;Z)I"⟩ ∈ xt_W := xt_in2 206 rfl rfl
theorem xw_447 : Cond.code ⟨"ContractDesk$Path", "readNumber", "(LContractDesk$Cursor;Z)I"⟩ prog_8_method_6_code 3 (some (.int)) ∈ xt_W := xt_in2 207 rfl rfl
theorem xw_448 : Cond.methodLink "ContractDesk$Path" 57 ⟨"ContractDesk$Path", "readDigits", "(LContractDesk$Cursor;Z)I"⟩ ∈ xt_W := xt_in2 208 rfl rfl
theorem xw_449 : Cond.static ⟨"ContractDesk$Path", "readDigits", "(LContractDesk$Cursor;Z)I"⟩ ∈ xt_W := xt_in2 209 rfl rfl
theorem xw_450 : Cond.code ⟨"ContractDesk$Path", "readDigits", "(LContractDesk$Cursor;Z)I"⟩ prog_8_method_7_code 5 (some (.int)) ∈ xt_W := xt_in2 210 rfl rfl
theorem xw_451 : Cond.methodLink "ContractDesk$Path" 60 ⟨"ContractDesk$Cursor", "acceptDigits", "(I)I"⟩ ∈ xt_W := xt_in2 211 rfl rfl
theorem xw_452 : Cond.instanceMethod ⟨"ContractDesk$Cursor", "acceptDigits", "(I)I"⟩ ∈ xt_W := xt_in2 212 rfl rfl
theorem xw_453 : Cond.selects "ContractDesk$Cursor" ⟨"ContractDesk$Cursor", "acceptDigits", "(I)I"⟩ ⟨"ContractDesk$Cursor", "acceptDigits", "(I)I"⟩ ∈ xt_W := xt_in2 213 rfl rfl
theorem xw_454 : Cond.code ⟨"ContractDesk$Cursor", "acceptDigits", "(I)I"⟩ prog_3_method_9_code 3 (some (.int)) ∈ xt_W := xt_in2 214 rfl rfl
theorem xw_455 : Cond.methodLink "ContractDesk$Path" 46 ⟨"ContractDesk$Path", "enter", "(I)V"⟩ ∈ xt_W := xt_in2 215 rfl rfl
theorem xw_456 : Cond.instanceMethod ⟨"ContractDesk$Path", "enter", "(I)V"⟩ ∈ xt_W := xt_in2 216 rfl rfl
theorem xw_457 : Cond.selects "ContractDesk$Path" ⟨"ContractDesk$Path", "enter", "(I)V"⟩ ⟨"ContractDesk$Path", "enter", "(I)V"⟩ ∈ xt_W := xt_in2 217 rfl rfl
theorem xw_458 : Cond.code ⟨"ContractDesk$Path", "enter", "(I)V"⟩ prog_8_method_8_code 2 none ∈ xt_W := xt_in2 218 rfl rfl
theorem xw_459 : Cond.methodLink "ContractDesk$Path" 19 ⟨"ContractDesk$Cursor", "atEnd", "()Z"⟩ ∈ xt_W := xt_in2 219 rfl rfl
theorem xw_460 : Cond.instanceMethod ⟨"ContractDesk$Cursor", "atEnd", "()Z"⟩ ∈ xt_W := xt_in2 220 rfl rfl
theorem xw_461 : Cond.selects "ContractDesk$Cursor" ⟨"ContractDesk$Cursor", "atEnd", "()Z"⟩ ⟨"ContractDesk$Cursor", "atEnd", "()Z"⟩ ∈ xt_W := xt_in2 221 rfl rfl
theorem xw_462 : Cond.code ⟨"ContractDesk$Cursor", "atEnd", "()Z"⟩ prog_3_method_3_code 1 (some (.boolean)) ∈ xt_W := xt_in2 222 rfl rfl
theorem xw_463 : Cond.methodLink "ContractDesk" 108 ⟨"ContractDesk$Interaction", "selected", "(LContractDesk$Path;)I"⟩ ∈ xt_W := xt_in2 223 rfl rfl
theorem xw_464 : Cond.instanceMethod ⟨"ContractDesk$Interaction", "selected", "(LContractDesk$Path;)I"⟩ ∈ xt_W := xt_in2 224 rfl rfl
theorem xw_465 : Cond.selects "ContractDesk$Interaction" ⟨"ContractDesk$Interaction", "selected", "(LContractDesk$Path;)I"⟩ ⟨"ContractDesk$Interaction", "selected", "(LContractDesk$Path;)I"⟩ ∈ xt_W := xt_in2 225 rfl rfl
theorem xw_466 : Cond.code ⟨"ContractDesk$Interaction", "selected", "(LContractDesk$Path;)I"⟩ prog_4_method_6_code 4 (some (.int)) ∈ xt_W := xt_in2 226 rfl rfl
theorem xw_467 : Cond.methodLink "ContractDesk$Interaction" 39 ⟨"ContractDesk$Rule", "fits", "(LContractDesk$Path;)Z"⟩ ∈ xt_W := xt_in2 227 rfl rfl
theorem xw_468 : Cond.instanceMethod ⟨"ContractDesk$Rule", "fits", "(LContractDesk$Path;)Z"⟩ ∈ xt_W := xt_in2 228 rfl rfl
theorem xw_469 : Cond.selects "ContractDesk$Rule" ⟨"ContractDesk$Rule", "fits", "(LContractDesk$Path;)Z"⟩ ⟨"ContractDesk$Rule", "fits", "(LContractDesk$Path;)Z"⟩ ∈ xt_W := xt_in2 229 rfl rfl
theorem xw_470 : Cond.code ⟨"ContractDesk$Rule", "fits", "(LContractDesk$Path;)Z"⟩ prog_9_method_4_code 2 (some (.boolean)) ∈ xt_W := xt_in2 230 rfl rfl
theorem xw_471 : Cond.methodLink "ContractDesk$Rule" 69 ⟨"ContractDesk$Path", "fits", "(LContractDesk$Path;)Z"⟩ ∈ xt_W := xt_in2 231 rfl rfl
theorem xw_472 : Cond.instanceMethod ⟨"ContractDesk$Path", "fits", "(LContractDesk$Path;)Z"⟩ ∈ xt_W := xt_in2 232 rfl rfl
theorem xw_473 : Cond.selects "ContractDesk$Path" ⟨"ContractDesk$Path", "fits", "(LContractDesk$Path;)Z"⟩ ⟨"ContractDesk$Path", "fits", "(LContractDesk$Path;)Z"⟩ ∈ xt_W := xt_in2 233 rfl rfl
theorem xw_474 : Cond.code ⟨"ContractDesk$Path", "fits", "(LContractDesk$Path;)Z"⟩ prog_8_method_12_code 3 (some (.boolean)) ∈ xt_W := xt_in2 234 rfl rfl
theorem xw_475 : Cond.methodLink "ContractDesk$Path" 67 ⟨"ContractDesk$Path", "stepFits", "(II)Z"⟩ ∈ xt_W := xt_in2 235 rfl rfl
theorem xw_476 : Cond.static ⟨"ContractDesk$Path", "stepFits", "(II)Z"⟩ ∈ xt_W := xt_in2 236 rfl rfl
theorem xw_477 : Cond.code ⟨"ContractDesk$Path", "stepFits", "(II)Z"⟩ prog_8_method_13_code 2 (some (.boolean)) ∈ xt_W := xt_in2 237 rfl rfl
theorem xw_478 : Cond.methodLink "ContractDesk$Interaction" 43 ⟨"ContractDesk$Rule", "outranks", "(LContractDesk$Rule;)Z"⟩ ∈ xt_W := xt_in2 238 rfl rfl
theorem xw_479 : Cond.instanceMethod ⟨"ContractDesk$Rule", "outranks", "(LContractDesk$Rule;)Z"⟩ ∈ xt_W := xt_in2 239 rfl rfl
theorem xw_480 : Cond.selects "ContractDesk$Rule" ⟨"ContractDesk$Rule", "outranks", "(LContractDesk$Rule;)Z"⟩ ⟨"ContractDesk$Rule", "outranks", "(LContractDesk$Rule;)Z"⟩ ∈ xt_W := xt_in3 0 rfl rfl
theorem xw_481 : Cond.code ⟨"ContractDesk$Rule", "outranks", "(LContractDesk$Rule;)Z"⟩ prog_9_method_5_code 4 (some (.boolean)) ∈ xt_W := xt_in3 1 rfl rfl
theorem xw_482 : Cond.methodLink "ContractDesk$Rule" 73 ⟨"ContractDesk$Path", "weight", "()I"⟩ ∈ xt_W := xt_in3 2 rfl rfl
theorem xw_483 : Cond.instanceMethod ⟨"ContractDesk$Path", "weight", "()I"⟩ ∈ xt_W := xt_in3 3 rfl rfl
theorem xw_484 : Cond.selects "ContractDesk$Path" ⟨"ContractDesk$Path", "weight", "()I"⟩ ⟨"ContractDesk$Path", "weight", "()I"⟩ ∈ xt_W := xt_in3 4 rfl rfl
theorem xw_485 : Cond.code ⟨"ContractDesk$Path", "weight", "()I"⟩ prog_8_method_14_code 3 (some (.int)) ∈ xt_W := xt_in3 5 rfl rfl
theorem xw_486 : Cond.methodLink "ContractDesk$Rule" 77 ⟨"ContractDesk$Path", "length", "()I"⟩ ∈ xt_W := xt_in3 6 rfl rfl
theorem xw_487 : Cond.instanceMethod ⟨"ContractDesk$Path", "length", "()I"⟩ ∈ xt_W := xt_in3 7 rfl rfl
theorem xw_488 : Cond.selects "ContractDesk$Path" ⟨"ContractDesk$Path", "length", "()I"⟩ ⟨"ContractDesk$Path", "length", "()I"⟩ ∈ xt_W := xt_in3 8 rfl rfl
theorem xw_489 : Cond.code ⟨"ContractDesk$Path", "length", "()I"⟩ prog_8_method_11_code 1 (some (.int)) ∈ xt_W := xt_in3 9 rfl rfl
theorem xw_490 : Cond.methodLink "ContractDeskLaw" 71 ⟨"ContractDesk", "listed", "()I"⟩ ∈ xt_W := xt_in3 10 rfl rfl
theorem xw_491 : Cond.instanceMethod ⟨"ContractDesk", "listed", "()I"⟩ ∈ xt_W := xt_in3 11 rfl rfl
theorem xw_492 : Cond.selects "ContractDesk" ⟨"ContractDesk", "listed", "()I"⟩ ⟨"ContractDesk", "listed", "()I"⟩ ∈ xt_W := xt_in3 12 rfl rfl
theorem xw_493 : Cond.code ⟨"ContractDesk", "listed", "()I"⟩ prog_1_method_10_code 1 (some (.int)) ∈ xt_W := xt_in3 13 rfl rfl
theorem xw_494 : Cond.methodLink "ContractDesk" 131 ⟨"ContractDesk$Comparison", "listedCount", "()I"⟩ ∈ xt_W := xt_in3 14 rfl rfl
theorem xw_495 : Cond.instanceMethod ⟨"ContractDesk$Comparison", "listedCount", "()I"⟩ ∈ xt_W := xt_in3 15 rfl rfl
theorem xw_496 : Cond.selects "ContractDesk$Comparison" ⟨"ContractDesk$Comparison", "listedCount", "()I"⟩ ⟨"ContractDesk$Comparison", "listedCount", "()I"⟩ ∈ xt_W := xt_in3 16 rfl rfl
theorem xw_497 : Cond.code ⟨"ContractDesk$Comparison", "listedCount", "()I"⟩ prog_2_method_3_code 1 (some (.int)) ∈ xt_W := xt_in3 17 rfl rfl
theorem xw_498 : Cond.methodLink "ContractDeskLaw" 75 ⟨"ContractDesk", "mismatch", "(I)I"⟩ ∈ xt_W := xt_in3 18 rfl rfl
theorem xw_499 : Cond.instanceMethod ⟨"ContractDesk", "mismatch", "(I)I"⟩ ∈ xt_W := xt_in3 19 rfl rfl
theorem xw_500 : Cond.selects "ContractDesk" ⟨"ContractDesk", "mismatch", "(I)I"⟩ ⟨"ContractDesk", "mismatch", "(I)I"⟩ ∈ xt_W := xt_in3 20 rfl rfl
theorem xw_501 : Cond.code ⟨"ContractDesk", "mismatch", "(I)I"⟩ prog_1_method_11_code 3 (some (.int)) ∈ xt_W := xt_in3 21 rfl rfl
theorem xw_502 : Cond.methodLink "ContractDesk" 134 ⟨"ContractDesk$Comparison", "listedAt", "(I)LContractDesk$Mismatch;"⟩ ∈ xt_W := xt_in3 22 rfl rfl
theorem xw_503 : Cond.instanceMethod ⟨"ContractDesk$Comparison", "listedAt", "(I)LContractDesk$Mismatch;"⟩ ∈ xt_W := xt_in3 23 rfl rfl
theorem xw_504 : Cond.selects "ContractDesk$Comparison" ⟨"ContractDesk$Comparison", "listedAt", "(I)LContractDesk$Mismatch;"⟩ ⟨"ContractDesk$Comparison", "listedAt", "(I)LContractDesk$Mismatch;"⟩ ∈ xt_W := xt_in3 24 rfl rfl
theorem xw_505 : Cond.code ⟨"ContractDesk$Comparison", "listedAt", "(I)LContractDesk$Mismatch;"⟩ prog_2_method_4_code 2 (some (.object "ContractDesk$Mismatch")) ∈ xt_W := xt_in3 25 rfl rfl
theorem xw_506 : Cond.methodLink "ContractDesk$Comparison" 48 ⟨"ContractDesk$Comparison", "listedCount", "()I"⟩ ∈ xt_W := xt_in3 26 rfl rfl
theorem xw_507 : Cond.methodLink "ContractDesk" 138 ⟨"ContractDesk$Mismatch", "kind", "()I"⟩ ∈ xt_W := xt_in3 27 rfl rfl
theorem xw_508 : Cond.instanceMethod ⟨"ContractDesk$Mismatch", "kind", "()I"⟩ ∈ xt_W := xt_in3 28 rfl rfl
theorem xw_509 : Cond.selects "ContractDesk$Mismatch" ⟨"ContractDesk$Mismatch", "kind", "()I"⟩ ⟨"ContractDesk$Mismatch", "kind", "()I"⟩ ∈ xt_W := xt_in3 29 rfl rfl
theorem xw_510 : Cond.code ⟨"ContractDesk$Mismatch", "kind", "()I"⟩ prog_7_method_3_code 1 (some (.int)) ∈ xt_W := xt_in3 30 rfl rfl
theorem xw_511 : Cond.methodLink "ContractDeskLaw" 79 ⟨"ContractDesk", "letter", "(II)I"⟩ ∈ xt_W := xt_in3 31 rfl rfl
theorem xw_512 : Cond.instanceMethod ⟨"ContractDesk", "letter", "(II)I"⟩ ∈ xt_W := xt_in3 32 rfl rfl
theorem xw_513 : Cond.selects "ContractDesk" ⟨"ContractDesk", "letter", "(II)I"⟩ ⟨"ContractDesk", "letter", "(II)I"⟩ ∈ xt_W := xt_in3 33 rfl rfl
theorem xw_514 : Cond.code ⟨"ContractDesk", "letter", "(II)I"⟩ prog_1_method_12_code 4 (some (.int)) ∈ xt_W := xt_in3 34 rfl rfl
theorem xw_515 : Cond.methodLink "ContractDesk" 143 ⟨"ContractDesk$Mismatch", "placeCode", "(I)I"⟩ ∈ xt_W := xt_in3 35 rfl rfl
theorem xw_516 : Cond.instanceMethod ⟨"ContractDesk$Mismatch", "placeCode", "(I)I"⟩ ∈ xt_W := xt_in3 36 rfl rfl
theorem xw_517 : Cond.selects "ContractDesk$Mismatch" ⟨"ContractDesk$Mismatch", "placeCode", "(I)I"⟩ ⟨"ContractDesk$Mismatch", "placeCode", "(I)I"⟩ ∈ xt_W := xt_in3 37 rfl rfl
theorem xw_518 : Cond.code ⟨"ContractDesk$Mismatch", "placeCode", "(I)I"⟩ prog_7_method_4_code 2 (some (.int)) ∈ xt_W := xt_in3 38 rfl rfl
theorem xw_519 : Cond.methodLink "ContractDesk$Mismatch" 32 ⟨"java/lang/StringBuilder", "length", "()I"⟩ ∈ xt_W := xt_in3 39 rfl rfl
theorem xw_520 : Cond.methodLink "ContractDesk$Mismatch" 36 ⟨"java/lang/StringBuilder", "charAt", "(I)C"⟩ ∈ xt_W := xt_in3 40 rfl rfl
theorem xw_521 : Cond.instanceMethod ⟨"java/lang/StringBuilder", "charAt", "(I)C"⟩ ∈ xt_W := xt_in3 41 rfl rfl
theorem xw_522 : Cond.selects "java/lang/StringBuilder" ⟨"java/lang/StringBuilder", "charAt", "(I)C"⟩ ⟨"java/lang/StringBuilder", "charAt", "(I)C"⟩ ∈ xt_W := xt_in3 42 rfl rfl
theorem xw_523 : Cond.code ⟨"java/lang/StringBuilder", "charAt", "(I)C"⟩ prog_26_method_88_code 2 (some (.char)) ∈ xt_W := xt_in3 43 rfl rfl
theorem xw_524 : Cond.methodLink "java/lang/StringBuilder" 329 ⟨"java/lang/AbstractStringBuilder", "charAt", "(I)C"⟩ ∈ xt_W := xt_in3 44 rfl rfl
theorem xw_525 : Cond.instanceMethod ⟨"java/lang/AbstractStringBuilder", "charAt", "(I)C"⟩ ∈ xt_W := xt_in3 45 rfl rfl
theorem xw_526 : Cond.code ⟨"java/lang/AbstractStringBuilder", "charAt", "(I)C"⟩ prog_15_method_14_code 5 (some (.char)) ∈ xt_W := xt_in3 46 rfl rfl
theorem xw_527 : Cond.methodLink "java/lang/AbstractStringBuilder" 138 ⟨"java/lang/Math", "min", "(II)I"⟩ ∈ xt_W := xt_in3 47 rfl rfl
theorem xw_528 : Cond.methodLink "java/lang/AbstractStringBuilder" 144 ⟨"java/lang/String", "checkIndex", "(II)V"⟩ ∈ xt_W := xt_in3 48 rfl rfl
theorem xw_529 : Cond.methodLink "java/lang/AbstractStringBuilder" 148 ⟨"java/lang/StringUTF16", "getChar", "([BI)C"⟩ ∈ xt_W := xt_in3 49 rfl rfl
theorem xw_530 : Cond.methodLink "ContractDeskLaw" 84 ⟨"ContractDesk", "event", "(I)I"⟩ ∈ xt_W := xt_in3 50 rfl rfl
theorem xw_531 : Cond.instanceMethod ⟨"ContractDesk", "event", "(I)I"⟩ ∈ xt_W := xt_in3 51 rfl rfl
theorem xw_532 : Cond.selects "ContractDesk" ⟨"ContractDesk", "event", "(I)I"⟩ ⟨"ContractDesk", "event", "(I)I"⟩ ∈ xt_W := xt_in3 52 rfl rfl
theorem xw_533 : Cond.code ⟨"ContractDesk", "event", "(I)I"⟩ prog_1_method_13_code 2 (some (.int)) ∈ xt_W := xt_in3 53 rfl rfl
theorem xw_534 : Cond.methodLink "ContractDesk" 147 ⟨"ContractDesk$States", "eventCount", "()I"⟩ ∈ xt_W := xt_in3 54 rfl rfl
theorem xw_535 : Cond.instanceMethod ⟨"ContractDesk$States", "eventCount", "()I"⟩ ∈ xt_W := xt_in3 55 rfl rfl
theorem xw_536 : Cond.selects "ContractDesk$States" ⟨"ContractDesk$States", "eventCount", "()I"⟩ ⟨"ContractDesk$States", "eventCount", "()I"⟩ ∈ xt_W := xt_in3 56 rfl rfl
theorem xw_537 : Cond.code ⟨"ContractDesk$States", "eventCount", "()I"⟩ prog_10_method_8_code 1 (some (.int)) ∈ xt_W := xt_in3 57 rfl rfl
theorem xw_538 : Cond.methodLink "ContractDesk" 150 ⟨"ContractDesk$States", "eventAt", "(I)I"⟩ ∈ xt_W := xt_in3 58 rfl rfl
theorem xw_539 : Cond.instanceMethod ⟨"ContractDesk$States", "eventAt", "(I)I"⟩ ∈ xt_W := xt_in3 59 rfl rfl
theorem xw_540 : Cond.selects "ContractDesk$States" ⟨"ContractDesk$States", "eventAt", "(I)I"⟩ ⟨"ContractDesk$States", "eventAt", "(I)I"⟩ ∈ xt_W := xt_in3 60 rfl rfl
theorem xw_541 : Cond.code ⟨"ContractDesk$States", "eventAt", "(I)I"⟩ prog_10_method_9_code 2 (some (.int)) ∈ xt_W := xt_in3 61 rfl rfl
theorem xw_549 : Cond.code ⟨"ContractDesk", "make", "(Z)I"⟩ prog_1_method_3_code 2 (some (.int)) ∈ xt_W := xt_in3 69 rfl rfl
theorem xw_612 : Cond.methodLink "ContractDesk" 55 ⟨"ContractDesk$Interaction", "<init>", "(Z)V"⟩ ∈ xt_W := xt_in3 132 rfl rfl
theorem xw_613 : Cond.instanceMethod ⟨"ContractDesk$Interaction", "<init>", "(Z)V"⟩ ∈ xt_W := xt_in3 133 rfl rfl
theorem xw_614 : Cond.code ⟨"ContractDesk$Interaction", "<init>", "(Z)V"⟩ prog_4_method_1_code 2 none ∈ xt_W := xt_in3 134 rfl rfl
theorem xw_615 : Cond.methodLink "ContractDesk$Interaction" 3 ⟨"java/lang/Object", "<init>", "()V"⟩ ∈ xt_W := xt_in3 135 rfl rfl
theorem xw_616 : Cond.classLink "ContractDesk$Interaction" 15 "ContractDesk$Rule" ∈ xt_W := xt_in3 136 rfl rfl
theorem xw_618 : Cond.fieldLink "ContractDesk$Interaction" 9 "ContractDesk$Interaction" "strict" "Z" ∈ xt_W := xt_in3 138 rfl rfl
theorem xw_619 : Cond.fieldLink "ContractDesk$Interaction" 17 "ContractDesk$Interaction" "rules" "[LContractDesk$Rule;" ∈ xt_W := xt_in3 139 rfl rfl
theorem xw_620 : Cond.fieldLink "ContractDesk$Interaction" 35 "ContractDesk$Interaction" "ruleCount" "I" ∈ xt_W := xt_in3 140 rfl rfl
theorem xw_621 : Cond.fieldLink "ContractDesk$Interaction" 21 "ContractDesk$Interaction" "states" "[I" ∈ xt_W := xt_in3 141 rfl rfl
theorem xw_622 : Cond.fieldLink "ContractDesk$Interaction" 47 "ContractDesk$Interaction" "stateCount" "I" ∈ xt_W := xt_in3 142 rfl rfl
theorem xw_623 : Cond.fieldLink "ContractDesk$Interaction" 25 "ContractDesk$Interaction" "expected" "LContractDesk$Value;" ∈ xt_W := xt_in3 143 rfl rfl
theorem xw_624 : Cond.laysFinal "ContractDesk$Interaction" "ContractDesk$Interaction" "strict" "Z" ∈ xt_W := xt_in3 144 rfl rfl
theorem xw_626 : Cond.laysFinal "ContractDesk$Interaction" "ContractDesk$Interaction" "rules" "[LContractDesk$Rule;" ∈ xt_W := xt_in3 146 rfl rfl
theorem xw_628 : Cond.lays "ContractDesk$Interaction" "ContractDesk$Interaction" "ruleCount" "I" ∈ xt_W := xt_in3 148 rfl rfl
theorem xw_630 : Cond.laysFinal "ContractDesk$Interaction" "ContractDesk$Interaction" "states" "[I" ∈ xt_W := xt_in3 150 rfl rfl
theorem xw_632 : Cond.lays "ContractDesk$Interaction" "ContractDesk$Interaction" "stateCount" "I" ∈ xt_W := xt_in3 152 rfl rfl
theorem xw_634 : Cond.lays "ContractDesk$Interaction" "ContractDesk$Interaction" "expected" "LContractDesk$Value;" ∈ xt_W := xt_in3 154 rfl rfl
theorem xw_644 : Cond.code ⟨"ContractDesk", "body", "(I)I"⟩ prog_1_method_4_code 4 (some (.int)) ∈ xt_W := xt_in3 164 rfl rfl
theorem xw_645 : Cond.methodLink "ContractDesk" 66 ⟨"ContractDesk$Value", "read", "(LContractDesk$Cursor;)LContractDesk$Value;"⟩ ∈ xt_W := xt_in3 165 rfl rfl
theorem xw_646 : Cond.static ⟨"ContractDesk$Value", "read", "(LContractDesk$Cursor;)LContractDesk$Value;"⟩ ∈ xt_W := xt_in3 166 rfl rfl
theorem xw_647 : Cond.code ⟨"ContractDesk$Value", "read", "(LContractDesk$Cursor;)LContractDesk$Value;"⟩ prog_11_method_2_code 2 (some (.object "ContractDesk$Value")) ∈ xt_W := xt_in3 167 rfl rfl
theorem xw_648 : Cond.methodLink "ContractDesk$Value" 34 ⟨"ContractDesk$Value", "readValue", "(LContractDesk$Cursor;I)LContractDesk$Value;"⟩ ∈ xt_W := xt_in3 168 rfl rfl
theorem xw_649 : Cond.static ⟨"ContractDesk$Value", "readValue", "(LContractDesk$Cursor;I)LContractDesk$Value;"⟩ ∈ xt_W := xt_in3 169 rfl rfl
theorem xw_650 : Cond.code ⟨"ContractDesk$Value", "readValue", "(LContractDesk$Cursor;I)LContractDesk$Value;"⟩ prog_11_method_3_code 2 (some (.object "ContractDesk$Value")) ∈ xt_W := xt_in3 170 rfl rfl
theorem xw_651 : Cond.methodLink "ContractDesk$Value" 44 ⟨"ContractDesk$Cursor", "peek", "()C"⟩ ∈ xt_W := xt_in3 171 rfl rfl
theorem xw_652 : Cond.methodLink "ContractDesk$Value" 48 ⟨"ContractDesk$Value", "readArray", "(LContractDesk$Cursor;I)LContractDesk$Value;"⟩ ∈ xt_W := xt_in3 172 rfl rfl
theorem xw_653 : Cond.static ⟨"ContractDesk$Value", "readArray", "(LContractDesk$Cursor;I)LContractDesk$Value;"⟩ ∈ xt_W := xt_in3 173 rfl rfl
theorem xw_654 : Cond.code ⟨"ContractDesk$Value", "readArray", "(LContractDesk$Cursor;I)LContractDesk$Value;"⟩ prog_11_method_4_code 5 (some (.object "ContractDesk$Value")) ∈ xt_W := xt_in3 174 rfl rfl
theorem xw_655 : Cond.methodLink "ContractDesk$Value" 79 ⟨"ContractDesk$Cursor", "accept", "(C)Z"⟩ ∈ xt_W := xt_in3 175 rfl rfl
theorem xw_656 : Cond.classLink "ContractDesk$Value" 10 "ContractDesk$Value" ∈ xt_W := xt_in3 176 rfl rfl
theorem xw_657 : Cond.instantiable "ContractDesk$Value" 5 ∈ xt_W := xt_in3 177 rfl rfl
theorem xw_658 : Cond.fieldLink "ContractDesk$Value" 83 "ContractDesk$Kind" "ARRAY" "LContractDesk$Kind;" ∈ xt_W := xt_in3 178 rfl rfl
theorem xw_661 : Cond.methodLink "ContractDesk$Value" 88 ⟨"ContractDesk$Value", "<init>", "(LContractDesk$Kind;Ljava/lang/String;)V"⟩ ∈ xt_W := xt_in3 181 rfl rfl
theorem xw_662 : Cond.instanceMethod ⟨"ContractDesk$Value", "<init>", "(LContractDesk$Kind;Ljava/lang/String;)V"⟩ ∈ xt_W := xt_in3 182 rfl rfl
theorem xw_663 : Cond.code ⟨"ContractDesk$Value", "<init>", "(LContractDesk$Kind;Ljava/lang/String;)V"⟩ prog_11_method_1_code 3 none ∈ xt_W := xt_in3 183 rfl rfl
theorem xw_664 : Cond.methodLink "ContractDesk$Value" 3 ⟨"java/lang/Object", "<init>", "()V"⟩ ∈ xt_W := xt_in3 184 rfl rfl
theorem xw_665 : Cond.classLink "ContractDesk$Value" 19 "java/util/ArrayList" ∈ xt_W := xt_in3 185 rfl rfl
theorem xw_666 : Cond.instantiable "java/util/ArrayList" 3 ∈ xt_W := xt_in3 186 rfl rfl
theorem xw_667 : Cond.methodLink "ContractDesk$Value" 21 ⟨"java/util/ArrayList", "<init>", "()V"⟩ ∈ xt_W := xt_in3 187 rfl rfl
theorem xw_668 : Cond.instanceMethod ⟨"java/util/ArrayList", "<init>", "()V"⟩ ∈ xt_W := xt_in3 188 rfl rfl
theorem xw_669 : Cond.code ⟨"java/util/ArrayList", "<init>", "()V"⟩ prog_33_method_2_code 1 none ∈ xt_W := xt_in3 189 rfl rfl
theorem xw_670 : Cond.methodLink "java/util/ArrayList" 1 ⟨"java/util/AbstractList", "<init>", "()V"⟩ ∈ xt_W := xt_in3 190 rfl rfl
theorem xw_671 : Cond.instanceMethod ⟨"java/util/AbstractList", "<init>", "()V"⟩ ∈ xt_W := xt_in3 191 rfl rfl
theorem xw_672 : Cond.code ⟨"java/util/AbstractList", "<init>", "()V"⟩ prog_32_method_1_code 1 none ∈ xt_W := xt_in3 192 rfl rfl
theorem xw_673 : Cond.methodLink "java/util/AbstractList" 1 ⟨"java/util/AbstractCollection", "<init>", "()V"⟩ ∈ xt_W := xt_in3 193 rfl rfl
theorem xw_674 : Cond.instanceMethod ⟨"java/util/AbstractCollection", "<init>", "()V"⟩ ∈ xt_W := xt_in3 194 rfl rfl
theorem xw_675 : Cond.code ⟨"java/util/AbstractCollection", "<init>", "()V"⟩ prog_31_method_1_code 1 none ∈ xt_W := xt_in3 195 rfl rfl
theorem xw_676 : Cond.methodLink "java/util/AbstractCollection" 1 ⟨"java/lang/Object", "<init>", "()V"⟩ ∈ xt_W := xt_in3 196 rfl rfl
theorem xw_677 : Cond.fieldLink "java/util/ArrayList" 39 "java/util/ArrayList" "DEFAULTCAPACITY_EMPTY_ELEMENTDATA" "[Ljava/lang/Object;" ∈ xt_W := xt_in3 197 rfl rfl
theorem xw_679 : Cond.fieldLink "java/util/ArrayList" 9 "java/util/ArrayList" "elementData" "[Ljava/lang/Object;" ∈ xt_W := xt_in3 199 rfl rfl
theorem xw_680 : Cond.fieldLink "java/util/ArrayList" 48 "java/util/ArrayList" "size" "I" ∈ xt_W := xt_in3 200 rfl rfl
theorem xw_681 : Cond.fieldLink "java/util/AbstractList" 7 "java/util/AbstractList" "modCount" "I" ∈ xt_W := xt_in3 201 rfl rfl
theorem xw_682 : Cond.fieldLink "java/util/ArrayList" 63 "java/util/ArrayList" "modCount" "I" ∈ xt_W := xt_in3 202 rfl rfl
theorem xw_683 : Cond.sameField "java/util/ArrayList" "java/util/AbstractList" "modCount" "I" ∈ xt_W := xt_in3 203 rfl rfl
theorem xw_684 : Cond.lays "java/util/ArrayList" "java/util/ArrayList" "elementData" "[Ljava/lang/Object;" ∈ xt_W := xt_in3 204 rfl rfl
theorem xw_686 : Cond.lays "java/util/ArrayList" "java/util/ArrayList" "size" "I" ∈ xt_W := xt_in3 206 rfl rfl
theorem xw_688 : Cond.lays "java/util/ArrayList" "java/util/AbstractList" "modCount" "I" ∈ xt_W := xt_in3 208 rfl rfl
theorem xw_691 : Cond.fieldLink "ContractDesk$Value" 9 "ContractDesk$Value" "kind" "LContractDesk$Kind;" ∈ xt_W := xt_in3 211 rfl rfl
theorem xw_692 : Cond.fieldLink "ContractDesk$Value" 15 "ContractDesk$Value" "letters" "Ljava/lang/String;" ∈ xt_W := xt_in3 212 rfl rfl
theorem xw_693 : Cond.fieldLink "ContractDesk$Value" 22 "ContractDesk$Value" "parts" "Ljava/util/ArrayList;" ∈ xt_W := xt_in3 213 rfl rfl
theorem xw_694 : Cond.fieldLink "ContractDesk$Value" 26 "ContractDesk$Value" "key" "C" ∈ xt_W := xt_in3 214 rfl rfl
theorem xw_695 : Cond.fieldLink "ContractDesk$Value" 30 "ContractDesk$Value" "count" "I" ∈ xt_W := xt_in3 215 rfl rfl
theorem xw_696 : Cond.laysFinal "ContractDesk$Value" "ContractDesk$Value" "kind" "LContractDesk$Kind;" ∈ xt_W := xt_in3 216 rfl rfl
theorem xw_698 : Cond.laysFinal "ContractDesk$Value" "ContractDesk$Value" "letters" "Ljava/lang/String;" ∈ xt_W := xt_in3 218 rfl rfl
theorem xw_700 : Cond.laysFinal "ContractDesk$Value" "ContractDesk$Value" "parts" "Ljava/util/ArrayList;" ∈ xt_W := xt_in3 220 rfl rfl
theorem xw_702 : Cond.lays "ContractDesk$Value" "ContractDesk$Value" "key" "C" ∈ xt_W := xt_in3 222 rfl rfl
theorem xw_704 : Cond.lays "ContractDesk$Value" "ContractDesk$Value" "count" "I" ∈ xt_W := xt_in3 224 rfl rfl
theorem xw_707 : Cond.methodLink "ContractDesk$Value" 91 ⟨"ContractDesk$Value", "add", "(LContractDesk$Value;)V"⟩ ∈ xt_W := xt_in3 227 rfl rfl
theorem xw_709 : Cond.instanceMethod ⟨"ContractDesk$Value", "add", "(LContractDesk$Value;)V"⟩ ∈ xt_W := xt_in3 229 rfl rfl
theorem xw_710 : Cond.code ⟨"ContractDesk$Value", "add", "(LContractDesk$Value;)V"⟩ prog_11_method_10_code 2 none ∈ xt_W := xt_in3 230 rfl rfl
theorem xw_711 : Cond.methodLink "ContractDesk$Value" 133 ⟨"java/util/ArrayList", "add", "(Ljava/lang/Object;)Z"⟩ ∈ xt_W := xt_in3 231 rfl rfl
theorem xw_712 : Cond.instanceMethod ⟨"java/util/ArrayList", "add", "(Ljava/lang/Object;)Z"⟩ ∈ xt_W := xt_in3 232 rfl rfl
theorem xw_713 : Cond.selects "java/util/ArrayList" ⟨"java/util/ArrayList", "add", "(Ljava/lang/Object;)Z"⟩ ⟨"java/util/ArrayList", "add", "(Ljava/lang/Object;)Z"⟩ ∈ xt_W := xt_in3 233 rfl rfl
theorem xw_714 : Cond.code ⟨"java/util/ArrayList", "add", "(Ljava/lang/Object;)Z"⟩ prog_33_method_25_code 2 (some (.boolean)) ∈ xt_W := xt_in3 234 rfl rfl
theorem xw_715 : Cond.methodLink "java/util/ArrayList" 131 ⟨"java/util/ArrayList", "add", "(Ljava/lang/Object;[Ljava/lang/Object;I)V"⟩ ∈ xt_W := xt_in3 235 rfl rfl
theorem xw_717 : Cond.instanceMethod ⟨"java/util/ArrayList", "add", "(Ljava/lang/Object;[Ljava/lang/Object;I)V"⟩ ∈ xt_W := xt_in3 237 rfl rfl
theorem xw_718 : Cond.code ⟨"java/util/ArrayList", "add", "(Ljava/lang/Object;[Ljava/lang/Object;I)V"⟩ prog_33_method_24_code 4 none ∈ xt_W := xt_in3 238 rfl rfl
theorem xw_719 : Cond.methodLink "java/util/ArrayList" 129 ⟨"java/util/ArrayList", "grow", "()[Ljava/lang/Object;"⟩ ∈ xt_W := xt_in3 239 rfl rfl
theorem xw_721 : Cond.instanceMethod ⟨"java/util/ArrayList", "grow", "()[Ljava/lang/Object;"⟩ ∈ xt_W := xt_in4 1 rfl rfl
theorem xw_722 : Cond.code ⟨"java/util/ArrayList", "grow", "()[Ljava/lang/Object;"⟩ prog_33_method_7_code 1 (some (.array (.object "java/lang/Object"))) ∈ xt_W := xt_in4 2 rfl rfl
theorem xw_723 : Cond.methodLink "java/util/ArrayList" 69 ⟨"java/util/ArrayList", "grow", "(I)[Ljava/lang/Object;"⟩ ∈ xt_W := xt_in4 3 rfl rfl
theorem xw_725 : Cond.instanceMethod ⟨"java/util/ArrayList", "grow", "(I)[Ljava/lang/Object;"⟩ ∈ xt_W := xt_in4 5 rfl rfl
theorem xw_726 : Cond.code ⟨"java/util/ArrayList", "grow", "(I)[Ljava/lang/Object;"⟩ prog_33_method_6_code 4 (some (.array (.object "java/lang/Object"))) ∈ xt_W := xt_in4 6 rfl rfl
theorem xw_727 : Cond.methodLink "java/util/ArrayList" 73 ⟨"jdk/internal/util/ArraysSupport", "newLength", "(III)I"⟩ ∈ xt_W := xt_in4 7 rfl rfl
theorem xw_728 : Cond.methodLink "java/util/ArrayList" 66 ⟨"java/util/Arrays", "copyOf", "([Ljava/lang/Object;I)[Ljava/lang/Object;"⟩ ∈ xt_W := xt_in4 8 rfl rfl
theorem xw_729 : Cond.static ⟨"java/util/Arrays", "copyOf", "([Ljava/lang/Object;I)[Ljava/lang/Object;"⟩ ∈ xt_W := xt_in4 9 rfl rfl
theorem xw_730 : Cond.code ⟨"java/util/Arrays", "copyOf", "([Ljava/lang/Object;I)[Ljava/lang/Object;"⟩ prog_34_method_119_code 2 (some (.array (.object "java/lang/Object"))) ∈ xt_W := xt_in4 10 rfl rfl
theorem xw_731 : Cond.methodLink "java/util/Arrays" 86 ⟨"java/lang/Object", "getClass", "()Ljava/lang/Class;"⟩ ∈ xt_W := xt_in4 11 rfl rfl
theorem xw_732 : Cond.instanceMethod ⟨"java/lang/Object", "getClass", "()Ljava/lang/Class;"⟩ ∈ xt_W := xt_in4 12 rfl rfl
theorem xw_751 : Cond.native ⟨"java/lang/Object", "getClass", "()Ljava/lang/Class;"⟩ ∈ xt_W := xt_in4 31 rfl rfl
theorem xw_752 : Cond.methodLink "java/util/Arrays" 300 ⟨"java/util/Arrays", "copyOf", "([Ljava/lang/Object;ILjava/lang/Class;)[Ljava/lang/Object;"⟩ ∈ xt_W := xt_in4 32 rfl rfl
theorem xw_753 : Cond.static ⟨"java/util/Arrays", "copyOf", "([Ljava/lang/Object;ILjava/lang/Class;)[Ljava/lang/Object;"⟩ ∈ xt_W := xt_in4 33 rfl rfl
theorem xw_754 : Cond.code ⟨"java/util/Arrays", "copyOf", "([Ljava/lang/Object;ILjava/lang/Class;)[Ljava/lang/Object;"⟩ prog_34_method_120_code 4 (some (.array (.object "java/lang/Object"))) ∈ xt_W := xt_in4 34 rfl rfl
theorem xw_755 : Cond.classLink "java/util/Arrays" 110 "[Ljava/lang/Object;" ∈ xt_W := xt_in4 35 rfl rfl
theorem xw_757 : Cond.classLink "java/util/Arrays" 2 "java/lang/Object" ∈ xt_W := xt_in4 37 rfl rfl
theorem xw_758 : Cond.methodLink "java/util/ArrayList" 79 ⟨"java/lang/Math", "max", "(II)I"⟩ ∈ xt_W := xt_in4 38 rfl rfl
theorem xw_759 : Cond.classLink "java/util/ArrayList" 7 "java/lang/Object" ∈ xt_W := xt_in4 39 rfl rfl
theorem xw_760 : Cond.methodLink "ContractDesk$Value" 51 ⟨"ContractDesk$Value", "readObject", "(LContractDesk$Cursor;I)LContractDesk$Value;"⟩ ∈ xt_W := xt_in4 40 rfl rfl
theorem xw_761 : Cond.static ⟨"ContractDesk$Value", "readObject", "(LContractDesk$Cursor;I)LContractDesk$Value;"⟩ ∈ xt_W := xt_in4 41 rfl rfl
theorem xw_762 : Cond.code ⟨"ContractDesk$Value", "readObject", "(LContractDesk$Cursor;I)LContractDesk$Value;"⟩ prog_11_method_5_code 6 (some (.object "ContractDesk$Value")) ∈ xt_W := xt_in4 42 rfl rfl
theorem xw_763 : Cond.fieldLink "ContractDesk$Value" 95 "ContractDesk$Kind" "OBJECT" "LContractDesk$Kind;" ∈ xt_W := xt_in4 43 rfl rfl
theorem xw_765 : Cond.methodLink "ContractDesk$Value" 98 ⟨"ContractDesk$Value", "readKey", "(LContractDesk$Cursor;)C"⟩ ∈ xt_W := xt_in4 45 rfl rfl
theorem xw_766 : Cond.static ⟨"ContractDesk$Value", "readKey", "(LContractDesk$Cursor;)C"⟩ ∈ xt_W := xt_in4 46 rfl rfl
theorem xw_767 : Cond.code ⟨"ContractDesk$Value", "readKey", "(LContractDesk$Cursor;)C"⟩ prog_11_method_6_code 2 (some (.char)) ∈ xt_W := xt_in4 47 rfl rfl
theorem xw_768 : Cond.methodLink "ContractDesk$Value" 106 ⟨"ContractDesk$Cursor", "acceptLetters", "(I)I"⟩ ∈ xt_W := xt_in4 48 rfl rfl
theorem xw_769 : Cond.methodLink "ContractDesk$Value" 102 ⟨"ContractDesk$Value", "member", "(C)LContractDesk$Value;"⟩ ∈ xt_W := xt_in4 49 rfl rfl
theorem xw_770 : Cond.instanceMethod ⟨"ContractDesk$Value", "member", "(C)LContractDesk$Value;"⟩ ∈ xt_W := xt_in4 50 rfl rfl
theorem xw_771 : Cond.selects "ContractDesk$Value" ⟨"ContractDesk$Value", "member", "(C)LContractDesk$Value;"⟩ ⟨"ContractDesk$Value", "member", "(C)LContractDesk$Value;"⟩ ∈ xt_W := xt_in4 51 rfl rfl
theorem xw_772 : Cond.code ⟨"ContractDesk$Value", "member", "(C)LContractDesk$Value;"⟩ prog_11_method_17_code 4 (some (.object "ContractDesk$Value")) ∈ xt_W := xt_in4 52 rfl rfl
theorem xw_773 : Cond.methodLink "ContractDesk$Value" 136 ⟨"java/util/ArrayList", "size", "()I"⟩ ∈ xt_W := xt_in4 53 rfl rfl
theorem xw_774 : Cond.instanceMethod ⟨"java/util/ArrayList", "size", "()I"⟩ ∈ xt_W := xt_in4 54 rfl rfl
theorem xw_775 : Cond.selects "java/util/ArrayList" ⟨"java/util/ArrayList", "size", "()I"⟩ ⟨"java/util/ArrayList", "size", "()I"⟩ ∈ xt_W := xt_in4 55 rfl rfl
theorem xw_776 : Cond.code ⟨"java/util/ArrayList", "size", "()I"⟩ prog_33_method_8_code 1 (some (.int)) ∈ xt_W := xt_in4 56 rfl rfl
theorem xw_777 : Cond.methodLink "ContractDesk$Value" 139 ⟨"java/util/ArrayList", "get", "(I)Ljava/lang/Object;"⟩ ∈ xt_W := xt_in4 57 rfl rfl
theorem xw_778 : Cond.instanceMethod ⟨"java/util/ArrayList", "get", "(I)Ljava/lang/Object;"⟩ ∈ xt_W := xt_in4 58 rfl rfl
theorem xw_779 : Cond.selects "java/util/ArrayList" ⟨"java/util/ArrayList", "get", "(I)Ljava/lang/Object;"⟩ ⟨"java/util/ArrayList", "get", "(I)Ljava/lang/Object;"⟩ ∈ xt_W := xt_in4 59 rfl rfl
theorem xw_780 : Cond.code ⟨"java/util/ArrayList", "get", "(I)Ljava/lang/Object;"⟩ prog_33_method_20_code 2 (some (.object "java/lang/Object")) ∈ xt_W := xt_in4 60 rfl rfl
theorem xw_781 : Cond.methodLink "java/util/ArrayList" 118 ⟨"java/util/Objects", "checkIndex", "(II)I"⟩ ∈ xt_W := xt_in4 61 rfl rfl
theorem xw_782 : Cond.static ⟨"java/util/Objects", "checkIndex", "(II)I"⟩ ∈ xt_W := xt_in4 62 rfl rfl
theorem xw_783 : Cond.code ⟨"java/util/Objects", "checkIndex", "(II)I"⟩ prog_37_method_17_code 2 (some (.int)) ∈ xt_W := xt_in4 63 rfl rfl
theorem xw_784 : Cond.methodLink "java/util/Objects" 105 ⟨"jdk/internal/util/Preconditions", "checkIndex", "(IILjava/util/function/BiFunction;)I"⟩ ∈ xt_W := xt_in4 64 rfl rfl
theorem xw_785 : Cond.methodLink "java/util/ArrayList" 123 ⟨"java/util/ArrayList", "elementData", "(I)Ljava/lang/Object;"⟩ ∈ xt_W := xt_in4 65 rfl rfl
theorem xw_786 : Cond.instanceMethod ⟨"java/util/ArrayList", "elementData", "(I)Ljava/lang/Object;"⟩ ∈ xt_W := xt_in4 66 rfl rfl
theorem xw_787 : Cond.selects "java/util/ArrayList" ⟨"java/util/ArrayList", "elementData", "(I)Ljava/lang/Object;"⟩ ⟨"java/util/ArrayList", "elementData", "(I)Ljava/lang/Object;"⟩ ∈ xt_W := xt_in4 67 rfl rfl
theorem xw_788 : Cond.code ⟨"java/util/ArrayList", "elementData", "(I)Ljava/lang/Object;"⟩ prog_33_method_18_code 2 (some (.object "java/lang/Object")) ∈ xt_W := xt_in4 68 rfl rfl
theorem xw_789 : Cond.methodLink "ContractDesk$Value" 54 ⟨"ContractDesk$Value", "readString", "(LContractDesk$Cursor;)LContractDesk$Value;"⟩ ∈ xt_W := xt_in4 69 rfl rfl
theorem xw_790 : Cond.static ⟨"ContractDesk$Value", "readString", "(LContractDesk$Cursor;)LContractDesk$Value;"⟩ ∈ xt_W := xt_in4 70 rfl rfl
theorem xw_791 : Cond.code ⟨"ContractDesk$Value", "readString", "(LContractDesk$Cursor;)LContractDesk$Value;"⟩ prog_11_method_7_code 3 (some (.object "ContractDesk$Value")) ∈ xt_W := xt_in4 71 rfl rfl
theorem xw_792 : Cond.methodLink "ContractDesk$Value" 110 ⟨"ContractDesk$Cursor", "position", "()I"⟩ ∈ xt_W := xt_in4 72 rfl rfl
theorem xw_793 : Cond.instanceMethod ⟨"ContractDesk$Cursor", "position", "()I"⟩ ∈ xt_W := xt_in4 73 rfl rfl
theorem xw_794 : Cond.selects "ContractDesk$Cursor" ⟨"ContractDesk$Cursor", "position", "()I"⟩ ⟨"ContractDesk$Cursor", "position", "()I"⟩ ∈ xt_W := xt_in4 74 rfl rfl
theorem xw_795 : Cond.code ⟨"ContractDesk$Cursor", "position", "()I"⟩ prog_3_method_2_code 1 (some (.int)) ∈ xt_W := xt_in4 75 rfl rfl
theorem xw_796 : Cond.methodLink "ContractDesk$Value" 114 ⟨"ContractDesk$Cursor", "since", "(I)Ljava/lang/String;"⟩ ∈ xt_W := xt_in4 76 rfl rfl
theorem xw_797 : Cond.instanceMethod ⟨"ContractDesk$Cursor", "since", "(I)Ljava/lang/String;"⟩ ∈ xt_W := xt_in4 77 rfl rfl
theorem xw_798 : Cond.selects "ContractDesk$Cursor" ⟨"ContractDesk$Cursor", "since", "(I)Ljava/lang/String;"⟩ ⟨"ContractDesk$Cursor", "since", "(I)Ljava/lang/String;"⟩ ∈ xt_W := xt_in4 78 rfl rfl
theorem xw_799 : Cond.code ⟨"ContractDesk$Cursor", "since", "(I)Ljava/lang/String;"⟩ prog_3_method_10_code 2 (some (.object "java/lang/String")) ∈ xt_W := xt_in4 79 rfl rfl
theorem xw_800 : Cond.methodLink "ContractDesk$Cursor" 35 ⟨"java/lang/String", "substring", "(II)Ljava/lang/String;"⟩ ∈ xt_W := xt_in4 80 rfl rfl
theorem xw_801 : Cond.instanceMethod ⟨"java/lang/String", "substring", "(II)Ljava/lang/String;"⟩ ∈ xt_W := xt_in4 81 rfl rfl
theorem xw_802 : Cond.selects "java/lang/String" ⟨"java/lang/String", "substring", "(II)Ljava/lang/String;"⟩ ⟨"java/lang/String", "substring", "(II)Ljava/lang/String;"⟩ ∈ xt_W := xt_in4 82 rfl rfl
theorem xw_803 : Cond.code ⟨"java/lang/String", "substring", "(II)Ljava/lang/String;"⟩ prog_25_method_92_code 5 (some (.object "java/lang/String")) ∈ xt_W := xt_in4 83 rfl rfl
theorem xw_804 : Cond.methodLink "java/lang/String" 505 ⟨"java/lang/String", "length", "()I"⟩ ∈ xt_W := xt_in4 84 rfl rfl
theorem xw_805 : Cond.methodLink "java/lang/String" 521 ⟨"java/lang/String", "checkBoundsBeginEnd", "(III)V"⟩ ∈ xt_W := xt_in4 85 rfl rfl
theorem xw_806 : Cond.static ⟨"java/lang/String", "checkBoundsBeginEnd", "(III)V"⟩ ∈ xt_W := xt_in4 86 rfl rfl
theorem xw_807 : Cond.code ⟨"java/lang/String", "checkBoundsBeginEnd", "(III)V"⟩ prog_25_method_158_code 3 none ∈ xt_W := xt_in4 87 rfl rfl
theorem xw_808 : Cond.methodLink "java/lang/String" 1062 ⟨"jdk/internal/util/Preconditions", "checkFromToIndex", "(IIILjava/util/function/BiFunction;)I"⟩ ∈ xt_W := xt_in4 88 rfl rfl
theorem xw_809 : Cond.static ⟨"jdk/internal/util/Preconditions", "checkFromToIndex", "(IIILjava/util/function/BiFunction;)I"⟩ ∈ xt_W := xt_in4 89 rfl rfl
theorem xw_810 : Cond.code ⟨"jdk/internal/util/Preconditions", "checkFromToIndex", "(IIILjava/util/function/BiFunction;)I"⟩ prog_41_method_12_code 4 (some (.int)) ∈ xt_W := xt_in4 90 rfl rfl
theorem xw_811 : Cond.methodLink "java/lang/String" 685 ⟨"java/lang/StringLatin1", "newString", "([BII)Ljava/lang/String;"⟩ ∈ xt_W := xt_in4 91 rfl rfl
theorem xw_812 : Cond.static ⟨"java/lang/StringLatin1", "newString", "([BII)Ljava/lang/String;"⟩ ∈ xt_W := xt_in4 92 rfl rfl
theorem xw_813 : Cond.code ⟨"java/lang/StringLatin1", "newString", "([BII)Ljava/lang/String;"⟩ prog_27_method_47_code 3 (some (.object "java/lang/String")) ∈ xt_W := xt_in4 93 rfl rfl
theorem xw_815 : Cond.classLink "java/lang/StringLatin1" 1 "java/lang/String" ∈ xt_W := xt_in4 95 rfl rfl
theorem xw_816 : Cond.methodLink "java/lang/StringLatin1" 232 ⟨"java/util/Arrays", "copyOfRange", "([BII)[B"⟩ ∈ xt_W := xt_in4 96 rfl rfl
theorem xw_817 : Cond.methodLink "java/lang/StringLatin1" 112 ⟨"java/lang/String", "<init>", "([BB)V"⟩ ∈ xt_W := xt_in4 97 rfl rfl
theorem xw_818 : Cond.instanceMethod ⟨"java/lang/String", "<init>", "([BB)V"⟩ ∈ xt_W := xt_in4 98 rfl rfl
theorem xw_819 : Cond.code ⟨"java/lang/String", "<init>", "([BB)V"⟩ prog_25_method_151_code 3 none ∈ xt_W := xt_in4 99 rfl rfl
theorem xw_820 : Cond.methodLink "java/lang/String" 689 ⟨"java/lang/StringUTF16", "newString", "([BII)Ljava/lang/String;"⟩ ∈ xt_W := xt_in4 100 rfl rfl
theorem xw_821 : Cond.static ⟨"java/lang/StringUTF16", "newString", "([BII)Ljava/lang/String;"⟩ ∈ xt_W := xt_in4 101 rfl rfl
theorem xw_822 : Cond.code ⟨"java/lang/StringUTF16", "newString", "([BII)Ljava/lang/String;"⟩ prog_28_method_69_code 5 (some (.object "java/lang/String")) ∈ xt_W := xt_in4 102 rfl rfl
theorem xw_824 : Cond.fieldLink "java/lang/StringUTF16" 251 "java/lang/String" "COMPACT_STRINGS" "Z" ∈ xt_W := xt_in4 104 rfl rfl
theorem xw_825 : Cond.methodLink "java/lang/StringUTF16" 257 ⟨"java/lang/StringUTF16", "compress", "([BII)[B"⟩ ∈ xt_W := xt_in4 105 rfl rfl
theorem xw_826 : Cond.methodLink "java/lang/StringUTF16" 259 ⟨"java/lang/StringUTF16", "coderFromArrayLen", "([BI)B"⟩ ∈ xt_W := xt_in4 106 rfl rfl
theorem xw_827 : Cond.classLink "java/lang/StringUTF16" 3 "java/lang/String" ∈ xt_W := xt_in4 107 rfl rfl
theorem xw_828 : Cond.methodLink "java/lang/StringUTF16" 263 ⟨"java/lang/String", "<init>", "([BB)V"⟩ ∈ xt_W := xt_in4 108 rfl rfl
theorem xw_830 : Cond.fieldLink "ContractDesk$Value" 118 "ContractDesk$Kind" "STRING" "LContractDesk$Kind;" ∈ xt_W := xt_in4 110 rfl rfl
theorem xw_833 : Cond.fieldLink "ContractDesk$Value" 60 "ContractDesk$Kind" "NULL" "LContractDesk$Kind;" ∈ xt_W := xt_in4 113 rfl rfl
theorem xw_835 : Cond.methodLink "ContractDesk$Value" 65 ⟨"ContractDesk$Value", "readWord", "(LContractDesk$Cursor;Ljava/lang/String;LContractDesk$Kind;)LContractDesk$Value;"⟩ ∈ xt_W := xt_in4 115 rfl rfl
theorem xw_836 : Cond.static ⟨"ContractDesk$Value", "readWord", "(LContractDesk$Cursor;Ljava/lang/String;LContractDesk$Kind;)LContractDesk$Value;"⟩ ∈ xt_W := xt_in4 116 rfl rfl
theorem xw_837 : Cond.code ⟨"ContractDesk$Value", "readWord", "(LContractDesk$Cursor;Ljava/lang/String;LContractDesk$Kind;)LContractDesk$Value;"⟩ prog_11_method_8_code 3 (some (.object "ContractDesk$Value")) ∈ xt_W := xt_in4 117 rfl rfl
theorem xw_838 : Cond.methodLink "ContractDesk$Value" 121 ⟨"ContractDesk$Cursor", "acceptWord", "(Ljava/lang/String;)Z"⟩ ∈ xt_W := xt_in4 118 rfl rfl
theorem xw_839 : Cond.instanceMethod ⟨"ContractDesk$Cursor", "acceptWord", "(Ljava/lang/String;)Z"⟩ ∈ xt_W := xt_in4 119 rfl rfl
theorem xw_840 : Cond.selects "ContractDesk$Cursor" ⟨"ContractDesk$Cursor", "acceptWord", "(Ljava/lang/String;)Z"⟩ ⟨"ContractDesk$Cursor", "acceptWord", "(Ljava/lang/String;)Z"⟩ ∈ xt_W := xt_in4 120 rfl rfl
theorem xw_841 : Cond.code ⟨"ContractDesk$Cursor", "acceptWord", "(Ljava/lang/String;)Z"⟩ prog_3_method_7_code 3 (some (.boolean)) ∈ xt_W := xt_in4 121 rfl rfl
theorem xw_842 : Cond.methodLink "ContractDesk$Cursor" 31 ⟨"ContractDesk$Cursor", "accept", "(C)Z"⟩ ∈ xt_W := xt_in4 122 rfl rfl
theorem xw_844 : Cond.fieldLink "ContractDesk$Value" 71 "ContractDesk$Kind" "BOOLEAN" "LContractDesk$Kind;" ∈ xt_W := xt_in4 124 rfl rfl
theorem xw_847 : Cond.methodLink "ContractDesk$Value" 76 ⟨"ContractDesk$Value", "readNumber", "(LContractDesk$Cursor;)LContractDesk$Value;"⟩ ∈ xt_W := xt_in4 127 rfl rfl
theorem xw_848 : Cond.static ⟨"ContractDesk$Value", "readNumber", "(LContractDesk$Cursor;)LContractDesk$Value;"⟩ ∈ xt_W := xt_in4 128 rfl rfl
theorem xw_849 : Cond.code ⟨"ContractDesk$Value", "readNumber", "(LContractDesk$Cursor;)LContractDesk$Value;"⟩ prog_11_method_9_code 2 (some (.object "ContractDesk$Value")) ∈ xt_W := xt_in4 129 rfl rfl
theorem xw_850 : Cond.fieldLink "ContractDesk$Value" 125 "ContractDesk$Kind" "NUMBER" "LContractDesk$Kind;" ∈ xt_W := xt_in4 130 rfl rfl
theorem xw_853 : Cond.methodLink "ContractDesk$Value" 130 ⟨"ContractDesk$Cursor", "acceptDigits", "(I)I"⟩ ∈ xt_W := xt_in4 133 rfl rfl
theorem xw_854 : Cond.methodLink "ContractDesk$Value" 38 ⟨"ContractDesk$Cursor", "atEnd", "()Z"⟩ ∈ xt_W := xt_in4 134 rfl rfl
theorem xw_870 : Cond.methodLink "ContractDesk" 75 ⟨"ContractDesk$Interaction", "expect", "(LContractDesk$Value;)Z"⟩ ∈ xt_W := xt_in4 150 rfl rfl
theorem xw_871 : Cond.instanceMethod ⟨"ContractDesk$Interaction", "expect", "(LContractDesk$Value;)Z"⟩ ∈ xt_W := xt_in4 151 rfl rfl
theorem xw_872 : Cond.selects "ContractDesk$Interaction" ⟨"ContractDesk$Interaction", "expect", "(LContractDesk$Value;)Z"⟩ ⟨"ContractDesk$Interaction", "expect", "(LContractDesk$Value;)Z"⟩ ∈ xt_W := xt_in4 152 rfl rfl
theorem xw_873 : Cond.code ⟨"ContractDesk$Interaction", "expect", "(LContractDesk$Value;)Z"⟩ prog_4_method_4_code 2 (some (.boolean)) ∈ xt_W := xt_in4 153 rfl rfl
theorem xw_875 : Cond.static ⟨"ContractDesk$Value", "areEqual", "(LContractDesk$Value;LContractDesk$Value;I)Z"⟩ ∈ xt_W := xt_in4 155 rfl rfl
theorem xw_876 : Cond.code ⟨"ContractDesk$Value", "areEqual", "(LContractDesk$Value;LContractDesk$Value;I)Z"⟩ prog_11_method_19_code 6 (some (.boolean)) ∈ xt_W := xt_in4 156 rfl rfl
theorem xw_877 : Cond.methodLink "ContractDesk$Value" 148 ⟨"ContractDesk$Value", "isAlike", "(LContractDesk$Value;)Z"⟩ ∈ xt_W := xt_in4 157 rfl rfl
theorem xw_878 : Cond.instanceMethod ⟨"ContractDesk$Value", "isAlike", "(LContractDesk$Value;)Z"⟩ ∈ xt_W := xt_in4 158 rfl rfl
theorem xw_879 : Cond.selects "ContractDesk$Value" ⟨"ContractDesk$Value", "isAlike", "(LContractDesk$Value;)Z"⟩ ⟨"ContractDesk$Value", "isAlike", "(LContractDesk$Value;)Z"⟩ ∈ xt_W := xt_in4 159 rfl rfl
theorem xw_880 : Cond.code ⟨"ContractDesk$Value", "isAlike", "(LContractDesk$Value;)Z"⟩ prog_11_method_18_code 2 (some (.boolean)) ∈ xt_W := xt_in4 160 rfl rfl
theorem xw_881 : Cond.methodLink "ContractDesk$Value" 143 ⟨"java/lang/String", "equals", "(Ljava/lang/Object;)Z"⟩ ∈ xt_W := xt_in4 161 rfl rfl
theorem xw_882 : Cond.instanceMethod ⟨"java/lang/String", "equals", "(Ljava/lang/Object;)Z"⟩ ∈ xt_W := xt_in4 162 rfl rfl
theorem xw_883 : Cond.selects "java/lang/String" ⟨"java/lang/String", "equals", "(Ljava/lang/Object;)Z"⟩ ⟨"java/lang/String", "equals", "(Ljava/lang/Object;)Z"⟩ ∈ xt_W := xt_in4 163 rfl rfl
theorem xw_884 : Cond.code ⟨"java/lang/String", "equals", "(Ljava/lang/Object;)Z"⟩ prog_25_method_66_code 3 (some (.boolean)) ∈ xt_W := xt_in4 164 rfl rfl
theorem xw_885 : Cond.classLink "java/lang/String" 10 "java/lang/String" ∈ xt_W := xt_in4 165 rfl rfl
theorem xw_886 : Cond.methodLink "java/lang/String" 541 ⟨"java/lang/StringLatin1", "equals", "([B[B)Z"⟩ ∈ xt_W := xt_in4 166 rfl rfl
theorem xw_887 : Cond.static ⟨"java/lang/StringLatin1", "equals", "([B[B)Z"⟩ ∈ xt_W := xt_in4 167 rfl rfl
theorem xw_888 : Cond.code ⟨"java/lang/StringLatin1", "equals", "([B[B)Z"⟩ prog_27_method_13_code 3 (some (.boolean)) ∈ xt_W := xt_in4 168 rfl rfl
theorem xw_889 : Cond.methodLink "ContractDesk$Value" 152 ⟨"ContractDesk$Value", "size", "()I"⟩ ∈ xt_W := xt_in4 169 rfl rfl
theorem xw_890 : Cond.instanceMethod ⟨"ContractDesk$Value", "size", "()I"⟩ ∈ xt_W := xt_in4 170 rfl rfl
theorem xw_891 : Cond.selects "ContractDesk$Value" ⟨"ContractDesk$Value", "size", "()I"⟩ ⟨"ContractDesk$Value", "size", "()I"⟩ ∈ xt_W := xt_in4 171 rfl rfl
theorem xw_892 : Cond.code ⟨"ContractDesk$Value", "size", "()I"⟩ prog_11_method_15_code 1 (some (.int)) ∈ xt_W := xt_in4 172 rfl rfl
theorem xw_893 : Cond.methodLink "ContractDesk$Value" 153 ⟨"ContractDesk$Value", "part", "(I)LContractDesk$Value;"⟩ ∈ xt_W := xt_in4 173 rfl rfl
theorem xw_894 : Cond.instanceMethod ⟨"ContractDesk$Value", "part", "(I)LContractDesk$Value;"⟩ ∈ xt_W := xt_in4 174 rfl rfl
theorem xw_895 : Cond.selects "ContractDesk$Value" ⟨"ContractDesk$Value", "part", "(I)LContractDesk$Value;"⟩ ⟨"ContractDesk$Value", "part", "(I)LContractDesk$Value;"⟩ ∈ xt_W := xt_in4 175 rfl rfl
theorem xw_896 : Cond.code ⟨"ContractDesk$Value", "part", "(I)LContractDesk$Value;"⟩ prog_11_method_16_code 2 (some (.object "ContractDesk$Value")) ∈ xt_W := xt_in4 176 rfl rfl
theorem xw_897 : Cond.methodLink "ContractDesk$Value" 157 ⟨"ContractDesk$Value", "areEqual", "(LContractDesk$Value;LContractDesk$Value;I)Z"⟩ ∈ xt_W := xt_in4 177 rfl rfl
theorem xw_898 : Cond.methodLink "ContractDesk" 79 ⟨"ContractDesk$Value", "count", "()I"⟩ ∈ xt_W := xt_in4 178 rfl rfl
theorem xw_899 : Cond.instanceMethod ⟨"ContractDesk$Value", "count", "()I"⟩ ∈ xt_W := xt_in4 179 rfl rfl
theorem xw_900 : Cond.selects "ContractDesk$Value" ⟨"ContractDesk$Value", "count", "()I"⟩ ⟨"ContractDesk$Value", "count", "()I"⟩ ∈ xt_W := xt_in4 180 rfl rfl
theorem xw_901 : Cond.code ⟨"ContractDesk$Value", "count", "()I"⟩ prog_11_method_14_code 1 (some (.int)) ∈ xt_W := xt_in4 181 rfl rfl
theorem xw_908 : Cond.code ⟨"ContractDesk", "rule", "(I)I"⟩ prog_1_method_5_code 5 (some (.int)) ∈ xt_W := xt_in4 188 rfl rfl
theorem xw_909 : Cond.methodLink "ContractDesk" 82 ⟨"ContractDesk$Rule", "read", "(LContractDesk$Cursor;)LContractDesk$Rule;"⟩ ∈ xt_W := xt_in4 189 rfl rfl
theorem xw_910 : Cond.static ⟨"ContractDesk$Rule", "read", "(LContractDesk$Cursor;)LContractDesk$Rule;"⟩ ∈ xt_W := xt_in4 190 rfl rfl
theorem xw_911 : Cond.code ⟨"ContractDesk$Rule", "read", "(LContractDesk$Cursor;)LContractDesk$Rule;"⟩ prog_9_method_2_code 3 (some (.object "ContractDesk$Rule")) ∈ xt_W := xt_in4 191 rfl rfl
theorem xw_912 : Cond.methodLink "ContractDesk$Rule" 24 ⟨"ContractDesk$Path", "readPath", "(LContractDesk$Cursor;IZ)LContractDesk$Path;"⟩ ∈ xt_W := xt_in4 192 rfl rfl
theorem xw_913 : Cond.methodLink "ContractDesk$Rule" 28 ⟨"ContractDesk$Cursor", "accept", "(C)Z"⟩ ∈ xt_W := xt_in4 193 rfl rfl
theorem xw_914 : Cond.classLink "ContractDesk$Rule" 10 "ContractDesk$Rule" ∈ xt_W := xt_in4 194 rfl rfl
theorem xw_915 : Cond.instantiable "ContractDesk$Rule" 4 ∈ xt_W := xt_in4 195 rfl rfl
theorem xw_916 : Cond.methodLink "ContractDesk$Rule" 34 ⟨"ContractDesk$Rule", "<init>", "(LContractDesk$Path;)V"⟩ ∈ xt_W := xt_in4 196 rfl rfl
theorem xw_917 : Cond.instanceMethod ⟨"ContractDesk$Rule", "<init>", "(LContractDesk$Path;)V"⟩ ∈ xt_W := xt_in4 197 rfl rfl
theorem xw_918 : Cond.code ⟨"ContractDesk$Rule", "<init>", "(LContractDesk$Path;)V"⟩ prog_9_method_1_code 2 none ∈ xt_W := xt_in4 198 rfl rfl
theorem xw_919 : Cond.methodLink "ContractDesk$Rule" 3 ⟨"java/lang/Object", "<init>", "()V"⟩ ∈ xt_W := xt_in4 199 rfl rfl
theorem xw_920 : Cond.classLink "ContractDesk$Rule" 15 "java/util/ArrayList" ∈ xt_W := xt_in4 200 rfl rfl
theorem xw_921 : Cond.methodLink "ContractDesk$Rule" 17 ⟨"java/util/ArrayList", "<init>", "()V"⟩ ∈ xt_W := xt_in4 201 rfl rfl
theorem xw_922 : Cond.fieldLink "ContractDesk$Rule" 9 "ContractDesk$Rule" "pattern" "LContractDesk$Path;" ∈ xt_W := xt_in4 202 rfl rfl
theorem xw_923 : Cond.fieldLink "ContractDesk$Rule" 18 "ContractDesk$Rule" "matchers" "Ljava/util/ArrayList;" ∈ xt_W := xt_in4 203 rfl rfl
theorem xw_924 : Cond.fieldLink "ContractDesk$Rule" 63 "ContractDesk$Rule" "oneIsEnough" "Z" ∈ xt_W := xt_in4 204 rfl rfl
theorem xw_925 : Cond.fieldLink "ContractDesk$Rule" 51 "ContractDesk$Rule" "loose" "Z" ∈ xt_W := xt_in4 205 rfl rfl
theorem xw_926 : Cond.laysFinal "ContractDesk$Rule" "ContractDesk$Rule" "pattern" "LContractDesk$Path;" ∈ xt_W := xt_in4 206 rfl rfl
theorem xw_928 : Cond.laysFinal "ContractDesk$Rule" "ContractDesk$Rule" "matchers" "Ljava/util/ArrayList;" ∈ xt_W := xt_in4 208 rfl rfl
theorem xw_930 : Cond.lays "ContractDesk$Rule" "ContractDesk$Rule" "oneIsEnough" "Z" ∈ xt_W := xt_in4 210 rfl rfl
theorem xw_932 : Cond.lays "ContractDesk$Rule" "ContractDesk$Rule" "loose" "Z" ∈ xt_W := xt_in4 212 rfl rfl
theorem xw_935 : Cond.methodLink "ContractDesk$Rule" 37 ⟨"ContractDesk$Rule", "readMatchers", "(LContractDesk$Cursor;)Z"⟩ ∈ xt_W := xt_in4 215 rfl rfl
theorem xw_937 : Cond.instanceMethod ⟨"ContractDesk$Rule", "readMatchers", "(LContractDesk$Cursor;)Z"⟩ ∈ xt_W := xt_in4 217 rfl rfl
theorem xw_938 : Cond.code ⟨"ContractDesk$Rule", "readMatchers", "(LContractDesk$Cursor;)Z"⟩ prog_9_method_3_code 4 (some (.boolean)) ∈ xt_W := xt_in4 218 rfl rfl
theorem xw_939 : Cond.methodLink "ContractDesk$Rule" 41 ⟨"ContractDesk$Matcher", "read", "(LContractDesk$Cursor;)LContractDesk$Matcher;"⟩ ∈ xt_W := xt_in4 219 rfl rfl
theorem xw_940 : Cond.static ⟨"ContractDesk$Matcher", "read", "(LContractDesk$Cursor;)LContractDesk$Matcher;"⟩ ∈ xt_W := xt_in4 220 rfl rfl
theorem xw_941 : Cond.code ⟨"ContractDesk$Matcher", "read", "(LContractDesk$Cursor;)LContractDesk$Matcher;"⟩ prog_6_method_2_code 2 (some (.object "ContractDesk$Matcher")) ∈ xt_W := xt_in4 221 rfl rfl
theorem xw_942 : Cond.methodLink "ContractDesk$Matcher" 21 ⟨"ContractDesk$Cursor", "next", "()C"⟩ ∈ xt_W := xt_in4 222 rfl rfl
theorem xw_943 : Cond.classLink "ContractDesk$Matcher" 8 "ContractDesk$Matcher" ∈ xt_W := xt_in4 223 rfl rfl
theorem xw_944 : Cond.instantiable "ContractDesk$Matcher" 3 ∈ xt_W := xt_in4 224 rfl rfl
theorem xw_946 : Cond.methodLink "ContractDesk$Matcher" 29 ⟨"ContractDesk$Matcher", "<init>", "(CILjava/lang/String;)V"⟩ ∈ xt_W := xt_in4 226 rfl rfl
theorem xw_947 : Cond.instanceMethod ⟨"ContractDesk$Matcher", "<init>", "(CILjava/lang/String;)V"⟩ ∈ xt_W := xt_in4 227 rfl rfl
theorem xw_948 : Cond.code ⟨"ContractDesk$Matcher", "<init>", "(CILjava/lang/String;)V"⟩ prog_6_method_1_code 4 none ∈ xt_W := xt_in4 228 rfl rfl
theorem xw_949 : Cond.methodLink "ContractDesk$Matcher" 1 ⟨"java/lang/Object", "<init>", "()V"⟩ ∈ xt_W := xt_in4 229 rfl rfl
theorem xw_950 : Cond.fieldLink "ContractDesk$Matcher" 7 "ContractDesk$Matcher" "sign" "C" ∈ xt_W := xt_in4 230 rfl rfl
theorem xw_951 : Cond.fieldLink "ContractDesk$Matcher" 13 "ContractDesk$Matcher" "bound" "I" ∈ xt_W := xt_in4 231 rfl rfl
theorem xw_952 : Cond.fieldLink "ContractDesk$Matcher" 17 "ContractDesk$Matcher" "detail" "Ljava/lang/String;" ∈ xt_W := xt_in4 232 rfl rfl
theorem xw_953 : Cond.laysFinal "ContractDesk$Matcher" "ContractDesk$Matcher" "sign" "C" ∈ xt_W := xt_in4 233 rfl rfl
theorem xw_955 : Cond.laysFinal "ContractDesk$Matcher" "ContractDesk$Matcher" "bound" "I" ∈ xt_W := xt_in4 235 rfl rfl
theorem xw_957 : Cond.laysFinal "ContractDesk$Matcher" "ContractDesk$Matcher" "detail" "Ljava/lang/String;" ∈ xt_W := xt_in4 237 rfl rfl
theorem xw_960 : Cond.methodLink "ContractDesk$Matcher" 32 ⟨"ContractDesk$Matcher", "readBound", "(CLContractDesk$Cursor;)LContractDesk$Matcher;"⟩ ∈ xt_W := xt_in5 0 rfl rfl
theorem xw_961 : Cond.static ⟨"ContractDesk$Matcher", "readBound", "(CLContractDesk$Cursor;)LContractDesk$Matcher;"⟩ ∈ xt_W := xt_in5 1 rfl rfl
theorem xw_962 : Cond.code ⟨"ContractDesk$Matcher", "readBound", "(CLContractDesk$Cursor;)LContractDesk$Matcher;"⟩ prog_6_method_3_code 3 (some (.object "ContractDesk$Matcher")) ∈ xt_W := xt_in5 2 rfl rfl
theorem xw_963 : Cond.methodLink "ContractDesk$Matcher" 42 ⟨"ContractDesk$Cursor", "peek", "()C"⟩ ∈ xt_W := xt_in5 3 rfl rfl
theorem xw_964 : Cond.methodLink "ContractDesk$Matcher" 45 ⟨"ContractDesk$Cursor", "acceptDigits", "(I)I"⟩ ∈ xt_W := xt_in5 4 rfl rfl
theorem xw_965 : Cond.methodLink "ContractDesk$Matcher" 36 ⟨"ContractDesk$Matcher", "readPart", "(CLContractDesk$Cursor;)LContractDesk$Matcher;"⟩ ∈ xt_W := xt_in5 5 rfl rfl
theorem xw_966 : Cond.static ⟨"ContractDesk$Matcher", "readPart", "(CLContractDesk$Cursor;)LContractDesk$Matcher;"⟩ ∈ xt_W := xt_in5 6 rfl rfl
theorem xw_967 : Cond.code ⟨"ContractDesk$Matcher", "readPart", "(CLContractDesk$Cursor;)LContractDesk$Matcher;"⟩ prog_6_method_4_code 3 (some (.object "ContractDesk$Matcher")) ∈ xt_W := xt_in5 7 rfl rfl
theorem xw_968 : Cond.methodLink "ContractDesk$Matcher" 49 ⟨"ContractDesk$Cursor", "position", "()I"⟩ ∈ xt_W := xt_in5 8 rfl rfl
theorem xw_969 : Cond.methodLink "ContractDesk$Matcher" 53 ⟨"ContractDesk$Cursor", "acceptLetters", "(I)I"⟩ ∈ xt_W := xt_in5 9 rfl rfl
theorem xw_970 : Cond.methodLink "ContractDesk$Matcher" 56 ⟨"ContractDesk$Cursor", "since", "(I)Ljava/lang/String;"⟩ ∈ xt_W := xt_in5 10 rfl rfl
theorem xw_971 : Cond.methodLink "ContractDesk$Matcher" 39 ⟨"ContractDesk$Matcher", "readItems", "(CLContractDesk$Cursor;)LContractDesk$Matcher;"⟩ ∈ xt_W := xt_in5 11 rfl rfl
theorem xw_972 : Cond.static ⟨"ContractDesk$Matcher", "readItems", "(CLContractDesk$Cursor;)LContractDesk$Matcher;"⟩ ∈ xt_W := xt_in5 12 rfl rfl
theorem xw_973 : Cond.code ⟨"ContractDesk$Matcher", "readItems", "(CLContractDesk$Cursor;)LContractDesk$Matcher;"⟩ prog_6_method_5_code 5 (some (.object "ContractDesk$Matcher")) ∈ xt_W := xt_in5 13 rfl rfl
theorem xw_974 : Cond.methodLink "ContractDesk$Matcher" 60 ⟨"ContractDesk$Cursor", "accept", "(C)Z"⟩ ∈ xt_W := xt_in5 14 rfl rfl
theorem xw_975 : Cond.methodLink "ContractDesk$Rule" 47 ⟨"java/util/ArrayList", "add", "(Ljava/lang/Object;)Z"⟩ ∈ xt_W := xt_in5 15 rfl rfl
theorem xw_976 : Cond.methodLink "ContractDesk$Rule" 55 ⟨"ContractDesk$Matcher", "isLoose", "()Z"⟩ ∈ xt_W := xt_in5 16 rfl rfl
theorem xw_977 : Cond.instanceMethod ⟨"ContractDesk$Matcher", "isLoose", "()Z"⟩ ∈ xt_W := xt_in5 17 rfl rfl
theorem xw_978 : Cond.selects "ContractDesk$Matcher" ⟨"ContractDesk$Matcher", "isLoose", "()Z"⟩ ⟨"ContractDesk$Matcher", "isLoose", "()Z"⟩ ∈ xt_W := xt_in5 18 rfl rfl
theorem xw_979 : Cond.code ⟨"ContractDesk$Matcher", "isLoose", "()Z"⟩ prog_6_method_6_code 1 (some (.boolean)) ∈ xt_W := xt_in5 19 rfl rfl
theorem xw_980 : Cond.methodLink "ContractDesk$Rule" 59 ⟨"ContractDesk$Cursor", "peek", "()C"⟩ ∈ xt_W := xt_in5 20 rfl rfl
theorem xw_981 : Cond.methodLink "ContractDesk$Rule" 66 ⟨"ContractDesk$Cursor", "atEnd", "()Z"⟩ ∈ xt_W := xt_in5 21 rfl rfl
theorem xw_982 : Cond.methodLink "ContractDesk" 87 ⟨"ContractDesk$Interaction", "addRule", "(LContractDesk$Rule;)I"⟩ ∈ xt_W := xt_in5 22 rfl rfl
theorem xw_983 : Cond.instanceMethod ⟨"ContractDesk$Interaction", "addRule", "(LContractDesk$Rule;)I"⟩ ∈ xt_W := xt_in5 23 rfl rfl
theorem xw_984 : Cond.selects "ContractDesk$Interaction" ⟨"ContractDesk$Interaction", "addRule", "(LContractDesk$Rule;)I"⟩ ⟨"ContractDesk$Interaction", "addRule", "(LContractDesk$Rule;)I"⟩ ∈ xt_W := xt_in5 24 rfl rfl
theorem xw_985 : Cond.code ⟨"ContractDesk$Interaction", "addRule", "(LContractDesk$Rule;)I"⟩ prog_4_method_5_code 2 (some (.int)) ∈ xt_W := xt_in5 25 rfl rfl
theorem xw_992 : Cond.code ⟨"ContractDesk", "verify", "(I)I"⟩ prog_1_method_9_code 5 (some (.int)) ∈ xt_W := xt_in5 32 rfl rfl
theorem xw_993 : Cond.methodLink "ContractDesk" 112 ⟨"ContractDesk$Interaction", "expected", "()LContractDesk$Value;"⟩ ∈ xt_W := xt_in5 33 rfl rfl
theorem xw_994 : Cond.instanceMethod ⟨"ContractDesk$Interaction", "expected", "()LContractDesk$Value;"⟩ ∈ xt_W := xt_in5 34 rfl rfl
theorem xw_995 : Cond.selects "ContractDesk$Interaction" ⟨"ContractDesk$Interaction", "expected", "()LContractDesk$Value;"⟩ ⟨"ContractDesk$Interaction", "expected", "()LContractDesk$Value;"⟩ ∈ xt_W := xt_in5 35 rfl rfl
theorem xw_996 : Cond.code ⟨"ContractDesk$Interaction", "expected", "()LContractDesk$Value;"⟩ prog_4_method_3_code 1 (some (.object "ContractDesk$Value")) ∈ xt_W := xt_in5 36 rfl rfl
theorem xw_997 : Cond.methodLink "ContractDesk" 116 ⟨"ContractDesk", "setUpStates", "(LContractDesk$Interaction;)Z"⟩ ∈ xt_W := xt_in5 37 rfl rfl
theorem xw_999 : Cond.instanceMethod ⟨"ContractDesk", "setUpStates", "(LContractDesk$Interaction;)Z"⟩ ∈ xt_W := xt_in5 39 rfl rfl
theorem xw_1000 : Cond.code ⟨"ContractDesk", "setUpStates", "(LContractDesk$Interaction;)Z"⟩ prog_1_method_17_code 3 (some (.boolean)) ∈ xt_W := xt_in5 40 rfl rfl
theorem xw_1001 : Cond.methodLink "ContractDesk" 124 ⟨"ContractDesk$Interaction", "stateCount", "()I"⟩ ∈ xt_W := xt_in5 41 rfl rfl
theorem xw_1002 : Cond.instanceMethod ⟨"ContractDesk$Interaction", "stateCount", "()I"⟩ ∈ xt_W := xt_in5 42 rfl rfl
theorem xw_1003 : Cond.selects "ContractDesk$Interaction" ⟨"ContractDesk$Interaction", "stateCount", "()I"⟩ ⟨"ContractDesk$Interaction", "stateCount", "()I"⟩ ∈ xt_W := xt_in5 43 rfl rfl
theorem xw_1004 : Cond.code ⟨"ContractDesk$Interaction", "stateCount", "()I"⟩ prog_4_method_10_code 1 (some (.int)) ∈ xt_W := xt_in5 44 rfl rfl
theorem xw_1005 : Cond.methodLink "ContractDesk" 166 ⟨"ContractDesk$Interaction", "stateAt", "(I)I"⟩ ∈ xt_W := xt_in5 45 rfl rfl
theorem xw_1006 : Cond.instanceMethod ⟨"ContractDesk$Interaction", "stateAt", "(I)I"⟩ ∈ xt_W := xt_in5 46 rfl rfl
theorem xw_1007 : Cond.selects "ContractDesk$Interaction" ⟨"ContractDesk$Interaction", "stateAt", "(I)I"⟩ ⟨"ContractDesk$Interaction", "stateAt", "(I)I"⟩ ∈ xt_W := xt_in5 47 rfl rfl
theorem xw_1008 : Cond.code ⟨"ContractDesk$Interaction", "stateAt", "(I)I"⟩ prog_4_method_11_code 2 (some (.int)) ∈ xt_W := xt_in5 48 rfl rfl
theorem xw_1009 : Cond.methodLink "ContractDesk" 169 ⟨"ContractDesk$States", "setUp", "(I)Z"⟩ ∈ xt_W := xt_in5 49 rfl rfl
theorem xw_1010 : Cond.instanceMethod ⟨"ContractDesk$States", "setUp", "(I)Z"⟩ ∈ xt_W := xt_in5 50 rfl rfl
theorem xw_1011 : Cond.selects "ContractDesk$States" ⟨"ContractDesk$States", "setUp", "(I)Z"⟩ ⟨"ContractDesk$States", "setUp", "(I)Z"⟩ ∈ xt_W := xt_in5 51 rfl rfl
theorem xw_1012 : Cond.code ⟨"ContractDesk$States", "setUp", "(I)Z"⟩ prog_10_method_4_code 4 (some (.boolean)) ∈ xt_W := xt_in5 52 rfl rfl
theorem xw_1013 : Cond.methodLink "ContractDesk$States" 22 ⟨"ContractDesk$States", "handlerOf", "(I)I"⟩ ∈ xt_W := xt_in5 53 rfl rfl
theorem xw_1015 : Cond.instanceMethod ⟨"ContractDesk$States", "handlerOf", "(I)I"⟩ ∈ xt_W := xt_in5 55 rfl rfl
theorem xw_1016 : Cond.code ⟨"ContractDesk$States", "handlerOf", "(I)I"⟩ prog_10_method_6_code 2 (some (.int)) ∈ xt_W := xt_in5 56 rfl rfl
theorem xw_1017 : Cond.methodLink "ContractDesk$States" 26 ⟨"ContractDesk$States", "note", "(II)V"⟩ ∈ xt_W := xt_in5 57 rfl rfl
theorem xw_1019 : Cond.instanceMethod ⟨"ContractDesk$States", "note", "(II)V"⟩ ∈ xt_W := xt_in5 59 rfl rfl
theorem xw_1020 : Cond.code ⟨"ContractDesk$States", "note", "(II)V"⟩ prog_10_method_7_code 3 none ∈ xt_W := xt_in5 60 rfl rfl
theorem xw_1021 : Cond.methodLink "ContractDesk" 127 ⟨"ContractDesk", "tearDownStates", "(LContractDesk$Interaction;I)V"⟩ ∈ xt_W := xt_in5 61 rfl rfl
theorem xw_1023 : Cond.instanceMethod ⟨"ContractDesk", "tearDownStates", "(LContractDesk$Interaction;I)V"⟩ ∈ xt_W := xt_in5 63 rfl rfl
theorem xw_1024 : Cond.code ⟨"ContractDesk", "tearDownStates", "(LContractDesk$Interaction;I)V"⟩ prog_1_method_18_code 4 none ∈ xt_W := xt_in5 64 rfl rfl
theorem xw_1025 : Cond.methodLink "ContractDesk" 172 ⟨"ContractDesk$States", "tearDown", "(I)V"⟩ ∈ xt_W := xt_in5 65 rfl rfl
theorem xw_1026 : Cond.instanceMethod ⟨"ContractDesk$States", "tearDown", "(I)V"⟩ ∈ xt_W := xt_in5 66 rfl rfl
theorem xw_1027 : Cond.selects "ContractDesk$States" ⟨"ContractDesk$States", "tearDown", "(I)V"⟩ ⟨"ContractDesk$States", "tearDown", "(I)V"⟩ ∈ xt_W := xt_in5 67 rfl rfl
theorem xw_1028 : Cond.code ⟨"ContractDesk$States", "tearDown", "(I)V"⟩ prog_10_method_5_code 2 none ∈ xt_W := xt_in5 68 rfl rfl
theorem xw_1029 : Cond.methodLink "ContractDesk" 120 ⟨"ContractDesk$Comparison", "run", "(LContractDesk$Interaction;LContractDesk$Value;)I"⟩ ∈ xt_W := xt_in5 69 rfl rfl
theorem xw_1030 : Cond.instanceMethod ⟨"ContractDesk$Comparison", "run", "(LContractDesk$Interaction;LContractDesk$Value;)I"⟩ ∈ xt_W := xt_in5 70 rfl rfl
theorem xw_1031 : Cond.selects "ContractDesk$Comparison" ⟨"ContractDesk$Comparison", "run", "(LContractDesk$Interaction;LContractDesk$Value;)I"⟩ ⟨"ContractDesk$Comparison", "run", "(LContractDesk$Interaction;LContractDesk$Value;)I"⟩ ∈ xt_W := xt_in5 71 rfl rfl
theorem xw_1032 : Cond.code ⟨"ContractDesk$Comparison", "run", "(LContractDesk$Interaction;LContractDesk$Value;)I"⟩ prog_2_method_2_code 3 (some (.int)) ∈ xt_W := xt_in5 72 rfl rfl
theorem xw_1033 : Cond.methodLink "ContractDesk$Comparison" 35 ⟨"ContractDesk$Path", "clear", "()V"⟩ ∈ xt_W := xt_in5 73 rfl rfl
theorem xw_1034 : Cond.instanceMethod ⟨"ContractDesk$Path", "clear", "()V"⟩ ∈ xt_W := xt_in5 74 rfl rfl
theorem xw_1035 : Cond.selects "ContractDesk$Path" ⟨"ContractDesk$Path", "clear", "()V"⟩ ⟨"ContractDesk$Path", "clear", "()V"⟩ ∈ xt_W := xt_in5 75 rfl rfl
theorem xw_1036 : Cond.code ⟨"ContractDesk$Path", "clear", "()V"⟩ prog_8_method_10_code 1 none ∈ xt_W := xt_in5 76 rfl rfl
theorem xw_1037 : Cond.methodLink "ContractDesk$Comparison" 38 ⟨"ContractDesk$Interaction", "expected", "()LContractDesk$Value;"⟩ ∈ xt_W := xt_in5 77 rfl rfl
theorem xw_1038 : Cond.methodLink "ContractDesk$Comparison" 44 ⟨"ContractDesk$Comparison", "compare", "(LContractDesk$Value;LContractDesk$Value;I)V"⟩ ∈ xt_W := xt_in5 78 rfl rfl
theorem xw_1040 : Cond.instanceMethod ⟨"ContractDesk$Comparison", "compare", "(LContractDesk$Value;LContractDesk$Value;I)V"⟩ ∈ xt_W := xt_in5 80 rfl rfl
theorem xw_1041 : Cond.code ⟨"ContractDesk$Comparison", "compare", "(LContractDesk$Value;LContractDesk$Value;I)V"⟩ prog_2_method_6_code 5 none ∈ xt_W := xt_in5 81 rfl rfl
theorem xw_1042 : Cond.methodLink "ContractDesk$Comparison" 56 ⟨"ContractDesk$Interaction", "selected", "(LContractDesk$Path;)I"⟩ ∈ xt_W := xt_in5 82 rfl rfl
theorem xw_1043 : Cond.methodLink "ContractDesk$Comparison" 60 ⟨"ContractDesk$Interaction", "ruleAt", "(I)LContractDesk$Rule;"⟩ ∈ xt_W := xt_in5 83 rfl rfl
theorem xw_1044 : Cond.instanceMethod ⟨"ContractDesk$Interaction", "ruleAt", "(I)LContractDesk$Rule;"⟩ ∈ xt_W := xt_in5 84 rfl rfl
theorem xw_1045 : Cond.selects "ContractDesk$Interaction" ⟨"ContractDesk$Interaction", "ruleAt", "(I)LContractDesk$Rule;"⟩ ⟨"ContractDesk$Interaction", "ruleAt", "(I)LContractDesk$Rule;"⟩ ∈ xt_W := xt_in5 85 rfl rfl
theorem xw_1046 : Cond.code ⟨"ContractDesk$Interaction", "ruleAt", "(I)LContractDesk$Rule;"⟩ prog_4_method_7_code 2 (some (.object "ContractDesk$Rule")) ∈ xt_W := xt_in5 86 rfl rfl
theorem xw_1047 : Cond.methodLink "ContractDesk$Comparison" 64 ⟨"ContractDesk$Value", "isAlike", "(LContractDesk$Value;)Z"⟩ ∈ xt_W := xt_in5 87 rfl rfl
theorem xw_1048 : Cond.methodLink "ContractDesk$Comparison" 70 ⟨"ContractDesk$Comparison", "note", "(I)V"⟩ ∈ xt_W := xt_in5 88 rfl rfl
theorem xw_1050 : Cond.instanceMethod ⟨"ContractDesk$Comparison", "note", "(I)V"⟩ ∈ xt_W := xt_in5 90 rfl rfl
theorem xw_1051 : Cond.code ⟨"ContractDesk$Comparison", "note", "(I)V"⟩ prog_2_method_5_code 2 none ∈ xt_W := xt_in5 91 rfl rfl
theorem xw_1052 : Cond.methodLink "ContractDesk$Comparison" 52 ⟨"ContractDesk$Mismatch", "set", "(ILContractDesk$Path;)V"⟩ ∈ xt_W := xt_in5 92 rfl rfl
theorem xw_1053 : Cond.instanceMethod ⟨"ContractDesk$Mismatch", "set", "(ILContractDesk$Path;)V"⟩ ∈ xt_W := xt_in5 93 rfl rfl
theorem xw_1054 : Cond.selects "ContractDesk$Mismatch" ⟨"ContractDesk$Mismatch", "set", "(ILContractDesk$Path;)V"⟩ ⟨"ContractDesk$Mismatch", "set", "(ILContractDesk$Path;)V"⟩ ∈ xt_W := xt_in5 94 rfl rfl
theorem xw_1055 : Cond.code ⟨"ContractDesk$Mismatch", "set", "(ILContractDesk$Path;)V"⟩ prog_7_method_2_code 3 none ∈ xt_W := xt_in5 95 rfl rfl
theorem xw_1056 : Cond.methodLink "ContractDesk$Mismatch" 22 ⟨"java/lang/StringBuilder", "setLength", "(I)V"⟩ ∈ xt_W := xt_in5 96 rfl rfl
theorem xw_1057 : Cond.methodLink "ContractDesk$Mismatch" 26 ⟨"ContractDesk$Path", "appendTo", "(Ljava/lang/StringBuilder;)V"⟩ ∈ xt_W := xt_in5 97 rfl rfl
theorem xw_1058 : Cond.instanceMethod ⟨"ContractDesk$Path", "appendTo", "(Ljava/lang/StringBuilder;)V"⟩ ∈ xt_W := xt_in5 98 rfl rfl
theorem xw_1059 : Cond.selects "ContractDesk$Path" ⟨"ContractDesk$Path", "appendTo", "(Ljava/lang/StringBuilder;)V"⟩ ⟨"ContractDesk$Path", "appendTo", "(Ljava/lang/StringBuilder;)V"⟩ ∈ xt_W := xt_in5 99 rfl rfl
theorem xw_1060 : Cond.code ⟨"ContractDesk$Path", "appendTo", "(Ljava/lang/StringBuilder;)V"⟩ prog_8_method_15_code 3 none ∈ xt_W := xt_in5 100 rfl rfl
theorem xw_1061 : Cond.methodLink "ContractDesk$Path" 71 ⟨"java/lang/StringBuilder", "append", "(C)Ljava/lang/StringBuilder;"⟩ ∈ xt_W := xt_in5 101 rfl rfl
theorem xw_1062 : Cond.methodLink "ContractDesk$Path" 77 ⟨"java/lang/StringBuilder", "append", "(I)Ljava/lang/StringBuilder;"⟩ ∈ xt_W := xt_in5 102 rfl rfl
theorem xw_1063 : Cond.instanceMethod ⟨"java/lang/StringBuilder", "append", "(I)Ljava/lang/StringBuilder;"⟩ ∈ xt_W := xt_in5 103 rfl rfl
theorem xw_1064 : Cond.selects "java/lang/StringBuilder" ⟨"java/lang/StringBuilder", "append", "(I)Ljava/lang/StringBuilder;"⟩ ⟨"java/lang/StringBuilder", "append", "(I)Ljava/lang/StringBuilder;"⟩ ∈ xt_W := xt_in5 104 rfl rfl
theorem xw_1065 : Cond.code ⟨"java/lang/StringBuilder", "append", "(I)Ljava/lang/StringBuilder;"⟩ prog_26_method_15_code 2 (some (.object "java/lang/StringBuilder")) ∈ xt_W := xt_in5 105 rfl rfl
theorem xw_1066 : Cond.methodLink "java/lang/StringBuilder" 53 ⟨"java/lang/AbstractStringBuilder", "append", "(I)Ljava/lang/AbstractStringBuilder;"⟩ ∈ xt_W := xt_in5 106 rfl rfl
theorem xw_1067 : Cond.instanceMethod ⟨"java/lang/AbstractStringBuilder", "append", "(I)Ljava/lang/AbstractStringBuilder;"⟩ ∈ xt_W := xt_in5 107 rfl rfl
theorem xw_1068 : Cond.code ⟨"java/lang/AbstractStringBuilder", "append", "(I)Ljava/lang/AbstractStringBuilder;"⟩ prog_15_method_32_code 4 (some (.object "java/lang/AbstractStringBuilder")) ∈ xt_W := xt_in5 108 rfl rfl
theorem xw_1069 : Cond.methodLink "java/lang/AbstractStringBuilder" 245 ⟨"java/lang/Integer", "stringSize", "(I)I"⟩ ∈ xt_W := xt_in5 109 rfl rfl
theorem xw_1070 : Cond.static ⟨"java/lang/Integer", "stringSize", "(I)I"⟩ ∈ xt_W := xt_in5 110 rfl rfl
theorem xw_1071 : Cond.code ⟨"java/lang/Integer", "stringSize", "(I)I"⟩ prog_21_method_13_code 4 (some (.int)) ∈ xt_W := xt_in5 111 rfl rfl
theorem xw_1072 : Cond.methodLink "java/lang/AbstractStringBuilder" 248 ⟨"java/lang/Integer", "getChars", "(II[B)I"⟩ ∈ xt_W := xt_in5 112 rfl rfl
theorem xw_1073 : Cond.static ⟨"java/lang/Integer", "getChars", "(II[B)I"⟩ ∈ xt_W := xt_in5 113 rfl rfl
theorem xw_1074 : Cond.code ⟨"java/lang/Integer", "getChars", "(II[B)I"⟩ prog_21_method_12_code 7 (some (.int)) ∈ xt_W := xt_in5 114 rfl rfl
theorem xw_1075 : Cond.fieldLink "java/lang/Integer" 83 "java/lang/Integer" "DigitOnes" "[B" ∈ xt_W := xt_in5 115 rfl rfl
theorem xw_1077 : Cond.fieldLink "java/lang/Integer" 87 "java/lang/Integer" "DigitTens" "[B" ∈ xt_W := xt_in5 117 rfl rfl
theorem xw_1079 : Cond.methodLink "java/lang/AbstractStringBuilder" 251 ⟨"java/lang/StringUTF16", "getChars", "(III[B)I"⟩ ∈ xt_W := xt_in5 119 rfl rfl
theorem xw_1080 : Cond.static ⟨"java/lang/StringUTF16", "getChars", "(III[B)I"⟩ ∈ xt_W := xt_in5 120 rfl rfl
theorem xw_1081 : Cond.code ⟨"java/lang/StringUTF16", "getChars", "(III[B)I"⟩ prog_28_method_77_code 5 (some (.int)) ∈ xt_W := xt_in5 121 rfl rfl
theorem xw_1082 : Cond.methodLink "java/lang/StringUTF16" 96 ⟨"java/lang/StringUTF16", "checkBoundsBeginEnd", "(II[B)V"⟩ ∈ xt_W := xt_in5 122 rfl rfl
theorem xw_1083 : Cond.static ⟨"java/lang/StringUTF16", "checkBoundsBeginEnd", "(II[B)V"⟩ ∈ xt_W := xt_in5 123 rfl rfl
theorem xw_1084 : Cond.code ⟨"java/lang/StringUTF16", "checkBoundsBeginEnd", "(II[B)V"⟩ prog_28_method_93_code 3 none ∈ xt_W := xt_in5 124 rfl rfl
theorem xw_1085 : Cond.methodLink "java/lang/StringUTF16" 241 ⟨"java/lang/String", "checkBoundsBeginEnd", "(III)V"⟩ ∈ xt_W := xt_in5 125 rfl rfl
theorem xw_1086 : Cond.methodLink "java/lang/StringUTF16" 393 ⟨"java/lang/StringUTF16", "getChars", "(II[B)I"⟩ ∈ xt_W := xt_in5 126 rfl rfl
theorem xw_1087 : Cond.static ⟨"java/lang/StringUTF16", "getChars", "(II[B)I"⟩ ∈ xt_W := xt_in5 127 rfl rfl
theorem xw_1088 : Cond.code ⟨"java/lang/StringUTF16", "getChars", "(II[B)I"⟩ prog_28_method_89_code 7 (some (.int)) ∈ xt_W := xt_in5 128 rfl rfl
theorem xw_1089 : Cond.fieldLink "java/lang/StringUTF16" 403 "java/lang/Integer" "DigitOnes" "[B" ∈ xt_W := xt_in5 129 rfl rfl
theorem xw_1090 : Cond.fieldLink "java/lang/StringUTF16" 407 "java/lang/Integer" "DigitTens" "[B" ∈ xt_W := xt_in5 130 rfl rfl
theorem xw_1091 : Cond.methodLink "ContractDesk$Comparison" 73 ⟨"ContractDesk$Rule", "holds", "(LContractDesk$Value;LContractDesk$Value;)Z"⟩ ∈ xt_W := xt_in5 131 rfl rfl
theorem xw_1092 : Cond.instanceMethod ⟨"ContractDesk$Rule", "holds", "(LContractDesk$Value;LContractDesk$Value;)Z"⟩ ∈ xt_W := xt_in5 132 rfl rfl
theorem xw_1093 : Cond.selects "ContractDesk$Rule" ⟨"ContractDesk$Rule", "holds", "(LContractDesk$Value;LContractDesk$Value;)Z"⟩ ⟨"ContractDesk$Rule", "holds", "(LContractDesk$Value;LContractDesk$Value;)Z"⟩ ∈ xt_W := xt_in5 133 rfl rfl
theorem xw_1094 : Cond.code ⟨"ContractDesk$Rule", "holds", "(LContractDesk$Value;LContractDesk$Value;)Z"⟩ prog_9_method_7_code 4 (some (.boolean)) ∈ xt_W := xt_in5 134 rfl rfl
theorem xw_1095 : Cond.methodLink "ContractDesk$Rule" 80 ⟨"java/util/ArrayList", "size", "()I"⟩ ∈ xt_W := xt_in5 135 rfl rfl
theorem xw_1096 : Cond.methodLink "ContractDesk$Rule" 83 ⟨"java/util/ArrayList", "get", "(I)Ljava/lang/Object;"⟩ ∈ xt_W := xt_in5 136 rfl rfl
theorem xw_1097 : Cond.classLink "ContractDesk$Rule" 42 "ContractDesk$Matcher" ∈ xt_W := xt_in5 137 rfl rfl
theorem xw_1098 : Cond.methodLink "ContractDesk$Rule" 87 ⟨"ContractDesk$Matcher", "holds", "(LContractDesk$Value;LContractDesk$Value;)Z"⟩ ∈ xt_W := xt_in5 138 rfl rfl
theorem xw_1099 : Cond.instanceMethod ⟨"ContractDesk$Matcher", "holds", "(LContractDesk$Value;LContractDesk$Value;)Z"⟩ ∈ xt_W := xt_in5 139 rfl rfl
theorem xw_1100 : Cond.selects "ContractDesk$Matcher" ⟨"ContractDesk$Matcher", "holds", "(LContractDesk$Value;LContractDesk$Value;)Z"⟩ ⟨"ContractDesk$Matcher", "holds", "(LContractDesk$Value;LContractDesk$Value;)Z"⟩ ∈ xt_W := xt_in5 140 rfl rfl
theorem xw_1101 : Cond.code ⟨"ContractDesk$Matcher", "holds", "(LContractDesk$Value;LContractDesk$Value;)Z"⟩ prog_6_method_7_code 3 (some (.boolean)) ∈ xt_W := xt_in5 141 rfl rfl
theorem xw_1102 : Cond.methodLink "ContractDesk$Matcher" 64 ⟨"ContractDesk$Value", "kind", "()LContractDesk$Kind;"⟩ ∈ xt_W := xt_in5 142 rfl rfl
theorem xw_1103 : Cond.instanceMethod ⟨"ContractDesk$Value", "kind", "()LContractDesk$Kind;"⟩ ∈ xt_W := xt_in5 143 rfl rfl
theorem xw_1104 : Cond.selects "ContractDesk$Value" ⟨"ContractDesk$Value", "kind", "()LContractDesk$Kind;"⟩ ⟨"ContractDesk$Value", "kind", "()LContractDesk$Kind;"⟩ ∈ xt_W := xt_in5 144 rfl rfl
theorem xw_1105 : Cond.code ⟨"ContractDesk$Value", "kind", "()LContractDesk$Kind;"⟩ prog_11_method_11_code 1 (some (.object "ContractDesk$Kind")) ∈ xt_W := xt_in5 145 rfl rfl
theorem xw_1107 : Cond.fieldLink "ContractDesk$Matcher" 74 "ContractDesk$Kind" "NULL" "LContractDesk$Kind;" ∈ xt_W := xt_in5 147 rfl rfl
theorem xw_1108 : Cond.fieldLink "ContractDesk$Matcher" 80 "ContractDesk$Kind" "NUMBER" "LContractDesk$Kind;" ∈ xt_W := xt_in5 148 rfl rfl
theorem xw_1109 : Cond.fieldLink "ContractDesk$Matcher" 83 "ContractDesk$Kind" "ARRAY" "LContractDesk$Kind;" ∈ xt_W := xt_in5 149 rfl rfl
theorem xw_1110 : Cond.methodLink "ContractDesk$Matcher" 86 ⟨"ContractDesk$Value", "size", "()I"⟩ ∈ xt_W := xt_in5 150 rfl rfl
theorem xw_1111 : Cond.fieldLink "ContractDesk$Matcher" 89 "ContractDesk$Kind" "STRING" "LContractDesk$Kind;" ∈ xt_W := xt_in5 151 rfl rfl
theorem xw_1112 : Cond.methodLink "ContractDesk$Matcher" 92 ⟨"ContractDesk$Value", "letters", "()Ljava/lang/String;"⟩ ∈ xt_W := xt_in5 152 rfl rfl
theorem xw_1113 : Cond.instanceMethod ⟨"ContractDesk$Value", "letters", "()Ljava/lang/String;"⟩ ∈ xt_W := xt_in5 153 rfl rfl
theorem xw_1114 : Cond.selects "ContractDesk$Value" ⟨"ContractDesk$Value", "letters", "()Ljava/lang/String;"⟩ ⟨"ContractDesk$Value", "letters", "()Ljava/lang/String;"⟩ ∈ xt_W := xt_in5 154 rfl rfl
theorem xw_1115 : Cond.code ⟨"ContractDesk$Value", "letters", "()Ljava/lang/String;"⟩ prog_11_method_12_code 1 (some (.object "java/lang/String")) ∈ xt_W := xt_in5 155 rfl rfl
theorem xw_1116 : Cond.methodLink "ContractDesk$Matcher" 96 ⟨"ContractDesk$Matcher", "hasPart", "(Ljava/lang/String;)Z"⟩ ∈ xt_W := xt_in5 156 rfl rfl
theorem xw_1118 : Cond.instanceMethod ⟨"ContractDesk$Matcher", "hasPart", "(Ljava/lang/String;)Z"⟩ ∈ xt_W := xt_in5 158 rfl rfl
theorem xw_1119 : Cond.code ⟨"ContractDesk$Matcher", "hasPart", "(Ljava/lang/String;)Z"⟩ prog_6_method_8_code 3 (some (.boolean)) ∈ xt_W := xt_in5 159 rfl rfl
theorem xw_1120 : Cond.methodLink "ContractDesk$Matcher" 103 ⟨"java/lang/String", "length", "()I"⟩ ∈ xt_W := xt_in5 160 rfl rfl
theorem xw_1121 : Cond.methodLink "ContractDesk$Matcher" 108 ⟨"ContractDesk$Matcher", "partStandsAt", "(Ljava/lang/String;I)Z"⟩ ∈ xt_W := xt_in5 161 rfl rfl
theorem xw_1123 : Cond.instanceMethod ⟨"ContractDesk$Matcher", "partStandsAt", "(Ljava/lang/String;I)Z"⟩ ∈ xt_W := xt_in5 163 rfl rfl
theorem xw_1124 : Cond.code ⟨"ContractDesk$Matcher", "partStandsAt", "(Ljava/lang/String;I)Z"⟩ prog_6_method_9_code 4 (some (.boolean)) ∈ xt_W := xt_in5 164 rfl rfl
theorem xw_1125 : Cond.methodLink "ContractDesk$Matcher" 112 ⟨"java/lang/String", "charAt", "(I)C"⟩ ∈ xt_W := xt_in5 165 rfl rfl
theorem xw_1126 : Cond.methodLink "ContractDesk$Matcher" 100 ⟨"ContractDesk$Matcher", "isAsItemsSay", "(Ljava/lang/String;)Z"⟩ ∈ xt_W := xt_in5 166 rfl rfl
theorem xw_1128 : Cond.instanceMethod ⟨"ContractDesk$Matcher", "isAsItemsSay", "(Ljava/lang/String;)Z"⟩ ∈ xt_W := xt_in5 168 rfl rfl
theorem xw_1129 : Cond.code ⟨"ContractDesk$Matcher", "isAsItemsSay", "(Ljava/lang/String;)Z"⟩ prog_6_method_10_code 6 (some (.boolean)) ∈ xt_W := xt_in5 169 rfl rfl
theorem xw_1130 : Cond.methodLink "ContractDesk$Matcher" 116 ⟨"ContractDesk$Matcher", "endsBehind", "(CCLjava/lang/String;I)I"⟩ ∈ xt_W := xt_in5 170 rfl rfl
theorem xw_1131 : Cond.static ⟨"ContractDesk$Matcher", "endsBehind", "(CCLjava/lang/String;I)I"⟩ ∈ xt_W := xt_in5 171 rfl rfl
theorem xw_1132 : Cond.code ⟨"ContractDesk$Matcher", "endsBehind", "(CCLjava/lang/String;I)I"⟩ prog_6_method_11_code 8 (some (.int)) ∈ xt_W := xt_in5 172 rfl rfl
theorem xw_1133 : Cond.methodLink "ContractDesk$Matcher" 120 ⟨"ContractDesk$Matcher", "hasBit", "(II)Z"⟩ ∈ xt_W := xt_in5 173 rfl rfl
theorem xw_1134 : Cond.static ⟨"ContractDesk$Matcher", "hasBit", "(II)Z"⟩ ∈ xt_W := xt_in5 174 rfl rfl
theorem xw_1135 : Cond.code ⟨"ContractDesk$Matcher", "hasBit", "(II)Z"⟩ prog_6_method_12_code 2 (some (.boolean)) ∈ xt_W := xt_in5 175 rfl rfl
theorem xw_1136 : Cond.methodLink "ContractDesk$Comparison" 79 ⟨"ContractDesk$Value", "kind", "()LContractDesk$Kind;"⟩ ∈ xt_W := xt_in5 176 rfl rfl
theorem xw_1137 : Cond.fieldLink "ContractDesk$Comparison" 83 "ContractDesk$Kind" "ARRAY" "LContractDesk$Kind;" ∈ xt_W := xt_in5 177 rfl rfl
theorem xw_1138 : Cond.methodLink "ContractDesk$Comparison" 89 ⟨"ContractDesk$Rule", "isLoose", "()Z"⟩ ∈ xt_W := xt_in5 178 rfl rfl
theorem xw_1139 : Cond.instanceMethod ⟨"ContractDesk$Rule", "isLoose", "()Z"⟩ ∈ xt_W := xt_in5 179 rfl rfl
theorem xw_1140 : Cond.selects "ContractDesk$Rule" ⟨"ContractDesk$Rule", "isLoose", "()Z"⟩ ⟨"ContractDesk$Rule", "isLoose", "()Z"⟩ ∈ xt_W := xt_in5 180 rfl rfl
theorem xw_1141 : Cond.code ⟨"ContractDesk$Rule", "isLoose", "()Z"⟩ prog_9_method_6_code 1 (some (.boolean)) ∈ xt_W := xt_in5 181 rfl rfl
theorem xw_1142 : Cond.methodLink "ContractDesk$Comparison" 93 ⟨"ContractDesk$Comparison", "compareElements", "(LContractDesk$Value;LContractDesk$Value;ZI)V"⟩ ∈ xt_W := xt_in5 182 rfl rfl
theorem xw_1144 : Cond.instanceMethod ⟨"ContractDesk$Comparison", "compareElements", "(LContractDesk$Value;LContractDesk$Value;ZI)V"⟩ ∈ xt_W := xt_in5 184 rfl rfl
theorem xw_1145 : Cond.code ⟨"ContractDesk$Comparison", "compareElements", "(LContractDesk$Value;LContractDesk$Value;ZI)V"⟩ prog_2_method_7_code 9 none ∈ xt_W := xt_in5 185 rfl rfl
theorem xw_1146 : Cond.methodLink "ContractDesk$Comparison" 110 ⟨"ContractDesk$Value", "size", "()I"⟩ ∈ xt_W := xt_in5 186 rfl rfl
theorem xw_1147 : Cond.methodLink "ContractDesk$Comparison" 113 ⟨"ContractDesk$Value", "part", "(I)LContractDesk$Value;"⟩ ∈ xt_W := xt_in5 187 rfl rfl
theorem xw_1148 : Cond.methodLink "ContractDesk$Comparison" 117 ⟨"ContractDesk$Path", "enter", "(I)V"⟩ ∈ xt_W := xt_in5 188 rfl rfl
theorem xw_1149 : Cond.methodLink "ContractDesk$Comparison" 120 ⟨"ContractDesk$Path", "leave", "()V"⟩ ∈ xt_W := xt_in5 189 rfl rfl
theorem xw_1150 : Cond.instanceMethod ⟨"ContractDesk$Path", "leave", "()V"⟩ ∈ xt_W := xt_in5 190 rfl rfl
theorem xw_1151 : Cond.selects "ContractDesk$Path" ⟨"ContractDesk$Path", "leave", "()V"⟩ ⟨"ContractDesk$Path", "leave", "()V"⟩ ∈ xt_W := xt_in5 191 rfl rfl
theorem xw_1152 : Cond.code ⟨"ContractDesk$Path", "leave", "()V"⟩ prog_8_method_9_code 1 none ∈ xt_W := xt_in5 192 rfl rfl
theorem xw_1153 : Cond.fieldLink "ContractDesk$Comparison" 97 "ContractDesk$Kind" "OBJECT" "LContractDesk$Kind;" ∈ xt_W := xt_in5 193 rfl rfl
theorem xw_1154 : Cond.methodLink "ContractDesk$Comparison" 100 ⟨"ContractDesk$Comparison", "compareMembers", "(LContractDesk$Value;LContractDesk$Value;I)V"⟩ ∈ xt_W := xt_in5 194 rfl rfl
theorem xw_1156 : Cond.instanceMethod ⟨"ContractDesk$Comparison", "compareMembers", "(LContractDesk$Value;LContractDesk$Value;I)V"⟩ ∈ xt_W := xt_in5 196 rfl rfl
theorem xw_1157 : Cond.code ⟨"ContractDesk$Comparison", "compareMembers", "(LContractDesk$Value;LContractDesk$Value;I)V"⟩ prog_2_method_8_code 7 none ∈ xt_W := xt_in5 197 rfl rfl
theorem xw_1158 : Cond.methodLink "ContractDesk$Comparison" 123 ⟨"ContractDesk$Value", "key", "()C"⟩ ∈ xt_W := xt_in5 198 rfl rfl
theorem xw_1159 : Cond.instanceMethod ⟨"ContractDesk$Value", "key", "()C"⟩ ∈ xt_W := xt_in5 199 rfl rfl
theorem xw_1160 : Cond.selects "ContractDesk$Value" ⟨"ContractDesk$Value", "key", "()C"⟩ ⟨"ContractDesk$Value", "key", "()C"⟩ ∈ xt_W := xt_in5 200 rfl rfl
theorem xw_1161 : Cond.code ⟨"ContractDesk$Value", "key", "()C"⟩ prog_11_method_13_code 1 (some (.char)) ∈ xt_W := xt_in5 201 rfl rfl
theorem xw_1162 : Cond.methodLink "ContractDesk$Comparison" 127 ⟨"ContractDesk$Path", "keyStep", "(C)I"⟩ ∈ xt_W := xt_in5 202 rfl rfl
theorem xw_1163 : Cond.methodLink "ContractDesk$Comparison" 131 ⟨"ContractDesk$Value", "member", "(C)LContractDesk$Value;"⟩ ∈ xt_W := xt_in5 203 rfl rfl
theorem xw_1164 : Cond.methodLink "ContractDesk$Comparison" 103 ⟨"ContractDesk$Interaction", "isStrict", "()Z"⟩ ∈ xt_W := xt_in5 204 rfl rfl
theorem xw_1165 : Cond.instanceMethod ⟨"ContractDesk$Interaction", "isStrict", "()Z"⟩ ∈ xt_W := xt_in5 205 rfl rfl
theorem xw_1166 : Cond.selects "ContractDesk$Interaction" ⟨"ContractDesk$Interaction", "isStrict", "()Z"⟩ ⟨"ContractDesk$Interaction", "isStrict", "()Z"⟩ ∈ xt_W := xt_in5 206 rfl rfl
theorem xw_1167 : Cond.code ⟨"ContractDesk$Interaction", "isStrict", "()Z"⟩ prog_4_method_2_code 1 (some (.boolean)) ∈ xt_W := xt_in5 207 rfl rfl
theorem xw_1168 : Cond.methodLink "ContractDesk$Comparison" 106 ⟨"ContractDesk$Comparison", "noteUnexpected", "(LContractDesk$Value;LContractDesk$Value;)V"⟩ ∈ xt_W := xt_in5 208 rfl rfl
theorem xw_1170 : Cond.instanceMethod ⟨"ContractDesk$Comparison", "noteUnexpected", "(LContractDesk$Value;LContractDesk$Value;)V"⟩ ∈ xt_W := xt_in5 210 rfl rfl
theorem xw_1171 : Cond.code ⟨"ContractDesk$Comparison", "noteUnexpected", "(LContractDesk$Value;LContractDesk$Value;)V"⟩ prog_2_method_9_code 5 none ∈ xt_W := xt_in5 211 rfl rfl
theorem xw_1172 : Cond.classLink "ContractDeskLaw" 28 "ContractDeskModel" ∈ xt_W := xt_in5 212 rfl rfl
theorem xw_1173 : Cond.instantiable "ContractDeskModel" 35 ∈ xt_W := xt_in5 213 rfl rfl
theorem xw_1174 : Cond.methodLink "ContractDeskLaw" 30 ⟨"ContractDeskModel", "<init>", "()V"⟩ ∈ xt_W := xt_in5 214 rfl rfl
theorem xw_1175 : Cond.instanceMethod ⟨"ContractDeskModel", "<init>", "()V"⟩ ∈ xt_W := xt_in5 215 rfl rfl
theorem xw_1176 : Cond.code ⟨"ContractDeskModel", "<init>", "()V"⟩ prog_13_method_1_code 1 none ∈ xt_W := xt_in5 216 rfl rfl
theorem xw_1177 : Cond.methodLink "ContractDeskModel" 1 ⟨"java/lang/Object", "<init>", "()V"⟩ ∈ xt_W := xt_in5 217 rfl rfl
theorem xw_1178 : Cond.fieldLink "ContractDeskModel" 93 "ContractDeskModel" "thrown" "I" ∈ xt_W := xt_in5 218 rfl rfl
theorem xw_1179 : Cond.fieldLink "ContractDeskModel" 7 "ContractDeskModel" "all" "[C" ∈ xt_W := xt_in5 219 rfl rfl
theorem xw_1180 : Cond.fieldLink "ContractDeskModel" 97 "ContractDeskModel" "typed" "I" ∈ xt_W := xt_in5 220 rfl rfl
theorem xw_1181 : Cond.fieldLink "ContractDeskModel" 100 "ContractDeskModel" "made" "I" ∈ xt_W := xt_in5 221 rfl rfl
theorem xw_1182 : Cond.fieldLink "ContractDeskModel" 13 "ContractDeskModel" "strict" "[Z" ∈ xt_W := xt_in5 222 rfl rfl
theorem xw_1183 : Cond.fieldLink "ContractDeskModel" 17 "ContractDeskModel" "bodyLength" "[I" ∈ xt_W := xt_in5 223 rfl rfl
theorem xw_1184 : Cond.fieldLink "ContractDeskModel" 21 "ContractDeskModel" "rules" "[I" ∈ xt_W := xt_in5 224 rfl rfl
theorem xw_1185 : Cond.fieldLink "ContractDeskModel" 24 "ContractDeskModel" "ruleLength" "[I" ∈ xt_W := xt_in5 225 rfl rfl
theorem xw_1186 : Cond.fieldLink "ContractDeskModel" 27 "ContractDeskModel" "needCount" "[I" ∈ xt_W := xt_in5 226 rfl rfl
theorem xw_1187 : Cond.fieldLink "ContractDeskModel" 30 "ContractDeskModel" "need" "[I" ∈ xt_W := xt_in5 227 rfl rfl
theorem xw_1188 : Cond.fieldLink "ContractDeskModel" 33 "ContractDeskModel" "handlers" "[I" ∈ xt_W := xt_in5 228 rfl rfl
theorem xw_1189 : Cond.fieldLink "ContractDeskModel" 253 "ContractDeskModel" "events" "I" ∈ xt_W := xt_in5 229 rfl rfl
theorem xw_1190 : Cond.fieldLink "ContractDeskModel" 36 "ContractDeskModel" "eventRow" "[I" ∈ xt_W := xt_in5 230 rfl rfl
theorem xw_1191 : Cond.fieldLink "ContractDeskModel" 215 "ContractDeskModel" "listed" "I" ∈ xt_W := xt_in5 231 rfl rfl
theorem xw_1192 : Cond.fieldLink "ContractDeskModel" 39 "ContractDeskModel" "kinds" "[I" ∈ xt_W := xt_in5 232 rfl rfl
theorem xw_1193 : Cond.fieldLink "ContractDeskModel" 42 "ContractDeskModel" "letters" "[I" ∈ xt_W := xt_in5 233 rfl rfl
theorem xw_1194 : Cond.fieldLink "ContractDeskModel" 45 "ContractDeskModel" "places" "[C" ∈ xt_W := xt_in5 234 rfl rfl
theorem xw_1195 : Cond.fieldLink "ContractDeskModel" 48 "ContractDeskModel" "open" "[C" ∈ xt_W := xt_in5 235 rfl rfl
theorem xw_1196 : Cond.fieldLink "ContractDeskModel" 51 "ContractDeskModel" "keys" "[I" ∈ xt_W := xt_in5 236 rfl rfl
theorem xw_1197 : Cond.fieldLink "ContractDeskModel" 212 "ContractDeskModel" "spots" "I" ∈ xt_W := xt_in5 237 rfl rfl
theorem xw_1198 : Cond.fieldLink "ContractDeskModel" 54 "ContractDeskModel" "around" "[I" ∈ xt_W := xt_in5 238 rfl rfl
theorem xw_1199 : Cond.fieldLink "ContractDeskModel" 57 "ContractDeskModel" "step" "[I" ∈ xt_W := xt_in5 239 rfl rfl
theorem xw_1200 : Cond.fieldLink "ContractDeskModel" 209 "ContractDeskModel" "pile" "I" ∈ xt_W := xt_in6 0 rfl rfl
theorem xw_1201 : Cond.fieldLink "ContractDeskModel" 60 "ContractDeskModel" "job" "[I" ∈ xt_W := xt_in6 1 rfl rfl
theorem xw_1202 : Cond.fieldLink "ContractDeskModel" 63 "ContractDeskModel" "left" "[I" ∈ xt_W := xt_in6 2 rfl rfl
theorem xw_1203 : Cond.fieldLink "ContractDeskModel" 66 "ContractDeskModel" "right" "[I" ∈ xt_W := xt_in6 3 rfl rfl
theorem xw_1204 : Cond.fieldLink "ContractDeskModel" 69 "ContractDeskModel" "spot" "[I" ∈ xt_W := xt_in6 4 rfl rfl
theorem xw_1205 : Cond.fieldLink "ContractDeskModel" 180 "ContractDeskModel" "steps" "I" ∈ xt_W := xt_in6 5 rfl rfl
theorem xw_1206 : Cond.fieldLink "ContractDeskModel" 72 "ContractDeskModel" "stepRow" "[I" ∈ xt_W := xt_in6 6 rfl rfl
theorem xw_1207 : Cond.fieldLink "ContractDeskModel" 75 "ContractDeskModel" "here" "[Z" ∈ xt_W := xt_in6 7 rfl rfl
theorem xw_1208 : Cond.fieldLink "ContractDeskModel" 78 "ContractDeskModel" "there" "[Z" ∈ xt_W := xt_in6 8 rfl rfl
theorem xw_1209 : Cond.fieldLink "ContractDeskModel" 81 "ContractDeskModel" "items" "[C" ∈ xt_W := xt_in6 9 rfl rfl
theorem xw_1210 : Cond.fieldLink "ContractDeskModel" 84 "ContractDeskModel" "often" "[C" ∈ xt_W := xt_in6 10 rfl rfl
theorem xw_1211 : Cond.fieldLink "ContractDeskModel" 87 "ContractDeskModel" "one" "[I" ∈ xt_W := xt_in6 11 rfl rfl
theorem xw_1212 : Cond.fieldLink "ContractDeskModel" 90 "ContractDeskModel" "other" "[I" ∈ xt_W := xt_in6 12 rfl rfl
theorem xw_1213 : Cond.lays "ContractDeskModel" "ContractDeskModel" "thrown" "I" ∈ xt_W := xt_in6 13 rfl rfl
theorem xw_1215 : Cond.laysFinal "ContractDeskModel" "ContractDeskModel" "all" "[C" ∈ xt_W := xt_in6 15 rfl rfl
theorem xw_1217 : Cond.lays "ContractDeskModel" "ContractDeskModel" "typed" "I" ∈ xt_W := xt_in6 17 rfl rfl
theorem xw_1219 : Cond.lays "ContractDeskModel" "ContractDeskModel" "made" "I" ∈ xt_W := xt_in6 19 rfl rfl
theorem xw_1221 : Cond.laysFinal "ContractDeskModel" "ContractDeskModel" "strict" "[Z" ∈ xt_W := xt_in6 21 rfl rfl
theorem xw_1223 : Cond.laysFinal "ContractDeskModel" "ContractDeskModel" "bodyLength" "[I" ∈ xt_W := xt_in6 23 rfl rfl
theorem xw_1225 : Cond.laysFinal "ContractDeskModel" "ContractDeskModel" "rules" "[I" ∈ xt_W := xt_in6 25 rfl rfl
theorem xw_1227 : Cond.laysFinal "ContractDeskModel" "ContractDeskModel" "ruleLength" "[I" ∈ xt_W := xt_in6 27 rfl rfl
theorem xw_1229 : Cond.laysFinal "ContractDeskModel" "ContractDeskModel" "needCount" "[I" ∈ xt_W := xt_in6 29 rfl rfl
theorem xw_1231 : Cond.laysFinal "ContractDeskModel" "ContractDeskModel" "need" "[I" ∈ xt_W := xt_in6 31 rfl rfl
theorem xw_1233 : Cond.laysFinal "ContractDeskModel" "ContractDeskModel" "handlers" "[I" ∈ xt_W := xt_in6 33 rfl rfl
theorem xw_1235 : Cond.lays "ContractDeskModel" "ContractDeskModel" "events" "I" ∈ xt_W := xt_in6 35 rfl rfl
theorem xw_1237 : Cond.laysFinal "ContractDeskModel" "ContractDeskModel" "eventRow" "[I" ∈ xt_W := xt_in6 37 rfl rfl
theorem xw_1239 : Cond.lays "ContractDeskModel" "ContractDeskModel" "listed" "I" ∈ xt_W := xt_in6 39 rfl rfl
theorem xw_1241 : Cond.laysFinal "ContractDeskModel" "ContractDeskModel" "kinds" "[I" ∈ xt_W := xt_in6 41 rfl rfl
theorem xw_1243 : Cond.laysFinal "ContractDeskModel" "ContractDeskModel" "letters" "[I" ∈ xt_W := xt_in6 43 rfl rfl
theorem xw_1245 : Cond.laysFinal "ContractDeskModel" "ContractDeskModel" "places" "[C" ∈ xt_W := xt_in6 45 rfl rfl
theorem xw_1247 : Cond.laysFinal "ContractDeskModel" "ContractDeskModel" "open" "[C" ∈ xt_W := xt_in6 47 rfl rfl
theorem xw_1249 : Cond.laysFinal "ContractDeskModel" "ContractDeskModel" "keys" "[I" ∈ xt_W := xt_in6 49 rfl rfl
theorem xw_1251 : Cond.lays "ContractDeskModel" "ContractDeskModel" "spots" "I" ∈ xt_W := xt_in6 51 rfl rfl
theorem xw_1253 : Cond.laysFinal "ContractDeskModel" "ContractDeskModel" "around" "[I" ∈ xt_W := xt_in6 53 rfl rfl
theorem xw_1255 : Cond.laysFinal "ContractDeskModel" "ContractDeskModel" "step" "[I" ∈ xt_W := xt_in6 55 rfl rfl
theorem xw_1257 : Cond.lays "ContractDeskModel" "ContractDeskModel" "pile" "I" ∈ xt_W := xt_in6 57 rfl rfl
theorem xw_1259 : Cond.laysFinal "ContractDeskModel" "ContractDeskModel" "job" "[I" ∈ xt_W := xt_in6 59 rfl rfl
theorem xw_1261 : Cond.laysFinal "ContractDeskModel" "ContractDeskModel" "left" "[I" ∈ xt_W := xt_in6 61 rfl rfl
theorem xw_1263 : Cond.laysFinal "ContractDeskModel" "ContractDeskModel" "right" "[I" ∈ xt_W := xt_in6 63 rfl rfl
theorem xw_1265 : Cond.laysFinal "ContractDeskModel" "ContractDeskModel" "spot" "[I" ∈ xt_W := xt_in6 65 rfl rfl
theorem xw_1267 : Cond.lays "ContractDeskModel" "ContractDeskModel" "steps" "I" ∈ xt_W := xt_in6 67 rfl rfl
theorem xw_1269 : Cond.laysFinal "ContractDeskModel" "ContractDeskModel" "stepRow" "[I" ∈ xt_W := xt_in6 69 rfl rfl
theorem xw_1271 : Cond.laysFinal "ContractDeskModel" "ContractDeskModel" "here" "[Z" ∈ xt_W := xt_in6 71 rfl rfl
theorem xw_1273 : Cond.laysFinal "ContractDeskModel" "ContractDeskModel" "there" "[Z" ∈ xt_W := xt_in6 73 rfl rfl
theorem xw_1275 : Cond.laysFinal "ContractDeskModel" "ContractDeskModel" "items" "[C" ∈ xt_W := xt_in6 75 rfl rfl
theorem xw_1277 : Cond.laysFinal "ContractDeskModel" "ContractDeskModel" "often" "[C" ∈ xt_W := xt_in6 77 rfl rfl
theorem xw_1279 : Cond.laysFinal "ContractDeskModel" "ContractDeskModel" "one" "[I" ∈ xt_W := xt_in6 79 rfl rfl
theorem xw_1281 : Cond.laysFinal "ContractDeskModel" "ContractDeskModel" "other" "[I" ∈ xt_W := xt_in6 81 rfl rfl
theorem xw_1284 : Cond.arrayClass .char ∈ xt_W := xt_in6 84 rfl rfl
theorem xw_1285 : Cond.arrayClass .boolean ∈ xt_W := xt_in6 85 rfl rfl
theorem xw_1286 : Cond.methodLink "ContractDeskLaw" 44 ⟨"ContractDeskModel", "thrown", "()I"⟩ ∈ xt_W := xt_in6 86 rfl rfl
theorem xw_1287 : Cond.instanceMethod ⟨"ContractDeskModel", "thrown", "()I"⟩ ∈ xt_W := xt_in6 87 rfl rfl
theorem xw_1288 : Cond.selects "ContractDeskModel" ⟨"ContractDeskModel", "thrown", "()I"⟩ ⟨"ContractDeskModel", "thrown", "()I"⟩ ∈ xt_W := xt_in6 88 rfl rfl
theorem xw_1289 : Cond.code ⟨"ContractDeskModel", "thrown", "()I"⟩ prog_13_method_2_code 1 (some (.int)) ∈ xt_W := xt_in6 89 rfl rfl
theorem xw_1290 : Cond.methodLink "ContractDeskLaw" 37 ⟨"ContractDeskModel", "write", "(J)Z"⟩ ∈ xt_W := xt_in6 90 rfl rfl
theorem xw_1291 : Cond.instanceMethod ⟨"ContractDeskModel", "write", "(J)Z"⟩ ∈ xt_W := xt_in6 91 rfl rfl
theorem xw_1292 : Cond.selects "ContractDeskModel" ⟨"ContractDeskModel", "write", "(J)Z"⟩ ⟨"ContractDeskModel", "write", "(J)Z"⟩ ∈ xt_W := xt_in6 92 rfl rfl
theorem xw_1293 : Cond.code ⟨"ContractDeskModel", "write", "(J)Z"⟩ prog_13_method_3_code 6 (some (.boolean)) ∈ xt_W := xt_in6 93 rfl rfl
theorem xw_1294 : Cond.methodLink "ContractDeskLaw" 43 ⟨"ContractDeskModel", "make", "(Z)I"⟩ ∈ xt_W := xt_in6 94 rfl rfl
theorem xw_1295 : Cond.instanceMethod ⟨"ContractDeskModel", "make", "(Z)I"⟩ ∈ xt_W := xt_in6 95 rfl rfl
theorem xw_1296 : Cond.selects "ContractDeskModel" ⟨"ContractDeskModel", "make", "(Z)I"⟩ ⟨"ContractDeskModel", "make", "(Z)I"⟩ ∈ xt_W := xt_in6 96 rfl rfl
theorem xw_1297 : Cond.code ⟨"ContractDeskModel", "make", "(Z)I"⟩ prog_13_method_19_code 2 (some (.int)) ∈ xt_W := xt_in6 97 rfl rfl
theorem xw_1298 : Cond.methodLink "ContractDeskLaw" 51 ⟨"ContractDeskModel", "body", "(I)I"⟩ ∈ xt_W := xt_in6 98 rfl rfl
theorem xw_1299 : Cond.instanceMethod ⟨"ContractDeskModel", "body", "(I)I"⟩ ∈ xt_W := xt_in6 99 rfl rfl
theorem xw_1300 : Cond.selects "ContractDeskModel" ⟨"ContractDeskModel", "body", "(I)I"⟩ ⟨"ContractDeskModel", "body", "(I)I"⟩ ∈ xt_W := xt_in6 100 rfl rfl
theorem xw_1301 : Cond.code ⟨"ContractDeskModel", "body", "(I)I"⟩ prog_13_method_22_code 5 (some (.int)) ∈ xt_W := xt_in6 101 rfl rfl
theorem xw_1302 : Cond.methodLink "ContractDeskModel" 146 ⟨"ContractDeskModel", "values", "()I"⟩ ∈ xt_W := xt_in6 102 rfl rfl
theorem xw_1304 : Cond.instanceMethod ⟨"ContractDeskModel", "values", "()I"⟩ ∈ xt_W := xt_in6 104 rfl rfl
theorem xw_1305 : Cond.code ⟨"ContractDeskModel", "values", "()I"⟩ prog_13_method_10_code 8 (some (.int)) ∈ xt_W := xt_in6 105 rfl rfl
theorem xw_1306 : Cond.methodLink "ContractDeskModel" 103 ⟨"ContractDeskModel", "at", "(I)C"⟩ ∈ xt_W := xt_in6 106 rfl rfl
theorem xw_1308 : Cond.instanceMethod ⟨"ContractDeskModel", "at", "(I)C"⟩ ∈ xt_W := xt_in6 108 rfl rfl
theorem xw_1309 : Cond.code ⟨"ContractDeskModel", "at", "(I)C"⟩ prog_13_method_7_code 2 (some (.char)) ∈ xt_W := xt_in6 109 rfl rfl
theorem xw_1310 : Cond.methodLink "ContractDeskModel" 111 ⟨"ContractDeskModel", "isLetter", "(C)Z"⟩ ∈ xt_W := xt_in6 110 rfl rfl
theorem xw_1311 : Cond.static ⟨"ContractDeskModel", "isLetter", "(C)Z"⟩ ∈ xt_W := xt_in6 111 rfl rfl
theorem xw_1312 : Cond.code ⟨"ContractDeskModel", "isLetter", "(C)Z"⟩ prog_13_method_5_code 1 (some (.boolean)) ∈ xt_W := xt_in6 112 rfl rfl
theorem xw_1313 : Cond.methodLink "ContractDeskModel" 118 ⟨"ContractDeskModel", "plainEnd", "(I)I"⟩ ∈ xt_W := xt_in6 113 rfl rfl
theorem xw_1315 : Cond.instanceMethod ⟨"ContractDeskModel", "plainEnd", "(I)I"⟩ ∈ xt_W := xt_in6 115 rfl rfl
theorem xw_1316 : Cond.code ⟨"ContractDeskModel", "plainEnd", "(I)I"⟩ prog_13_method_9_code 4 (some (.int)) ∈ xt_W := xt_in6 116 rfl rfl
theorem xw_1317 : Cond.methodLink "ContractDeskModel" 107 ⟨"ContractDeskModel", "word", "(ICCCC)Z"⟩ ∈ xt_W := xt_in6 117 rfl rfl
theorem xw_1319 : Cond.instanceMethod ⟨"ContractDeskModel", "word", "(ICCCC)Z"⟩ ∈ xt_W := xt_in6 119 rfl rfl
theorem xw_1320 : Cond.code ⟨"ContractDeskModel", "word", "(ICCCC)Z"⟩ prog_13_method_8_code 6 (some (.boolean)) ∈ xt_W := xt_in6 120 rfl rfl
theorem xw_1321 : Cond.methodLink "ContractDeskModel" 115 ⟨"ContractDeskModel", "digit", "(C)Z"⟩ ∈ xt_W := xt_in6 121 rfl rfl
theorem xw_1322 : Cond.static ⟨"ContractDeskModel", "digit", "(C)Z"⟩ ∈ xt_W := xt_in6 122 rfl rfl
theorem xw_1323 : Cond.code ⟨"ContractDeskModel", "digit", "(C)Z"⟩ prog_13_method_6_code 1 (some (.boolean)) ∈ xt_W := xt_in6 123 rfl rfl
theorem xw_1324 : Cond.methodLink "ContractDeskModel" 150 ⟨"ContractDeskModel", "close", "()V"⟩ ∈ xt_W := xt_in6 124 rfl rfl
theorem xw_1326 : Cond.instanceMethod ⟨"ContractDeskModel", "close", "()V"⟩ ∈ xt_W := xt_in6 126 rfl rfl
theorem xw_1327 : Cond.code ⟨"ContractDeskModel", "close", "()V"⟩ prog_13_method_20_code 1 none ∈ xt_W := xt_in6 127 rfl rfl
theorem xw_1328 : Cond.methodLink "ContractDeskModel" 153 ⟨"ContractDeskModel", "isInteraction", "(I)Z"⟩ ∈ xt_W := xt_in6 128 rfl rfl
theorem xw_1330 : Cond.instanceMethod ⟨"ContractDeskModel", "isInteraction", "(I)Z"⟩ ∈ xt_W := xt_in6 130 rfl rfl
theorem xw_1331 : Cond.code ⟨"ContractDeskModel", "isInteraction", "(I)Z"⟩ prog_13_method_4_code 2 (some (.boolean)) ∈ xt_W := xt_in6 131 rfl rfl
theorem xw_1332 : Cond.methodLink "ContractDeskModel" 157 ⟨"ContractDeskModel", "equal", "(II)Z"⟩ ∈ xt_W := xt_in6 132 rfl rfl
theorem xw_1334 : Cond.instanceMethod ⟨"ContractDeskModel", "equal", "(II)Z"⟩ ∈ xt_W := xt_in6 134 rfl rfl
theorem xw_1335 : Cond.code ⟨"ContractDeskModel", "equal", "(II)Z"⟩ prog_13_method_18_code 10 (some (.boolean)) ∈ xt_W := xt_in6 135 rfl rfl
theorem xw_1336 : Cond.methodLink "ContractDeskModel" 125 ⟨"ContractDeskModel", "kind", "(I)I"⟩ ∈ xt_W := xt_in6 136 rfl rfl
theorem xw_1338 : Cond.instanceMethod ⟨"ContractDeskModel", "kind", "(I)I"⟩ ∈ xt_W := xt_in6 138 rfl rfl
theorem xw_1339 : Cond.code ⟨"ContractDeskModel", "kind", "(I)I"⟩ prog_13_method_11_code 3 (some (.int)) ∈ xt_W := xt_in6 139 rfl rfl
theorem xw_1340 : Cond.methodLink "ContractDeskModel" 138 ⟨"ContractDeskModel", "sameText", "(II)Z"⟩ ∈ xt_W := xt_in6 140 rfl rfl
theorem xw_1342 : Cond.instanceMethod ⟨"ContractDeskModel", "sameText", "(II)Z"⟩ ∈ xt_W := xt_in6 142 rfl rfl
theorem xw_1343 : Cond.code ⟨"ContractDeskModel", "sameText", "(II)Z"⟩ prog_13_method_17_code 6 (some (.boolean)) ∈ xt_W := xt_in6 143 rfl rfl
theorem xw_1344 : Cond.methodLink "ContractDeskModel" 128 ⟨"ContractDeskModel", "end", "(I)I"⟩ ∈ xt_W := xt_in6 144 rfl rfl
theorem xw_1346 : Cond.instanceMethod ⟨"ContractDeskModel", "end", "(I)I"⟩ ∈ xt_W := xt_in6 146 rfl rfl
theorem xw_1347 : Cond.code ⟨"ContractDeskModel", "end", "(I)I"⟩ prog_13_method_13_code 5 (some (.int)) ∈ xt_W := xt_in6 147 rfl rfl
theorem xw_1348 : Cond.methodLink "ContractDeskModel" 122 ⟨"ContractDeskModel", "stops", "(C)Z"⟩ ∈ xt_W := xt_in6 148 rfl rfl
theorem xw_1349 : Cond.static ⟨"ContractDeskModel", "stops", "(C)Z"⟩ ∈ xt_W := xt_in6 149 rfl rfl
theorem xw_1350 : Cond.code ⟨"ContractDeskModel", "stops", "(C)Z"⟩ prog_13_method_12_code 1 (some (.boolean)) ∈ xt_W := xt_in6 150 rfl rfl
theorem xw_1351 : Cond.methodLink "ContractDeskModel" 135 ⟨"ContractDeskModel", "parts", "(I)I"⟩ ∈ xt_W := xt_in6 151 rfl rfl
theorem xw_1353 : Cond.instanceMethod ⟨"ContractDeskModel", "parts", "(I)I"⟩ ∈ xt_W := xt_in6 153 rfl rfl
theorem xw_1354 : Cond.code ⟨"ContractDeskModel", "parts", "(I)I"⟩ prog_13_method_15_code 3 (some (.int)) ∈ xt_W := xt_in6 154 rfl rfl
theorem xw_1355 : Cond.methodLink "ContractDeskModel" 131 ⟨"ContractDeskModel", "part", "(II)I"⟩ ∈ xt_W := xt_in6 155 rfl rfl
theorem xw_1357 : Cond.instanceMethod ⟨"ContractDeskModel", "part", "(II)I"⟩ ∈ xt_W := xt_in6 157 rfl rfl
theorem xw_1358 : Cond.code ⟨"ContractDeskModel", "part", "(II)I"⟩ prog_13_method_14_code 6 (some (.int)) ∈ xt_W := xt_in6 158 rfl rfl
theorem xw_1359 : Cond.methodLink "ContractDeskModel" 142 ⟨"ContractDeskModel", "member", "(IC)I"⟩ ∈ xt_W := xt_in6 159 rfl rfl
theorem xw_1361 : Cond.instanceMethod ⟨"ContractDeskModel", "member", "(IC)I"⟩ ∈ xt_W := xt_in6 161 rfl rfl
theorem xw_1362 : Cond.code ⟨"ContractDeskModel", "member", "(IC)I"⟩ prog_13_method_16_code 6 (some (.int)) ∈ xt_W := xt_in6 162 rfl rfl
theorem xw_1363 : Cond.methodLink "ContractDeskModel" 160 ⟨"ContractDeskModel", "keep", "(I)V"⟩ ∈ xt_W := xt_in6 163 rfl rfl
theorem xw_1365 : Cond.instanceMethod ⟨"ContractDeskModel", "keep", "(I)V"⟩ ∈ xt_W := xt_in6 165 rfl rfl
theorem xw_1366 : Cond.code ⟨"ContractDeskModel", "keep", "(I)V"⟩ prog_13_method_21_code 3 none ∈ xt_W := xt_in6 166 rfl rfl
theorem xw_1367 : Cond.methodLink "ContractDeskLaw" 59 ⟨"ContractDeskModel", "needs", "(II)Z"⟩ ∈ xt_W := xt_in6 167 rfl rfl
theorem xw_1368 : Cond.instanceMethod ⟨"ContractDeskModel", "needs", "(II)Z"⟩ ∈ xt_W := xt_in6 168 rfl rfl
theorem xw_1369 : Cond.selects "ContractDeskModel" ⟨"ContractDeskModel", "needs", "(II)Z"⟩ ⟨"ContractDeskModel", "needs", "(II)Z"⟩ ∈ xt_W := xt_in6 169 rfl rfl
theorem xw_1370 : Cond.code ⟨"ContractDeskModel", "needs", "(II)Z"⟩ prog_13_method_23_code 4 (some (.boolean)) ∈ xt_W := xt_in6 170 rfl rfl
theorem xw_1371 : Cond.methodLink "ContractDeskLaw" 63 ⟨"ContractDeskModel", "handler", "(II)Z"⟩ ∈ xt_W := xt_in6 171 rfl rfl
theorem xw_1372 : Cond.instanceMethod ⟨"ContractDeskModel", "handler", "(II)Z"⟩ ∈ xt_W := xt_in6 172 rfl rfl
theorem xw_1373 : Cond.selects "ContractDeskModel" ⟨"ContractDeskModel", "handler", "(II)Z"⟩ ⟨"ContractDeskModel", "handler", "(II)Z"⟩ ∈ xt_W := xt_in6 173 rfl rfl
theorem xw_1374 : Cond.code ⟨"ContractDeskModel", "handler", "(II)Z"⟩ prog_13_method_24_code 3 (some (.boolean)) ∈ xt_W := xt_in6 174 rfl rfl
theorem xw_1375 : Cond.methodLink "ContractDeskLaw" 54 ⟨"ContractDeskModel", "rule", "(I)I"⟩ ∈ xt_W := xt_in6 175 rfl rfl
theorem xw_1376 : Cond.instanceMethod ⟨"ContractDeskModel", "rule", "(I)I"⟩ ∈ xt_W := xt_in6 176 rfl rfl
theorem xw_1377 : Cond.selects "ContractDeskModel" ⟨"ContractDeskModel", "rule", "(I)I"⟩ ⟨"ContractDeskModel", "rule", "(I)I"⟩ ∈ xt_W := xt_in6 177 rfl rfl
theorem xw_1378 : Cond.code ⟨"ContractDeskModel", "rule", "(I)I"⟩ prog_13_method_29_code 5 (some (.int)) ∈ xt_W := xt_in6 178 rfl rfl
theorem xw_1379 : Cond.methodLink "ContractDeskModel" 173 ⟨"ContractDeskModel", "isRule", "()Z"⟩ ∈ xt_W := xt_in6 179 rfl rfl
theorem xw_1381 : Cond.instanceMethod ⟨"ContractDeskModel", "isRule", "()Z"⟩ ∈ xt_W := xt_in6 181 rfl rfl
theorem xw_1382 : Cond.code ⟨"ContractDeskModel", "isRule", "()Z"⟩ prog_13_method_28_code 7 (some (.boolean)) ∈ xt_W := xt_in6 182 rfl rfl
theorem xw_1383 : Cond.methodLink "ContractDeskModel" 167 ⟨"ContractDeskModel", "stepEnd", "(I)I"⟩ ∈ xt_W := xt_in6 183 rfl rfl
theorem xw_1385 : Cond.instanceMethod ⟨"ContractDeskModel", "stepEnd", "(I)I"⟩ ∈ xt_W := xt_in6 185 rfl rfl
theorem xw_1386 : Cond.code ⟨"ContractDeskModel", "stepEnd", "(I)I"⟩ prog_13_method_25_code 2 (some (.int)) ∈ xt_W := xt_in6 186 rfl rfl
theorem xw_1387 : Cond.methodLink "ContractDeskModel" 170 ⟨"ContractDeskModel", "matcherEnd", "(I)I"⟩ ∈ xt_W := xt_in6 187 rfl rfl
theorem xw_1389 : Cond.instanceMethod ⟨"ContractDeskModel", "matcherEnd", "(I)I"⟩ ∈ xt_W := xt_in6 189 rfl rfl
theorem xw_1390 : Cond.code ⟨"ContractDeskModel", "matcherEnd", "(I)I"⟩ prog_13_method_27_code 4 (some (.int)) ∈ xt_W := xt_in6 190 rfl rfl
theorem xw_1391 : Cond.methodLink "ContractDeskModel" 164 ⟨"ContractDeskModel", "itemsEnd", "(I)I"⟩ ∈ xt_W := xt_in6 191 rfl rfl
theorem xw_1393 : Cond.instanceMethod ⟨"ContractDeskModel", "itemsEnd", "(I)I"⟩ ∈ xt_W := xt_in6 193 rfl rfl
theorem xw_1394 : Cond.code ⟨"ContractDeskModel", "itemsEnd", "(I)I"⟩ prog_13_method_26_code 4 (some (.int)) ∈ xt_W := xt_in6 194 rfl rfl
theorem xw_1395 : Cond.methodLink "ContractDeskLaw" 67 ⟨"ContractDeskModel", "select", "(I)I"⟩ ∈ xt_W := xt_in6 195 rfl rfl
theorem xw_1396 : Cond.instanceMethod ⟨"ContractDeskModel", "select", "(I)I"⟩ ∈ xt_W := xt_in6 196 rfl rfl
theorem xw_1397 : Cond.selects "ContractDeskModel" ⟨"ContractDeskModel", "select", "(I)I"⟩ ⟨"ContractDeskModel", "select", "(I)I"⟩ ∈ xt_W := xt_in6 197 rfl rfl
theorem xw_1398 : Cond.code ⟨"ContractDeskModel", "select", "(I)I"⟩ prog_13_method_34_code 3 (some (.int)) ∈ xt_W := xt_in6 198 rfl rfl
theorem xw_1399 : Cond.methodLink "ContractDeskModel" 186 ⟨"ContractDeskModel", "readPlace", "()Z"⟩ ∈ xt_W := xt_in6 199 rfl rfl
theorem xw_1401 : Cond.instanceMethod ⟨"ContractDeskModel", "readPlace", "()Z"⟩ ∈ xt_W := xt_in6 201 rfl rfl
theorem xw_1402 : Cond.code ⟨"ContractDeskModel", "readPlace", "()Z"⟩ prog_13_method_33_code 5 (some (.boolean)) ∈ xt_W := xt_in6 202 rfl rfl
theorem xw_1403 : Cond.methodLink "ContractDeskModel" 189 ⟨"ContractDeskModel", "selected", "(I)I"⟩ ∈ xt_W := xt_in6 203 rfl rfl
theorem xw_1405 : Cond.instanceMethod ⟨"ContractDeskModel", "selected", "(I)I"⟩ ∈ xt_W := xt_in6 205 rfl rfl
theorem xw_1406 : Cond.code ⟨"ContractDeskModel", "selected", "(I)I"⟩ prog_13_method_32_code 6 (some (.int)) ∈ xt_W := xt_in6 206 rfl rfl
theorem xw_1407 : Cond.methodLink "ContractDeskModel" 183 ⟨"ContractDeskModel", "fits", "(I)I"⟩ ∈ xt_W := xt_in6 207 rfl rfl
theorem xw_1409 : Cond.instanceMethod ⟨"ContractDeskModel", "fits", "(I)I"⟩ ∈ xt_W := xt_in6 209 rfl rfl
theorem xw_1410 : Cond.code ⟨"ContractDeskModel", "fits", "(I)I"⟩ prog_13_method_31_code 9 (some (.int)) ∈ xt_W := xt_in6 210 rfl rfl
theorem xw_1411 : Cond.methodLink "ContractDeskModel" 177 ⟨"ContractDeskModel", "colon", "(I)I"⟩ ∈ xt_W := xt_in6 211 rfl rfl
theorem xw_1413 : Cond.instanceMethod ⟨"ContractDeskModel", "colon", "(I)I"⟩ ∈ xt_W := xt_in6 213 rfl rfl
theorem xw_1414 : Cond.code ⟨"ContractDeskModel", "colon", "(I)I"⟩ prog_13_method_30_code 3 (some (.int)) ∈ xt_W := xt_in6 214 rfl rfl
theorem xw_1415 : Cond.methodLink "ContractDeskLaw" 70 ⟨"ContractDeskModel", "verify", "(I)I"⟩ ∈ xt_W := xt_in6 215 rfl rfl
theorem xw_1416 : Cond.instanceMethod ⟨"ContractDeskModel", "verify", "(I)I"⟩ ∈ xt_W := xt_in6 216 rfl rfl
theorem xw_1417 : Cond.selects "ContractDeskModel" ⟨"ContractDeskModel", "verify", "(I)I"⟩ ⟨"ContractDeskModel", "verify", "(I)I"⟩ ∈ xt_W := xt_in6 217 rfl rfl
theorem xw_1418 : Cond.code ⟨"ContractDeskModel", "verify", "(I)I"⟩ prog_13_method_52_code 5 (some (.int)) ∈ xt_W := xt_in6 218 rfl rfl
theorem xw_1419 : Cond.methodLink "ContractDeskModel" 256 ⟨"ContractDeskModel", "verified", "(I)I"⟩ ∈ xt_W := xt_in6 219 rfl rfl
theorem xw_1421 : Cond.instanceMethod ⟨"ContractDeskModel", "verified", "(I)I"⟩ ∈ xt_W := xt_in6 221 rfl rfl
theorem xw_1422 : Cond.code ⟨"ContractDeskModel", "verified", "(I)I"⟩ prog_13_method_53_code 5 (some (.int)) ∈ xt_W := xt_in6 222 rfl rfl
theorem xw_1423 : Cond.methodLink "ContractDeskModel" 250 ⟨"ContractDeskModel", "happen", "(II)V"⟩ ∈ xt_W := xt_in6 223 rfl rfl
theorem xw_1425 : Cond.instanceMethod ⟨"ContractDeskModel", "happen", "(II)V"⟩ ∈ xt_W := xt_in6 225 rfl rfl
theorem xw_1426 : Cond.code ⟨"ContractDeskModel", "happen", "(II)V"⟩ prog_13_method_51_code 3 none ∈ xt_W := xt_in6 226 rfl rfl
theorem xw_1427 : Cond.methodLink "ContractDeskModel" 259 ⟨"ContractDeskModel", "compareAll", "(I)I"⟩ ∈ xt_W := xt_in6 227 rfl rfl
theorem xw_1429 : Cond.instanceMethod ⟨"ContractDeskModel", "compareAll", "(I)I"⟩ ∈ xt_W := xt_in6 229 rfl rfl
theorem xw_1430 : Cond.code ⟨"ContractDeskModel", "compareAll", "(I)I"⟩ prog_13_method_49_code 7 (some (.int)) ∈ xt_W := xt_in6 230 rfl rfl
theorem xw_1431 : Cond.methodLink "ContractDeskModel" 240 ⟨"ContractDeskModel", "push", "(IIII)V"⟩ ∈ xt_W := xt_in6 231 rfl rfl
theorem xw_1433 : Cond.instanceMethod ⟨"ContractDeskModel", "push", "(IIII)V"⟩ ∈ xt_W := xt_in6 233 rfl rfl
theorem xw_1434 : Cond.code ⟨"ContractDeskModel", "push", "(IIII)V"⟩ prog_13_method_41_code 5 none ∈ xt_W := xt_in6 234 rfl rfl
theorem xw_1435 : Cond.methodLink "ContractDeskModel" 243 ⟨"ContractDeskModel", "lay", "(I)V"⟩ ∈ xt_W := xt_in6 235 rfl rfl
theorem xw_1437 : Cond.instanceMethod ⟨"ContractDeskModel", "lay", "(I)V"⟩ ∈ xt_W := xt_in6 237 rfl rfl
theorem xw_1438 : Cond.code ⟨"ContractDeskModel", "lay", "(I)V"⟩ prog_13_method_43_code 4 none ∈ xt_W := xt_in6 238 rfl rfl
theorem xw_1439 : Cond.methodLink "ContractDeskModel" 226 ⟨"ContractDeskModel", "list", "(I)V"⟩ ∈ xt_W := xt_in6 239 rfl rfl
theorem xw_1441 : Cond.instanceMethod ⟨"ContractDeskModel", "list", "(I)V"⟩ ∈ xt_W := xt_in7 1 rfl rfl
theorem xw_1442 : Cond.code ⟨"ContractDeskModel", "list", "(I)V"⟩ prog_13_method_45_code 5 none ∈ xt_W := xt_in7 2 rfl rfl
theorem xw_1443 : Cond.methodLink "ContractDeskModel" 218 ⟨"ContractDeskModel", "put", "(II)V"⟩ ∈ xt_W := xt_in7 3 rfl rfl
theorem xw_1445 : Cond.instanceMethod ⟨"ContractDeskModel", "put", "(II)V"⟩ ∈ xt_W := xt_in7 5 rfl rfl
theorem xw_1446 : Cond.code ⟨"ContractDeskModel", "put", "(II)V"⟩ prog_13_method_44_code 3 none ∈ xt_W := xt_in7 6 rfl rfl
theorem xw_1447 : Cond.methodLink "ContractDeskModel" 246 ⟨"ContractDeskModel", "compared", "(IIII)I"⟩ ∈ xt_W := xt_in7 7 rfl rfl
theorem xw_1449 : Cond.instanceMethod ⟨"ContractDeskModel", "compared", "(IIII)I"⟩ ∈ xt_W := xt_in7 9 rfl rfl
theorem xw_1450 : Cond.code ⟨"ContractDeskModel", "compared", "(IIII)I"⟩ prog_13_method_46_code 8 (some (.int)) ∈ xt_W := xt_in7 10 rfl rfl
theorem xw_1451 : Cond.methodLink "ContractDeskModel" 222 ⟨"ContractDeskModel", "outcome", "(III)I"⟩ ∈ xt_W := xt_in7 11 rfl rfl
theorem xw_1453 : Cond.instanceMethod ⟨"ContractDeskModel", "outcome", "(III)I"⟩ ∈ xt_W := xt_in7 13 rfl rfl
theorem xw_1454 : Cond.code ⟨"ContractDeskModel", "outcome", "(III)I"⟩ prog_13_method_40_code 12 (some (.int)) ∈ xt_W := xt_in7 14 rfl rfl
theorem xw_1455 : Cond.methodLink "ContractDeskModel" 202 ⟨"ContractDeskModel", "behind", "(II)I"⟩ ∈ xt_W := xt_in7 15 rfl rfl
theorem xw_1457 : Cond.instanceMethod ⟨"ContractDeskModel", "behind", "(II)I"⟩ ∈ xt_W := xt_in7 17 rfl rfl
theorem xw_1458 : Cond.code ⟨"ContractDeskModel", "behind", "(II)I"⟩ prog_13_method_39_code 4 (some (.int)) ∈ xt_W := xt_in7 18 rfl rfl
theorem xw_1459 : Cond.methodLink "ContractDeskModel" 205 ⟨"ContractDeskModel", "holds", "(IIII)Z"⟩ ∈ xt_W := xt_in7 19 rfl rfl
theorem xw_1461 : Cond.instanceMethod ⟨"ContractDeskModel", "holds", "(IIII)Z"⟩ ∈ xt_W := xt_in7 21 rfl rfl
theorem xw_1462 : Cond.code ⟨"ContractDeskModel", "holds", "(IIII)Z"⟩ prog_13_method_38_code 5 (some (.boolean)) ∈ xt_W := xt_in7 22 rfl rfl
theorem xw_1463 : Cond.methodLink "ContractDeskModel" 195 ⟨"ContractDeskModel", "contains", "(III)Z"⟩ ∈ xt_W := xt_in7 23 rfl rfl
theorem xw_1465 : Cond.instanceMethod ⟨"ContractDeskModel", "contains", "(III)Z"⟩ ∈ xt_W := xt_in7 25 rfl rfl
theorem xw_1466 : Cond.code ⟨"ContractDeskModel", "contains", "(III)Z"⟩ prog_13_method_35_code 9 (some (.boolean)) ∈ xt_W := xt_in7 26 rfl rfl
theorem xw_1467 : Cond.methodLink "ContractDeskModel" 199 ⟨"ContractDeskModel", "isAs", "(III)Z"⟩ ∈ xt_W := xt_in7 27 rfl rfl
theorem xw_1469 : Cond.instanceMethod ⟨"ContractDeskModel", "isAs", "(III)Z"⟩ ∈ xt_W := xt_in7 29 rfl rfl
theorem xw_1470 : Cond.code ⟨"ContractDeskModel", "isAs", "(III)Z"⟩ prog_13_method_36_code 10 (some (.boolean)) ∈ xt_W := xt_in7 30 rfl rfl
theorem xw_1471 : Cond.methodLink "ContractDeskModel" 192 ⟨"ContractDeskModel", "spread", "(I)V"⟩ ∈ xt_W := xt_in7 31 rfl rfl
theorem xw_1473 : Cond.instanceMethod ⟨"ContractDeskModel", "spread", "(I)V"⟩ ∈ xt_W := xt_in7 33 rfl rfl
theorem xw_1474 : Cond.code ⟨"ContractDeskModel", "spread", "(I)V"⟩ prog_13_method_37_code 3 none ∈ xt_W := xt_in7 34 rfl rfl
theorem xw_1475 : Cond.methodLink "ContractDeskModel" 229 ⟨"ContractDeskModel", "elements", "(ZIII)I"⟩ ∈ xt_W := xt_in7 35 rfl rfl
theorem xw_1477 : Cond.instanceMethod ⟨"ContractDeskModel", "elements", "(ZIII)I"⟩ ∈ xt_W := xt_in7 37 rfl rfl
theorem xw_1478 : Cond.code ⟨"ContractDeskModel", "elements", "(ZIII)I"⟩ prog_13_method_47_code 11 (some (.int)) ∈ xt_W := xt_in7 38 rfl rfl
theorem xw_1479 : Cond.methodLink "ContractDeskModel" 237 ⟨"ContractDeskModel", "place", "(II)I"⟩ ∈ xt_W := xt_in7 39 rfl rfl
theorem xw_1481 : Cond.instanceMethod ⟨"ContractDeskModel", "place", "(II)I"⟩ ∈ xt_W := xt_in7 41 rfl rfl
theorem xw_1482 : Cond.code ⟨"ContractDeskModel", "place", "(II)I"⟩ prog_13_method_42_code 3 (some (.int)) ∈ xt_W := xt_in7 42 rfl rfl
theorem xw_1483 : Cond.methodLink "ContractDeskModel" 233 ⟨"ContractDeskModel", "members", "(IIII)V"⟩ ∈ xt_W := xt_in7 43 rfl rfl
theorem xw_1485 : Cond.instanceMethod ⟨"ContractDeskModel", "members", "(IIII)V"⟩ ∈ xt_W := xt_in7 45 rfl rfl
theorem xw_1486 : Cond.code ⟨"ContractDeskModel", "members", "(IIII)V"⟩ prog_13_method_48_code 11 none ∈ xt_W := xt_in7 46 rfl rfl
theorem xw_1487 : Cond.methodLink "ContractDeskModel" 262 ⟨"ContractDeskModel", "tear", "(II)V"⟩ ∈ xt_W := xt_in7 47 rfl rfl
theorem xw_1489 : Cond.instanceMethod ⟨"ContractDeskModel", "tear", "(II)V"⟩ ∈ xt_W := xt_in7 49 rfl rfl
theorem xw_1490 : Cond.code ⟨"ContractDeskModel", "tear", "(II)V"⟩ prog_13_method_50_code 5 none ∈ xt_W := xt_in7 50 rfl rfl
theorem xw_1491 : Cond.methodLink "ContractDeskLaw" 74 ⟨"ContractDeskModel", "listed", "()I"⟩ ∈ xt_W := xt_in7 51 rfl rfl
theorem xw_1492 : Cond.instanceMethod ⟨"ContractDeskModel", "listed", "()I"⟩ ∈ xt_W := xt_in7 52 rfl rfl
theorem xw_1493 : Cond.selects "ContractDeskModel" ⟨"ContractDeskModel", "listed", "()I"⟩ ⟨"ContractDeskModel", "listed", "()I"⟩ ∈ xt_W := xt_in7 53 rfl rfl
theorem xw_1494 : Cond.code ⟨"ContractDeskModel", "listed", "()I"⟩ prog_13_method_54_code 1 (some (.int)) ∈ xt_W := xt_in7 54 rfl rfl
theorem xw_1495 : Cond.methodLink "ContractDeskLaw" 78 ⟨"ContractDeskModel", "mismatch", "(I)I"⟩ ∈ xt_W := xt_in7 55 rfl rfl
theorem xw_1496 : Cond.instanceMethod ⟨"ContractDeskModel", "mismatch", "(I)I"⟩ ∈ xt_W := xt_in7 56 rfl rfl
theorem xw_1497 : Cond.selects "ContractDeskModel" ⟨"ContractDeskModel", "mismatch", "(I)I"⟩ ⟨"ContractDeskModel", "mismatch", "(I)I"⟩ ∈ xt_W := xt_in7 57 rfl rfl
theorem xw_1498 : Cond.code ⟨"ContractDeskModel", "mismatch", "(I)I"⟩ prog_13_method_55_code 2 (some (.int)) ∈ xt_W := xt_in7 58 rfl rfl
theorem xw_1499 : Cond.methodLink "ContractDeskLaw" 83 ⟨"ContractDeskModel", "letter", "(II)I"⟩ ∈ xt_W := xt_in7 59 rfl rfl
theorem xw_1500 : Cond.instanceMethod ⟨"ContractDeskModel", "letter", "(II)I"⟩ ∈ xt_W := xt_in7 60 rfl rfl
theorem xw_1501 : Cond.selects "ContractDeskModel" ⟨"ContractDeskModel", "letter", "(II)I"⟩ ⟨"ContractDeskModel", "letter", "(II)I"⟩ ∈ xt_W := xt_in7 61 rfl rfl
theorem xw_1502 : Cond.code ⟨"ContractDeskModel", "letter", "(II)I"⟩ prog_13_method_56_code 3 (some (.int)) ∈ xt_W := xt_in7 62 rfl rfl
theorem xw_1503 : Cond.methodLink "ContractDeskLaw" 87 ⟨"ContractDeskModel", "event", "(I)I"⟩ ∈ xt_W := xt_in7 63 rfl rfl
theorem xw_1504 : Cond.instanceMethod ⟨"ContractDeskModel", "event", "(I)I"⟩ ∈ xt_W := xt_in7 64 rfl rfl
theorem xw_1505 : Cond.selects "ContractDeskModel" ⟨"ContractDeskModel", "event", "(I)I"⟩ ⟨"ContractDeskModel", "event", "(I)I"⟩ ∈ xt_W := xt_in7 65 rfl rfl
theorem xw_1506 : Cond.code ⟨"ContractDeskModel", "event", "(I)I"⟩ prog_13_method_57_code 2 (some (.int)) ∈ xt_W := xt_in7 66 rfl rfl
theorem xw_1507 : Cond.constantLong "ContractDeskLaw" 31 4294967295 ∈ xt_W := xt_in7 67 rfl rfl
theorem xw_1508 : Cond.arrayClass .long ∈ xt_W := xt_in7 68 rfl rfl
theorem xw_1509 : Cond.sameMethod "java/lang/AbstractStringBuilder" "java/lang/AbstractStringBuilder" "length" "()I" ∈ xt_W := xt_in7 69 rfl rfl
theorem xw_1510 : Cond.sameMethod "java/lang/AbstractStringBuilder" "java/lang/AbstractStringBuilder" "append" "(C)Ljava/lang/AbstractStringBuilder;" ∈ xt_W := xt_in7 70 rfl rfl
theorem xw_1514 : Cond.selects "java/lang/StringBuilder" ⟨"java/lang/AbstractStringBuilder", "length", "()I"⟩ ⟨"java/lang/StringBuilder", "length", "()I"⟩ ∈ xt_W := xt_in7 74 rfl rfl
theorem xw_1515 : Cond.sameMethod "java/lang/AbstractStringBuilder" "java/lang/AbstractStringBuilder" "setLength" "(I)V" ∈ xt_W := xt_in7 75 rfl rfl
theorem xw_1516 : Cond.sameMethod "java/lang/AbstractStringBuilder" "java/lang/AbstractStringBuilder" "charAt" "(I)C" ∈ xt_W := xt_in7 76 rfl rfl
theorem xw_1518 : Cond.sameMethod "java/lang/AbstractStringBuilder" "java/lang/AbstractStringBuilder" "append" "(I)Ljava/lang/AbstractStringBuilder;" ∈ xt_W := xt_in7 78 rfl rfl
theorem xw_1522 : Cond.selects "[Ljava/lang/Object;" ⟨"java/lang/Object", "getClass", "()Ljava/lang/Class;"⟩ ⟨"java/lang/Object", "getClass", "()Ljava/lang/Class;"⟩ ∈ xt_W := xt_in7 82 rfl rfl
theorem xc_0 : ∀ v ∈ u_ws "ContractDesk" xt_T0 5, v ∈ xt_W := fun v h => by
  obtain ⟨i, hi, rfl⟩ := List.mem_map.mp h
  have hi := List.mem_range.mp hi
  match i, hi with
  | 0, _ => exact xw_147
  | 1, _ => exact xw_149
  | 2, _ => exact xw_151
  | 3, _ => exact xw_153
  | 4, _ => exact xw_155
  | n + 5, h => exact absurd h (by omega)
theorem xc_1 : ∀ v ∈ u_ws "ContractDesk$Comparison" xt_T1 4, v ∈ xt_W := fun v h => by
  obtain ⟨i, hi, rfl⟩ := List.mem_map.mp h
  have hi := List.mem_range.mp hi
  match i, hi with
  | 0, _ => exact xw_133
  | 1, _ => exact xw_135
  | 2, _ => exact xw_137
  | 3, _ => exact xw_139
  | n + 4, h => exact absurd h (by omega)
theorem xc_2 : ∀ v ∈ u_ws "ContractDesk$Cursor" xt_T2 2, v ∈ xt_W := fun v h => by
  obtain ⟨i, hi, rfl⟩ := List.mem_map.mp h
  have hi := List.mem_range.mp hi
  match i, hi with
  | 0, _ => exact xw_366
  | 1, _ => exact xw_368
  | n + 2, h => exact absurd h (by omega)
theorem xc_3 : ∀ v ∈ u_ws "ContractDesk$Interaction" xt_T3 6, v ∈ xt_W := fun v h => by
  obtain ⟨i, hi, rfl⟩ := List.mem_map.mp h
  have hi := List.mem_range.mp hi
  match i, hi with
  | 0, _ => exact xw_624
  | 1, _ => exact xw_626
  | 2, _ => exact xw_628
  | 3, _ => exact xw_630
  | 4, _ => exact xw_632
  | 5, _ => exact xw_634
  | n + 6, h => exact absurd h (by omega)
theorem xc_4 : ∀ v ∈ u_ws "ContractDesk$Matcher" xt_T4 3, v ∈ xt_W := fun v h => by
  obtain ⟨i, hi, rfl⟩ := List.mem_map.mp h
  have hi := List.mem_range.mp hi
  match i, hi with
  | 0, _ => exact xw_953
  | 1, _ => exact xw_955
  | 2, _ => exact xw_957
  | n + 3, h => exact absurd h (by omega)
theorem xc_5 : ∀ v ∈ u_ws "ContractDesk$Mismatch" xt_T5 2, v ∈ xt_W := fun v h => by
  obtain ⟨i, hi, rfl⟩ := List.mem_map.mp h
  have hi := List.mem_range.mp hi
  match i, hi with
  | 0, _ => exact xw_124
  | 1, _ => exact xw_126
  | n + 2, h => exact absurd h (by omega)
theorem xc_6 : ∀ v ∈ u_ws "ContractDesk$Path" xt_T6 2, v ∈ xt_W := fun v h => by
  obtain ⟨i, hi, rfl⟩ := List.mem_map.mp h
  have hi := List.mem_range.mp hi
  match i, hi with
  | 0, _ => exact xw_108
  | 1, _ => exact xw_110
  | n + 2, h => exact absurd h (by omega)
theorem xc_7 : ∀ v ∈ u_ws "ContractDesk$Rule" xt_T7 4, v ∈ xt_W := fun v h => by
  obtain ⟨i, hi, rfl⟩ := List.mem_map.mp h
  have hi := List.mem_range.mp hi
  match i, hi with
  | 0, _ => exact xw_926
  | 1, _ => exact xw_928
  | 2, _ => exact xw_930
  | 3, _ => exact xw_932
  | n + 4, h => exact absurd h (by omega)
theorem xc_8 : ∀ v ∈ u_ws "ContractDesk$States" xt_T8 3, v ∈ xt_W := fun v h => by
  obtain ⟨i, hi, rfl⟩ := List.mem_map.mp h
  have hi := List.mem_range.mp hi
  match i, hi with
  | 0, _ => exact xw_86
  | 1, _ => exact xw_88
  | 2, _ => exact xw_90
  | n + 3, h => exact absurd h (by omega)
theorem xc_9 : ∀ v ∈ u_ws "ContractDesk$Value" xt_T9 5, v ∈ xt_W := fun v h => by
  obtain ⟨i, hi, rfl⟩ := List.mem_map.mp h
  have hi := List.mem_range.mp hi
  match i, hi with
  | 0, _ => exact xw_696
  | 1, _ => exact xw_698
  | 2, _ => exact xw_700
  | 3, _ => exact xw_702
  | 4, _ => exact xw_704
  | n + 5, h => exact absurd h (by omega)
theorem xc_10 : ∀ v ∈ u_ws "ContractDeskModel" xt_T10 35, v ∈ xt_W := fun v h => by
  obtain ⟨i, hi, rfl⟩ := List.mem_map.mp h
  have hi := List.mem_range.mp hi
  match i, hi with
  | 0, _ => exact xw_1213
  | 1, _ => exact xw_1215
  | 2, _ => exact xw_1217
  | 3, _ => exact xw_1219
  | 4, _ => exact xw_1221
  | 5, _ => exact xw_1223
  | 6, _ => exact xw_1225
  | 7, _ => exact xw_1227
  | 8, _ => exact xw_1229
  | 9, _ => exact xw_1231
  | 10, _ => exact xw_1233
  | 11, _ => exact xw_1235
  | 12, _ => exact xw_1237
  | 13, _ => exact xw_1239
  | 14, _ => exact xw_1241
  | 15, _ => exact xw_1243
  | 16, _ => exact xw_1245
  | 17, _ => exact xw_1247
  | 18, _ => exact xw_1249
  | 19, _ => exact xw_1251
  | 20, _ => exact xw_1253
  | 21, _ => exact xw_1255
  | 22, _ => exact xw_1257
  | 23, _ => exact xw_1259
  | 24, _ => exact xw_1261
  | 25, _ => exact xw_1263
  | 26, _ => exact xw_1265
  | 27, _ => exact xw_1267
  | 28, _ => exact xw_1269
  | 29, _ => exact xw_1271
  | 30, _ => exact xw_1273
  | 31, _ => exact xw_1275
  | 32, _ => exact xw_1277
  | 33, _ => exact xw_1279
  | 34, _ => exact xw_1281
  | n + 35, h => exact absurd h (by omega)
theorem xc_11 : ∀ v ∈ u_ws "java/lang/StringBuilder" xt_T11 4, v ∈ xt_W := fun v h => by
  obtain ⟨i, hi, rfl⟩ := List.mem_map.mp h
  have hi := List.mem_range.mp hi
  match i, hi with
  | 0, _ => exact xw_65
  | 1, _ => exact xw_67
  | 2, _ => exact xw_69
  | 3, _ => exact xw_71
  | n + 4, h => exact absurd h (by omega)
theorem xc_12 : ∀ v ∈ u_ws "java/lang/String" xt_T12 4, v ∈ xt_W := fun v h => by
  obtain ⟨i, hi, rfl⟩ := List.mem_map.mp h
  have hi := List.mem_range.mp hi
  match i, hi with
  | 0, _ => exact xw_351
  | 1, _ => exact xw_353
  | 2, _ => exact xw_355
  | 3, _ => exact xw_357
  | n + 4, h => exact absurd h (by omega)
theorem xc_13 : ∀ v ∈ u_ws "java/util/ArrayList" xt_T13 3, v ∈ xt_W := fun v h => by
  obtain ⟨i, hi, rfl⟩ := List.mem_map.mp h
  have hi := List.mem_range.mp hi
  match i, hi with
  | 0, _ => exact xw_684
  | 1, _ => exact xw_686
  | 2, _ => exact xw_688
  | n + 3, h => exact absurd h (by omega)
theorem xc_14 : ∀ v ∈ u_ws "ContractDesk$Kind" xt_T14 0, v ∈ xt_W := fun _ h => absurd h List.not_mem_nil
