theorem z_le {a b : Nat} (h : Nat.ble a b = true) : a ≤ b := Nat.le_of_ble_eq_true h
theorem z_ne {x k : Int32} (h : ¬ x = k) : x.toInt ≠ k.toInt := fun e => h (Int32.toInt_inj.mp e)
theorem Ev_ialdk {X : Nat × (Nat → Int32)} {d μ pc : Nat} {lo st : List Value} {G : zG} {I : zI} {res : Option Value × zG × zI} {nm : MethodName} {cd : ByteArray} {ml : Nat} {rt : Option FieldType} {ow np : Nat} {i : Int32} (hq : zM[μ]? = some (nm, cd, ml, rt, ow, np)) (hd : decode cd pc = .ok (.iaload, 1)) (hi : z_inr i 6) (k : Ev X d μ (pc + 1) lo (.int (zKA i.toNatClampNeg) :: st) G I res) : Ev X d μ pc lo (.int i :: .retAddr (1 + 1) :: st) G I res := Ev_ialdx (q := (6, zKA)) hq hd rfl hi k
theorem Ev_ialds {X : Nat × (Nat → Int32)} {d μ pc : Nat} {lo st : List Value} {G : zG} {I : zI} {res : Option Value × zG × zI} {nm : MethodName} {cd : ByteArray} {ml : Nat} {rt : Option FieldType} {ow np : Nat} {i : Int32} (hq : zM[μ]? = some (nm, cd, ml, rt, ow, np)) (hd : decode cd pc = .ok (.iaload, 1)) (hi : z_inr i X.1) (k : Ev X d μ (pc + 1) lo (.int (X.2 i.toNatClampNeg) :: st) G I res) : Ev X d μ pc lo (.int i :: .retAddr (0 + 1) :: st) G I res := Ev_ialdx (q := X) hq hd rfl hi k
theorem z_nb {x : Int32} (h : x = 0 ∨ x = 1) : narrow .boolean (.int x) = .int x := by rcases h with rfl | rfl <;> rfl
theorem hq_0 : zM[0]? = some (x, code, maxLocals, ret, 6, 1) := rfl
theorem hq_1 : zM[1]? = some (⟨"TooHotTooCold", "<init>", "()V"⟩, prog_1_method_1_code, 4, none, 4, 0) := rfl
theorem hq_2 : zM[2]? = some (⟨"TooHotTooCold$Household", "<init>", "()V"⟩, prog_2_method_1_code, 1, none, 0, 0) := rfl
theorem hq_3 : zM[3]? = some (⟨"TooHotTooCold$Morning", "<init>", "()V"⟩, prog_4_method_1_code, 1, none, 2, 0) := rfl
theorem hq_4 : zM[4]? = some (⟨"TooHotTooCold$Reader", "<init>", "()V"⟩, prog_5_method_1_code, 1, none, 3, 0) := rfl
theorem hq_5 : zM[5]? = some (⟨"java/lang/String", "length", "()I"⟩, prog_11_method_54_code, 1, some Jvm.ClassFile.FieldType.int, 10, 0) := rfl
theorem hq_6 : zM[6]? = some (⟨"java/lang/String", "coder", "()B"⟩, prog_11_method_152_code, 1, some Jvm.ClassFile.FieldType.byte, 10, 0) := rfl
theorem hq_7 : zM[7]? = some (⟨"java/lang/String", "charAt", "(I)C"⟩, prog_11_method_56_code, 2, some Jvm.ClassFile.FieldType.char, 10, 1) := rfl
theorem hq_8 : zM[8]? = some (⟨"java/lang/String", "isLatin1", "()Z"⟩, prog_11_method_154_code, 1, some Jvm.ClassFile.FieldType.boolean, 10, 0) := rfl
theorem hq_9 : zM[9]? = some (⟨"java/lang/StringLatin1", "charAt", "([BI)C"⟩, prog_12_method_2_code, 2, some Jvm.ClassFile.FieldType.char, 11, 2) := rfl
theorem hq_10 : zM[10]? = some (⟨"java/lang/String", "checkIndex", "(II)V"⟩, prog_11_method_155_code, 2, none, 10, 2) := rfl
theorem hq_11 : zM[11]? = some (⟨"jdk/internal/util/Preconditions", "checkIndex", "(IILjava/util/function/BiFunction;)I"⟩, prog_16_method_11_code, 3, some Jvm.ClassFile.FieldType.int, 12, 3) := rfl
theorem hq_12 : zM[12]? = some (⟨"TooHotTooCold$Reader", "read", "([II)I"⟩, prog_5_method_2_code, 4, some Jvm.ClassFile.FieldType.int, 3, 2) := rfl
theorem hq_13 : zM[13]? = some (⟨"TooHotTooCold", "bounded", "(III)I"⟩, prog_1_method_18_code, 3, some Jvm.ClassFile.FieldType.int, 4, 3) := rfl
theorem hq_14 : zM[14]? = some (⟨"TooHotTooCold$Reader", "advance", "()V"⟩, prog_5_method_14_code, 2, none, 3, 0) := rfl
theorem hq_15 : zM[15]? = some (⟨"TooHotTooCold$Reader", "isBlank", "(I)Z"⟩, prog_5_method_16_code, 1, some Jvm.ClassFile.FieldType.boolean, 3, 1) := rfl
theorem hq_16 : zM[16]? = some (⟨"TooHotTooCold$Reader", "isLetter", "(I)Z"⟩, prog_5_method_17_code, 1, some Jvm.ClassFile.FieldType.boolean, 3, 1) := rfl
theorem hq_17 : zM[17]? = some (⟨"TooHotTooCold$Reader", "wordHere", "()I"⟩, prog_5_method_20_code, 1, some Jvm.ClassFile.FieldType.int, 3, 0) := rfl
theorem hq_18 : zM[18]? = some (⟨"TooHotTooCold$Reader", "spells", "(Ljava/lang/String;)Z"⟩, prog_5_method_21_code, 4, some Jvm.ClassFile.FieldType.boolean, 3, 1) := rfl
theorem hq_19 : zM[19]? = some (⟨"TooHotTooCold$Reader", "isDigit", "(I)Z"⟩, prog_5_method_18_code, 1, some Jvm.ClassFile.FieldType.boolean, 3, 1) := rfl
theorem hq_20 : zM[20]? = some (⟨"TooHotTooCold$Reader", "readNumber", "()V"⟩, prog_5_method_15_code, 2, none, 3, 0) := rfl
theorem hq_21 : zM[21]? = some (⟨"TooHotTooCold$Reader", "signOf", "(I)I"⟩, prog_5_method_19_code, 1, some Jvm.ClassFile.FieldType.int, 3, 1) := rfl
theorem hq_22 : zM[22]? = some (⟨"TooHotTooCold$Reader", "skip", "(I)Z"⟩, prog_5_method_4_code, 2, some Jvm.ClassFile.FieldType.boolean, 3, 1) := rfl
theorem hq_23 : zM[23]? = some (⟨"TooHotTooCold$Reader", "readEither", "()Z"⟩, prog_5_method_6_code, 2, some Jvm.ClassFile.FieldType.boolean, 3, 0) := rfl
theorem hq_24 : zM[24]? = some (⟨"TooHotTooCold$Reader", "readBoth", "()Z"⟩, prog_5_method_7_code, 2, some Jvm.ClassFile.FieldType.boolean, 3, 0) := rfl
theorem hq_25 : zM[25]? = some (⟨"TooHotTooCold$Reader", "readNot", "()Z"⟩, prog_5_method_8_code, 2, some Jvm.ClassFile.FieldType.boolean, 3, 0) := rfl
theorem hq_26 : zM[26]? = some (⟨"TooHotTooCold$Reader", "opens", "()Z"⟩, prog_5_method_12_code, 1, some Jvm.ClassFile.FieldType.boolean, 3, 0) := rfl
theorem hq_27 : zM[27]? = some (⟨"TooHotTooCold$Reader", "closes", "()Z"⟩, prog_5_method_13_code, 1, some Jvm.ClassFile.FieldType.boolean, 3, 0) := rfl
theorem hq_28 : zM[28]? = some (⟨"TooHotTooCold$Reader", "put", "(I)Z"⟩, prog_5_method_5_code, 2, some Jvm.ClassFile.FieldType.boolean, 3, 1) := rfl
theorem hq_29 : zM[29]? = some (⟨"TooHotTooCold$Reader", "readSum", "()Z"⟩, prog_5_method_9_code, 3, some Jvm.ClassFile.FieldType.boolean, 3, 0) := rfl
theorem hq_30 : zM[30]? = some (⟨"TooHotTooCold$Reader", "readTerm", "()Z"⟩, prog_5_method_10_code, 2, some Jvm.ClassFile.FieldType.boolean, 3, 0) := rfl
theorem hq_31 : zM[31]? = some (⟨"TooHotTooCold$Reader", "readOne", "()Z"⟩, prog_5_method_11_code, 1, some Jvm.ClassFile.FieldType.boolean, 3, 0) := rfl
theorem hq_32 : zM[32]? = some (⟨"TooHotTooCold", "within", "(III)Z"⟩, prog_1_method_17_code, 3, some Jvm.ClassFile.FieldType.boolean, 4, 3) := rfl
theorem hq_33 : zM[33]? = some (⟨"TooHotTooCold$Reader", "law", "()LTooHotTooCold$Law;"⟩, prog_5_method_3_code, 1, some (Jvm.ClassFile.FieldType.object "TooHotTooCold$Law"), 3, 0) := rfl
theorem hq_34 : zM[34]? = some (⟨"java/util/Arrays", "copyOf", "([II)[I"⟩, prog_15_method_123_code, 3, some (Jvm.ClassFile.FieldType.array Jvm.ClassFile.FieldType.int), 8, 2) := rfl
theorem hq_35 : zM[35]? = some (⟨"TooHotTooCold$Law", "<init>", "([I[I)V"⟩, prog_3_method_1_code, 3, none, 1, 2) := rfl
theorem hq_36 : zM[36]? = some (⟨"java/util/Arrays", "fill", "([II)V"⟩, prog_15_method_103_code, 4, none, 8, 2) := rfl
theorem hq_37 : zM[37]? = some (⟨"TooHotTooCold", "count", "(I)I"⟩, prog_1_method_2_code, 2, some Jvm.ClassFile.FieldType.int, 4, 1) := rfl
theorem hq_38 : zM[38]? = some (⟨"TooHotTooCold$Household", "onBits", "()I"⟩, prog_2_method_6_code, 3, some Jvm.ClassFile.FieldType.int, 0, 0) := rfl
theorem hq_39 : zM[39]? = some (⟨"TooHotTooCold", "feed", "(IIIIII)I"⟩, prog_1_method_3_code, 7, some Jvm.ClassFile.FieldType.int, 4, 6) := rfl
theorem hq_40 : zM[40]? = some (⟨"TooHotTooCold", "isByte", "(I)Z"⟩, prog_1_method_5_code, 1, some Jvm.ClassFile.FieldType.boolean, 4, 1) := rfl
theorem hq_41 : zM[41]? = some (⟨"TooHotTooCold", "feedOne", "(I)V"⟩, prog_1_method_4_code, 2, none, 4, 1) := rfl
theorem hq_42 : zM[42]? = some (⟨"TooHotTooCold", "text", "()I"⟩, prog_1_method_6_code, 2, some Jvm.ClassFile.FieldType.int, 4, 0) := rfl
theorem hq_43 : zM[43]? = some (⟨"TooHotTooCold", "force", "(I)I"⟩, prog_1_method_7_code, 3, some Jvm.ClassFile.FieldType.int, 4, 1) := rfl
theorem hq_44 : zM[44]? = some (⟨"TooHotTooCold", "asks", "(IIIII)I"⟩, prog_1_method_8_code, 7, some Jvm.ClassFile.FieldType.int, 4, 5) := rfl
theorem hq_45 : zM[45]? = some (⟨"TooHotTooCold", "isShower", "(I)Z"⟩, prog_1_method_14_code, 2, some Jvm.ClassFile.FieldType.boolean, 4, 1) := rfl
theorem hq_46 : zM[46]? = some (⟨"TooHotTooCold", "isWarm", "(I)Z"⟩, prog_1_method_15_code, 1, some Jvm.ClassFile.FieldType.boolean, 4, 1) := rfl
theorem hq_47 : zM[47]? = some (⟨"TooHotTooCold", "isBeat", "(I)Z"⟩, prog_1_method_16_code, 1, some Jvm.ClassFile.FieldType.boolean, 4, 1) := rfl
theorem hq_48 : zM[48]? = some (⟨"TooHotTooCold", "lawOf", "(LTooHotTooCold$Household;)LTooHotTooCold$Law;"⟩, prog_1_method_9_code, 2, some (Jvm.ClassFile.FieldType.object "TooHotTooCold$Law"), 4, 1) := rfl
theorem hq_49 : zM[49]? = some (⟨"TooHotTooCold$Law", "hear", "(IIIIII)V"⟩, prog_3_method_2_code, 7, none, 1, 6) := rfl
theorem hq_50 : zM[50]? = some (⟨"TooHotTooCold$Law", "says", "(I)I"⟩, prog_3_method_3_code, 6, some Jvm.ClassFile.FieldType.int, 1, 1) := rfl
theorem hq_51 : zM[51]? = some (⟨"TooHotTooCold$Law", "known", "(I)I"⟩, prog_3_method_4_code, 3, some Jvm.ClassFile.FieldType.int, 1, 1) := rfl
theorem hq_52 : zM[52]? = some (⟨"TooHotTooCold$Law", "joined", "(III)I"⟩, prog_3_method_5_code, 3, some Jvm.ClassFile.FieldType.int, 1, 3) := rfl
theorem hq_53 : zM[53]? = some (⟨"TooHotTooCold", "shower", "(III)I"⟩, prog_1_method_10_code, 4, some Jvm.ClassFile.FieldType.int, 4, 3) := rfl
theorem hq_54 : zM[54]? = some (⟨"TooHotTooCold$Household", "enter", "(IIII)V"⟩, prog_2_method_3_code, 5, none, 0, 4) := rfl
theorem hq_55 : zM[55]? = some (⟨"TooHotTooCold", "set", "(III)I"⟩, prog_1_method_11_code, 5, some Jvm.ClassFile.FieldType.int, 4, 3) := rfl
theorem hq_56 : zM[56]? = some (⟨"TooHotTooCold", "mostOf", "(I)I"⟩, prog_1_method_12_code, 1, some Jvm.ClassFile.FieldType.int, 4, 1) := rfl
theorem hq_57 : zM[57]? = some (⟨"TooHotTooCold$Household", "numberOf", "(II)I"⟩, prog_2_method_4_code, 3, some Jvm.ClassFile.FieldType.int, 0, 2) := rfl
theorem hq_58 : zM[58]? = some (⟨"TooHotTooCold$Household", "change", "(III)V"⟩, prog_2_method_5_code, 4, none, 0, 3) := rfl
theorem hq_59 : zM[59]? = some (⟨"TooHotTooCold", "told", "(II)I"⟩, prog_1_method_13_code, 3, some Jvm.ClassFile.FieldType.int, 4, 2) := rfl
theorem hq_60 : zM[60]? = some (⟨"TooHotTooCold", "scaldsFrom", "(II)I"⟩, prog_1_method_21_code, 2, some Jvm.ClassFile.FieldType.int, 4, 2) := rfl
theorem hq_61 : zM[61]? = some (⟨"TooHotTooCold", "at", "(III)I"⟩, prog_1_method_25_code, 4, some Jvm.ClassFile.FieldType.int, 4, 3) := rfl
theorem hq_62 : zM[62]? = some (⟨"TooHotTooCold", "live", "(LTooHotTooCold$Household;)V"⟩, prog_1_method_23_code, 2, none, 4, 1) := rfl
theorem hq_63 : zM[63]? = some (⟨"TooHotTooCold$Morning", "run", "(LTooHotTooCold$Household;LTooHotTooCold$Law;II)V"⟩, prog_4_method_2_code, 8, none, 2, 4) := rfl
theorem hq_64 : zM[64]? = some (⟨"TooHotTooCold$Morning", "feel", "(LTooHotTooCold$Household;II)V"⟩, prog_4_method_3_code, 5, none, 2, 3) := rfl
theorem hq_65 : zM[65]? = some (⟨"TooHotTooCold$Morning", "higherThan", "(LTooHotTooCold$Household;II)I"⟩, prog_4_method_4_code, 6, some Jvm.ClassFile.FieldType.int, 2, 3) := rfl
theorem hq_66 : zM[66]? = some (⟨"TooHotTooCold", "feltWarm", "(IIIII)I"⟩, prog_1_method_19_code, 6, some Jvm.ClassFile.FieldType.int, 4, 5) := rfl
theorem hq_67 : zM[67]? = some (⟨"TooHotTooCold$Morning", "liveBeat", "(LTooHotTooCold$Household;LTooHotTooCold$Law;IIZ)V"⟩, prog_4_method_5_code, 9, none, 2, 5) := rfl
theorem hq_68 : zM[68]? = some (⟨"TooHotTooCold", "turnedBy", "(III)I"⟩, prog_1_method_20_code, 4, some Jvm.ClassFile.FieldType.int, 4, 3) := rfl
theorem hq_69 : zM[69]? = some (⟨"TooHotTooCold", "day", "(II)I"⟩, prog_1_method_26_code, 3, some Jvm.ClassFile.FieldType.int, 4, 2) := rfl
theorem hq_70 : zM[70]? = some (⟨"TooHotTooCold$Morning", "mostFelt", "(II)I"⟩, prog_4_method_6_code, 5, some Jvm.ClassFile.FieldType.int, 2, 2) := rfl
theorem hq_71 : zM[71]? = some (⟨"TooHotTooCold", "rests", "(II)I"⟩, prog_1_method_27_code, 3, some Jvm.ClassFile.FieldType.int, 4, 2) := rfl
theorem hq_72 : zM[72]? = some (⟨"TooHotTooCold$Morning", "restsFrom", "(III)I"⟩, prog_4_method_8_code, 6, some Jvm.ClassFile.FieldType.int, 2, 3) := rfl
theorem hq_73 : zM[73]? = some (⟨"TooHotTooCold", "sways", "(I)I"⟩, prog_1_method_28_code, 2, some Jvm.ClassFile.FieldType.int, 4, 1) := rfl
theorem hq_74 : zM[74]? = some (⟨"TooHotTooCold$Morning", "leastFelt", "(II)I"⟩, prog_4_method_7_code, 5, some Jvm.ClassFile.FieldType.int, 2, 2) := rfl
theorem hq_75 : zM[75]? = some (⟨"TooHotTooCold", "house", "(I)I"⟩, prog_1_method_29_code, 2, some Jvm.ClassFile.FieldType.int, 4, 1) := rfl
theorem hq_76 : zM[76]? = some (⟨"TooHotTooCold$Morning", "costOfAll", "(I)I"⟩, prog_4_method_9_code, 4, some Jvm.ClassFile.FieldType.int, 2, 1) := rfl
theorem hq_77 : zM[77]? = some (⟨"TooHotTooCold$Morning", "criersAtAll", "(I)I"⟩, prog_4_method_10_code, 4, some Jvm.ClassFile.FieldType.int, 2, 1) := rfl
theorem hq_78 : zM[78]? = some (⟨"TooHotTooCold$Morning", "loudestBeat", "(I)I"⟩, prog_4_method_12_code, 6, some Jvm.ClassFile.FieldType.int, 2, 1) := rfl
theorem hq_79 : zM[79]? = some (⟨"TooHotTooCold$Morning", "criersIn", "(II)I"⟩, prog_4_method_11_code, 5, some Jvm.ClassFile.FieldType.int, 2, 2) := rfl
theorem hq_80 : zM[80]? = some (⟨"java/lang/Integer", "bitCount", "(I)I"⟩, prog_9_method_49_code, 1, some Jvm.ClassFile.FieldType.int, 7, 1) := rfl
theorem hq_81 : zM[81]? = some (⟨"TooHotTooCold", "pass", "(I)I"⟩, prog_1_method_30_code, 3, some Jvm.ClassFile.FieldType.int, 4, 1) := rfl
theorem hq_82 : zM[82]? = some (⟨"TooHotTooCold", "best", "(II)I"⟩, prog_1_method_31_code, 3, some Jvm.ClassFile.FieldType.int, 4, 2) := rfl
theorem hq_83 : zM[83]? = some (⟨"TooHotTooCold$Household", "become", "(LTooHotTooCold$Household;)V"⟩, prog_2_method_2_code, 2, none, 0, 1) := rfl
theorem hq_84 : zM[84]? = some (⟨"TooHotTooCold", "bestHaste", "(I)I"⟩, prog_1_method_32_code, 4, some Jvm.ClassFile.FieldType.int, 4, 1) := rfl
theorem hq_85 : zM[85]? = some (⟨"TooHotTooCold", "choice", "(II)I"⟩, prog_1_method_33_code, 2, some Jvm.ClassFile.FieldType.int, 4, 2) := rfl
theorem hq_86 : zM[86]? = some (⟨"TooHotTooCold", "choiceOrCost", "(II)I"⟩, prog_1_method_34_code, 2, some Jvm.ClassFile.FieldType.int, 4, 2) := rfl
theorem hq_87 : zM[87]? = some (⟨"TooHotTooCold", "line", "(II)I"⟩, prog_1_method_35_code, 4, some Jvm.ClassFile.FieldType.int, 4, 2) := rfl
theorem hq_88 : zM[88]? = some (⟨"TooHotTooCold", "restsByHaste", "(III)I"⟩, prog_1_method_36_code, 4, some Jvm.ClassFile.FieldType.int, 4, 3) := rfl
theorem hq_89 : zM[89]? = some (⟨"TooHotTooCold", "soon", "(III)I"⟩, prog_1_method_37_code, 7, some Jvm.ClassFile.FieldType.int, 4, 3) := rfl
theorem hq_90 : zM[90]? = some (⟨"TooHotTooCold", "card", "(I)I"⟩, prog_1_method_38_code, 4, some Jvm.ClassFile.FieldType.int, 4, 1) := rfl
theorem hq_91 : zM[91]? = some (⟨"TooHotTooCold", "even", "(III)I"⟩, prog_1_method_39_code, 9, some Jvm.ClassFile.FieldType.int, 4, 3) := rfl
theorem hq_92 : zM[92]? = some (⟨"TooHotTooCold", "areTwo", "(II)Z"⟩, prog_1_method_40_code, 3, some Jvm.ClassFile.FieldType.boolean, 4, 2) := rfl
theorem hq_93 : zM[93]? = some (⟨"TooHotTooCold", "hurts", "(II)I"⟩, prog_1_method_41_code, 4, some Jvm.ClassFile.FieldType.int, 4, 2) := rfl
theorem hq_94 : zM[94]? = some (⟨"TooHotTooCold", "off", "(I)I"⟩, prog_1_method_42_code, 4, some Jvm.ClassFile.FieldType.int, 4, 1) := rfl
theorem hq_95 : zM[95]? = some (⟨"TooHotTooCold", "costWithout", "(I)I"⟩, prog_1_method_43_code, 2, some Jvm.ClassFile.FieldType.int, 4, 1) := rfl
theorem hq_96 : zM[96]? = some (⟨"TooHotTooCold", "stills", "(I)I"⟩, prog_1_method_44_code, 3, some Jvm.ClassFile.FieldType.int, 4, 1) := rfl
theorem hq_97 : zM[97]? = some (⟨"TooHotTooCold", "liveWithStill", "(LTooHotTooCold$Household;I)V"⟩, prog_1_method_24_code, 3, none, 4, 2) := rfl
theorem hq_98 : zM[98]? = some (⟨"TooHotTooCold", "leave", "(II)I"⟩, prog_1_method_45_code, 5, some Jvm.ClassFile.FieldType.int, 4, 2) := rfl
theorem hq_99 : zM[99]? = some (⟨"TooHotTooCold", "judge", "(II)I"⟩, prog_1_method_46_code, 4, some Jvm.ClassFile.FieldType.int, 4, 2) := rfl
theorem hq_100 : zM[100]? = some (⟨"TooHotTooCold", "filmRefusal", "(II)I"⟩, prog_1_method_48_code, 4, some Jvm.ClassFile.FieldType.int, 4, 2) := rfl
theorem hq_101 : zM[101]? = some (⟨"TooHotTooCold", "sheetRefusal", "(I)I"⟩, prog_1_method_47_code, 2, some Jvm.ClassFile.FieldType.int, 4, 1) := rfl
theorem hq_102 : zM[102]? = some (⟨"TooHotTooCold", "isSheet", "(I)Z"⟩, prog_1_method_66_code, 1, some Jvm.ClassFile.FieldType.boolean, 4, 1) := rfl
theorem hq_103 : zM[103]? = some (⟨"TooHotTooCold", "firstOther", "(II)I"⟩, prog_1_method_49_code, 5, some Jvm.ClassFile.FieldType.int, 4, 2) := rfl
theorem hq_104 : zM[104]? = some (⟨"TooHotTooCold", "whose", "(I)I"⟩, prog_1_method_50_code, 5, some Jvm.ClassFile.FieldType.int, 4, 1) := rfl
theorem hq_105 : zM[105]? = some (⟨"TooHotTooCold", "fits", "(III)I"⟩, prog_1_method_52_code, 9, some Jvm.ClassFile.FieldType.int, 4, 3) := rfl
theorem hq_106 : zM[106]? = some (⟨"TooHotTooCold", "bitIfShown", "(III)I"⟩, prog_1_method_51_code, 4, some Jvm.ClassFile.FieldType.int, 4, 3) := rfl
theorem hq_107 : zM[107]? = some (⟨"TooHotTooCold", "kinds", "(III)I"⟩, prog_1_method_53_code, 8, some Jvm.ClassFile.FieldType.int, 4, 3) := rfl
theorem hq_108 : zM[108]? = some (⟨"TooHotTooCold", "laws", "(II)I"⟩, prog_1_method_54_code, 6, some Jvm.ClassFile.FieldType.int, 4, 2) := rfl
theorem hq_109 : zM[109]? = some (⟨"TooHotTooCold", "film", "(III)I"⟩, prog_1_method_55_code, 4, some Jvm.ClassFile.FieldType.int, 4, 3) := rfl
theorem hq_110 : zM[110]? = some (⟨"TooHotTooCold", "criers", "(I)I"⟩, prog_1_method_56_code, 7, some Jvm.ClassFile.FieldType.int, 4, 1) := rfl
theorem hq_111 : zM[111]? = some (⟨"TooHotTooCold", "heard", "(II)I"⟩, prog_1_method_57_code, 7, some Jvm.ClassFile.FieldType.int, 4, 2) := rfl
theorem hq_112 : zM[112]? = some (⟨"TooHotTooCold", "beatsTold", "(I)I"⟩, prog_1_method_58_code, 5, some Jvm.ClassFile.FieldType.int, 4, 1) := rfl
theorem hq_113 : zM[113]? = some (⟨"TooHotTooCold", "drawn", "(II)I"⟩, prog_1_method_59_code, 3, some Jvm.ClassFile.FieldType.int, 4, 2) := rfl
theorem hq_114 : zM[114]? = some (⟨"TooHotTooCold", "liveDrawn", "(I)V"⟩, prog_1_method_60_code, 5, none, 4, 1) := rfl
theorem hq_115 : zM[115]? = some (⟨"TooHotTooCold", "odds", "(IIII)J"⟩, prog_1_method_61_code, 7, some Jvm.ClassFile.FieldType.long, 4, 4) := rfl
theorem hq_116 : zM[116]? = some (⟨"TooHotTooCold", "allRest", "(I)Z"⟩, prog_1_method_62_code, 3, some Jvm.ClassFile.FieldType.boolean, 4, 1) := rfl
theorem hq_117 : zM[117]? = some (⟨"TooHotTooCold", "commonDivisor", "(II)I"⟩, prog_1_method_63_code, 3, some Jvm.ClassFile.FieldType.int, 4, 2) := rfl
theorem hq_118 : zM[118]? = some (⟨"TooHotTooCold", "image", "()I"⟩, prog_1_method_64_code, 1, some Jvm.ClassFile.FieldType.int, 4, 0) := rfl
theorem hq_119 : zM[119]? = some (⟨"TooHotTooCold", "back", "()I"⟩, prog_1_method_65_code, 1, some Jvm.ClassFile.FieldType.int, 4, 0) := rfl
theorem hq_120 : zM[120]? = some (⟨"TooHotTooCold", "sheet", "(III)I"⟩, prog_1_method_67_code, 4, some Jvm.ClassFile.FieldType.int, 4, 3) := rfl
theorem hq_121 : zM[121]? = some (⟨"TooHotTooCold", "cell", "(III)I"⟩, prog_1_method_68_code, 4, some Jvm.ClassFile.FieldType.int, 4, 3) := rfl
theorem hq_122 : zM[122]? = some (⟨"TooHotTooCold", "asOfSort", "(II)I"⟩, prog_1_method_69_code, 2, some Jvm.ClassFile.FieldType.int, 4, 2) := rfl
theorem hq_123 : zM[123]? = some (⟨"TooHotTooCold", "copy", "(IIIII)I"⟩, prog_1_method_70_code, 6, some Jvm.ClassFile.FieldType.int, 4, 5) := rfl
theorem hq_124 : zM[124]? = some (⟨"TooHotTooCold", "isStretch", "(III)Z"⟩, prog_1_method_71_code, 4, some Jvm.ClassFile.FieldType.boolean, 4, 3) := rfl
theorem hq_125 : zM[125]? = some (⟨"TooHotTooCold", "showersBy", "(IIII)I"⟩, prog_1_method_72_code, 8, some Jvm.ClassFile.FieldType.int, 4, 4) := rfl
theorem hq_126 : zM[126]? = some (⟨"TooHotTooCold", "taken", "(II)I"⟩, prog_1_method_73_code, 5, some Jvm.ClassFile.FieldType.int, 4, 2) := rfl
theorem hq_127 : zM[127]? = some (⟨"TooHotTooCold", "isOfKind", "(II)Z"⟩, prog_1_method_22_code, 4, some Jvm.ClassFile.FieldType.boolean, 4, 2) := rfl
theorem hq_128 : zM[128]? = some (⟨"TooHotTooColdModel", "<init>", "()V"⟩, prog_7_method_1_code, 2, none, 5, 0) := rfl
theorem hq_129 : zM[129]? = some (⟨"TooHotTooColdModel", "text", "()I"⟩, prog_7_method_23_code, 3, some Jvm.ClassFile.FieldType.int, 5, 0) := rfl
theorem hq_130 : zM[130]? = some (⟨"TooHotTooColdModel", "next", "()V"⟩, prog_7_method_14_code, 3, none, 5, 0) := rfl
theorem hq_131 : zM[131]? = some (⟨"TooHotTooColdModel", "in", "(III)Z"⟩, prog_7_method_3_code, 3, some Jvm.ClassFile.FieldType.boolean, 5, 3) := rfl
theorem hq_132 : zM[132]? = some (⟨"TooHotTooColdModel", "wordFrom", "(II)I"⟩, prog_7_method_13_code, 6, some Jvm.ClassFile.FieldType.int, 5, 2) := rfl
theorem hq_133 : zM[133]? = some (⟨"TooHotTooColdModel", "eRead", "()Z"⟩, prog_7_method_22_code, 4, some Jvm.ClassFile.FieldType.boolean, 5, 0) := rfl
theorem hq_134 : zM[134]? = some (⟨"TooHotTooColdModel", "puts", "(I)V"⟩, prog_7_method_16_code, 2, none, 5, 1) := rfl
theorem hq_135 : zM[135]? = some (⟨"TooHotTooColdModel", "unwinds", "(I)V"⟩, prog_7_method_17_code, 3, none, 5, 1) := rfl
theorem hq_136 : zM[136]? = some (⟨"TooHotTooColdModel", "rank", "(I)I"⟩, prog_7_method_15_code, 1, some Jvm.ClassFile.FieldType.int, 5, 1) := rfl
theorem hq_137 : zM[137]? = some (⟨"TooHotTooColdModel", "opensOne", "(I)Z"⟩, prog_7_method_19_code, 2, some Jvm.ClassFile.FieldType.boolean, 5, 1) := rfl
theorem hq_138 : zM[138]? = some (⟨"TooHotTooColdModel", "holds", "(I)V"⟩, prog_7_method_18_code, 2, none, 5, 1) := rfl
theorem hq_139 : zM[139]? = some (⟨"TooHotTooColdModel", "signOf", "()I"⟩, prog_7_method_21_code, 1, some Jvm.ClassFile.FieldType.int, 5, 0) := rfl
theorem hq_140 : zM[140]? = some (⟨"TooHotTooColdModel", "between", "(I)Z"⟩, prog_7_method_20_code, 2, some Jvm.ClassFile.FieldType.boolean, 5, 1) := rfl
theorem hq_141 : zM[141]? = some (⟨"TooHotTooColdModel", "count", "(I)I"⟩, prog_7_method_10_code, 2, some Jvm.ClassFile.FieldType.int, 5, 1) := rfl
theorem hq_142 : zM[142]? = some (⟨"TooHotTooColdModel", "onSet", "()I"⟩, prog_7_method_9_code, 3, some Jvm.ClassFile.FieldType.int, 5, 0) := rfl
theorem hq_143 : zM[143]? = some (⟨"TooHotTooColdModel", "isOn", "(I)Z"⟩, prog_7_method_8_code, 2, some Jvm.ClassFile.FieldType.boolean, 5, 1) := rfl
theorem hq_144 : zM[144]? = some (⟨"TooHotTooColdModel", "feed", "(IIIIII)I"⟩, prog_7_method_12_code, 8, some Jvm.ClassFile.FieldType.int, 5, 6) := rfl
theorem hq_145 : zM[145]? = some (⟨"TooHotTooColdModel", "isByte", "(I)Z"⟩, prog_7_method_11_code, 1, some Jvm.ClassFile.FieldType.boolean, 5, 1) := rfl
theorem hq_146 : zM[146]? = some (⟨"TooHotTooColdModel", "force", "(I)I"⟩, prog_7_method_26_code, 3, some Jvm.ClassFile.FieldType.int, 5, 1) := rfl
theorem hq_147 : zM[147]? = some (⟨"TooHotTooColdModel", "asks", "(IIIII)I"⟩, prog_7_method_28_code, 7, some Jvm.ClassFile.FieldType.int, 5, 5) := rfl
theorem hq_148 : zM[148]? = some (⟨"TooHotTooColdModel", "isShower", "(I)Z"⟩, prog_7_method_6_code, 2, some Jvm.ClassFile.FieldType.boolean, 5, 1) := rfl
theorem hq_149 : zM[149]? = some (⟨"TooHotTooColdModel", "asksOf", "(IIIIII)I"⟩, prog_7_method_27_code, 8, some Jvm.ClassFile.FieldType.int, 5, 6) := rfl
theorem hq_150 : zM[150]? = some (⟨"TooHotTooColdModel", "says", "(I)I"⟩, prog_7_method_25_code, 5, some Jvm.ClassFile.FieldType.int, 5, 1) := rfl
theorem hq_151 : zM[151]? = some (⟨"TooHotTooColdModel", "two", "(III)I"⟩, prog_7_method_24_code, 3, some Jvm.ClassFile.FieldType.int, 5, 3) := rfl
theorem hq_152 : zM[152]? = some (⟨"TooHotTooColdModel", "within", "(III)I"⟩, prog_7_method_4_code, 3, some Jvm.ClassFile.FieldType.int, 5, 3) := rfl
theorem hq_153 : zM[153]? = some (⟨"TooHotTooColdModel", "shower", "(III)I"⟩, prog_7_method_29_code, 4, some Jvm.ClassFile.FieldType.int, 5, 3) := rfl
theorem hq_154 : zM[154]? = some (⟨"TooHotTooColdModel", "set", "(III)I"⟩, prog_7_method_31_code, 5, some Jvm.ClassFile.FieldType.int, 5, 3) := rfl
theorem hq_155 : zM[155]? = some (⟨"TooHotTooColdModel", "most", "(I)I"⟩, prog_7_method_30_code, 1, some Jvm.ClassFile.FieldType.int, 5, 1) := rfl
theorem hq_156 : zM[156]? = some (⟨"TooHotTooColdModel", "told", "(II)I"⟩, prog_7_method_33_code, 3, some Jvm.ClassFile.FieldType.int, 5, 2) := rfl
theorem hq_157 : zM[157]? = some (⟨"TooHotTooColdModel", "scaldsOf", "(I)I"⟩, prog_7_method_32_code, 2, some Jvm.ClassFile.FieldType.int, 5, 1) := rfl
theorem hq_158 : zM[158]? = some (⟨"TooHotTooColdModel", "at", "(III)I"⟩, prog_7_method_42_code, 5, some Jvm.ClassFile.FieldType.int, 5, 3) := rfl
theorem hq_159 : zM[159]? = some (⟨"TooHotTooColdModel", "runs", "(I)V"⟩, prog_7_method_38_code, 3, none, 5, 1) := rfl
theorem hq_160 : zM[160]? = some (⟨"TooHotTooColdModel", "beats", "(I)V"⟩, prog_7_method_37_code, 6, none, 5, 1) := rfl
theorem hq_161 : zM[161]? = some (⟨"TooHotTooColdModel", "feltBy", "(II)I"⟩, prog_7_method_35_code, 9, some Jvm.ClassFile.FieldType.int, 5, 2) := rfl
theorem hq_162 : zM[162]? = some (⟨"TooHotTooColdModel", "higher", "(II)I"⟩, prog_7_method_34_code, 5, some Jvm.ClassFile.FieldType.int, 5, 2) := rfl
theorem hq_163 : zM[163]? = some (⟨"TooHotTooColdModel", "turnedBy", "(II)I"⟩, prog_7_method_36_code, 6, some Jvm.ClassFile.FieldType.int, 5, 2) := rfl
theorem hq_164 : zM[164]? = some (⟨"TooHotTooColdModel", "far", "(I)I"⟩, prog_7_method_5_code, 1, some Jvm.ClassFile.FieldType.int, 5, 1) := rfl
theorem hq_165 : zM[165]? = some (⟨"TooHotTooColdModel", "day", "(II)I"⟩, prog_7_method_44_code, 3, some Jvm.ClassFile.FieldType.int, 5, 2) := rfl
theorem hq_166 : zM[166]? = some (⟨"TooHotTooColdModel", "mostFelt", "(IIZ)I"⟩, prog_7_method_43_code, 7, some Jvm.ClassFile.FieldType.int, 5, 3) := rfl
theorem hq_167 : zM[167]? = some (⟨"TooHotTooColdModel", "rests", "(II)I"⟩, prog_7_method_47_code, 3, some Jvm.ClassFile.FieldType.int, 5, 2) := rfl
theorem hq_168 : zM[168]? = some (⟨"TooHotTooColdModel", "isNear", "(I)Z"⟩, prog_7_method_7_code, 1, some Jvm.ClassFile.FieldType.boolean, 5, 1) := rfl
theorem hq_169 : zM[169]? = some (⟨"TooHotTooColdModel", "restsNow", "(II)I"⟩, prog_7_method_46_code, 3, some Jvm.ClassFile.FieldType.int, 5, 2) := rfl
theorem hq_170 : zM[170]? = some (⟨"TooHotTooColdModel", "restsBy", "(II)I"⟩, prog_7_method_45_code, 5, some Jvm.ClassFile.FieldType.int, 5, 2) := rfl
theorem hq_171 : zM[171]? = some (⟨"TooHotTooColdModel", "sways", "(I)I"⟩, prog_7_method_48_code, 2, some Jvm.ClassFile.FieldType.int, 5, 1) := rfl
theorem hq_172 : zM[172]? = some (⟨"TooHotTooColdModel", "house", "(I)I"⟩, prog_7_method_51_code, 2, some Jvm.ClassFile.FieldType.int, 5, 1) := rfl
theorem hq_173 : zM[173]? = some (⟨"TooHotTooColdModel", "costNow", "()I"⟩, prog_7_method_40_code, 3, some Jvm.ClassFile.FieldType.int, 5, 0) := rfl
theorem hq_174 : zM[174]? = some (⟨"TooHotTooColdModel", "criersNow", "()I"⟩, prog_7_method_49_code, 3, some Jvm.ClassFile.FieldType.int, 5, 0) := rfl
theorem hq_175 : zM[175]? = some (⟨"TooHotTooColdModel", "loudest", "()I"⟩, prog_7_method_50_code, 6, some Jvm.ClassFile.FieldType.int, 5, 0) := rfl
theorem hq_176 : zM[176]? = some (⟨"TooHotTooColdModel", "pass", "(I)I"⟩, prog_7_method_52_code, 3, some Jvm.ClassFile.FieldType.int, 5, 1) := rfl
theorem hq_177 : zM[177]? = some (⟨"TooHotTooColdModel", "best", "(II)I"⟩, prog_7_method_54_code, 3, some Jvm.ClassFile.FieldType.int, 5, 2) := rfl
theorem hq_178 : zM[178]? = some (⟨"TooHotTooColdModel", "findsBest", "(I)V"⟩, prog_7_method_53_code, 6, none, 5, 1) := rfl
theorem hq_179 : zM[179]? = some (⟨"TooHotTooColdModel", "costOf", "(I)I"⟩, prog_7_method_39_code, 2, some Jvm.ClassFile.FieldType.int, 5, 1) := rfl
theorem hq_180 : zM[180]? = some (⟨"TooHotTooColdModel", "line", "(II)I"⟩, prog_7_method_56_code, 5, some Jvm.ClassFile.FieldType.int, 5, 2) := rfl
theorem hq_181 : zM[181]? = some (⟨"TooHotTooColdModel", "restsHasty", "(III)I"⟩, prog_7_method_55_code, 6, some Jvm.ClassFile.FieldType.int, 5, 3) := rfl
theorem hq_182 : zM[182]? = some (⟨"TooHotTooColdModel", "soon", "(III)I"⟩, prog_7_method_57_code, 9, some Jvm.ClassFile.FieldType.int, 5, 3) := rfl
theorem hq_183 : zM[183]? = some (⟨"TooHotTooColdModel", "card", "(I)I"⟩, prog_7_method_58_code, 7, some Jvm.ClassFile.FieldType.int, 5, 1) := rfl
theorem hq_184 : zM[184]? = some (⟨"TooHotTooColdModel", "costOfAll", "()I"⟩, prog_7_method_41_code, 1, some Jvm.ClassFile.FieldType.int, 5, 0) := rfl
theorem hq_185 : zM[185]? = some (⟨"TooHotTooColdModel", "even", "(III)I"⟩, prog_7_method_60_code, 11, some Jvm.ClassFile.FieldType.int, 5, 3) := rfl
theorem hq_186 : zM[186]? = some (⟨"TooHotTooColdModel", "areTwo", "(II)Z"⟩, prog_7_method_59_code, 3, some Jvm.ClassFile.FieldType.boolean, 5, 2) := rfl
theorem hq_187 : zM[187]? = some (⟨"TooHotTooColdModel", "hurts", "(II)I"⟩, prog_7_method_61_code, 6, some Jvm.ClassFile.FieldType.int, 5, 2) := rfl
theorem hq_188 : zM[188]? = some (⟨"TooHotTooColdModel", "off", "(I)I"⟩, prog_7_method_62_code, 7, some Jvm.ClassFile.FieldType.int, 5, 1) := rfl
theorem hq_189 : zM[189]? = some (⟨"TooHotTooColdModel", "stills", "(I)I"⟩, prog_7_method_63_code, 4, some Jvm.ClassFile.FieldType.int, 5, 1) := rfl
theorem hq_190 : zM[190]? = some (⟨"TooHotTooColdModel", "leave", "(II)I"⟩, prog_7_method_64_code, 9, some Jvm.ClassFile.FieldType.int, 5, 2) := rfl
theorem hq_191 : zM[191]? = some (⟨"TooHotTooColdModel", "judge", "(II)I"⟩, prog_7_method_68_code, 4, some Jvm.ClassFile.FieldType.int, 5, 2) := rfl
theorem hq_192 : zM[192]? = some (⟨"TooHotTooColdModel", "toldWrong", "(II)I"⟩, prog_7_method_66_code, 4, some Jvm.ClassFile.FieldType.int, 5, 2) := rfl
theorem hq_193 : zM[193]? = some (⟨"TooHotTooColdModel", "sheetWrong", "(I)I"⟩, prog_7_method_65_code, 2, some Jvm.ClassFile.FieldType.int, 5, 1) := rfl
theorem hq_194 : zM[194]? = some (⟨"TooHotTooColdModel", "unlike", "(II)I"⟩, prog_7_method_67_code, 4, some Jvm.ClassFile.FieldType.int, 5, 2) := rfl
theorem hq_195 : zM[195]? = some (⟨"TooHotTooColdModel", "whose", "(I)I"⟩, prog_7_method_69_code, 5, some Jvm.ClassFile.FieldType.int, 5, 1) := rfl
theorem hq_196 : zM[196]? = some (⟨"TooHotTooColdModel", "fits", "(III)I"⟩, prog_7_method_70_code, 9, some Jvm.ClassFile.FieldType.int, 5, 3) := rfl
theorem hq_197 : zM[197]? = some (⟨"TooHotTooColdModel", "kinds", "(III)I"⟩, prog_7_method_71_code, 9, some Jvm.ClassFile.FieldType.int, 5, 3) := rfl
theorem hq_198 : zM[198]? = some (⟨"TooHotTooColdModel", "laws", "(II)I"⟩, prog_7_method_72_code, 7, some Jvm.ClassFile.FieldType.int, 5, 2) := rfl
theorem hq_199 : zM[199]? = some (⟨"TooHotTooColdModel", "film", "(III)I"⟩, prog_7_method_73_code, 5, some Jvm.ClassFile.FieldType.int, 5, 3) := rfl
theorem hq_200 : zM[200]? = some (⟨"TooHotTooColdModel", "criers", "(I)I"⟩, prog_7_method_74_code, 8, some Jvm.ClassFile.FieldType.int, 5, 1) := rfl
theorem hq_201 : zM[201]? = some (⟨"TooHotTooColdModel", "heard", "(II)I"⟩, prog_7_method_75_code, 8, some Jvm.ClassFile.FieldType.int, 5, 2) := rfl
theorem hq_202 : zM[202]? = some (⟨"TooHotTooColdModel", "drawn", "(II)I"⟩, prog_7_method_77_code, 3, some Jvm.ClassFile.FieldType.int, 5, 2) := rfl
theorem hq_203 : zM[203]? = some (⟨"TooHotTooColdModel", "runsBy", "(I)V"⟩, prog_7_method_76_code, 5, none, 5, 1) := rfl
theorem hq_204 : zM[204]? = some (⟨"TooHotTooColdModel", "odds", "(IIII)J"⟩, prog_7_method_80_code, 8, some Jvm.ClassFile.FieldType.long, 5, 4) := rfl
theorem hq_205 : zM[205]? = some (⟨"TooHotTooColdModel", "allRest", "(I)Z"⟩, prog_7_method_78_code, 3, some Jvm.ClassFile.FieldType.boolean, 5, 1) := rfl
theorem hq_206 : zM[206]? = some (⟨"TooHotTooColdModel", "lowest", "(JJI)J"⟩, prog_7_method_79_code, 11, some Jvm.ClassFile.FieldType.long, 5, 3) := rfl
theorem hq_207 : zM[207]? = some (⟨"TooHotTooColdModel", "image", "()I"⟩, prog_7_method_81_code, 2, some Jvm.ClassFile.FieldType.int, 5, 0) := rfl
theorem hq_208 : zM[208]? = some (⟨"TooHotTooColdModel", "back", "()I"⟩, prog_7_method_82_code, 2, some Jvm.ClassFile.FieldType.int, 5, 0) := rfl
theorem hq_209 : zM[209]? = some (⟨"TooHotTooColdModel", "sheet", "(III)I"⟩, prog_7_method_83_code, 5, some Jvm.ClassFile.FieldType.int, 5, 3) := rfl
theorem hq_210 : zM[210]? = some (⟨"TooHotTooColdModel", "cell", "(III)I"⟩, prog_7_method_84_code, 4, some Jvm.ClassFile.FieldType.int, 5, 3) := rfl
theorem hq_211 : zM[211]? = some (⟨"TooHotTooColdModel", "copy", "(IIIII)I"⟩, prog_7_method_85_code, 10, some Jvm.ClassFile.FieldType.int, 5, 5) := rfl
theorem hq_212 : zM[212]? = some (⟨"TooHotTooColdModel", "showersBy", "(IIII)I"⟩, prog_7_method_86_code, 9, some Jvm.ClassFile.FieldType.int, 5, 4) := rfl
theorem hq_213 : zM[213]? = some (⟨"TooHotTooColdModel", "taken", "(II)I"⟩, prog_7_method_88_code, 3, some Jvm.ClassFile.FieldType.int, 5, 2) := rfl
theorem hq_214 : zM[214]? = some (⟨"TooHotTooColdModel", "isUnder", "(II)Z"⟩, prog_7_method_87_code, 2, some Jvm.ClassFile.FieldType.boolean, 5, 2) := rfl
