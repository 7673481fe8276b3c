def y_Arit_holds : MethodName := ⟨"StepMachine$Arithmetic", "holds", "(III)Z"⟩
abbrev b_Arit_holds : ByteArray := prog_2_method_2_code
def y_Arit_result : MethodName := ⟨"StepMachine$Arithmetic", "result", "(III)I"⟩
abbrev b_Arit_result : ByteArray := prog_2_method_3_code
def y_Arit_product : MethodName := ⟨"StepMachine$Arithmetic", "product", "(III)I"⟩
abbrev b_Arit_product : ByteArray := prog_2_method_4_code
def y_Arit_quotient : MethodName := ⟨"StepMachine$Arithmetic", "quotient", "(III)I"⟩
abbrev b_Arit_quotient : ByteArray := prog_2_method_5_code
def y_Arit_isBelow : MethodName := ⟨"StepMachine$Arithmetic", "isBelow", "(II)Z"⟩
abbrev b_Arit_isBelow : ByteArray := prog_2_method_6_code
def y_Core_init : MethodName := ⟨"StepMachine$Core", "<init>", "(LStepMachine$Memory;LStepMachine$Guard;LStepMachine$Ports;LStepMachine$Trail;)V"⟩
abbrev b_Core_init : ByteArray := prog_3_method_1_code
def y_Core_putPc : MethodName := ⟨"StepMachine$Core", "putPc", "(I)Z"⟩
abbrev b_Core_putPc : ByteArray := prog_3_method_2_code
def y_Core_register : MethodName := ⟨"StepMachine$Core", "register", "(I)I"⟩
abbrev b_Core_register : ByteArray := prog_3_method_3_code
def y_Core_putRegister : MethodName := ⟨"StepMachine$Core", "putRegister", "(II)Z"⟩
abbrev b_Core_putRegister : ByteArray := prog_3_method_4_code
def y_Core_become : MethodName := ⟨"StepMachine$Core", "become", "(II)V"⟩
abbrev b_Core_become : ByteArray := prog_3_method_5_code
def y_Core_hasEnded : MethodName := ⟨"StepMachine$Core", "hasEnded", "()Z"⟩
abbrev b_Core_hasEnded : ByteArray := prog_3_method_6_code
def y_Core_beginsUnit : MethodName := ⟨"StepMachine$Core", "beginsUnit", "()Z"⟩
abbrev b_Core_beginsUnit : ByteArray := prog_3_method_7_code
def y_Core_advance : MethodName := ⟨"StepMachine$Core", "advance", "()V"⟩
abbrev b_Core_advance : ByteArray := prog_3_method_8_code
def y_Core_undo : MethodName := ⟨"StepMachine$Core", "undo", "(LStepMachine$Kept;)V"⟩
abbrev b_Core_undo : ByteArray := prog_3_method_9_code
def y_Core_remember : MethodName := ⟨"StepMachine$Core", "remember", "(LStepMachine$Kept;)V"⟩
abbrev b_Core_remember : ByteArray := prog_3_method_10_code
def y_Core_fetch : MethodName := ⟨"StepMachine$Core", "fetch", "()Z"⟩
abbrev b_Core_fetch : ByteArray := prog_3_method_11_code
def y_Core_mayExecuteHalf : MethodName := ⟨"StepMachine$Core", "mayExecuteHalf", "(I)Z"⟩
abbrev b_Core_mayExecuteHalf : ByteArray := prog_3_method_12_code
def y_Core_failsInMemory : MethodName := ⟨"StepMachine$Core", "failsInMemory", "()Z"⟩
abbrev b_Core_failsInMemory : ByteArray := prog_3_method_13_code
def y_Core_address : MethodName := ⟨"StepMachine$Core", "address", "()I"⟩
abbrev b_Core_address : ByteArray := prog_3_method_14_code
def y_Core_perform : MethodName := ⟨"StepMachine$Core", "perform", "()V"⟩
abbrev b_Core_perform : ByteArray := prog_3_method_15_code
def y_Core_change : MethodName := ⟨"StepMachine$Core", "change", "()V"⟩
abbrev b_Core_change : ByteArray := prog_3_method_16_code
def y_Core_loaded : MethodName := ⟨"StepMachine$Core", "loaded", "()I"⟩
abbrev b_Core_loaded : ByteArray := prog_3_method_17_code
def y_Core_goOn : MethodName := ⟨"StepMachine$Core", "goOn", "()V"⟩
abbrev b_Core_goOn : ByteArray := prog_3_method_18_code
def y_Core_link : MethodName := ⟨"StepMachine$Core", "link", "(I)V"⟩
abbrev b_Core_link : ByteArray := prog_3_method_19_code
def y_Core_branch : MethodName := ⟨"StepMachine$Core", "branch", "()V"⟩
abbrev b_Core_branch : ByteArray := prog_3_method_20_code
def y_Core_jump : MethodName := ⟨"StepMachine$Core", "jump", "(I)V"⟩
abbrev b_Core_jump : ByteArray := prog_3_method_21_code
def y_Core_serve : MethodName := ⟨"StepMachine$Core", "serve", "()V"⟩
abbrev b_Core_serve : ByteArray := prog_3_method_22_code
def y_Core_answer : MethodName := ⟨"StepMachine$Core", "answer", "(I)V"⟩
abbrev b_Core_answer : ByteArray := prog_3_method_23_code
def y_Guar_init : MethodName := ⟨"StepMachine$Guard", "<init>", "()V"⟩
abbrev b_Guar_init : ByteArray := prog_4_method_1_code
def y_Guar_putSegment : MethodName := ⟨"StepMachine$Guard", "putSegment", "(IIII)Z"⟩
abbrev b_Guar_putSegment : ByteArray := prog_4_method_2_code
def y_Guar_rightsAt : MethodName := ⟨"StepMachine$Guard", "rightsAt", "(I)I"⟩
abbrev b_Guar_rightsAt : ByteArray := prog_4_method_3_code
def y_Guar_firstWithout : MethodName := ⟨"StepMachine$Guard", "firstWithout", "(III)I"⟩
abbrev b_Guar_firstWithout : ByteArray := prog_4_method_4_code
def y_Guar_putMark : MethodName := ⟨"StepMachine$Guard", "putMark", "(IZ)Z"⟩
abbrev b_Guar_putMark : ByteArray := prog_4_method_5_code
def y_Guar_isMarked : MethodName := ⟨"StepMachine$Guard", "isMarked", "(I)Z"⟩
abbrev b_Guar_isMarked : ByteArray := prog_4_method_6_code
def y_Guar_mayBeMarked : MethodName := ⟨"StepMachine$Guard", "mayBeMarked", "(I)Z"⟩
abbrev b_Guar_mayBeMarked : ByteArray := prog_4_method_7_code
def y_Halt_init : MethodName := ⟨"StepMachine$Halts", "<init>", "()V"⟩
abbrev b_Halt_init : ByteArray := prog_5_method_1_code
def y_Halt_has : MethodName := ⟨"StepMachine$Halts", "has", "(I)Z"⟩
abbrev b_Halt_has : ByteArray := prog_5_method_2_code
def y_Halt_add : MethodName := ⟨"StepMachine$Halts", "add", "(I)Z"⟩
abbrev b_Halt_add : ByteArray := prog_5_method_3_code
def y_Halt_remove : MethodName := ⟨"StepMachine$Halts", "remove", "(I)Z"⟩
abbrev b_Halt_remove : ByteArray := prog_5_method_4_code
def y_Halt_find : MethodName := ⟨"StepMachine$Halts", "find", "(I)I"⟩
abbrev b_Halt_find : ByteArray := prog_5_method_5_code
def y_Kept_init : MethodName := ⟨"StepMachine$Kept", "<init>", "()V"⟩
abbrev b_Kept_init : ByteArray := prog_6_method_1_code
def y_Long_read : MethodName := ⟨"StepMachine$LongForm", "read", "(ILStepMachine$Word;)V"⟩
abbrev b_Long_read : ByteArray := prog_7_method_2_code
def y_Long_kindIn : MethodName := ⟨"StepMachine$LongForm", "kindIn", "([II)I"⟩
abbrev b_Long_kindIn : ByteArray := prog_7_method_3_code
def y_Long_kindOfPair : MethodName := ⟨"StepMachine$LongForm", "kindOfPair", "(II)I"⟩
abbrev b_Long_kindOfPair : ByteArray := prog_7_method_4_code
def y_Long_kindOfWhole : MethodName := ⟨"StepMachine$LongForm", "kindOfWhole", "(I)I"⟩
abbrev b_Long_kindOfWhole : ByteArray := prog_7_method_5_code
def y_Long_readImmediate : MethodName := ⟨"StepMachine$LongForm", "readImmediate", "(ILStepMachine$Word;)V"⟩
abbrev b_Long_readImmediate : ByteArray := prog_7_method_6_code
def y_Long_kindOfShift : MethodName := ⟨"StepMachine$LongForm", "kindOfShift", "(II)I"⟩
abbrev b_Long_kindOfShift : ByteArray := prog_7_method_7_code
def y_Long_immediateOfJump : MethodName := ⟨"StepMachine$LongForm", "immediateOfJump", "(I)I"⟩
abbrev b_Long_immediateOfJump : ByteArray := prog_7_method_8_code
def y_Long_immediateOfBranch : MethodName := ⟨"StepMachine$LongForm", "immediateOfBranch", "(I)I"⟩
abbrev b_Long_immediateOfBranch : ByteArray := prog_7_method_9_code
def y_Long_immediateOfStore : MethodName := ⟨"StepMachine$LongForm", "immediateOfStore", "(I)I"⟩
abbrev b_Long_immediateOfStore : ByteArray := prog_7_method_10_code
def y_Memo_init : MethodName := ⟨"StepMachine$Memory", "<init>", "()V"⟩
abbrev b_Memo_init : ByteArray := prog_8_method_1_code
def y_Memo_has : MethodName := ⟨"StepMachine$Memory", "has", "(I)Z"⟩
abbrev b_Memo_has : ByteArray := prog_8_method_2_code
def y_Memo_number : MethodName := ⟨"StepMachine$Memory", "number", "(II)I"⟩
abbrev b_Memo_number : ByteArray := prog_8_method_3_code
def y_Memo_putNumber : MethodName := ⟨"StepMachine$Memory", "putNumber", "(III)V"⟩
abbrev b_Memo_putNumber : ByteArray := prog_8_method_4_code
def y_Memo_cellOf : MethodName := ⟨"StepMachine$Memory", "cellOf", "(I)I"⟩
abbrev b_Memo_cellOf : ByteArray := prog_8_method_5_code
def y_Memo_putCell : MethodName := ⟨"StepMachine$Memory", "putCell", "(II)V"⟩
abbrev b_Memo_putCell : ByteArray := prog_8_method_6_code
def y_Memo_shiftOf : MethodName := ⟨"StepMachine$Memory", "shiftOf", "(I)I"⟩
abbrev b_Memo_shiftOf : ByteArray := prog_8_method_7_code
def y_Memo_maskOf : MethodName := ⟨"StepMachine$Memory", "maskOf", "(I)I"⟩
abbrev b_Memo_maskOf : ByteArray := prog_8_method_8_code
def y_Port_init : MethodName := ⟨"StepMachine$Ports", "<init>", "()V"⟩
abbrev b_Port_init : ByteArray := prog_9_method_1_code
def y_Port_hasRoomIn : MethodName := ⟨"StepMachine$Ports", "hasRoomIn", "(I)Z"⟩
abbrev b_Port_hasRoomIn : ByteArray := prog_9_method_2_code
def y_Port_give : MethodName := ⟨"StepMachine$Ports", "give", "(I)V"⟩
abbrev b_Port_give : ByteArray := prog_9_method_3_code
def y_Port_take : MethodName := ⟨"StepMachine$Ports", "take", "()I"⟩
abbrev b_Port_take : ByteArray := prog_9_method_4_code
def y_Port_put : MethodName := ⟨"StepMachine$Ports", "put", "(I)I"⟩
abbrev b_Port_put : ByteArray := prog_9_method_5_code
def y_Port_outputAt : MethodName := ⟨"StepMachine$Ports", "outputAt", "(I)I"⟩
abbrev b_Port_outputAt : ByteArray := prog_9_method_6_code
def y_Shor_read : MethodName := ⟨"StepMachine$ShortForm", "read", "(ILStepMachine$Word;)V"⟩
abbrev b_Shor_read : ByteArray := prog_10_method_2_code
def y_Shor_readFirst : MethodName := ⟨"StepMachine$ShortForm", "readFirst", "(ILStepMachine$Word;)V"⟩
abbrev b_Shor_readFirst : ByteArray := prog_10_method_3_code
def y_Shor_readStackAddress : MethodName := ⟨"StepMachine$ShortForm", "readStackAddress", "(IILStepMachine$Word;)V"⟩
abbrev b_Shor_readStackAddress : ByteArray := prog_10_method_4_code
def y_Shor_readSecond : MethodName := ⟨"StepMachine$ShortForm", "readSecond", "(ILStepMachine$Word;)V"⟩
abbrev b_Shor_readSecond : ByteArray := prog_10_method_5_code
def y_Shor_readAddition : MethodName := ⟨"StepMachine$ShortForm", "readAddition", "(IIILStepMachine$Word;)V"⟩
abbrev b_Shor_readAddition : ByteArray := prog_10_method_6_code
def y_Shor_readUpper : MethodName := ⟨"StepMachine$ShortForm", "readUpper", "(IIILStepMachine$Word;)V"⟩
abbrev b_Shor_readUpper : ByteArray := prog_10_method_7_code
def y_Shor_readNearPair : MethodName := ⟨"StepMachine$ShortForm", "readNearPair", "(IILStepMachine$Word;)V"⟩
abbrev b_Shor_readNearPair : ByteArray := prog_10_method_8_code
def y_Shor_kindOfShift : MethodName := ⟨"StepMachine$ShortForm", "kindOfShift", "(IZI)I"⟩
abbrev b_Shor_kindOfShift : ByteArray := prog_10_method_9_code
def y_Shor_kindOfPair : MethodName := ⟨"StepMachine$ShortForm", "kindOfPair", "(IZ)I"⟩
abbrev b_Shor_kindOfPair : ByteArray := prog_10_method_10_code
def y_Shor_readThird : MethodName := ⟨"StepMachine$ShortForm", "readThird", "(ILStepMachine$Word;)V"⟩
abbrev b_Shor_readThird : ByteArray := prog_10_method_11_code
def y_Shor_readStackLoad : MethodName := ⟨"StepMachine$ShortForm", "readStackLoad", "(IILStepMachine$Word;)V"⟩
abbrev b_Shor_readStackLoad : ByteArray := prog_10_method_12_code
def y_Shor_shiftUp : MethodName := ⟨"StepMachine$ShortForm", "shiftUp", "(II)I"⟩
abbrev b_Shor_shiftUp : ByteArray := prog_10_method_13_code
def y_Shor_readPair : MethodName := ⟨"StepMachine$ShortForm", "readPair", "(IIILStepMachine$Word;)V"⟩
abbrev b_Shor_readPair : ByteArray := prog_10_method_14_code
def y_Shor_sixBits : MethodName := ⟨"StepMachine$ShortForm", "sixBits", "(I)I"⟩
abbrev b_Shor_sixBits : ByteArray := prog_10_method_15_code
def y_Shor_immediateOfJump : MethodName := ⟨"StepMachine$ShortForm", "immediateOfJump", "(I)I"⟩
abbrev b_Shor_immediateOfJump : ByteArray := prog_10_method_16_code
def y_Shor_immediateOfBranch : MethodName := ⟨"StepMachine$ShortForm", "immediateOfBranch", "(I)I"⟩
abbrev b_Shor_immediateOfBranch : ByteArray := prog_10_method_17_code
def y_Shor_immediateOfStackStore : MethodName := ⟨"StepMachine$ShortForm", "immediateOfStackStore", "(I)I"⟩
abbrev b_Shor_immediateOfStackStore : ByteArray := prog_10_method_18_code
def y_Trai_init : MethodName := ⟨"StepMachine$Trail", "<init>", "()V"⟩
abbrev b_Trai_init : ByteArray := prog_11_method_1_code
def y_Trai_open : MethodName := ⟨"StepMachine$Trail", "open", "()LStepMachine$Kept;"⟩
abbrev b_Trai_open : ByteArray := prog_11_method_2_code
def y_Trai_takeLatest : MethodName := ⟨"StepMachine$Trail", "takeLatest", "()LStepMachine$Kept;"⟩
abbrev b_Trai_takeLatest : ByteArray := prog_11_method_3_code
def y_Trai_forget : MethodName := ⟨"StepMachine$Trail", "forget", "()V"⟩
abbrev b_Trai_forget : ByteArray := prog_11_method_4_code
def y_Trai_place : MethodName := ⟨"StepMachine$Trail", "place", "(I)I"⟩
abbrev b_Trai_place : ByteArray := prog_11_method_5_code
def y_Word_init : MethodName := ⟨"StepMachine$Word", "<init>", "()V"⟩
abbrev b_Word_init : ByteArray := prog_12_method_1_code
def y_Word_isLong : MethodName := ⟨"StepMachine$Word", "isLong", "(I)Z"⟩
abbrev b_Word_isLong : ByteArray := prog_12_method_2_code
def y_Word_clear : MethodName := ⟨"StepMachine$Word", "clear", "(I)V"⟩
abbrev b_Word_clear : ByteArray := prog_12_method_3_code
def y_Word_is : MethodName := ⟨"StepMachine$Word", "is", "(IIIII)V"⟩
abbrev b_Word_is : ByteArray := prog_12_method_4_code
def y_Word_isStore : MethodName := ⟨"StepMachine$Word", "isStore", "()Z"⟩
abbrev b_Word_isStore : ByteArray := prog_12_method_5_code
def y_Word_accessBytes : MethodName := ⟨"StepMachine$Word", "accessBytes", "()I"⟩
abbrev b_Word_accessBytes : ByteArray := prog_12_method_6_code
def y_Word_part : MethodName := ⟨"StepMachine$Word", "part", "(IIII)I"⟩
abbrev b_Word_part : ByteArray := prog_12_method_7_code
def y_Word_signed : MethodName := ⟨"StepMachine$Word", "signed", "(II)I"⟩
abbrev b_Word_signed : ByteArray := prog_12_method_8_code
def y_X_init : MethodName := ⟨"StepMachine", "<init>", "()V"⟩
abbrev b_X_init : ByteArray := prog_1_method_1_code
def y_X_segment : MethodName := ⟨"StepMachine", "segment", "(IIII)Z"⟩
abbrev b_X_segment : ByteArray := prog_1_method_2_code
def y_X_mark : MethodName := ⟨"StepMachine", "mark", "(IZ)Z"⟩
abbrev b_X_mark : ByteArray := prog_1_method_3_code
def y_X_marking : MethodName := ⟨"StepMachine", "marking", "(Z)V"⟩
abbrev b_X_marking : ByteArray := prog_1_method_4_code
def y_X_poke : MethodName := ⟨"StepMachine", "poke", "(IIJ)Z"⟩
abbrev b_X_poke : ByteArray := prog_1_method_5_code
def y_X_peek : MethodName := ⟨"StepMachine", "peek", "(I)I"⟩
abbrev b_X_peek : ByteArray := prog_1_method_6_code
def y_X_set : MethodName := ⟨"StepMachine", "set", "(II)Z"⟩
abbrev b_X_set : ByteArray := prog_1_method_7_code
def y_X_get : MethodName := ⟨"StepMachine", "get", "(I)I"⟩
abbrev b_X_get : ByteArray := prog_1_method_8_code
def y_X_input : MethodName := ⟨"StepMachine", "input", "(IJ)Z"⟩
abbrev b_X_input : ByteArray := prog_1_method_9_code
def y_X_halt : MethodName := ⟨"StepMachine", "halt", "(IZ)Z"⟩
abbrev b_X_halt : ByteArray := prog_1_method_10_code
def y_X_step : MethodName := ⟨"StepMachine", "step", "()I"⟩
abbrev b_X_step : ByteArray := prog_1_method_11_code
def y_X_run : MethodName := ⟨"StepMachine", "run", "(I)I"⟩
abbrev b_X_run : ByteArray := prog_1_method_12_code
def y_X_back : MethodName := ⟨"StepMachine", "back", "(I)I"⟩
abbrev b_X_back : ByteArray := prog_1_method_13_code
def y_X_state : MethodName := ⟨"StepMachine", "state", "(I)I"⟩
abbrev b_X_state : ByteArray := prog_1_method_14_code
def y_X_output : MethodName := ⟨"StepMachine", "output", "(I)I"⟩
abbrev b_X_output : ByteArray := prog_1_method_15_code
def y_X_rights : MethodName := ⟨"StepMachine", "rights", "(I)I"⟩
abbrev b_X_rights : ByteArray := prog_1_method_16_code
def y_X_forgetIf : MethodName := ⟨"StepMachine", "forgetIf", "(Z)Z"⟩
abbrev b_X_forgetIf : ByteArray := prog_1_method_17_code
def y_X_byteOf : MethodName := ⟨"StepMachine", "byteOf", "(JI)I"⟩
abbrev b_X_byteOf : ByteArray := prog_1_method_18_code
def y_M_init : MethodName := ⟨"StepMachineModel", "<init>", "()V"⟩
abbrev b_M_init : ByteArray := prog_14_method_1_code
def y_M_lay : MethodName := ⟨"StepMachineModel", "lay", "(IIIII)V"⟩
abbrev b_M_lay : ByteArray := prog_14_method_3_code
def y_M_fix : MethodName := ⟨"StepMachineModel", "fix", "(IIII)V"⟩
abbrev b_M_fix : ByteArray := prog_14_method_4_code
def y_M_opcodeOf : MethodName := ⟨"StepMachineModel", "opcodeOf", "(I)I"⟩
abbrev b_M_opcodeOf : ByteArray := prog_14_method_5_code
def y_M_thirdOf : MethodName := ⟨"StepMachineModel", "thirdOf", "(I)I"⟩
abbrev b_M_thirdOf : ByteArray := prog_14_method_6_code
def y_M_seventhOf : MethodName := ⟨"StepMachineModel", "seventhOf", "(I)I"⟩
abbrev b_M_seventhOf : ByteArray := prog_14_method_7_code
def y_M_isBranch : MethodName := ⟨"StepMachineModel", "isBranch", "(I)Z"⟩
abbrev b_M_isBranch : ByteArray := prog_14_method_8_code
def y_M_isStore : MethodName := ⟨"StepMachineModel", "isStore", "(I)Z"⟩
abbrev b_M_isStore : ByteArray := prog_14_method_9_code
def y_M_isShift : MethodName := ⟨"StepMachineModel", "isShift", "(I)Z"⟩
abbrev b_M_isShift : ByteArray := prog_14_method_10_code
def y_M_layLong : MethodName := ⟨"StepMachineModel", "layLong", "(I)V"⟩
abbrev b_M_layLong : ByteArray := prog_14_method_11_code
def y_M_one : MethodName := ⟨"StepMachineModel", "one", "(III)V"⟩
abbrev b_M_one : ByteArray := prog_14_method_12_code
def y_M_ends : MethodName := ⟨"StepMachineModel", "ends", "(III)V"⟩
abbrev b_M_ends : ByteArray := prog_14_method_13_code
def y_M_layShort : MethodName := ⟨"StepMachineModel", "layShort", "()V"⟩
abbrev b_M_layShort : ByteArray := prog_14_method_14_code
def y_M_layJump : MethodName := ⟨"StepMachineModel", "layJump", "(II)V"⟩
abbrev b_M_layJump : ByteArray := prog_14_method_15_code
def y_M_bitsOf : MethodName := ⟨"StepMachineModel", "bitsOf", "(I)I"⟩
abbrev b_M_bitsOf : ByteArray := prog_14_method_17_code
def y_M_has : MethodName := ⟨"StepMachineModel", "has", "(II)Z"⟩
abbrev b_M_has : ByteArray := prog_14_method_18_code
def y_M_isShortPart : MethodName := ⟨"StepMachineModel", "isShortPart", "(II)Z"⟩
abbrev b_M_isShortPart : ByteArray := prog_14_method_19_code
def y_M_isRegister : MethodName := ⟨"StepMachineModel", "isRegister", "(III)Z"⟩
abbrev b_M_isRegister : ByteArray := prog_14_method_20_code
def y_M_isStep : MethodName := ⟨"StepMachineModel", "isStep", "(JJJJ)Z"⟩
abbrev b_M_isStep : ByteArray := prog_14_method_21_code
def y_M_isImmediate : MethodName := ⟨"StepMachineModel", "isImmediate", "(IJ)Z"⟩
abbrev b_M_isImmediate : ByteArray := prog_14_method_22_code
def y_M_signOf : MethodName := ⟨"StepMachineModel", "signOf", "(I)I"⟩
abbrev b_M_signOf : ByteArray := prog_14_method_23_code
def y_M_areGood : MethodName := ⟨"StepMachineModel", "areGood", "(I)Z"⟩
abbrev b_M_areGood : ByteArray := prog_14_method_24_code
def y_M_put : MethodName := ⟨"StepMachineModel", "put", "(I)I"⟩
abbrev b_M_put : ByteArray := prog_14_method_25_code
def y_M_take : MethodName := ⟨"StepMachineModel", "take", "(II)Z"⟩
abbrev b_M_take : ByteArray := prog_14_method_26_code
def y_M_isLong : MethodName := ⟨"StepMachineModel", "isLong", "(I)Z"⟩
abbrev b_M_isLong : ByteArray := prog_14_method_27_code
def y_M_find : MethodName := ⟨"StepMachineModel", "find", "(I)I"⟩
abbrev b_M_find : ByteArray := prog_14_method_28_code
def y_M_longKind : MethodName := ⟨"StepMachineModel", "longKind", "(I)I"⟩
abbrev b_M_longKind : ByteArray := prog_14_method_29_code
def y_M_stretch : MethodName := ⟨"StepMachineModel", "stretch", "(I)I"⟩
abbrev b_M_stretch : ByteArray := prog_14_method_30_code
def y_M_forget : MethodName := ⟨"StepMachineModel", "forget", "()V"⟩
abbrev b_M_forget : ByteArray := prog_14_method_31_code
def y_M_segment : MethodName := ⟨"StepMachineModel", "segment", "(IIII)Z"⟩
abbrev b_M_segment : ByteArray := prog_14_method_32_code
def y_M_mark : MethodName := ⟨"StepMachineModel", "mark", "(IZ)Z"⟩
abbrev b_M_mark : ByteArray := prog_14_method_33_code
def y_M_marking : MethodName := ⟨"StepMachineModel", "marking", "(Z)V"⟩
abbrev b_M_marking : ByteArray := prog_14_method_34_code
def y_M_poke : MethodName := ⟨"StepMachineModel", "poke", "(IIJ)Z"⟩
abbrev b_M_poke : ByteArray := prog_14_method_35_code
def y_M_peek : MethodName := ⟨"StepMachineModel", "peek", "(I)I"⟩
abbrev b_M_peek : ByteArray := prog_14_method_36_code
def y_M_set : MethodName := ⟨"StepMachineModel", "set", "(II)Z"⟩
abbrev b_M_set : ByteArray := prog_14_method_37_code
def y_M_get : MethodName := ⟨"StepMachineModel", "get", "(I)I"⟩
abbrev b_M_get : ByteArray := prog_14_method_38_code
def y_M_input : MethodName := ⟨"StepMachineModel", "input", "(IJ)Z"⟩
abbrev b_M_input : ByteArray := prog_14_method_39_code
def y_M_haltAt : MethodName := ⟨"StepMachineModel", "haltAt", "(I)I"⟩
abbrev b_M_haltAt : ByteArray := prog_14_method_40_code
def y_M_halt : MethodName := ⟨"StepMachineModel", "halt", "(IZ)Z"⟩
abbrev b_M_halt : ByteArray := prog_14_method_41_code
def y_M_rightsOf : MethodName := ⟨"StepMachineModel", "rightsOf", "(J)I"⟩
abbrev b_M_rightsOf : ByteArray := prog_14_method_42_code
def y_M_isMarked : MethodName := ⟨"StepMachineModel", "isMarked", "(J)Z"⟩
abbrev b_M_isMarked : ByteArray := prog_14_method_43_code
def y_M_bare : MethodName := ⟨"StepMachineModel", "bare", "(I)J"⟩
abbrev b_M_bare : ByteArray := prog_14_method_44_code
def y_M_fail : MethodName := ⟨"StepMachineModel", "fail", "(II)I"⟩
abbrev b_M_fail : ByteArray := prog_14_method_45_code
def y_M_without : MethodName := ⟨"StepMachineModel", "without", "(JII)J"⟩
abbrev b_M_without : ByteArray := prog_14_method_46_code
def y_M_fetched : MethodName := ⟨"StepMachineModel", "fetched", "(II)I"⟩
abbrev b_M_fetched : ByteArray := prog_14_method_47_code
def y_M_isFetched : MethodName := ⟨"StepMachineModel", "isFetched", "()Z"⟩
abbrev b_M_isFetched : ByteArray := prog_14_method_48_code
def y_M_widthOf : MethodName := ⟨"StepMachineModel", "widthOf", "(I)I"⟩
abbrev b_M_widthOf : ByteArray := prog_14_method_49_code
def y_M_canReach : MethodName := ⟨"StepMachineModel", "canReach", "()Z"⟩
abbrev b_M_canReach : ByteArray := prog_14_method_50_code
def y_M_keep : MethodName := ⟨"StepMachineModel", "keep", "()V"⟩
abbrev b_M_keep : ByteArray := prog_14_method_51_code
def y_M_latest : MethodName := ⟨"StepMachineModel", "latest", "()I"⟩
abbrev b_M_latest : ByteArray := prog_14_method_52_code
def y_M_become : MethodName := ⟨"StepMachineModel", "become", "(II)V"⟩
abbrev b_M_become : ByteArray := prog_14_method_53_code
def y_M_store : MethodName := ⟨"StepMachineModel", "store", "(III)V"⟩
abbrev b_M_store : ByteArray := prog_14_method_54_code
def y_M_loaded : MethodName := ⟨"StepMachineModel", "loaded", "(I)I"⟩
abbrev b_M_loaded : ByteArray := prog_14_method_55_code
def y_M_truth : MethodName := ⟨"StepMachineModel", "truth", "(Z)I"⟩
abbrev b_M_truth : ByteArray := prog_14_method_56_code
def y_M_reckoned : MethodName := ⟨"StepMachineModel", "reckoned", "(III)I"⟩
abbrev b_M_reckoned : ByteArray := prog_14_method_57_code
def y_M_multiplied : MethodName := ⟨"StepMachineModel", "multiplied", "(III)I"⟩
abbrev b_M_multiplied : ByteArray := prog_14_method_58_code
def y_M_branches : MethodName := ⟨"StepMachineModel", "branches", "(III)Z"⟩
abbrev b_M_branches : ByteArray := prog_14_method_59_code
def y_M_serve : MethodName := ⟨"StepMachineModel", "serve", "()V"⟩
abbrev b_M_serve : ByteArray := prog_14_method_60_code
def y_M_work : MethodName := ⟨"StepMachineModel", "work", "()V"⟩
abbrev b_M_work : ByteArray := prog_14_method_61_code
def y_M_isUnit : MethodName := ⟨"StepMachineModel", "isUnit", "()Z"⟩
abbrev b_M_isUnit : ByteArray := prog_14_method_62_code
def y_M_isEnd : MethodName := ⟨"StepMachineModel", "isEnd", "()Z"⟩
abbrev b_M_isEnd : ByteArray := prog_14_method_63_code
def y_M_step : MethodName := ⟨"StepMachineModel", "step", "()I"⟩
abbrev b_M_step : ByteArray := prog_14_method_64_code
def y_M_run : MethodName := ⟨"StepMachineModel", "run", "(I)I"⟩
abbrev b_M_run : ByteArray := prog_14_method_65_code
def y_M_back : MethodName := ⟨"StepMachineModel", "back", "(I)I"⟩
abbrev b_M_back : ByteArray := prog_14_method_66_code
def y_M_state : MethodName := ⟨"StepMachineModel", "state", "(I)I"⟩
abbrev b_M_state : ByteArray := prog_14_method_67_code
def y_M_output : MethodName := ⟨"StepMachineModel", "output", "(I)I"⟩
abbrev b_M_output : ByteArray := prog_14_method_68_code
def y_M_rights : MethodName := ⟨"StepMachineModel", "rights", "(I)I"⟩
abbrev b_M_rights : ByteArray := prog_14_method_69_code
def y_Math_floorMod : MethodName := ⟨"java/lang/Math", "floorMod", "(II)I"⟩
abbrev b_Math_floorMod : ByteArray := prog_15_method_50_code
def wA0 : List Cond := [Cond.initialized "StepMachineLaw", Cond.initialized "StepMachine", Cond.initialized "StepMachine$Memory", Cond.initialized "StepMachine$Guard", Cond.initialized "StepMachine$Halts", Cond.initialized "StepMachine$Ports", Cond.initialized "StepMachine$Trail", Cond.initialized "StepMachine$Kept", Cond.initialized "StepMachine$Core", Cond.initialized "StepMachine$Word", Cond.initialized "StepMachineModel", Cond.initialized "StepMachine$ShortForm", Cond.initialized "StepMachine$LongForm", Cond.initialized "java/lang/Math", Cond.initialized "StepMachine$Arithmetic", Cond.classLink "StepMachineLaw" 7 "StepMachine", Cond.instantiable "StepMachine" 6, Cond.methodLink "StepMachineLaw" 9 y_X_init, Cond.instanceMethod y_X_init, Cond.code y_X_init prog_1_method_1_code 1 none, Cond.methodLink "StepMachine" 1 objectInit, Cond.instanceMethod objectInit, Cond.code objectInit object_method_1_code 1 none, Cond.classLink "StepMachine" 7 "StepMachine$Memory", Cond.instantiable "StepMachine$Memory" 1, Cond.instanceMethod y_Memo_init, Cond.code y_Memo_init prog_8_method_1_code 1 none, Cond.methodLink "StepMachine$Memory" 1 objectInit, Cond.constant "StepMachine$Memory" 9 32768, Cond.fieldLink "StepMachine$Memory" 10 "StepMachine$Memory" "cells" "[I", Cond.laysFinal "StepMachine$Memory" "StepMachine$Memory" "cells" "[I", Cond.arrayClass Jvm.ClassFile.FieldType.int, Cond.classLink "StepMachine" 16 "StepMachine$Guard", Cond.instantiable "StepMachine$Guard" 5, Cond.instanceMethod y_Guar_init, Cond.code y_Guar_init prog_4_method_1_code 1 none, Cond.methodLink "StepMachine$Guard" 3 objectInit, Cond.fieldLink "StepMachine$Guard" 11 "StepMachine$Guard" "begins" "[I", Cond.fieldLink "StepMachine$Guard" 15 "StepMachine$Guard" "sizes" "[I", Cond.fieldLink "StepMachine$Guard" 18 "StepMachine$Guard" "allowed" "[I"]
def wA1 : List Cond := [Cond.fieldLink "StepMachine$Guard" 23 "StepMachine$Guard" "marks" "[I", Cond.fieldLink "StepMachine" 65 "StepMachine$Guard" "marking" "Z", Cond.fieldLink "StepMachine$Core" 48 "StepMachine$Guard" "marking" "Z", Cond.laysFinal "StepMachine$Guard" "StepMachine$Guard" "begins" "[I", Cond.laysFinal "StepMachine$Guard" "StepMachine$Guard" "sizes" "[I", Cond.laysFinal "StepMachine$Guard" "StepMachine$Guard" "allowed" "[I", Cond.laysFinal "StepMachine$Guard" "StepMachine$Guard" "marks" "[I", Cond.lays "StepMachine$Guard" "StepMachine$Guard" "marking" "Z", Cond.classLink "StepMachine" 23 "StepMachine$Halts", Cond.instantiable "StepMachine$Halts" 2, Cond.instanceMethod y_Halt_init, Cond.code y_Halt_init prog_5_method_1_code 1 none, Cond.methodLink "StepMachine$Halts" 3 objectInit, Cond.fieldLink "StepMachine$Halts" 11 "StepMachine$Halts" "places" "[I", Cond.fieldLink "StepMachine$Halts" 23 "StepMachine$Halts" "count" "I", Cond.fieldLink "StepMachine" 168 "StepMachine$Halts" "count" "I", Cond.laysFinal "StepMachine$Halts" "StepMachine$Halts" "places" "[I", Cond.lays "StepMachine$Halts" "StepMachine$Halts" "count" "I", Cond.classLink "StepMachine" 30 "StepMachine$Ports", Cond.instantiable "StepMachine$Ports" 5, Cond.instanceMethod y_Port_init, Cond.code y_Port_init prog_9_method_1_code 1 none, Cond.methodLink "StepMachine$Ports" 3 objectInit, Cond.fieldLink "StepMachine$Ports" 11 "StepMachine$Ports" "in" "[B", Cond.fieldLink "StepMachine$Ports" 15 "StepMachine$Ports" "out" "[B", Cond.fieldLink "StepMachine$Ports" 18 "StepMachine$Ports" "givenCount" "I", Cond.fieldLink "StepMachine" 159 "StepMachine$Ports" "givenCount" "I", Cond.fieldLink "StepMachine$Ports" 26 "StepMachine$Ports" "takenCount" "I", Cond.fieldLink "StepMachine$Core" 111 "StepMachine$Ports" "takenCount" "I", Cond.fieldLink "StepMachine" 162 "StepMachine$Ports" "takenCount" "I", Cond.fieldLink "StepMachine$Ports" 29 "StepMachine$Ports" "putCount" "I", Cond.fieldLink "StepMachine$Core" 105 "StepMachine$Ports" "putCount" "I", Cond.fieldLink "StepMachine" 156 "StepMachine$Ports" "putCount" "I", Cond.laysFinal "StepMachine$Ports" "StepMachine$Ports" "in" "[B", Cond.laysFinal "StepMachine$Ports" "StepMachine$Ports" "out" "[B", Cond.lays "StepMachine$Ports" "StepMachine$Ports" "givenCount" "I", Cond.lays "StepMachine$Ports" "StepMachine$Ports" "takenCount" "I", Cond.lays "StepMachine$Ports" "StepMachine$Ports" "putCount" "I", Cond.arrayClass Jvm.ClassFile.FieldType.byte, Cond.classLink "StepMachine" 37 "StepMachine$Trail"]
def wA2 : List Cond := [Cond.instantiable "StepMachine$Trail" 3, Cond.methodLink "StepMachine" 39 y_Trai_init, Cond.instanceMethod y_Trai_init, Cond.code y_Trai_init prog_11_method_1_code 2 none, Cond.methodLink "StepMachine$Trail" 1 objectInit, Cond.classLink "StepMachine$Trail" 9 "StepMachine$Kept", Cond.instantiable "StepMachine$Kept" 12, Cond.instanceMethod y_Kept_init, Cond.code y_Kept_init prog_6_method_1_code 1 none, Cond.methodLink "StepMachine$Kept" 1 objectInit, Cond.fieldLink "StepMachine$Core" 91 "StepMachine$Kept" "pc" "I", Cond.fieldLink "StepMachine$Core" 94 "StepMachine$Kept" "state" "I", Cond.fieldLink "StepMachine$Core" 95 "StepMachine$Kept" "culprit" "I", Cond.fieldLink "StepMachine$Core" 96 "StepMachine$Kept" "value" "I", Cond.fieldLink "StepMachine$Core" 100 "StepMachine$Kept" "steps" "I", Cond.fieldLink "StepMachine$Core" 101 "StepMachine$Kept" "units" "I", Cond.fieldLink "StepMachine$Core" 102 "StepMachine$Kept" "putCount" "I", Cond.fieldLink "StepMachine$Core" 108 "StepMachine$Kept" "takenCount" "I", Cond.fieldLink "StepMachine$Core" 112 "StepMachine$Kept" "register" "I", Cond.fieldLink "StepMachine$Core" 115 "StepMachine$Kept" "registerWas" "I", Cond.fieldLink "StepMachine$Core" 122 "StepMachine$Kept" "cellAt" "I", Cond.fieldLink "StepMachine$Core" 125 "StepMachine$Kept" "cellWas" "I", Cond.lays "StepMachine$Kept" "StepMachine$Kept" "pc" "I", Cond.lays "StepMachine$Kept" "StepMachine$Kept" "state" "I", Cond.lays "StepMachine$Kept" "StepMachine$Kept" "culprit" "I", Cond.lays "StepMachine$Kept" "StepMachine$Kept" "value" "I", Cond.lays "StepMachine$Kept" "StepMachine$Kept" "steps" "I", Cond.lays "StepMachine$Kept" "StepMachine$Kept" "units" "I", Cond.lays "StepMachine$Kept" "StepMachine$Kept" "putCount" "I", Cond.lays "StepMachine$Kept" "StepMachine$Kept" "takenCount" "I", Cond.lays "StepMachine$Kept" "StepMachine$Kept" "register" "I", Cond.lays "StepMachine$Kept" "StepMachine$Kept" "registerWas" "I", Cond.lays "StepMachine$Kept" "StepMachine$Kept" "cellAt" "I", Cond.lays "StepMachine$Kept" "StepMachine$Kept" "cellWas" "I", Cond.fieldLink "StepMachine$Trail" 11 "StepMachine$Trail" "ring" "[LStepMachine$Kept;", Cond.fieldLink "StepMachine$Trail" 16 "StepMachine$Trail" "next" "I", Cond.fieldLink "StepMachine$Trail" 24 "StepMachine$Trail" "count" "I", Cond.fieldLink "StepMachine" 165 "StepMachine$Trail" "count" "I", Cond.laysFinal "StepMachine$Trail" "StepMachine$Trail" "ring" "[LStepMachine$Kept;", Cond.lays "StepMachine$Trail" "StepMachine$Trail" "next" "I"]
def wA3 : List Cond := [Cond.lays "StepMachine$Trail" "StepMachine$Trail" "count" "I", Cond.classLink "StepMachine" 44 "StepMachine$Core", Cond.instantiable "StepMachine$Core" 12, Cond.methodLink "StepMachine" 46 y_Core_init, Cond.instanceMethod y_Core_init, Cond.code y_Core_init prog_3_method_1_code 5 none, Cond.methodLink "StepMachine$Core" 3 objectInit, Cond.classLink "StepMachine$Core" 9 "StepMachine$Word", Cond.instantiable "StepMachine$Word" 6, Cond.instanceMethod y_Word_init, Cond.code y_Word_init prog_12_method_1_code 1 none, Cond.methodLink "StepMachine$Word" 1 objectInit, Cond.fieldLink "StepMachine$Word" 7 "StepMachine$Word" "bytes" "I", Cond.fieldLink "StepMachine$Core" 218 "StepMachine$Word" "bytes" "I", Cond.fieldLink "StepMachine$Word" 17 "StepMachine$Word" "kind" "I", Cond.fieldLink "StepMachine$Core" 133 "StepMachine$Word" "kind" "I", Cond.fieldLink "StepMachine$Word" 20 "StepMachine$Word" "d" "I", Cond.fieldLink "StepMachine$Core" 136 "StepMachine$Word" "d" "I", Cond.fieldLink "StepMachine$Word" 23 "StepMachine$Word" "a" "I", Cond.fieldLink "StepMachine$Core" 178 "StepMachine$Word" "a" "I", Cond.fieldLink "StepMachine$Word" 26 "StepMachine$Word" "b" "I", Cond.fieldLink "StepMachine$Core" 200 "StepMachine$Word" "b" "I", Cond.fieldLink "StepMachine$Word" 29 "StepMachine$Word" "i" "I", Cond.fieldLink "StepMachine$Core" 181 "StepMachine$Word" "i" "I", Cond.lays "StepMachine$Word" "StepMachine$Word" "bytes" "I", Cond.lays "StepMachine$Word" "StepMachine$Word" "kind" "I", Cond.lays "StepMachine$Word" "StepMachine$Word" "d" "I", Cond.lays "StepMachine$Word" "StepMachine$Word" "a" "I", Cond.lays "StepMachine$Word" "StepMachine$Word" "b" "I", Cond.lays "StepMachine$Word" "StepMachine$Word" "i" "I", Cond.fieldLink "StepMachine$Core" 22 "StepMachine$Core" "memory" "LStepMachine$Memory;", Cond.fieldLink "StepMachine$Core" 26 "StepMachine$Core" "guard" "LStepMachine$Guard;", Cond.fieldLink "StepMachine$Core" 30 "StepMachine$Core" "ports" "LStepMachine$Ports;", Cond.fieldLink "StepMachine$Core" 34 "StepMachine$Core" "trail" "LStepMachine$Trail;", Cond.fieldLink "StepMachine$Core" 12 "StepMachine$Core" "word" "LStepMachine$Word;", Cond.fieldLink "StepMachine$Core" 18 "StepMachine$Core" "registers" "[I", Cond.fieldLink "StepMachine$Core" 38 "StepMachine$Core" "pc" "I", Cond.fieldLink "StepMachine" 100 "StepMachine$Core" "pc" "I", Cond.fieldLink "StepMachine$Core" 42 "StepMachine$Core" "state" "I", Cond.fieldLink "StepMachine" 128 "StepMachine$Core" "state" "I"]
def wA4 : List Cond := [Cond.fieldLink "StepMachine$Core" 45 "StepMachine$Core" "culprit" "I", Cond.fieldLink "StepMachine" 147 "StepMachine$Core" "culprit" "I", Cond.fieldLink "StepMachine$Core" 99 "StepMachine$Core" "value" "I", Cond.fieldLink "StepMachine" 150 "StepMachine$Core" "value" "I", Cond.fieldLink "StepMachine$Core" 85 "StepMachine$Core" "steps" "I", Cond.fieldLink "StepMachine" 153 "StepMachine$Core" "steps" "I", Cond.fieldLink "StepMachine$Core" 88 "StepMachine$Core" "units" "I", Cond.fieldLink "StepMachine" 131 "StepMachine$Core" "units" "I", Cond.laysFinal "StepMachine$Core" "StepMachine$Core" "memory" "LStepMachine$Memory;", Cond.laysFinal "StepMachine$Core" "StepMachine$Core" "guard" "LStepMachine$Guard;", Cond.laysFinal "StepMachine$Core" "StepMachine$Core" "ports" "LStepMachine$Ports;", Cond.laysFinal "StepMachine$Core" "StepMachine$Core" "trail" "LStepMachine$Trail;", Cond.laysFinal "StepMachine$Core" "StepMachine$Core" "word" "LStepMachine$Word;", Cond.laysFinal "StepMachine$Core" "StepMachine$Core" "registers" "[I", Cond.lays "StepMachine$Core" "StepMachine$Core" "pc" "I", Cond.lays "StepMachine$Core" "StepMachine$Core" "state" "I", Cond.lays "StepMachine$Core" "StepMachine$Core" "culprit" "I", Cond.lays "StepMachine$Core" "StepMachine$Core" "value" "I", Cond.lays "StepMachine$Core" "StepMachine$Core" "steps" "I", Cond.lays "StepMachine$Core" "StepMachine$Core" "units" "I", Cond.fieldLink "StepMachine" 10 "StepMachine" "memory" "LStepMachine$Memory;", Cond.fieldLink "StepMachine" 19 "StepMachine" "guard" "LStepMachine$Guard;", Cond.fieldLink "StepMachine" 26 "StepMachine" "halts" "LStepMachine$Halts;", Cond.fieldLink "StepMachine" 33 "StepMachine" "ports" "LStepMachine$Ports;", Cond.fieldLink "StepMachine" 40 "StepMachine" "trail" "LStepMachine$Trail;", Cond.fieldLink "StepMachine" 49 "StepMachine" "core" "LStepMachine$Core;", Cond.laysFinal "StepMachine" "StepMachine" "memory" "LStepMachine$Memory;", Cond.laysFinal "StepMachine" "StepMachine" "guard" "LStepMachine$Guard;", Cond.laysFinal "StepMachine" "StepMachine" "halts" "LStepMachine$Halts;", Cond.laysFinal "StepMachine" "StepMachine" "ports" "LStepMachine$Ports;", Cond.laysFinal "StepMachine" "StepMachine" "trail" "LStepMachine$Trail;", Cond.laysFinal "StepMachine" "StepMachine" "core" "LStepMachine$Core;", Cond.methodLink "StepMachineLaw" 13 y_X_segment, Cond.instanceMethod y_X_segment, Cond.selects "StepMachine" y_X_segment y_X_segment, Cond.code y_X_segment prog_1_method_2_code 5 (some .boolean), Cond.methodLink "StepMachine" 53 y_Guar_putSegment, Cond.instanceMethod y_Guar_putSegment, Cond.selects "StepMachine$Guard" y_Guar_putSegment y_Guar_putSegment, Cond.code y_Guar_putSegment prog_4_method_2_code 5 (some .boolean)]
def wA5 : List Cond := [Cond.constant "StepMachine$Guard" 26 131072, Cond.methodLink "StepMachine" 57 y_X_forgetIf, Cond.instanceMethod y_X_forgetIf, Cond.code y_X_forgetIf prog_1_method_17_code 2 (some .boolean), Cond.methodLink "StepMachine" 69 y_Trai_forget, Cond.instanceMethod y_Trai_forget, Cond.selects "StepMachine$Trail" y_Trai_forget y_Trai_forget, Cond.code y_Trai_forget prog_11_method_4_code 1 none, Cond.methodLink "StepMachineLaw" 18 y_X_mark, Cond.instanceMethod y_X_mark, Cond.selects "StepMachine" y_X_mark y_X_mark, Cond.code y_X_mark prog_1_method_3_code 3 (some .boolean), Cond.methodLink "StepMachine" 61 y_Guar_putMark, Cond.instanceMethod y_Guar_putMark, Cond.selects "StepMachine$Guard" y_Guar_putMark y_Guar_putMark, Cond.code y_Guar_putMark prog_4_method_5_code 5 (some .boolean), Cond.methodLink "StepMachine$Guard" 31 y_Guar_mayBeMarked, Cond.static y_Guar_mayBeMarked, Cond.code y_Guar_mayBeMarked prog_4_method_7_code 1 (some .boolean), Cond.methodLink "StepMachineLaw" 23 y_X_marking, Cond.instanceMethod y_X_marking, Cond.selects "StepMachine" y_X_marking y_X_marking, Cond.code y_X_marking prog_1_method_4_code 2 none, Cond.methodLink "StepMachineLaw" 30 y_X_poke, Cond.instanceMethod y_X_poke, Cond.selects "StepMachine" y_X_poke y_X_poke, Cond.code y_X_poke prog_1_method_5_code 6 (some .boolean), Cond.constant "StepMachine" 72 131072, Cond.methodLink "StepMachine" 73 y_X_byteOf, Cond.static y_X_byteOf, Cond.code y_X_byteOf prog_1_method_18_code 3 (some .int), Cond.methodLink "StepMachine" 77 y_Memo_putNumber, Cond.instanceMethod y_Memo_putNumber, Cond.selects "StepMachine$Memory" y_Memo_putNumber y_Memo_putNumber, Cond.code y_Memo_putNumber prog_8_method_4_code 5 none, Cond.methodLink "StepMachine$Memory" 22 y_Memo_maskOf, Cond.static y_Memo_maskOf, Cond.code y_Memo_maskOf prog_8_method_8_code 1 (some .int), Cond.methodLink "StepMachine$Memory" 19 y_Memo_shiftOf, Cond.static y_Memo_shiftOf]
def wA6 : List Cond := [Cond.code y_Memo_shiftOf prog_8_method_7_code 1 (some .int), Cond.methodLink "StepMachine$Memory" 15 y_Memo_cellOf, Cond.instanceMethod y_Memo_cellOf, Cond.selects "StepMachine$Memory" y_Memo_cellOf y_Memo_cellOf, Cond.code y_Memo_cellOf prog_8_method_5_code 2 (some .int), Cond.methodLink "StepMachine$Memory" 29 y_Memo_has, Cond.static y_Memo_has, Cond.code y_Memo_has prog_8_method_2_code 1 (some .boolean), Cond.constant "StepMachine$Memory" 14 131072, Cond.methodLink "StepMachine$Memory" 25 y_Memo_putCell, Cond.instanceMethod y_Memo_putCell, Cond.selects "StepMachine$Memory" y_Memo_putCell y_Memo_putCell, Cond.code y_Memo_putCell prog_8_method_6_code 3 none, Cond.methodLink "StepMachineLaw" 35 y_X_peek, Cond.instanceMethod y_X_peek, Cond.selects "StepMachine" y_X_peek y_X_peek, Cond.code y_X_peek prog_1_method_6_code 2 (some .int), Cond.methodLink "StepMachine" 81 y_Memo_has, Cond.methodLink "StepMachine" 85 y_Memo_number, Cond.instanceMethod y_Memo_number, Cond.selects "StepMachine$Memory" y_Memo_number y_Memo_number, Cond.code y_Memo_number prog_8_method_3_code 3 (some .int), Cond.methodLink "StepMachineLaw" 40 y_X_set, Cond.instanceMethod y_X_set, Cond.selects "StepMachine" y_X_set y_X_set, Cond.code y_X_set prog_1_method_7_code 3 (some .boolean), Cond.methodLink "StepMachine" 89 y_Core_become, Cond.instanceMethod y_Core_become, Cond.selects "StepMachine$Core" y_Core_become y_Core_become, Cond.code y_Core_become prog_3_method_5_code 3 none, Cond.methodLink "StepMachine" 93 y_Core_putPc, Cond.instanceMethod y_Core_putPc, Cond.selects "StepMachine$Core" y_Core_putPc y_Core_putPc, Cond.code y_Core_putPc prog_3_method_2_code 2 (some .boolean), Cond.methodLink "StepMachine" 96 y_Core_putRegister, Cond.instanceMethod y_Core_putRegister, Cond.selects "StepMachine$Core" y_Core_putRegister y_Core_putRegister, Cond.code y_Core_putRegister prog_3_method_4_code 3 (some .boolean), Cond.methodLink "StepMachineLaw" 45 y_X_get, Cond.instanceMethod y_X_get]
def wA7 : List Cond := [Cond.selects "StepMachine" y_X_get y_X_get, Cond.code y_X_get prog_1_method_8_code 2 (some .int), Cond.methodLink "StepMachine" 104 y_Core_register, Cond.instanceMethod y_Core_register, Cond.selects "StepMachine$Core" y_Core_register y_Core_register, Cond.code y_Core_register prog_3_method_3_code 2 (some .int), Cond.methodLink "StepMachineLaw" 49 y_X_input, Cond.instanceMethod y_X_input, Cond.selects "StepMachine" y_X_input y_X_input, Cond.code y_X_input prog_1_method_9_code 5 (some .boolean), Cond.methodLink "StepMachine" 108 y_Port_hasRoomIn, Cond.instanceMethod y_Port_hasRoomIn, Cond.selects "StepMachine$Ports" y_Port_hasRoomIn y_Port_hasRoomIn, Cond.code y_Port_hasRoomIn prog_9_method_2_code 2 (some .boolean), Cond.methodLink "StepMachine" 111 y_Port_give, Cond.instanceMethod y_Port_give, Cond.selects "StepMachine$Ports" y_Port_give y_Port_give, Cond.code y_Port_give prog_9_method_3_code 2 none, Cond.methodLink "StepMachine$Ports" 22 y_Port_hasRoomIn, Cond.methodLink "StepMachineLaw" 54 y_X_halt, Cond.instanceMethod y_X_halt, Cond.selects "StepMachine" y_X_halt y_X_halt, Cond.code y_X_halt prog_1_method_10_code 3 (some .boolean), Cond.methodLink "StepMachine" 115 y_Halt_add, Cond.instanceMethod y_Halt_add, Cond.selects "StepMachine$Halts" y_Halt_add y_Halt_add, Cond.code y_Halt_add prog_5_method_3_code 2 (some .boolean), Cond.methodLink "StepMachine$Halts" 19 y_Halt_has, Cond.instanceMethod y_Halt_has, Cond.selects "StepMachine$Halts" y_Halt_has y_Halt_has, Cond.code y_Halt_has prog_5_method_2_code 2 (some .boolean), Cond.methodLink "StepMachine$Halts" 15 y_Halt_find, Cond.instanceMethod y_Halt_find, Cond.code y_Halt_find prog_5_method_5_code 3 (some .int), Cond.methodLink "StepMachine" 118 y_Halt_remove, Cond.instanceMethod y_Halt_remove, Cond.selects "StepMachine$Halts" y_Halt_remove y_Halt_remove, Cond.code y_Halt_remove prog_5_method_4_code 3 (some .boolean), Cond.methodLink "StepMachineLaw" 58 y_X_step, Cond.instanceMethod y_X_step]
def wA8 : List Cond := [Cond.selects "StepMachine" y_X_step y_X_step, Cond.code y_X_step prog_1_method_11_code 1 (some .int), Cond.methodLink "StepMachine" 121 y_Core_hasEnded, Cond.instanceMethod y_Core_hasEnded, Cond.selects "StepMachine$Core" y_Core_hasEnded y_Core_hasEnded, Cond.code y_Core_hasEnded prog_3_method_6_code 1 (some .boolean), Cond.methodLink "StepMachine" 125 y_Core_advance, Cond.instanceMethod y_Core_advance, Cond.selects "StepMachine$Core" y_Core_advance y_Core_advance, Cond.code y_Core_advance prog_3_method_8_code 2 none, Cond.methodLink "StepMachine$Core" 58 y_Core_fetch, Cond.instanceMethod y_Core_fetch, Cond.code y_Core_fetch prog_3_method_11_code 2 (some .boolean), Cond.methodLink "StepMachine$Core" 152 y_Core_mayExecuteHalf, Cond.instanceMethod y_Core_mayExecuteHalf, Cond.code y_Core_mayExecuteHalf prog_3_method_12_code 3 (some .boolean), Cond.methodLink "StepMachine$Core" 171 y_Guar_firstWithout, Cond.instanceMethod y_Guar_firstWithout, Cond.selects "StepMachine$Guard" y_Guar_firstWithout y_Guar_firstWithout, Cond.code y_Guar_firstWithout prog_4_method_4_code 5 (some .int), Cond.methodLink "StepMachine$Guard" 27 y_Guar_rightsAt, Cond.instanceMethod y_Guar_rightsAt, Cond.selects "StepMachine$Guard" y_Guar_rightsAt y_Guar_rightsAt, Cond.code y_Guar_rightsAt prog_4_method_3_code 3 (some .int), Cond.methodLink "StepMachine$Core" 78 y_Core_become, Cond.methodLink "StepMachine$Core" 155 y_Memo_number, Cond.methodLink "StepMachine$Core" 159 y_Word_isLong, Cond.static y_Word_isLong, Cond.code y_Word_isLong prog_12_method_2_code 1 (some .boolean), Cond.methodLink "StepMachine$Core" 162 y_Shor_read, Cond.static y_Shor_read, Cond.code y_Shor_read prog_10_method_2_code 2 none, Cond.methodLink "StepMachine$ShortForm" 7 y_Word_clear, Cond.instanceMethod y_Word_clear, Cond.selects "StepMachine$Word" y_Word_clear y_Word_clear, Cond.code y_Word_clear prog_12_method_3_code 2 none, Cond.methodLink "StepMachine$Word" 13 y_Word_is, Cond.instanceMethod y_Word_is, Cond.selects "StepMachine$Word" y_Word_is y_Word_is, Cond.code y_Word_is prog_12_method_4_code 6 none]
def wA9 : List Cond := [Cond.methodLink "StepMachine$ShortForm" 13 y_Shor_readFirst, Cond.static y_Shor_readFirst, Cond.code y_Shor_readFirst prog_10_method_3_code 5 none, Cond.methodLink "StepMachine$ShortForm" 25 y_Word_part, Cond.static y_Word_part, Cond.code y_Word_part prog_12_method_7_code 4 (some .int), Cond.methodLink "StepMachine$ShortForm" 29 y_Shor_readStackAddress, Cond.static y_Shor_readStackAddress, Cond.code y_Shor_readStackAddress prog_10_method_4_code 4 none, Cond.methodLink "StepMachine$ShortForm" 33 y_Word_is, Cond.methodLink "StepMachine$ShortForm" 19 y_Shor_readSecond, Cond.static y_Shor_readSecond, Cond.code y_Shor_readSecond prog_10_method_5_code 4 none, Cond.methodLink "StepMachine$ShortForm" 37 y_Shor_sixBits, Cond.static y_Shor_sixBits, Cond.code y_Shor_sixBits prog_10_method_15_code 1 (some .int), Cond.methodLink "StepMachine$ShortForm" 57 y_Word_signed, Cond.static y_Word_signed, Cond.code y_Word_signed prog_12_method_8_code 2 (some .int), Cond.methodLink "StepMachine$ShortForm" 41 y_Shor_readAddition, Cond.static y_Shor_readAddition, Cond.code y_Shor_readAddition prog_10_method_6_code 4 none, Cond.methodLink "StepMachine$ShortForm" 45 y_Shor_immediateOfJump, Cond.static y_Shor_immediateOfJump, Cond.code y_Shor_immediateOfJump prog_10_method_16_code 2 (some .int), Cond.methodLink "StepMachine$ShortForm" 48 y_Shor_readUpper, Cond.static y_Shor_readUpper, Cond.code y_Shor_readUpper prog_10_method_7_code 5 none, Cond.constant "StepMachine$ShortForm" 61 1048575, Cond.methodLink "StepMachine$ShortForm" 51 y_Shor_readNearPair, Cond.static y_Shor_readNearPair, Cond.code y_Shor_readNearPair prog_10_method_8_code 5 none, Cond.methodLink "StepMachine$ShortForm" 62 y_Shor_kindOfShift, Cond.static y_Shor_kindOfShift, Cond.code y_Shor_kindOfShift prog_10_method_9_code 3 (some .int), Cond.methodLink "StepMachine$ShortForm" 66 y_Shor_kindOfPair, Cond.static y_Shor_kindOfPair, Cond.code y_Shor_kindOfPair prog_10_method_10_code 2 (some .int), Cond.methodLink "StepMachine$ShortForm" 54 y_Shor_immediateOfBranch, Cond.static y_Shor_immediateOfBranch]
def wA10 : List Cond := [Cond.code y_Shor_immediateOfBranch prog_10_method_17_code 2 (some .int), Cond.methodLink "StepMachine$ShortForm" 22 y_Shor_readThird, Cond.static y_Shor_readThird, Cond.code y_Shor_readThird prog_10_method_11_code 4 none, Cond.methodLink "StepMachine$ShortForm" 70 y_Shor_shiftUp, Cond.static y_Shor_shiftUp, Cond.code y_Shor_shiftUp prog_10_method_13_code 2 (some .int), Cond.methodLink "StepMachine$ShortForm" 73 y_Shor_readStackLoad, Cond.static y_Shor_readStackLoad, Cond.code y_Shor_readStackLoad prog_10_method_12_code 4 none, Cond.methodLink "StepMachine$ShortForm" 76 y_Shor_readPair, Cond.static y_Shor_readPair, Cond.code y_Shor_readPair prog_10_method_14_code 5 none, Cond.constant "StepMachine$ShortForm" 82 36866, Cond.methodLink "StepMachine$ShortForm" 79 y_Shor_immediateOfStackStore, Cond.static y_Shor_immediateOfStackStore, Cond.code y_Shor_immediateOfStackStore prog_10_method_18_code 1 (some .int), Cond.methodLink "StepMachine$Core" 168 y_Long_read, Cond.static y_Long_read, Cond.code y_Long_read prog_7_method_2_code 7 none, Cond.methodLink "StepMachine$LongForm" 7 y_Word_clear, Cond.methodLink "StepMachine$LongForm" 13 y_Word_is, Cond.methodLink "StepMachine$LongForm" 17 y_Long_immediateOfJump, Cond.static y_Long_immediateOfJump, Cond.code y_Long_immediateOfJump prog_7_method_8_code 2 (some .int), Cond.methodLink "StepMachine$LongForm" 69 y_Word_part, Cond.methodLink "StepMachine$LongForm" 73 y_Word_signed, Cond.fieldLink "StepMachine$LongForm" 23 "StepMachine$LongForm" "BRANCHES" "[I", Cond.methodLink "StepMachine$LongForm" 27 y_Long_kindIn, Cond.static y_Long_kindIn, Cond.code y_Long_kindIn prog_7_method_3_code 2 (some .int), Cond.methodLink "StepMachine$LongForm" 31 y_Long_immediateOfBranch, Cond.static y_Long_immediateOfBranch, Cond.code y_Long_immediateOfBranch prog_7_method_9_code 2 (some .int), Cond.fieldLink "StepMachine$LongForm" 34 "StepMachine$LongForm" "LOADS" "[I", Cond.fieldLink "StepMachine$LongForm" 37 "StepMachine$LongForm" "STORES" "[I", Cond.methodLink "StepMachine$LongForm" 40 y_Long_immediateOfStore, Cond.static y_Long_immediateOfStore, Cond.code y_Long_immediateOfStore prog_7_method_10_code 1 (some .int), Cond.methodLink "StepMachine$LongForm" 43 y_Long_readImmediate]
def wA11 : List Cond := [Cond.static y_Long_readImmediate, Cond.code y_Long_readImmediate prog_7_method_6_code 5 none, Cond.methodLink "StepMachine$LongForm" 63 y_Long_kindOfShift, Cond.static y_Long_kindOfShift, Cond.code y_Long_kindOfShift prog_7_method_7_code 2 (some .int), Cond.fieldLink "StepMachine$LongForm" 66 "StepMachine$LongForm" "IMMEDIATES" "[I", Cond.methodLink "StepMachine$LongForm" 47 y_Long_kindOfPair, Cond.static y_Long_kindOfPair, Cond.code y_Long_kindOfPair prog_7_method_4_code 2 (some .int), Cond.fieldLink "StepMachine$LongForm" 54 "StepMachine$LongForm" "PLAIN" "[I", Cond.fieldLink "StepMachine$LongForm" 57 "StepMachine$LongForm" "PRODUCTS" "[I", Cond.fieldLink "StepMachine$LongForm" 60 "StepMachine$LongForm" "OTHER" "[I", Cond.methodLink "StepMachine$LongForm" 51 y_Long_kindOfWhole, Cond.static y_Long_kindOfWhole, Cond.code y_Long_kindOfWhole prog_7_method_5_code 1 (some .int), Cond.methodLink "StepMachine$Core" 62 y_Core_failsInMemory, Cond.instanceMethod y_Core_failsInMemory, Cond.code y_Core_failsInMemory prog_3_method_13_code 4 (some .boolean), Cond.methodLink "StepMachine$Core" 175 y_Word_accessBytes, Cond.instanceMethod y_Word_accessBytes, Cond.selects "StepMachine$Word" y_Word_accessBytes y_Word_accessBytes, Cond.code y_Word_accessBytes prog_12_method_6_code 1 (some .int), Cond.methodLink "StepMachine$Core" 145 y_Core_address, Cond.instanceMethod y_Core_address, Cond.code y_Core_address prog_3_method_14_code 1 (some .int), Cond.methodLink "StepMachine$Core" 139 y_Core_register, Cond.methodLink "StepMachine$Core" 142 y_Word_isStore, Cond.instanceMethod y_Word_isStore, Cond.selects "StepMachine$Word" y_Word_isStore y_Word_isStore, Cond.code y_Word_isStore prog_12_method_5_code 1 (some .boolean), Cond.methodLink "StepMachine$Core" 65 y_Core_beginsUnit, Cond.instanceMethod y_Core_beginsUnit, Cond.selects "StepMachine$Core" y_Core_beginsUnit y_Core_beginsUnit, Cond.code y_Core_beginsUnit prog_3_method_7_code 1 (some .boolean), Cond.methodLink "StepMachine$Core" 54 y_Guar_isMarked, Cond.instanceMethod y_Guar_isMarked, Cond.selects "StepMachine$Guard" y_Guar_isMarked y_Guar_isMarked, Cond.code y_Guar_isMarked prog_4_method_6_code 2 (some .boolean), Cond.methodLink "StepMachine$Core" 68 y_Trai_open, Cond.instanceMethod y_Trai_open]
def wA12 : List Cond := [Cond.selects "StepMachine$Trail" y_Trai_open y_Trai_open, Cond.code y_Trai_open prog_11_method_2_code 2 (some (.object "StepMachine$Kept")), Cond.methodLink "StepMachine$Trail" 20 y_Trai_place, Cond.static y_Trai_place, Cond.code y_Trai_place prog_11_method_5_code 1 (some .int), Cond.methodLink "StepMachine$Trail" 27 y_Math_floorMod, Cond.static y_Math_floorMod, Cond.code y_Math_floorMod prog_15_method_50_code 3 (some .int), Cond.methodLink "StepMachine$Core" 74 y_Core_remember, Cond.instanceMethod y_Core_remember, Cond.code y_Core_remember prog_3_method_10_code 2 none, Cond.methodLink "StepMachine$Core" 149 y_Memo_cellOf, Cond.methodLink "StepMachine$Core" 82 y_Core_perform, Cond.instanceMethod y_Core_perform, Cond.code y_Core_perform prog_3_method_15_code 2 none, Cond.methodLink "StepMachine$Core" 184 y_Core_link, Cond.instanceMethod y_Core_link, Cond.code y_Core_link prog_3_method_19_code 2 none, Cond.methodLink "StepMachine$Core" 118 y_Core_putRegister, Cond.methodLink "StepMachine$Core" 221 y_Core_jump, Cond.instanceMethod y_Core_jump, Cond.code y_Core_jump prog_3_method_21_code 2 none, Cond.methodLink "StepMachine$Core" 188 y_Core_branch, Cond.instanceMethod y_Core_branch, Cond.code y_Core_branch prog_3_method_20_code 1 none, Cond.methodLink "StepMachine$Core" 224 y_Arit_holds, Cond.static y_Arit_holds, Cond.code y_Arit_holds prog_2_method_2_code 3 (some .boolean), Cond.methodLink "StepMachine$Arithmetic" 7 y_Arit_isBelow, Cond.static y_Arit_isBelow, Cond.code y_Arit_isBelow prog_2_method_6_code 2 (some .boolean), Cond.constantLong "StepMachine$Arithmetic" 17 4294967295, Cond.methodLink "StepMachine$Core" 197 y_Core_goOn, Cond.instanceMethod y_Core_goOn, Cond.code y_Core_goOn prog_3_method_18_code 1 none, Cond.methodLink "StepMachine$Core" 191 y_Core_serve, Cond.instanceMethod y_Core_serve, Cond.code y_Core_serve prog_3_method_22_code 2 none, Cond.methodLink "StepMachine$Core" 228 y_Port_put, Cond.instanceMethod y_Port_put]
def wA13 : List Cond := [Cond.selects "StepMachine$Ports" y_Port_put y_Port_put, Cond.code y_Port_put prog_9_method_5_code 2 (some .int), Cond.methodLink "StepMachine$Core" 231 y_Core_answer, Cond.instanceMethod y_Core_answer, Cond.code y_Core_answer prog_3_method_23_code 2 none, Cond.methodLink "StepMachine$Core" 234 y_Port_take, Cond.instanceMethod y_Port_take, Cond.selects "StepMachine$Ports" y_Port_take y_Port_take, Cond.code y_Port_take prog_9_method_4_code 2 (some .int), Cond.methodLink "StepMachine$Core" 194 y_Core_change, Cond.instanceMethod y_Core_change, Cond.code y_Core_change prog_3_method_16_code 3 none, Cond.methodLink "StepMachine$Core" 203 y_Memo_putNumber, Cond.methodLink "StepMachine$Core" 207 y_Core_loaded, Cond.instanceMethod y_Core_loaded, Cond.code y_Core_loaded prog_3_method_17_code 2 (some .int), Cond.methodLink "StepMachine$Core" 215 y_Word_signed, Cond.methodLink "StepMachine$Core" 210 y_Arit_result, Cond.static y_Arit_result, Cond.code y_Arit_result prog_2_method_3_code 3 (some .int), Cond.methodLink "StepMachine$Arithmetic" 13 y_Arit_product, Cond.static y_Arit_product, Cond.code y_Arit_product prog_2_method_4_code 3 (some .int), Cond.methodLink "StepMachine$Arithmetic" 19 y_Arit_quotient, Cond.static y_Arit_quotient, Cond.code y_Arit_quotient prog_2_method_5_code 9 (some .int), Cond.methodLink "StepMachineLaw" 63 y_X_run, Cond.instanceMethod y_X_run, Cond.selects "StepMachine" y_X_run y_X_run, Cond.code y_X_run prog_1_method_12_code 5 (some .int), Cond.constant "StepMachine" 134 65537, Cond.methodLink "StepMachine" 135 y_Halt_has, Cond.methodLink "StepMachine" 136 y_Core_beginsUnit, Cond.methodLink "StepMachineLaw" 67 y_X_back, Cond.instanceMethod y_X_back, Cond.selects "StepMachine" y_X_back y_X_back, Cond.code y_X_back prog_1_method_13_code 4 (some .int), Cond.methodLink "StepMachine" 139 y_Trai_takeLatest, Cond.instanceMethod y_Trai_takeLatest, Cond.selects "StepMachine$Trail" y_Trai_takeLatest y_Trai_takeLatest]
def wA14 : List Cond := [Cond.code y_Trai_takeLatest prog_11_method_3_code 1 (some (.object "StepMachine$Kept")), Cond.methodLink "StepMachine" 143 y_Core_undo, Cond.instanceMethod y_Core_undo, Cond.selects "StepMachine$Core" y_Core_undo y_Core_undo, Cond.code y_Core_undo prog_3_method_9_code 2 none, Cond.methodLink "StepMachine$Core" 128 y_Memo_putCell, Cond.methodLink "StepMachineLaw" 71 y_X_state, Cond.instanceMethod y_X_state, Cond.selects "StepMachine" y_X_state y_X_state, Cond.code y_X_state prog_1_method_14_code 2 (some .int), Cond.methodLink "StepMachineLaw" 75 y_X_output, Cond.instanceMethod y_X_output, Cond.selects "StepMachine" y_X_output y_X_output, Cond.code y_X_output prog_1_method_15_code 2 (some .int), Cond.methodLink "StepMachine" 169 y_Port_outputAt, Cond.instanceMethod y_Port_outputAt, Cond.selects "StepMachine$Ports" y_Port_outputAt y_Port_outputAt, Cond.code y_Port_outputAt prog_9_method_6_code 2 (some .int), Cond.methodLink "StepMachineLaw" 79 y_X_rights, Cond.instanceMethod y_X_rights, Cond.selects "StepMachine" y_X_rights y_X_rights, Cond.code y_X_rights prog_1_method_16_code 2 (some .int), Cond.methodLink "StepMachine" 172 y_Guar_rightsAt, Cond.methodLink "StepMachine" 175 y_Guar_isMarked, Cond.classLink "StepMachineLaw" 10 "StepMachineModel", Cond.instantiable "StepMachineModel" 29, Cond.methodLink "StepMachineLaw" 12 y_M_init, Cond.instanceMethod y_M_init, Cond.code y_M_init prog_14_method_1_code 2 none, Cond.methodLink "StepMachineModel" 1 objectInit, Cond.constant "StepMachineModel" 16 131072, Cond.constant "StepMachineModel" 20 65536, Cond.methodLink "StepMachineModel" 49 y_M_layLong, Cond.instanceMethod y_M_layLong, Cond.code y_M_layLong prog_14_method_11_code 2 none, Cond.constant "StepMachineModel" 56 267386895, Cond.constant "StepMachineModel" 57 1048691, Cond.methodLink "StepMachineModel" 58 y_M_fix, Cond.instanceMethod y_M_fix, Cond.code y_M_fix prog_14_method_4_code 6 none]
def wA15 : List Cond := [Cond.methodLink "StepMachineModel" 62 y_M_opcodeOf, Cond.static y_M_opcodeOf, Cond.code y_M_opcodeOf prog_14_method_5_code 1 (some .int), Cond.methodLink "StepMachineModel" 66 y_M_lay, Cond.instanceMethod y_M_lay, Cond.code y_M_lay prog_14_method_3_code 7 none, Cond.methodLink "StepMachineModel" 70 y_M_thirdOf, Cond.static y_M_thirdOf, Cond.code y_M_thirdOf prog_14_method_6_code 1 (some .int), Cond.methodLink "StepMachineModel" 73 y_M_isBranch, Cond.static y_M_isBranch, Cond.code y_M_isBranch prog_14_method_8_code 1 (some .boolean), Cond.methodLink "StepMachineModel" 77 y_M_isStore, Cond.static y_M_isStore, Cond.code y_M_isStore prog_14_method_9_code 1 (some .boolean), Cond.methodLink "StepMachineModel" 80 y_M_seventhOf, Cond.static y_M_seventhOf, Cond.code y_M_seventhOf prog_14_method_7_code 1 (some .int), Cond.methodLink "StepMachineModel" 83 y_M_isShift, Cond.static y_M_isShift, Cond.code y_M_isShift prog_14_method_10_code 1 (some .boolean), Cond.methodLink "StepMachineModel" 53 y_M_layShort, Cond.instanceMethod y_M_layShort, Cond.code y_M_layShort prog_14_method_14_code 2 none, Cond.methodLink "StepMachineModel" 86 y_M_ends, Cond.instanceMethod y_M_ends, Cond.code y_M_ends prog_14_method_13_code 4 none, Cond.methodLink "StepMachineModel" 90 y_M_one, Cond.instanceMethod y_M_one, Cond.code y_M_one prog_14_method_12_code 4 none, Cond.methodLink "StepMachineModel" 93 y_M_layJump, Cond.instanceMethod y_M_layJump, Cond.code y_M_layJump prog_14_method_15_code 3 none, Cond.fieldLink "StepMachineModel" 7 "StepMachineModel" "row" "[I", Cond.fieldLink "StepMachineModel" 13 "StepMachineModel" "part" "[I", Cond.fieldLink "StepMachineModel" 17 "StepMachineModel" "memory" "[I", Cond.fieldLink "StepMachineModel" 21 "StepMachineModel" "marked" "[Z", Cond.fieldLink "StepMachineModel" 25 "StepMachineModel" "segmentFrom" "[I", Cond.fieldLink "StepMachineModel" 28 "StepMachineModel" "segmentSize" "[I", Cond.fieldLink "StepMachineModel" 31 "StepMachineModel" "segmentRights" "[I"]
def wA16 : List Cond := [Cond.fieldLink "StepMachineModel" 189 "StepMachineModel" "marking" "Z", Cond.fieldLink "StepMachineModel" 34 "StepMachineModel" "halts" "[I", Cond.fieldLink "StepMachineModel" 207 "StepMachineModel" "haltCount" "I", Cond.fieldLink "StepMachineModel" 37 "StepMachineModel" "register" "[I", Cond.fieldLink "StepMachineModel" 195 "StepMachineModel" "pc" "I", Cond.fieldLink "StepMachineModel" 40 "StepMachineModel" "input" "[I", Cond.fieldLink "StepMachineModel" 204 "StepMachineModel" "inputSize" "I", Cond.fieldLink "StepMachineModel" 266 "StepMachineModel" "taken" "I", Cond.fieldLink "StepMachineModel" 43 "StepMachineModel" "output" "[I", Cond.fieldLink "StepMachineModel" 263 "StepMachineModel" "outputSize" "I", Cond.fieldLink "StepMachineModel" 198 "StepMachineModel" "state" "I", Cond.fieldLink "StepMachineModel" 201 "StepMachineModel" "culprit" "I", Cond.fieldLink "StepMachineModel" 254 "StepMachineModel" "value" "I", Cond.fieldLink "StepMachineModel" 257 "StepMachineModel" "steps" "I", Cond.fieldLink "StepMachineModel" 260 "StepMachineModel" "units" "I", Cond.fieldLink "StepMachineModel" 46 "StepMachineModel" "kept" "[I", Cond.fieldLink "StepMachineModel" 180 "StepMachineModel" "keptCount" "I", Cond.fieldLink "StepMachineModel" 251 "StepMachineModel" "keptNext" "I", Cond.fieldLink "StepMachineModel" 236 "StepMachineModel" "bytes" "I", Cond.fieldLink "StepMachineModel" 242 "StepMachineModel" "kind" "I", Cond.fieldLink "StepMachineModel" 287 "StepMachineModel" "target" "I", Cond.fieldLink "StepMachineModel" 284 "StepMachineModel" "jumps" "Z", Cond.laysFinal "StepMachineModel" "StepMachineModel" "row" "[I", Cond.laysFinal "StepMachineModel" "StepMachineModel" "part" "[I", Cond.laysFinal "StepMachineModel" "StepMachineModel" "memory" "[I", Cond.laysFinal "StepMachineModel" "StepMachineModel" "marked" "[Z", Cond.laysFinal "StepMachineModel" "StepMachineModel" "segmentFrom" "[I", Cond.laysFinal "StepMachineModel" "StepMachineModel" "segmentSize" "[I", Cond.laysFinal "StepMachineModel" "StepMachineModel" "segmentRights" "[I", Cond.lays "StepMachineModel" "StepMachineModel" "marking" "Z", Cond.laysFinal "StepMachineModel" "StepMachineModel" "halts" "[I", Cond.lays "StepMachineModel" "StepMachineModel" "haltCount" "I", Cond.laysFinal "StepMachineModel" "StepMachineModel" "register" "[I", Cond.lays "StepMachineModel" "StepMachineModel" "pc" "I", Cond.laysFinal "StepMachineModel" "StepMachineModel" "input" "[I", Cond.lays "StepMachineModel" "StepMachineModel" "inputSize" "I", Cond.lays "StepMachineModel" "StepMachineModel" "taken" "I", Cond.laysFinal "StepMachineModel" "StepMachineModel" "output" "[I", Cond.lays "StepMachineModel" "StepMachineModel" "outputSize" "I", Cond.lays "StepMachineModel" "StepMachineModel" "state" "I"]
def wA17 : List Cond := [Cond.lays "StepMachineModel" "StepMachineModel" "culprit" "I", Cond.lays "StepMachineModel" "StepMachineModel" "value" "I", Cond.lays "StepMachineModel" "StepMachineModel" "steps" "I", Cond.lays "StepMachineModel" "StepMachineModel" "units" "I", Cond.laysFinal "StepMachineModel" "StepMachineModel" "kept" "[I", Cond.lays "StepMachineModel" "StepMachineModel" "keptCount" "I", Cond.lays "StepMachineModel" "StepMachineModel" "keptNext" "I", Cond.lays "StepMachineModel" "StepMachineModel" "bytes" "I", Cond.lays "StepMachineModel" "StepMachineModel" "kind" "I", Cond.lays "StepMachineModel" "StepMachineModel" "target" "I", Cond.lays "StepMachineModel" "StepMachineModel" "jumps" "Z", Cond.arrayClass Jvm.ClassFile.FieldType.boolean, Cond.methodLink "StepMachineLaw" 17 y_M_segment, Cond.instanceMethod y_M_segment, Cond.selects "StepMachineModel" y_M_segment y_M_segment, Cond.code y_M_segment prog_14_method_32_code 5 (some .boolean), Cond.constantLong "StepMachineModel" 184 131072, Cond.methodLink "StepMachineModel" 186 y_M_forget, Cond.instanceMethod y_M_forget, Cond.code y_M_forget prog_14_method_31_code 1 none, Cond.methodLink "StepMachineLaw" 22 y_M_mark, Cond.instanceMethod y_M_mark, Cond.selects "StepMachineModel" y_M_mark y_M_mark, Cond.code y_M_mark prog_14_method_33_code 3 (some .boolean), Cond.methodLink "StepMachineLaw" 27 y_M_marking, Cond.instanceMethod y_M_marking, Cond.selects "StepMachineModel" y_M_marking y_M_marking, Cond.code y_M_marking prog_14_method_34_code 2 none, Cond.methodLink "StepMachineLaw" 34 y_M_poke, Cond.instanceMethod y_M_poke, Cond.selects "StepMachineModel" y_M_poke y_M_poke, Cond.code y_M_poke prog_14_method_35_code 6 (some .boolean), Cond.constantLong "StepMachineModel" 193 255, Cond.methodLink "StepMachineLaw" 39 y_M_peek, Cond.instanceMethod y_M_peek, Cond.selects "StepMachineModel" y_M_peek y_M_peek, Cond.code y_M_peek prog_14_method_36_code 2 (some .int), Cond.methodLink "StepMachineLaw" 44 y_M_set, Cond.instanceMethod y_M_set, Cond.selects "StepMachineModel" y_M_set y_M_set]
def wA18 : List Cond := [Cond.code y_M_set prog_14_method_37_code 3 (some .boolean), Cond.methodLink "StepMachineLaw" 48 y_M_get, Cond.instanceMethod y_M_get, Cond.selects "StepMachineModel" y_M_get y_M_get, Cond.code y_M_get prog_14_method_38_code 2 (some .int), Cond.methodLink "StepMachineLaw" 53 y_M_input, Cond.instanceMethod y_M_input, Cond.selects "StepMachineModel" y_M_input y_M_input, Cond.code y_M_input prog_14_method_39_code 5 (some .boolean), Cond.methodLink "StepMachineLaw" 57 y_M_halt, Cond.instanceMethod y_M_halt, Cond.selects "StepMachineModel" y_M_halt y_M_halt, Cond.code y_M_halt prog_14_method_41_code 4 (some .boolean), Cond.methodLink "StepMachineModel" 210 y_M_haltAt, Cond.instanceMethod y_M_haltAt, Cond.code y_M_haltAt prog_14_method_40_code 3 (some .int), Cond.methodLink "StepMachineLaw" 62 y_M_step, Cond.instanceMethod y_M_step, Cond.selects "StepMachineModel" y_M_step y_M_step, Cond.code y_M_step prog_14_method_64_code 4 (some .int), Cond.methodLink "StepMachineModel" 309 y_M_isEnd, Cond.instanceMethod y_M_isEnd, Cond.code y_M_isEnd prog_14_method_63_code 1 (some .boolean), Cond.methodLink "StepMachineModel" 313 y_M_isUnit, Cond.instanceMethod y_M_isUnit, Cond.code y_M_isUnit prog_14_method_62_code 1 (some .boolean), Cond.methodLink "StepMachineModel" 221 y_M_bare, Cond.static y_M_bare, Cond.code y_M_bare prog_14_method_44_code 1 (some .long), Cond.constantLong "StepMachineModel" 213 4294967295, Cond.methodLink "StepMachineModel" 305 y_M_isMarked, Cond.instanceMethod y_M_isMarked, Cond.code y_M_isMarked prog_14_method_43_code 3 (some .boolean), Cond.constantLong "StepMachineModel" 114 2, Cond.methodLink "StepMachineModel" 316 y_M_isFetched, Cond.instanceMethod y_M_isFetched, Cond.code y_M_isFetched prog_14_method_48_code 7 (some .boolean), Cond.methodLink "StepMachineModel" 225 y_M_without, Cond.instanceMethod y_M_without, Cond.code y_M_without prog_14_method_46_code 6 (some .long)]
def wA19 : List Cond := [Cond.methodLink "StepMachineModel" 215 y_M_rightsOf, Cond.instanceMethod y_M_rightsOf, Cond.code y_M_rightsOf prog_14_method_42_code 4 (some .int), Cond.constantLong "StepMachineModel" 219 (-1), Cond.methodLink "StepMachineModel" 229 y_M_fail, Cond.instanceMethod y_M_fail, Cond.code y_M_fail prog_14_method_45_code 3 (some .int), Cond.methodLink "StepMachineModel" 233 y_M_fetched, Cond.instanceMethod y_M_fetched, Cond.code y_M_fetched prog_14_method_47_code 5 (some .int), Cond.methodLink "StepMachineModel" 168 y_M_isLong, Cond.static y_M_isLong, Cond.code y_M_isLong prog_14_method_27_code 1 (some .boolean), Cond.methodLink "StepMachineModel" 239 y_M_find, Cond.instanceMethod y_M_find, Cond.code y_M_find prog_14_method_28_code 5 (some .int), Cond.methodLink "StepMachineModel" 171 y_M_take, Cond.instanceMethod y_M_take, Cond.code y_M_take prog_14_method_26_code 6 (some .boolean), Cond.methodLink "StepMachineModel" 100 y_M_isShortPart, Cond.instanceMethod y_M_isShortPart, Cond.code y_M_isShortPart prog_14_method_19_code 4 (some .boolean), Cond.methodLink "StepMachineModel" 97 y_M_bitsOf, Cond.static y_M_bitsOf, Cond.code y_M_bitsOf prog_14_method_17_code 1 (some .int), Cond.methodLink "StepMachineModel" 161 y_M_signOf, Cond.static y_M_signOf, Cond.code y_M_signOf prog_14_method_23_code 1 (some .int), Cond.constant "StepMachineModel" 164 1048575, Cond.methodLink "StepMachineModel" 165 y_M_areGood, Cond.instanceMethod y_M_areGood, Cond.code y_M_areGood prog_14_method_24_code 3 (some .boolean), Cond.methodLink "StepMachineModel" 150 y_M_has, Cond.instanceMethod y_M_has, Cond.code y_M_has prog_14_method_18_code 5 (some .boolean), Cond.methodLink "StepMachineModel" 153 y_M_isRegister, Cond.instanceMethod y_M_isRegister, Cond.code y_M_isRegister prog_14_method_20_code 4 (some .boolean), Cond.methodLink "StepMachineModel" 157 y_M_isImmediate, Cond.static y_M_isImmediate]
def wA20 : List Cond := [Cond.code y_M_isImmediate prog_14_method_22_code 3 (some .boolean), Cond.constantLong "StepMachineModel" 104 1048575, Cond.methodLink "StepMachineModel" 106 y_M_isStep, Cond.static y_M_isStep, Cond.code y_M_isStep prog_14_method_21_code 8 (some .boolean), Cond.constantLong "StepMachineModel" 110 (-1048576), Cond.constantLong "StepMachineModel" 112 1048574, Cond.constantLong "StepMachineModel" 116 (-4096), Cond.constantLong "StepMachineModel" 118 4094, Cond.constantLong "StepMachineModel" 120 31, Cond.constantLong "StepMachineModel" 122 (-2048), Cond.constantLong "StepMachineModel" 124 2047, Cond.constantLong "StepMachineModel" 126 4, Cond.constantLong "StepMachineModel" 128 1020, Cond.constantLong "StepMachineModel" 130 124, Cond.constantLong "StepMachineModel" 132 (-32), Cond.constantLong "StepMachineModel" 134 2046, Cond.constantLong "StepMachineModel" 136 (-512), Cond.constantLong "StepMachineModel" 138 496, Cond.constantLong "StepMachineModel" 140 16, Cond.constantLong "StepMachineModel" 142 1048544, Cond.constantLong "StepMachineModel" 144 (-256), Cond.constantLong "StepMachineModel" 146 254, Cond.constantLong "StepMachineModel" 148 252, Cond.methodLink "StepMachineModel" 245 y_M_stretch, Cond.instanceMethod y_M_stretch, Cond.code y_M_stretch prog_14_method_30_code 5 (some .int), Cond.methodLink "StepMachineModel" 174 y_M_longKind, Cond.static y_M_longKind, Cond.code y_M_longKind prog_14_method_29_code 1 (some .int), Cond.methodLink "StepMachineModel" 177 y_M_put, Cond.instanceMethod y_M_put, Cond.code y_M_put prog_14_method_25_code 6 (some .int), Cond.methodLink "StepMachineModel" 319 y_M_canReach, Cond.instanceMethod y_M_canReach, Cond.code y_M_canReach prog_14_method_50_code 5 (some .boolean), Cond.methodLink "StepMachineModel" 248 y_M_widthOf, Cond.instanceMethod y_M_widthOf, Cond.code y_M_widthOf prog_14_method_49_code 2 (some .int), Cond.methodLink "StepMachineModel" 322 y_M_keep]
def wA21 : List Cond := [Cond.instanceMethod y_M_keep, Cond.code y_M_keep prog_14_method_51_code 2 none, Cond.methodLink "StepMachineModel" 325 y_M_work, Cond.instanceMethod y_M_work, Cond.code y_M_work prog_14_method_61_code 5 none, Cond.methodLink "StepMachineModel" 281 y_M_become, Cond.instanceMethod y_M_become, Cond.code y_M_become prog_14_method_53_code 3 none, Cond.methodLink "StepMachineModel" 269 y_M_latest, Cond.instanceMethod y_M_latest, Cond.code y_M_latest prog_14_method_52_code 1 (some .int), Cond.methodLink "StepMachineModel" 290 y_M_branches, Cond.static y_M_branches, Cond.code y_M_branches prog_14_method_59_code 3 (some .boolean), Cond.methodLink "StepMachineModel" 293 y_M_loaded, Cond.instanceMethod y_M_loaded, Cond.code y_M_loaded prog_14_method_55_code 3 (some .int), Cond.methodLink "StepMachineModel" 296 y_M_store, Cond.instanceMethod y_M_store, Cond.code y_M_store prog_14_method_54_code 6 none, Cond.methodLink "StepMachineModel" 299 y_M_reckoned, Cond.static y_M_reckoned, Cond.code y_M_reckoned prog_14_method_57_code 3 (some .int), Cond.methodLink "StepMachineModel" 273 y_M_truth, Cond.static y_M_truth, Cond.code y_M_truth prog_14_method_56_code 1 (some .int), Cond.methodLink "StepMachineModel" 277 y_M_multiplied, Cond.static y_M_multiplied, Cond.code y_M_multiplied prog_14_method_58_code 3 (some .int), Cond.methodLink "StepMachineModel" 302 y_M_serve, Cond.instanceMethod y_M_serve, Cond.code y_M_serve prog_14_method_60_code 3 none, Cond.methodLink "StepMachineLaw" 66 y_M_run, Cond.instanceMethod y_M_run, Cond.selects "StepMachineModel" y_M_run y_M_run, Cond.code y_M_run prog_14_method_65_code 5 (some .int), Cond.methodLink "StepMachineModel" 328 y_M_step, Cond.methodLink "StepMachineLaw" 70 y_M_back, Cond.instanceMethod y_M_back, Cond.selects "StepMachineModel" y_M_back y_M_back]
def wA22 : List Cond := [Cond.code y_M_back prog_14_method_66_code 5 (some .int), Cond.methodLink "StepMachineLaw" 74 y_M_state, Cond.instanceMethod y_M_state, Cond.selects "StepMachineModel" y_M_state y_M_state, Cond.code y_M_state prog_14_method_67_code 2 (some .int), Cond.methodLink "StepMachineLaw" 78 y_M_output, Cond.instanceMethod y_M_output, Cond.selects "StepMachineModel" y_M_output y_M_output, Cond.code y_M_output prog_14_method_68_code 2 (some .int), Cond.methodLink "StepMachineLaw" 82 y_M_rights, Cond.instanceMethod y_M_rights, Cond.selects "StepMachineModel" y_M_rights y_M_rights, Cond.code y_M_rights prog_14_method_69_code 2 (some .int), Cond.constantLong "StepMachineLaw" 28 4294967295, Cond.selects "StepMachine" y_X_forgetIf y_X_forgetIf, Cond.selects "StepMachine$Halts" y_Halt_find y_Halt_find, Cond.selects "StepMachine$Core" y_Core_fetch y_Core_fetch, Cond.selects "StepMachine$Core" y_Core_mayExecuteHalf y_Core_mayExecuteHalf, Cond.selects "StepMachine$Core" y_Core_failsInMemory y_Core_failsInMemory, Cond.selects "StepMachine$Core" y_Core_address y_Core_address, Cond.selects "StepMachine$Core" y_Core_remember y_Core_remember, Cond.selects "StepMachine$Core" y_Core_perform y_Core_perform, Cond.selects "StepMachine$Core" y_Core_link y_Core_link, Cond.selects "StepMachine$Core" y_Core_jump y_Core_jump, Cond.selects "StepMachine$Core" y_Core_branch y_Core_branch, Cond.selects "StepMachine$Core" y_Core_goOn y_Core_goOn, Cond.selects "StepMachine$Core" y_Core_serve y_Core_serve, Cond.selects "StepMachine$Core" y_Core_answer y_Core_answer, Cond.selects "StepMachine$Core" y_Core_change y_Core_change, Cond.selects "StepMachine$Core" y_Core_loaded y_Core_loaded, Cond.selects "StepMachineModel" y_M_layLong y_M_layLong, Cond.selects "StepMachineModel" y_M_fix y_M_fix, Cond.selects "StepMachineModel" y_M_lay y_M_lay, Cond.selects "StepMachineModel" y_M_layShort y_M_layShort, Cond.selects "StepMachineModel" y_M_ends y_M_ends, Cond.selects "StepMachineModel" y_M_one y_M_one, Cond.selects "StepMachineModel" y_M_layJump y_M_layJump, Cond.selects "StepMachineModel" y_M_forget y_M_forget, Cond.selects "StepMachineModel" y_M_haltAt y_M_haltAt, Cond.selects "StepMachineModel" y_M_isEnd y_M_isEnd]
def wA23 : List Cond := [Cond.selects "StepMachineModel" y_M_isUnit y_M_isUnit, Cond.selects "StepMachineModel" y_M_isMarked y_M_isMarked, Cond.selects "StepMachineModel" y_M_isFetched y_M_isFetched, Cond.selects "StepMachineModel" y_M_without y_M_without, Cond.selects "StepMachineModel" y_M_rightsOf y_M_rightsOf, Cond.selects "StepMachineModel" y_M_fail y_M_fail, Cond.selects "StepMachineModel" y_M_fetched y_M_fetched, Cond.selects "StepMachineModel" y_M_find y_M_find, Cond.selects "StepMachineModel" y_M_take y_M_take, Cond.selects "StepMachineModel" y_M_isShortPart y_M_isShortPart, Cond.selects "StepMachineModel" y_M_areGood y_M_areGood, Cond.selects "StepMachineModel" y_M_has y_M_has, Cond.selects "StepMachineModel" y_M_isRegister y_M_isRegister, Cond.selects "StepMachineModel" y_M_stretch y_M_stretch, Cond.selects "StepMachineModel" y_M_put y_M_put, Cond.selects "StepMachineModel" y_M_canReach y_M_canReach, Cond.selects "StepMachineModel" y_M_widthOf y_M_widthOf, Cond.selects "StepMachineModel" y_M_keep y_M_keep, Cond.selects "StepMachineModel" y_M_work y_M_work, Cond.selects "StepMachineModel" y_M_become y_M_become, Cond.selects "StepMachineModel" y_M_latest y_M_latest, Cond.selects "StepMachineModel" y_M_loaded y_M_loaded, Cond.selects "StepMachineModel" y_M_store y_M_store, Cond.selects "StepMachineModel" y_M_serve y_M_serve]
def wALL : List Cond := wA0 ++ (wA1 ++ (wA2 ++ (wA3 ++ (wA4 ++ (wA5 ++ (wA6 ++ (wA7 ++ (wA8 ++ (wA9 ++ (wA10 ++ (wA11 ++ (wA12 ++ (wA13 ++ (wA14 ++ (wA15 ++ (wA16 ++ (wA17 ++ (wA18 ++ (wA19 ++ (wA20 ++ (wA21 ++ (wA22 ++ (wA23)))))))))))))))))))))))
theorem inA0 {w : Cond} (h : w ∈ wA0) : w ∈ wALL := List.mem_append_left _ h
theorem inA1 {w : Cond} (h : w ∈ wA1) : w ∈ wALL := List.mem_append_right _ (List.mem_append_left _ h)
theorem inA2 {w : Cond} (h : w ∈ wA2) : w ∈ wALL := List.mem_append_right _ (List.mem_append_right _ (List.mem_append_left _ h))
theorem inA3 {w : Cond} (h : w ∈ wA3) : w ∈ wALL := List.mem_append_right _ (List.mem_append_right _ (List.mem_append_right _ (List.mem_append_left _ h)))
theorem inA4 {w : Cond} (h : w ∈ wA4) : w ∈ wALL := List.mem_append_right _ (List.mem_append_right _ (List.mem_append_right _ (List.mem_append_right _ (List.mem_append_left _ h))))
theorem inA5 {w : Cond} (h : w ∈ wA5) : w ∈ wALL := List.mem_append_right _ (List.mem_append_right _ (List.mem_append_right _ (List.mem_append_right _ (List.mem_append_right _ (List.mem_append_left _ h)))))
theorem inA6 {w : Cond} (h : w ∈ wA6) : w ∈ wALL := List.mem_append_right _ (List.mem_append_right _ (List.mem_append_right _ (List.mem_append_right _ (List.mem_append_right _ (List.mem_append_right _ (List.mem_append_left _ h))))))
theorem inA7 {w : Cond} (h : w ∈ wA7) : w ∈ wALL := List.mem_append_right _ (List.mem_append_right _ (List.mem_append_right _ (List.mem_append_right _ (List.mem_append_right _ (List.mem_append_right _ (List.mem_append_right _ (List.mem_append_left _ h)))))))
theorem inA8 {w : Cond} (h : w ∈ wA8) : w ∈ wALL := List.mem_append_right _ (List.mem_append_right _ (List.mem_append_right _ (List.mem_append_right _ (List.mem_append_right _ (List.mem_append_right _ (List.mem_append_right _ (List.mem_append_right _ (List.mem_append_left _ h))))))))
theorem inA9 {w : Cond} (h : w ∈ wA9) : w ∈ wALL := List.mem_append_right _ (List.mem_append_right _ (List.mem_append_right _ (List.mem_append_right _ (List.mem_append_right _ (List.mem_append_right _ (List.mem_append_right _ (List.mem_append_right _ (List.mem_append_right _ (List.mem_append_left _ h)))))))))
theorem inA10 {w : Cond} (h : w ∈ wA10) : w ∈ wALL := List.mem_append_right _ (List.mem_append_right _ (List.mem_append_right _ (List.mem_append_right _ (List.mem_append_right _ (List.mem_append_right _ (List.mem_append_right _ (List.mem_append_right _ (List.mem_append_right _ (List.mem_append_right _ (List.mem_append_left _ h))))))))))
theorem inA11 {w : Cond} (h : w ∈ wA11) : w ∈ wALL := List.mem_append_right _ (List.mem_append_right _ (List.mem_append_right _ (List.mem_append_right _ (List.mem_append_right _ (List.mem_append_right _ (List.mem_append_right _ (List.mem_append_right _ (List.mem_append_right _ (List.mem_append_right _ (List.mem_append_right _ (List.mem_append_left _ h)))))))))))
theorem inA12 {w : Cond} (h : w ∈ wA12) : w ∈ wALL := List.mem_append_right _ (List.mem_append_right _ (List.mem_append_right _ (List.mem_append_right _ (List.mem_append_right _ (List.mem_append_right _ (List.mem_append_right _ (List.mem_append_right _ (List.mem_append_right _ (List.mem_append_right _ (List.mem_append_right _ (List.mem_append_right _ (List.mem_append_left _ h))))))))))))
theorem inA13 {w : Cond} (h : w ∈ wA13) : w ∈ wALL := List.mem_append_right _ (List.mem_append_right _ (List.mem_append_right _ (List.mem_append_right _ (List.mem_append_right _ (List.mem_append_right _ (List.mem_append_right _ (List.mem_append_right _ (List.mem_append_right _ (List.mem_append_right _ (List.mem_append_right _ (List.mem_append_right _ (List.mem_append_right _ (List.mem_append_left _ h)))))))))))))
theorem inA14 {w : Cond} (h : w ∈ wA14) : w ∈ wALL := List.mem_append_right _ (List.mem_append_right _ (List.mem_append_right _ (List.mem_append_right _ (List.mem_append_right _ (List.mem_append_right _ (List.mem_append_right _ (List.mem_append_right _ (List.mem_append_right _ (List.mem_append_right _ (List.mem_append_right _ (List.mem_append_right _ (List.mem_append_right _ (List.mem_append_right _ (List.mem_append_left _ h))))))))))))))
theorem inA15 {w : Cond} (h : w ∈ wA15) : w ∈ wALL := List.mem_append_right _ (List.mem_append_right _ (List.mem_append_right _ (List.mem_append_right _ (List.mem_append_right _ (List.mem_append_right _ (List.mem_append_right _ (List.mem_append_right _ (List.mem_append_right _ (List.mem_append_right _ (List.mem_append_right _ (List.mem_append_right _ (List.mem_append_right _ (List.mem_append_right _ (List.mem_append_right _ (List.mem_append_left _ h)))))))))))))))
theorem inA16 {w : Cond} (h : w ∈ wA16) : w ∈ wALL := List.mem_append_right _ (List.mem_append_right _ (List.mem_append_right _ (List.mem_append_right _ (List.mem_append_right _ (List.mem_append_right _ (List.mem_append_right _ (List.mem_append_right _ (List.mem_append_right _ (List.mem_append_right _ (List.mem_append_right _ (List.mem_append_right _ (List.mem_append_right _ (List.mem_append_right _ (List.mem_append_right _ (List.mem_append_right _ (List.mem_append_left _ h))))))))))))))))
theorem inA17 {w : Cond} (h : w ∈ wA17) : w ∈ wALL := List.mem_append_right _ (List.mem_append_right _ (List.mem_append_right _ (List.mem_append_right _ (List.mem_append_right _ (List.mem_append_right _ (List.mem_append_right _ (List.mem_append_right _ (List.mem_append_right _ (List.mem_append_right _ (List.mem_append_right _ (List.mem_append_right _ (List.mem_append_right _ (List.mem_append_right _ (List.mem_append_right _ (List.mem_append_right _ (List.mem_append_right _ (List.mem_append_left _ h)))))))))))))))))
theorem inA18 {w : Cond} (h : w ∈ wA18) : w ∈ wALL := List.mem_append_right _ (List.mem_append_right _ (List.mem_append_right _ (List.mem_append_right _ (List.mem_append_right _ (List.mem_append_right _ (List.mem_append_right _ (List.mem_append_right _ (List.mem_append_right _ (List.mem_append_right _ (List.mem_append_right _ (List.mem_append_right _ (List.mem_append_right _ (List.mem_append_right _ (List.mem_append_right _ (List.mem_append_right _ (List.mem_append_right _ (List.mem_append_right _ (List.mem_append_left _ h))))))))))))))))))
theorem inA19 {w : Cond} (h : w ∈ wA19) : w ∈ wALL := List.mem_append_right _ (List.mem_append_right _ (List.mem_append_right _ (List.mem_append_right _ (List.mem_append_right _ (List.mem_append_right _ (List.mem_append_right _ (List.mem_append_right _ (List.mem_append_right _ (List.mem_append_right _ (List.mem_append_right _ (List.mem_append_right _ (List.mem_append_right _ (List.mem_append_right _ (List.mem_append_right _ (List.mem_append_right _ (List.mem_append_right _ (List.mem_append_right _ (List.mem_append_right _ (List.mem_append_left _ h)))))))))))))))))))
theorem inA20 {w : Cond} (h : w ∈ wA20) : w ∈ wALL := List.mem_append_right _ (List.mem_append_right _ (List.mem_append_right _ (List.mem_append_right _ (List.mem_append_right _ (List.mem_append_right _ (List.mem_append_right _ (List.mem_append_right _ (List.mem_append_right _ (List.mem_append_right _ (List.mem_append_right _ (List.mem_append_right _ (List.mem_append_right _ (List.mem_append_right _ (List.mem_append_right _ (List.mem_append_right _ (List.mem_append_right _ (List.mem_append_right _ (List.mem_append_right _ (List.mem_append_right _ (List.mem_append_left _ h))))))))))))))))))))
theorem inA21 {w : Cond} (h : w ∈ wA21) : w ∈ wALL := List.mem_append_right _ (List.mem_append_right _ (List.mem_append_right _ (List.mem_append_right _ (List.mem_append_right _ (List.mem_append_right _ (List.mem_append_right _ (List.mem_append_right _ (List.mem_append_right _ (List.mem_append_right _ (List.mem_append_right _ (List.mem_append_right _ (List.mem_append_right _ (List.mem_append_right _ (List.mem_append_right _ (List.mem_append_right _ (List.mem_append_right _ (List.mem_append_right _ (List.mem_append_right _ (List.mem_append_right _ (List.mem_append_right _ (List.mem_append_left _ h)))))))))))))))))))))
theorem inA22 {w : Cond} (h : w ∈ wA22) : w ∈ wALL := List.mem_append_right _ (List.mem_append_right _ (List.mem_append_right _ (List.mem_append_right _ (List.mem_append_right _ (List.mem_append_right _ (List.mem_append_right _ (List.mem_append_right _ (List.mem_append_right _ (List.mem_append_right _ (List.mem_append_right _ (List.mem_append_right _ (List.mem_append_right _ (List.mem_append_right _ (List.mem_append_right _ (List.mem_append_right _ (List.mem_append_right _ (List.mem_append_right _ (List.mem_append_right _ (List.mem_append_right _ (List.mem_append_right _ (List.mem_append_right _ (List.mem_append_left _ h))))))))))))))))))))))
theorem inA23 {w : Cond} (h : w ∈ wA23) : w ∈ wALL := List.mem_append_right _ (List.mem_append_right _ (List.mem_append_right _ (List.mem_append_right _ (List.mem_append_right _ (List.mem_append_right _ (List.mem_append_right _ (List.mem_append_right _ (List.mem_append_right _ (List.mem_append_right _ (List.mem_append_right _ (List.mem_append_right _ (List.mem_append_right _ (List.mem_append_right _ (List.mem_append_right _ (List.mem_append_right _ (List.mem_append_right _ (List.mem_append_right _ (List.mem_append_right _ (List.mem_append_right _ (List.mem_append_right _ (List.mem_append_right _ (List.mem_append_right _ (h)))))))))))))))))))))))
theorem a_0 : Cond.initialized "StepMachineLaw" ∈ wALL := inA0 (List.mem_of_getElem? (i := 0) rfl)
theorem a_1 : Cond.initialized "StepMachine" ∈ wALL := inA0 (List.mem_of_getElem? (i := 1) rfl)
theorem a_2 : Cond.initialized "StepMachine$Memory" ∈ wALL := inA0 (List.mem_of_getElem? (i := 2) rfl)
theorem a_3 : Cond.initialized "StepMachine$Guard" ∈ wALL := inA0 (List.mem_of_getElem? (i := 3) rfl)
theorem a_4 : Cond.initialized "StepMachine$Halts" ∈ wALL := inA0 (List.mem_of_getElem? (i := 4) rfl)
theorem a_5 : Cond.initialized "StepMachine$Ports" ∈ wALL := inA0 (List.mem_of_getElem? (i := 5) rfl)
theorem a_6 : Cond.initialized "StepMachine$Trail" ∈ wALL := inA0 (List.mem_of_getElem? (i := 6) rfl)
theorem a_7 : Cond.initialized "StepMachine$Kept" ∈ wALL := inA0 (List.mem_of_getElem? (i := 7) rfl)
theorem a_8 : Cond.initialized "StepMachine$Core" ∈ wALL := inA0 (List.mem_of_getElem? (i := 8) rfl)
theorem a_9 : Cond.initialized "StepMachine$Word" ∈ wALL := inA0 (List.mem_of_getElem? (i := 9) rfl)
theorem a_10 : Cond.initialized "StepMachineModel" ∈ wALL := inA0 (List.mem_of_getElem? (i := 10) rfl)
theorem a_11 : Cond.initialized "StepMachine$ShortForm" ∈ wALL := inA0 (List.mem_of_getElem? (i := 11) rfl)
theorem a_12 : Cond.initialized "StepMachine$LongForm" ∈ wALL := inA0 (List.mem_of_getElem? (i := 12) rfl)
theorem a_13 : Cond.initialized "java/lang/Math" ∈ wALL := inA0 (List.mem_of_getElem? (i := 13) rfl)
theorem a_14 : Cond.initialized "StepMachine$Arithmetic" ∈ wALL := inA0 (List.mem_of_getElem? (i := 14) rfl)
theorem a_15 : Cond.classLink "StepMachineLaw" 7 "StepMachine" ∈ wALL := inA0 (List.mem_of_getElem? (i := 15) rfl)
theorem a_16 : Cond.instantiable "StepMachine" 6 ∈ wALL := inA0 (List.mem_of_getElem? (i := 16) rfl)
theorem a_17 : Cond.methodLink "StepMachineLaw" 9 y_X_init ∈ wALL := inA0 (List.mem_of_getElem? (i := 17) rfl)
theorem a_18 : Cond.instanceMethod y_X_init ∈ wALL := inA0 (List.mem_of_getElem? (i := 18) rfl)
theorem a_19 : Cond.code y_X_init prog_1_method_1_code 1 none ∈ wALL := inA0 (List.mem_of_getElem? (i := 19) rfl)
theorem a_20 : Cond.methodLink "StepMachine" 1 objectInit ∈ wALL := inA0 (List.mem_of_getElem? (i := 20) rfl)
theorem a_21 : Cond.instanceMethod objectInit ∈ wALL := inA0 (List.mem_of_getElem? (i := 21) rfl)
theorem a_22 : Cond.code objectInit object_method_1_code 1 none ∈ wALL := inA0 (List.mem_of_getElem? (i := 22) rfl)
theorem a_23 : Cond.classLink "StepMachine" 7 "StepMachine$Memory" ∈ wALL := inA0 (List.mem_of_getElem? (i := 23) rfl)
theorem a_24 : Cond.instantiable "StepMachine$Memory" 1 ∈ wALL := inA0 (List.mem_of_getElem? (i := 24) rfl)
theorem a_25 : Cond.instanceMethod y_Memo_init ∈ wALL := inA0 (List.mem_of_getElem? (i := 25) rfl)
theorem a_26 : Cond.code y_Memo_init prog_8_method_1_code 1 none ∈ wALL := inA0 (List.mem_of_getElem? (i := 26) rfl)
theorem a_27 : Cond.methodLink "StepMachine$Memory" 1 objectInit ∈ wALL := inA0 (List.mem_of_getElem? (i := 27) rfl)
theorem a_28 : Cond.constant "StepMachine$Memory" 9 32768 ∈ wALL := inA0 (List.mem_of_getElem? (i := 28) rfl)
theorem a_29 : Cond.fieldLink "StepMachine$Memory" 10 "StepMachine$Memory" "cells" "[I" ∈ wALL := inA0 (List.mem_of_getElem? (i := 29) rfl)
theorem a_30 : Cond.laysFinal "StepMachine$Memory" "StepMachine$Memory" "cells" "[I" ∈ wALL := inA0 (List.mem_of_getElem? (i := 30) rfl)
theorem a_31 : Cond.arrayClass Jvm.ClassFile.FieldType.int ∈ wALL := inA0 (List.mem_of_getElem? (i := 31) rfl)
theorem a_32 : Cond.classLink "StepMachine" 16 "StepMachine$Guard" ∈ wALL := inA0 (List.mem_of_getElem? (i := 32) rfl)
theorem a_33 : Cond.instantiable "StepMachine$Guard" 5 ∈ wALL := inA0 (List.mem_of_getElem? (i := 33) rfl)
theorem a_34 : Cond.instanceMethod y_Guar_init ∈ wALL := inA0 (List.mem_of_getElem? (i := 34) rfl)
theorem a_35 : Cond.code y_Guar_init prog_4_method_1_code 1 none ∈ wALL := inA0 (List.mem_of_getElem? (i := 35) rfl)
theorem a_36 : Cond.methodLink "StepMachine$Guard" 3 objectInit ∈ wALL := inA0 (List.mem_of_getElem? (i := 36) rfl)
theorem a_37 : Cond.fieldLink "StepMachine$Guard" 11 "StepMachine$Guard" "begins" "[I" ∈ wALL := inA0 (List.mem_of_getElem? (i := 37) rfl)
theorem a_38 : Cond.fieldLink "StepMachine$Guard" 15 "StepMachine$Guard" "sizes" "[I" ∈ wALL := inA0 (List.mem_of_getElem? (i := 38) rfl)
theorem a_39 : Cond.fieldLink "StepMachine$Guard" 18 "StepMachine$Guard" "allowed" "[I" ∈ wALL := inA0 (List.mem_of_getElem? (i := 39) rfl)
theorem a_40 : Cond.fieldLink "StepMachine$Guard" 23 "StepMachine$Guard" "marks" "[I" ∈ wALL := inA1 (List.mem_of_getElem? (i := 0) rfl)
theorem a_41 : Cond.fieldLink "StepMachine" 65 "StepMachine$Guard" "marking" "Z" ∈ wALL := inA1 (List.mem_of_getElem? (i := 1) rfl)
theorem a_42 : Cond.fieldLink "StepMachine$Core" 48 "StepMachine$Guard" "marking" "Z" ∈ wALL := inA1 (List.mem_of_getElem? (i := 2) rfl)
theorem a_43 : Cond.laysFinal "StepMachine$Guard" "StepMachine$Guard" "begins" "[I" ∈ wALL := inA1 (List.mem_of_getElem? (i := 3) rfl)
theorem a_44 : Cond.laysFinal "StepMachine$Guard" "StepMachine$Guard" "sizes" "[I" ∈ wALL := inA1 (List.mem_of_getElem? (i := 4) rfl)
theorem a_45 : Cond.laysFinal "StepMachine$Guard" "StepMachine$Guard" "allowed" "[I" ∈ wALL := inA1 (List.mem_of_getElem? (i := 5) rfl)
theorem a_46 : Cond.laysFinal "StepMachine$Guard" "StepMachine$Guard" "marks" "[I" ∈ wALL := inA1 (List.mem_of_getElem? (i := 6) rfl)
theorem a_47 : Cond.lays "StepMachine$Guard" "StepMachine$Guard" "marking" "Z" ∈ wALL := inA1 (List.mem_of_getElem? (i := 7) rfl)
theorem a_48 : Cond.classLink "StepMachine" 23 "StepMachine$Halts" ∈ wALL := inA1 (List.mem_of_getElem? (i := 8) rfl)
theorem a_49 : Cond.instantiable "StepMachine$Halts" 2 ∈ wALL := inA1 (List.mem_of_getElem? (i := 9) rfl)
theorem a_50 : Cond.instanceMethod y_Halt_init ∈ wALL := inA1 (List.mem_of_getElem? (i := 10) rfl)
theorem a_51 : Cond.code y_Halt_init prog_5_method_1_code 1 none ∈ wALL := inA1 (List.mem_of_getElem? (i := 11) rfl)
theorem a_52 : Cond.methodLink "StepMachine$Halts" 3 objectInit ∈ wALL := inA1 (List.mem_of_getElem? (i := 12) rfl)
theorem a_53 : Cond.fieldLink "StepMachine$Halts" 11 "StepMachine$Halts" "places" "[I" ∈ wALL := inA1 (List.mem_of_getElem? (i := 13) rfl)
theorem a_54 : Cond.fieldLink "StepMachine$Halts" 23 "StepMachine$Halts" "count" "I" ∈ wALL := inA1 (List.mem_of_getElem? (i := 14) rfl)
theorem a_55 : Cond.fieldLink "StepMachine" 168 "StepMachine$Halts" "count" "I" ∈ wALL := inA1 (List.mem_of_getElem? (i := 15) rfl)
theorem a_56 : Cond.laysFinal "StepMachine$Halts" "StepMachine$Halts" "places" "[I" ∈ wALL := inA1 (List.mem_of_getElem? (i := 16) rfl)
theorem a_57 : Cond.lays "StepMachine$Halts" "StepMachine$Halts" "count" "I" ∈ wALL := inA1 (List.mem_of_getElem? (i := 17) rfl)
theorem a_58 : Cond.classLink "StepMachine" 30 "StepMachine$Ports" ∈ wALL := inA1 (List.mem_of_getElem? (i := 18) rfl)
theorem a_59 : Cond.instantiable "StepMachine$Ports" 5 ∈ wALL := inA1 (List.mem_of_getElem? (i := 19) rfl)
theorem a_60 : Cond.instanceMethod y_Port_init ∈ wALL := inA1 (List.mem_of_getElem? (i := 20) rfl)
theorem a_61 : Cond.code y_Port_init prog_9_method_1_code 1 none ∈ wALL := inA1 (List.mem_of_getElem? (i := 21) rfl)
theorem a_62 : Cond.methodLink "StepMachine$Ports" 3 objectInit ∈ wALL := inA1 (List.mem_of_getElem? (i := 22) rfl)
theorem a_63 : Cond.fieldLink "StepMachine$Ports" 11 "StepMachine$Ports" "in" "[B" ∈ wALL := inA1 (List.mem_of_getElem? (i := 23) rfl)
theorem a_64 : Cond.fieldLink "StepMachine$Ports" 15 "StepMachine$Ports" "out" "[B" ∈ wALL := inA1 (List.mem_of_getElem? (i := 24) rfl)
theorem a_65 : Cond.fieldLink "StepMachine$Ports" 18 "StepMachine$Ports" "givenCount" "I" ∈ wALL := inA1 (List.mem_of_getElem? (i := 25) rfl)
theorem a_66 : Cond.fieldLink "StepMachine" 159 "StepMachine$Ports" "givenCount" "I" ∈ wALL := inA1 (List.mem_of_getElem? (i := 26) rfl)
theorem a_67 : Cond.fieldLink "StepMachine$Ports" 26 "StepMachine$Ports" "takenCount" "I" ∈ wALL := inA1 (List.mem_of_getElem? (i := 27) rfl)
theorem a_68 : Cond.fieldLink "StepMachine$Core" 111 "StepMachine$Ports" "takenCount" "I" ∈ wALL := inA1 (List.mem_of_getElem? (i := 28) rfl)
theorem a_69 : Cond.fieldLink "StepMachine" 162 "StepMachine$Ports" "takenCount" "I" ∈ wALL := inA1 (List.mem_of_getElem? (i := 29) rfl)
theorem a_70 : Cond.fieldLink "StepMachine$Ports" 29 "StepMachine$Ports" "putCount" "I" ∈ wALL := inA1 (List.mem_of_getElem? (i := 30) rfl)
theorem a_71 : Cond.fieldLink "StepMachine$Core" 105 "StepMachine$Ports" "putCount" "I" ∈ wALL := inA1 (List.mem_of_getElem? (i := 31) rfl)
theorem a_72 : Cond.fieldLink "StepMachine" 156 "StepMachine$Ports" "putCount" "I" ∈ wALL := inA1 (List.mem_of_getElem? (i := 32) rfl)
theorem a_73 : Cond.laysFinal "StepMachine$Ports" "StepMachine$Ports" "in" "[B" ∈ wALL := inA1 (List.mem_of_getElem? (i := 33) rfl)
theorem a_74 : Cond.laysFinal "StepMachine$Ports" "StepMachine$Ports" "out" "[B" ∈ wALL := inA1 (List.mem_of_getElem? (i := 34) rfl)
theorem a_75 : Cond.lays "StepMachine$Ports" "StepMachine$Ports" "givenCount" "I" ∈ wALL := inA1 (List.mem_of_getElem? (i := 35) rfl)
theorem a_76 : Cond.lays "StepMachine$Ports" "StepMachine$Ports" "takenCount" "I" ∈ wALL := inA1 (List.mem_of_getElem? (i := 36) rfl)
theorem a_77 : Cond.lays "StepMachine$Ports" "StepMachine$Ports" "putCount" "I" ∈ wALL := inA1 (List.mem_of_getElem? (i := 37) rfl)
theorem a_78 : Cond.arrayClass Jvm.ClassFile.FieldType.byte ∈ wALL := inA1 (List.mem_of_getElem? (i := 38) rfl)
theorem a_79 : Cond.classLink "StepMachine" 37 "StepMachine$Trail" ∈ wALL := inA1 (List.mem_of_getElem? (i := 39) rfl)
theorem a_80 : Cond.instantiable "StepMachine$Trail" 3 ∈ wALL := inA2 (List.mem_of_getElem? (i := 0) rfl)
theorem a_81 : Cond.methodLink "StepMachine" 39 y_Trai_init ∈ wALL := inA2 (List.mem_of_getElem? (i := 1) rfl)
theorem a_82 : Cond.instanceMethod y_Trai_init ∈ wALL := inA2 (List.mem_of_getElem? (i := 2) rfl)
theorem a_83 : Cond.code y_Trai_init prog_11_method_1_code 2 none ∈ wALL := inA2 (List.mem_of_getElem? (i := 3) rfl)
theorem a_84 : Cond.methodLink "StepMachine$Trail" 1 objectInit ∈ wALL := inA2 (List.mem_of_getElem? (i := 4) rfl)
theorem a_85 : Cond.classLink "StepMachine$Trail" 9 "StepMachine$Kept" ∈ wALL := inA2 (List.mem_of_getElem? (i := 5) rfl)
theorem a_86 : Cond.instantiable "StepMachine$Kept" 12 ∈ wALL := inA2 (List.mem_of_getElem? (i := 6) rfl)
theorem a_87 : Cond.instanceMethod y_Kept_init ∈ wALL := inA2 (List.mem_of_getElem? (i := 7) rfl)
theorem a_88 : Cond.code y_Kept_init prog_6_method_1_code 1 none ∈ wALL := inA2 (List.mem_of_getElem? (i := 8) rfl)
theorem a_89 : Cond.methodLink "StepMachine$Kept" 1 objectInit ∈ wALL := inA2 (List.mem_of_getElem? (i := 9) rfl)
theorem a_90 : Cond.fieldLink "StepMachine$Core" 91 "StepMachine$Kept" "pc" "I" ∈ wALL := inA2 (List.mem_of_getElem? (i := 10) rfl)
theorem a_91 : Cond.fieldLink "StepMachine$Core" 94 "StepMachine$Kept" "state" "I" ∈ wALL := inA2 (List.mem_of_getElem? (i := 11) rfl)
theorem a_92 : Cond.fieldLink "StepMachine$Core" 95 "StepMachine$Kept" "culprit" "I" ∈ wALL := inA2 (List.mem_of_getElem? (i := 12) rfl)
theorem a_93 : Cond.fieldLink "StepMachine$Core" 96 "StepMachine$Kept" "value" "I" ∈ wALL := inA2 (List.mem_of_getElem? (i := 13) rfl)
theorem a_94 : Cond.fieldLink "StepMachine$Core" 100 "StepMachine$Kept" "steps" "I" ∈ wALL := inA2 (List.mem_of_getElem? (i := 14) rfl)
theorem a_95 : Cond.fieldLink "StepMachine$Core" 101 "StepMachine$Kept" "units" "I" ∈ wALL := inA2 (List.mem_of_getElem? (i := 15) rfl)
theorem a_96 : Cond.fieldLink "StepMachine$Core" 102 "StepMachine$Kept" "putCount" "I" ∈ wALL := inA2 (List.mem_of_getElem? (i := 16) rfl)
theorem a_97 : Cond.fieldLink "StepMachine$Core" 108 "StepMachine$Kept" "takenCount" "I" ∈ wALL := inA2 (List.mem_of_getElem? (i := 17) rfl)
theorem a_98 : Cond.fieldLink "StepMachine$Core" 112 "StepMachine$Kept" "register" "I" ∈ wALL := inA2 (List.mem_of_getElem? (i := 18) rfl)
theorem a_99 : Cond.fieldLink "StepMachine$Core" 115 "StepMachine$Kept" "registerWas" "I" ∈ wALL := inA2 (List.mem_of_getElem? (i := 19) rfl)
theorem a_100 : Cond.fieldLink "StepMachine$Core" 122 "StepMachine$Kept" "cellAt" "I" ∈ wALL := inA2 (List.mem_of_getElem? (i := 20) rfl)
theorem a_101 : Cond.fieldLink "StepMachine$Core" 125 "StepMachine$Kept" "cellWas" "I" ∈ wALL := inA2 (List.mem_of_getElem? (i := 21) rfl)
theorem a_102 : Cond.lays "StepMachine$Kept" "StepMachine$Kept" "pc" "I" ∈ wALL := inA2 (List.mem_of_getElem? (i := 22) rfl)
theorem a_103 : Cond.lays "StepMachine$Kept" "StepMachine$Kept" "state" "I" ∈ wALL := inA2 (List.mem_of_getElem? (i := 23) rfl)
theorem a_104 : Cond.lays "StepMachine$Kept" "StepMachine$Kept" "culprit" "I" ∈ wALL := inA2 (List.mem_of_getElem? (i := 24) rfl)
theorem a_105 : Cond.lays "StepMachine$Kept" "StepMachine$Kept" "value" "I" ∈ wALL := inA2 (List.mem_of_getElem? (i := 25) rfl)
theorem a_106 : Cond.lays "StepMachine$Kept" "StepMachine$Kept" "steps" "I" ∈ wALL := inA2 (List.mem_of_getElem? (i := 26) rfl)
theorem a_107 : Cond.lays "StepMachine$Kept" "StepMachine$Kept" "units" "I" ∈ wALL := inA2 (List.mem_of_getElem? (i := 27) rfl)
theorem a_108 : Cond.lays "StepMachine$Kept" "StepMachine$Kept" "putCount" "I" ∈ wALL := inA2 (List.mem_of_getElem? (i := 28) rfl)
theorem a_109 : Cond.lays "StepMachine$Kept" "StepMachine$Kept" "takenCount" "I" ∈ wALL := inA2 (List.mem_of_getElem? (i := 29) rfl)
theorem a_110 : Cond.lays "StepMachine$Kept" "StepMachine$Kept" "register" "I" ∈ wALL := inA2 (List.mem_of_getElem? (i := 30) rfl)
theorem a_111 : Cond.lays "StepMachine$Kept" "StepMachine$Kept" "registerWas" "I" ∈ wALL := inA2 (List.mem_of_getElem? (i := 31) rfl)
theorem a_112 : Cond.lays "StepMachine$Kept" "StepMachine$Kept" "cellAt" "I" ∈ wALL := inA2 (List.mem_of_getElem? (i := 32) rfl)
theorem a_113 : Cond.lays "StepMachine$Kept" "StepMachine$Kept" "cellWas" "I" ∈ wALL := inA2 (List.mem_of_getElem? (i := 33) rfl)
theorem a_114 : Cond.fieldLink "StepMachine$Trail" 11 "StepMachine$Trail" "ring" "[LStepMachine$Kept;" ∈ wALL := inA2 (List.mem_of_getElem? (i := 34) rfl)
theorem a_115 : Cond.fieldLink "StepMachine$Trail" 16 "StepMachine$Trail" "next" "I" ∈ wALL := inA2 (List.mem_of_getElem? (i := 35) rfl)
theorem a_116 : Cond.fieldLink "StepMachine$Trail" 24 "StepMachine$Trail" "count" "I" ∈ wALL := inA2 (List.mem_of_getElem? (i := 36) rfl)
theorem a_117 : Cond.fieldLink "StepMachine" 165 "StepMachine$Trail" "count" "I" ∈ wALL := inA2 (List.mem_of_getElem? (i := 37) rfl)
theorem a_118 : Cond.laysFinal "StepMachine$Trail" "StepMachine$Trail" "ring" "[LStepMachine$Kept;" ∈ wALL := inA2 (List.mem_of_getElem? (i := 38) rfl)
theorem a_119 : Cond.lays "StepMachine$Trail" "StepMachine$Trail" "next" "I" ∈ wALL := inA2 (List.mem_of_getElem? (i := 39) rfl)
theorem a_120 : Cond.lays "StepMachine$Trail" "StepMachine$Trail" "count" "I" ∈ wALL := inA3 (List.mem_of_getElem? (i := 0) rfl)
theorem a_121 : Cond.classLink "StepMachine" 44 "StepMachine$Core" ∈ wALL := inA3 (List.mem_of_getElem? (i := 1) rfl)
theorem a_122 : Cond.instantiable "StepMachine$Core" 12 ∈ wALL := inA3 (List.mem_of_getElem? (i := 2) rfl)
theorem a_123 : Cond.methodLink "StepMachine" 46 y_Core_init ∈ wALL := inA3 (List.mem_of_getElem? (i := 3) rfl)
theorem a_124 : Cond.instanceMethod y_Core_init ∈ wALL := inA3 (List.mem_of_getElem? (i := 4) rfl)
theorem a_125 : Cond.code y_Core_init prog_3_method_1_code 5 none ∈ wALL := inA3 (List.mem_of_getElem? (i := 5) rfl)
theorem a_126 : Cond.methodLink "StepMachine$Core" 3 objectInit ∈ wALL := inA3 (List.mem_of_getElem? (i := 6) rfl)
theorem a_127 : Cond.classLink "StepMachine$Core" 9 "StepMachine$Word" ∈ wALL := inA3 (List.mem_of_getElem? (i := 7) rfl)
theorem a_128 : Cond.instantiable "StepMachine$Word" 6 ∈ wALL := inA3 (List.mem_of_getElem? (i := 8) rfl)
theorem a_129 : Cond.instanceMethod y_Word_init ∈ wALL := inA3 (List.mem_of_getElem? (i := 9) rfl)
theorem a_130 : Cond.code y_Word_init prog_12_method_1_code 1 none ∈ wALL := inA3 (List.mem_of_getElem? (i := 10) rfl)
theorem a_131 : Cond.methodLink "StepMachine$Word" 1 objectInit ∈ wALL := inA3 (List.mem_of_getElem? (i := 11) rfl)
theorem a_132 : Cond.fieldLink "StepMachine$Word" 7 "StepMachine$Word" "bytes" "I" ∈ wALL := inA3 (List.mem_of_getElem? (i := 12) rfl)
theorem a_133 : Cond.fieldLink "StepMachine$Core" 218 "StepMachine$Word" "bytes" "I" ∈ wALL := inA3 (List.mem_of_getElem? (i := 13) rfl)
theorem a_134 : Cond.fieldLink "StepMachine$Word" 17 "StepMachine$Word" "kind" "I" ∈ wALL := inA3 (List.mem_of_getElem? (i := 14) rfl)
theorem a_135 : Cond.fieldLink "StepMachine$Core" 133 "StepMachine$Word" "kind" "I" ∈ wALL := inA3 (List.mem_of_getElem? (i := 15) rfl)
theorem a_136 : Cond.fieldLink "StepMachine$Word" 20 "StepMachine$Word" "d" "I" ∈ wALL := inA3 (List.mem_of_getElem? (i := 16) rfl)
theorem a_137 : Cond.fieldLink "StepMachine$Core" 136 "StepMachine$Word" "d" "I" ∈ wALL := inA3 (List.mem_of_getElem? (i := 17) rfl)
theorem a_138 : Cond.fieldLink "StepMachine$Word" 23 "StepMachine$Word" "a" "I" ∈ wALL := inA3 (List.mem_of_getElem? (i := 18) rfl)
theorem a_139 : Cond.fieldLink "StepMachine$Core" 178 "StepMachine$Word" "a" "I" ∈ wALL := inA3 (List.mem_of_getElem? (i := 19) rfl)
theorem a_140 : Cond.fieldLink "StepMachine$Word" 26 "StepMachine$Word" "b" "I" ∈ wALL := inA3 (List.mem_of_getElem? (i := 20) rfl)
theorem a_141 : Cond.fieldLink "StepMachine$Core" 200 "StepMachine$Word" "b" "I" ∈ wALL := inA3 (List.mem_of_getElem? (i := 21) rfl)
theorem a_142 : Cond.fieldLink "StepMachine$Word" 29 "StepMachine$Word" "i" "I" ∈ wALL := inA3 (List.mem_of_getElem? (i := 22) rfl)
theorem a_143 : Cond.fieldLink "StepMachine$Core" 181 "StepMachine$Word" "i" "I" ∈ wALL := inA3 (List.mem_of_getElem? (i := 23) rfl)
theorem a_144 : Cond.lays "StepMachine$Word" "StepMachine$Word" "bytes" "I" ∈ wALL := inA3 (List.mem_of_getElem? (i := 24) rfl)
theorem a_145 : Cond.lays "StepMachine$Word" "StepMachine$Word" "kind" "I" ∈ wALL := inA3 (List.mem_of_getElem? (i := 25) rfl)
theorem a_146 : Cond.lays "StepMachine$Word" "StepMachine$Word" "d" "I" ∈ wALL := inA3 (List.mem_of_getElem? (i := 26) rfl)
theorem a_147 : Cond.lays "StepMachine$Word" "StepMachine$Word" "a" "I" ∈ wALL := inA3 (List.mem_of_getElem? (i := 27) rfl)
theorem a_148 : Cond.lays "StepMachine$Word" "StepMachine$Word" "b" "I" ∈ wALL := inA3 (List.mem_of_getElem? (i := 28) rfl)
theorem a_149 : Cond.lays "StepMachine$Word" "StepMachine$Word" "i" "I" ∈ wALL := inA3 (List.mem_of_getElem? (i := 29) rfl)
theorem a_150 : Cond.fieldLink "StepMachine$Core" 22 "StepMachine$Core" "memory" "LStepMachine$Memory;" ∈ wALL := inA3 (List.mem_of_getElem? (i := 30) rfl)
theorem a_151 : Cond.fieldLink "StepMachine$Core" 26 "StepMachine$Core" "guard" "LStepMachine$Guard;" ∈ wALL := inA3 (List.mem_of_getElem? (i := 31) rfl)
theorem a_152 : Cond.fieldLink "StepMachine$Core" 30 "StepMachine$Core" "ports" "LStepMachine$Ports;" ∈ wALL := inA3 (List.mem_of_getElem? (i := 32) rfl)
theorem a_153 : Cond.fieldLink "StepMachine$Core" 34 "StepMachine$Core" "trail" "LStepMachine$Trail;" ∈ wALL := inA3 (List.mem_of_getElem? (i := 33) rfl)
theorem a_154 : Cond.fieldLink "StepMachine$Core" 12 "StepMachine$Core" "word" "LStepMachine$Word;" ∈ wALL := inA3 (List.mem_of_getElem? (i := 34) rfl)
theorem a_155 : Cond.fieldLink "StepMachine$Core" 18 "StepMachine$Core" "registers" "[I" ∈ wALL := inA3 (List.mem_of_getElem? (i := 35) rfl)
theorem a_156 : Cond.fieldLink "StepMachine$Core" 38 "StepMachine$Core" "pc" "I" ∈ wALL := inA3 (List.mem_of_getElem? (i := 36) rfl)
theorem a_157 : Cond.fieldLink "StepMachine" 100 "StepMachine$Core" "pc" "I" ∈ wALL := inA3 (List.mem_of_getElem? (i := 37) rfl)
theorem a_158 : Cond.fieldLink "StepMachine$Core" 42 "StepMachine$Core" "state" "I" ∈ wALL := inA3 (List.mem_of_getElem? (i := 38) rfl)
theorem a_159 : Cond.fieldLink "StepMachine" 128 "StepMachine$Core" "state" "I" ∈ wALL := inA3 (List.mem_of_getElem? (i := 39) rfl)
theorem a_160 : Cond.fieldLink "StepMachine$Core" 45 "StepMachine$Core" "culprit" "I" ∈ wALL := inA4 (List.mem_of_getElem? (i := 0) rfl)
theorem a_161 : Cond.fieldLink "StepMachine" 147 "StepMachine$Core" "culprit" "I" ∈ wALL := inA4 (List.mem_of_getElem? (i := 1) rfl)
theorem a_162 : Cond.fieldLink "StepMachine$Core" 99 "StepMachine$Core" "value" "I" ∈ wALL := inA4 (List.mem_of_getElem? (i := 2) rfl)
theorem a_163 : Cond.fieldLink "StepMachine" 150 "StepMachine$Core" "value" "I" ∈ wALL := inA4 (List.mem_of_getElem? (i := 3) rfl)
theorem a_164 : Cond.fieldLink "StepMachine$Core" 85 "StepMachine$Core" "steps" "I" ∈ wALL := inA4 (List.mem_of_getElem? (i := 4) rfl)
theorem a_165 : Cond.fieldLink "StepMachine" 153 "StepMachine$Core" "steps" "I" ∈ wALL := inA4 (List.mem_of_getElem? (i := 5) rfl)
theorem a_166 : Cond.fieldLink "StepMachine$Core" 88 "StepMachine$Core" "units" "I" ∈ wALL := inA4 (List.mem_of_getElem? (i := 6) rfl)
theorem a_167 : Cond.fieldLink "StepMachine" 131 "StepMachine$Core" "units" "I" ∈ wALL := inA4 (List.mem_of_getElem? (i := 7) rfl)
theorem a_168 : Cond.laysFinal "StepMachine$Core" "StepMachine$Core" "memory" "LStepMachine$Memory;" ∈ wALL := inA4 (List.mem_of_getElem? (i := 8) rfl)
theorem a_169 : Cond.laysFinal "StepMachine$Core" "StepMachine$Core" "guard" "LStepMachine$Guard;" ∈ wALL := inA4 (List.mem_of_getElem? (i := 9) rfl)
theorem a_170 : Cond.laysFinal "StepMachine$Core" "StepMachine$Core" "ports" "LStepMachine$Ports;" ∈ wALL := inA4 (List.mem_of_getElem? (i := 10) rfl)
theorem a_171 : Cond.laysFinal "StepMachine$Core" "StepMachine$Core" "trail" "LStepMachine$Trail;" ∈ wALL := inA4 (List.mem_of_getElem? (i := 11) rfl)
theorem a_172 : Cond.laysFinal "StepMachine$Core" "StepMachine$Core" "word" "LStepMachine$Word;" ∈ wALL := inA4 (List.mem_of_getElem? (i := 12) rfl)
theorem a_173 : Cond.laysFinal "StepMachine$Core" "StepMachine$Core" "registers" "[I" ∈ wALL := inA4 (List.mem_of_getElem? (i := 13) rfl)
theorem a_174 : Cond.lays "StepMachine$Core" "StepMachine$Core" "pc" "I" ∈ wALL := inA4 (List.mem_of_getElem? (i := 14) rfl)
theorem a_175 : Cond.lays "StepMachine$Core" "StepMachine$Core" "state" "I" ∈ wALL := inA4 (List.mem_of_getElem? (i := 15) rfl)
theorem a_176 : Cond.lays "StepMachine$Core" "StepMachine$Core" "culprit" "I" ∈ wALL := inA4 (List.mem_of_getElem? (i := 16) rfl)
theorem a_177 : Cond.lays "StepMachine$Core" "StepMachine$Core" "value" "I" ∈ wALL := inA4 (List.mem_of_getElem? (i := 17) rfl)
theorem a_178 : Cond.lays "StepMachine$Core" "StepMachine$Core" "steps" "I" ∈ wALL := inA4 (List.mem_of_getElem? (i := 18) rfl)
theorem a_179 : Cond.lays "StepMachine$Core" "StepMachine$Core" "units" "I" ∈ wALL := inA4 (List.mem_of_getElem? (i := 19) rfl)
theorem a_180 : Cond.fieldLink "StepMachine" 10 "StepMachine" "memory" "LStepMachine$Memory;" ∈ wALL := inA4 (List.mem_of_getElem? (i := 20) rfl)
theorem a_181 : Cond.fieldLink "StepMachine" 19 "StepMachine" "guard" "LStepMachine$Guard;" ∈ wALL := inA4 (List.mem_of_getElem? (i := 21) rfl)
theorem a_182 : Cond.fieldLink "StepMachine" 26 "StepMachine" "halts" "LStepMachine$Halts;" ∈ wALL := inA4 (List.mem_of_getElem? (i := 22) rfl)
theorem a_183 : Cond.fieldLink "StepMachine" 33 "StepMachine" "ports" "LStepMachine$Ports;" ∈ wALL := inA4 (List.mem_of_getElem? (i := 23) rfl)
theorem a_184 : Cond.fieldLink "StepMachine" 40 "StepMachine" "trail" "LStepMachine$Trail;" ∈ wALL := inA4 (List.mem_of_getElem? (i := 24) rfl)
theorem a_185 : Cond.fieldLink "StepMachine" 49 "StepMachine" "core" "LStepMachine$Core;" ∈ wALL := inA4 (List.mem_of_getElem? (i := 25) rfl)
theorem a_186 : Cond.laysFinal "StepMachine" "StepMachine" "memory" "LStepMachine$Memory;" ∈ wALL := inA4 (List.mem_of_getElem? (i := 26) rfl)
theorem a_187 : Cond.laysFinal "StepMachine" "StepMachine" "guard" "LStepMachine$Guard;" ∈ wALL := inA4 (List.mem_of_getElem? (i := 27) rfl)
theorem a_188 : Cond.laysFinal "StepMachine" "StepMachine" "halts" "LStepMachine$Halts;" ∈ wALL := inA4 (List.mem_of_getElem? (i := 28) rfl)
theorem a_189 : Cond.laysFinal "StepMachine" "StepMachine" "ports" "LStepMachine$Ports;" ∈ wALL := inA4 (List.mem_of_getElem? (i := 29) rfl)
theorem a_190 : Cond.laysFinal "StepMachine" "StepMachine" "trail" "LStepMachine$Trail;" ∈ wALL := inA4 (List.mem_of_getElem? (i := 30) rfl)
theorem a_191 : Cond.laysFinal "StepMachine" "StepMachine" "core" "LStepMachine$Core;" ∈ wALL := inA4 (List.mem_of_getElem? (i := 31) rfl)
theorem a_192 : Cond.methodLink "StepMachineLaw" 13 y_X_segment ∈ wALL := inA4 (List.mem_of_getElem? (i := 32) rfl)
theorem a_193 : Cond.instanceMethod y_X_segment ∈ wALL := inA4 (List.mem_of_getElem? (i := 33) rfl)
theorem a_194 : Cond.selects "StepMachine" y_X_segment y_X_segment ∈ wALL := inA4 (List.mem_of_getElem? (i := 34) rfl)
theorem a_195 : Cond.code y_X_segment prog_1_method_2_code 5 (some .boolean) ∈ wALL := inA4 (List.mem_of_getElem? (i := 35) rfl)
theorem a_196 : Cond.methodLink "StepMachine" 53 y_Guar_putSegment ∈ wALL := inA4 (List.mem_of_getElem? (i := 36) rfl)
theorem a_197 : Cond.instanceMethod y_Guar_putSegment ∈ wALL := inA4 (List.mem_of_getElem? (i := 37) rfl)
theorem a_198 : Cond.selects "StepMachine$Guard" y_Guar_putSegment y_Guar_putSegment ∈ wALL := inA4 (List.mem_of_getElem? (i := 38) rfl)
theorem a_199 : Cond.code y_Guar_putSegment prog_4_method_2_code 5 (some .boolean) ∈ wALL := inA4 (List.mem_of_getElem? (i := 39) rfl)
theorem a_200 : Cond.constant "StepMachine$Guard" 26 131072 ∈ wALL := inA5 (List.mem_of_getElem? (i := 0) rfl)
theorem a_201 : Cond.methodLink "StepMachine" 57 y_X_forgetIf ∈ wALL := inA5 (List.mem_of_getElem? (i := 1) rfl)
theorem a_202 : Cond.instanceMethod y_X_forgetIf ∈ wALL := inA5 (List.mem_of_getElem? (i := 2) rfl)
theorem a_203 : Cond.code y_X_forgetIf prog_1_method_17_code 2 (some .boolean) ∈ wALL := inA5 (List.mem_of_getElem? (i := 3) rfl)
theorem a_204 : Cond.methodLink "StepMachine" 69 y_Trai_forget ∈ wALL := inA5 (List.mem_of_getElem? (i := 4) rfl)
theorem a_205 : Cond.instanceMethod y_Trai_forget ∈ wALL := inA5 (List.mem_of_getElem? (i := 5) rfl)
theorem a_206 : Cond.selects "StepMachine$Trail" y_Trai_forget y_Trai_forget ∈ wALL := inA5 (List.mem_of_getElem? (i := 6) rfl)
theorem a_207 : Cond.code y_Trai_forget prog_11_method_4_code 1 none ∈ wALL := inA5 (List.mem_of_getElem? (i := 7) rfl)
theorem a_208 : Cond.methodLink "StepMachineLaw" 18 y_X_mark ∈ wALL := inA5 (List.mem_of_getElem? (i := 8) rfl)
theorem a_209 : Cond.instanceMethod y_X_mark ∈ wALL := inA5 (List.mem_of_getElem? (i := 9) rfl)
theorem a_210 : Cond.selects "StepMachine" y_X_mark y_X_mark ∈ wALL := inA5 (List.mem_of_getElem? (i := 10) rfl)
theorem a_211 : Cond.code y_X_mark prog_1_method_3_code 3 (some .boolean) ∈ wALL := inA5 (List.mem_of_getElem? (i := 11) rfl)
theorem a_212 : Cond.methodLink "StepMachine" 61 y_Guar_putMark ∈ wALL := inA5 (List.mem_of_getElem? (i := 12) rfl)
theorem a_213 : Cond.instanceMethod y_Guar_putMark ∈ wALL := inA5 (List.mem_of_getElem? (i := 13) rfl)
theorem a_214 : Cond.selects "StepMachine$Guard" y_Guar_putMark y_Guar_putMark ∈ wALL := inA5 (List.mem_of_getElem? (i := 14) rfl)
theorem a_215 : Cond.code y_Guar_putMark prog_4_method_5_code 5 (some .boolean) ∈ wALL := inA5 (List.mem_of_getElem? (i := 15) rfl)
theorem a_216 : Cond.methodLink "StepMachine$Guard" 31 y_Guar_mayBeMarked ∈ wALL := inA5 (List.mem_of_getElem? (i := 16) rfl)
theorem a_217 : Cond.static y_Guar_mayBeMarked ∈ wALL := inA5 (List.mem_of_getElem? (i := 17) rfl)
theorem a_218 : Cond.code y_Guar_mayBeMarked prog_4_method_7_code 1 (some .boolean) ∈ wALL := inA5 (List.mem_of_getElem? (i := 18) rfl)
theorem a_219 : Cond.methodLink "StepMachineLaw" 23 y_X_marking ∈ wALL := inA5 (List.mem_of_getElem? (i := 19) rfl)
theorem a_220 : Cond.instanceMethod y_X_marking ∈ wALL := inA5 (List.mem_of_getElem? (i := 20) rfl)
theorem a_221 : Cond.selects "StepMachine" y_X_marking y_X_marking ∈ wALL := inA5 (List.mem_of_getElem? (i := 21) rfl)
theorem a_222 : Cond.code y_X_marking prog_1_method_4_code 2 none ∈ wALL := inA5 (List.mem_of_getElem? (i := 22) rfl)
theorem a_223 : Cond.methodLink "StepMachineLaw" 30 y_X_poke ∈ wALL := inA5 (List.mem_of_getElem? (i := 23) rfl)
theorem a_224 : Cond.instanceMethod y_X_poke ∈ wALL := inA5 (List.mem_of_getElem? (i := 24) rfl)
theorem a_225 : Cond.selects "StepMachine" y_X_poke y_X_poke ∈ wALL := inA5 (List.mem_of_getElem? (i := 25) rfl)
theorem a_226 : Cond.code y_X_poke prog_1_method_5_code 6 (some .boolean) ∈ wALL := inA5 (List.mem_of_getElem? (i := 26) rfl)
theorem a_227 : Cond.constant "StepMachine" 72 131072 ∈ wALL := inA5 (List.mem_of_getElem? (i := 27) rfl)
theorem a_228 : Cond.methodLink "StepMachine" 73 y_X_byteOf ∈ wALL := inA5 (List.mem_of_getElem? (i := 28) rfl)
theorem a_229 : Cond.static y_X_byteOf ∈ wALL := inA5 (List.mem_of_getElem? (i := 29) rfl)
theorem a_230 : Cond.code y_X_byteOf prog_1_method_18_code 3 (some .int) ∈ wALL := inA5 (List.mem_of_getElem? (i := 30) rfl)
theorem a_231 : Cond.methodLink "StepMachine" 77 y_Memo_putNumber ∈ wALL := inA5 (List.mem_of_getElem? (i := 31) rfl)
theorem a_232 : Cond.instanceMethod y_Memo_putNumber ∈ wALL := inA5 (List.mem_of_getElem? (i := 32) rfl)
theorem a_233 : Cond.selects "StepMachine$Memory" y_Memo_putNumber y_Memo_putNumber ∈ wALL := inA5 (List.mem_of_getElem? (i := 33) rfl)
theorem a_234 : Cond.code y_Memo_putNumber prog_8_method_4_code 5 none ∈ wALL := inA5 (List.mem_of_getElem? (i := 34) rfl)
theorem a_235 : Cond.methodLink "StepMachine$Memory" 22 y_Memo_maskOf ∈ wALL := inA5 (List.mem_of_getElem? (i := 35) rfl)
theorem a_236 : Cond.static y_Memo_maskOf ∈ wALL := inA5 (List.mem_of_getElem? (i := 36) rfl)
theorem a_237 : Cond.code y_Memo_maskOf prog_8_method_8_code 1 (some .int) ∈ wALL := inA5 (List.mem_of_getElem? (i := 37) rfl)
theorem a_238 : Cond.methodLink "StepMachine$Memory" 19 y_Memo_shiftOf ∈ wALL := inA5 (List.mem_of_getElem? (i := 38) rfl)
theorem a_239 : Cond.static y_Memo_shiftOf ∈ wALL := inA5 (List.mem_of_getElem? (i := 39) rfl)
theorem a_240 : Cond.code y_Memo_shiftOf prog_8_method_7_code 1 (some .int) ∈ wALL := inA6 (List.mem_of_getElem? (i := 0) rfl)
theorem a_241 : Cond.methodLink "StepMachine$Memory" 15 y_Memo_cellOf ∈ wALL := inA6 (List.mem_of_getElem? (i := 1) rfl)
theorem a_242 : Cond.instanceMethod y_Memo_cellOf ∈ wALL := inA6 (List.mem_of_getElem? (i := 2) rfl)
theorem a_243 : Cond.selects "StepMachine$Memory" y_Memo_cellOf y_Memo_cellOf ∈ wALL := inA6 (List.mem_of_getElem? (i := 3) rfl)
theorem a_244 : Cond.code y_Memo_cellOf prog_8_method_5_code 2 (some .int) ∈ wALL := inA6 (List.mem_of_getElem? (i := 4) rfl)
theorem a_245 : Cond.methodLink "StepMachine$Memory" 29 y_Memo_has ∈ wALL := inA6 (List.mem_of_getElem? (i := 5) rfl)
theorem a_246 : Cond.static y_Memo_has ∈ wALL := inA6 (List.mem_of_getElem? (i := 6) rfl)
theorem a_247 : Cond.code y_Memo_has prog_8_method_2_code 1 (some .boolean) ∈ wALL := inA6 (List.mem_of_getElem? (i := 7) rfl)
theorem a_248 : Cond.constant "StepMachine$Memory" 14 131072 ∈ wALL := inA6 (List.mem_of_getElem? (i := 8) rfl)
theorem a_249 : Cond.methodLink "StepMachine$Memory" 25 y_Memo_putCell ∈ wALL := inA6 (List.mem_of_getElem? (i := 9) rfl)
theorem a_250 : Cond.instanceMethod y_Memo_putCell ∈ wALL := inA6 (List.mem_of_getElem? (i := 10) rfl)
theorem a_251 : Cond.selects "StepMachine$Memory" y_Memo_putCell y_Memo_putCell ∈ wALL := inA6 (List.mem_of_getElem? (i := 11) rfl)
theorem a_252 : Cond.code y_Memo_putCell prog_8_method_6_code 3 none ∈ wALL := inA6 (List.mem_of_getElem? (i := 12) rfl)
theorem a_253 : Cond.methodLink "StepMachineLaw" 35 y_X_peek ∈ wALL := inA6 (List.mem_of_getElem? (i := 13) rfl)
theorem a_254 : Cond.instanceMethod y_X_peek ∈ wALL := inA6 (List.mem_of_getElem? (i := 14) rfl)
theorem a_255 : Cond.selects "StepMachine" y_X_peek y_X_peek ∈ wALL := inA6 (List.mem_of_getElem? (i := 15) rfl)
theorem a_256 : Cond.code y_X_peek prog_1_method_6_code 2 (some .int) ∈ wALL := inA6 (List.mem_of_getElem? (i := 16) rfl)
theorem a_257 : Cond.methodLink "StepMachine" 81 y_Memo_has ∈ wALL := inA6 (List.mem_of_getElem? (i := 17) rfl)
theorem a_258 : Cond.methodLink "StepMachine" 85 y_Memo_number ∈ wALL := inA6 (List.mem_of_getElem? (i := 18) rfl)
theorem a_259 : Cond.instanceMethod y_Memo_number ∈ wALL := inA6 (List.mem_of_getElem? (i := 19) rfl)
theorem a_260 : Cond.selects "StepMachine$Memory" y_Memo_number y_Memo_number ∈ wALL := inA6 (List.mem_of_getElem? (i := 20) rfl)
theorem a_261 : Cond.code y_Memo_number prog_8_method_3_code 3 (some .int) ∈ wALL := inA6 (List.mem_of_getElem? (i := 21) rfl)
theorem a_262 : Cond.methodLink "StepMachineLaw" 40 y_X_set ∈ wALL := inA6 (List.mem_of_getElem? (i := 22) rfl)
theorem a_263 : Cond.instanceMethod y_X_set ∈ wALL := inA6 (List.mem_of_getElem? (i := 23) rfl)
theorem a_264 : Cond.selects "StepMachine" y_X_set y_X_set ∈ wALL := inA6 (List.mem_of_getElem? (i := 24) rfl)
theorem a_265 : Cond.code y_X_set prog_1_method_7_code 3 (some .boolean) ∈ wALL := inA6 (List.mem_of_getElem? (i := 25) rfl)
theorem a_266 : Cond.methodLink "StepMachine" 89 y_Core_become ∈ wALL := inA6 (List.mem_of_getElem? (i := 26) rfl)
theorem a_267 : Cond.instanceMethod y_Core_become ∈ wALL := inA6 (List.mem_of_getElem? (i := 27) rfl)
theorem a_268 : Cond.selects "StepMachine$Core" y_Core_become y_Core_become ∈ wALL := inA6 (List.mem_of_getElem? (i := 28) rfl)
theorem a_269 : Cond.code y_Core_become prog_3_method_5_code 3 none ∈ wALL := inA6 (List.mem_of_getElem? (i := 29) rfl)
theorem a_270 : Cond.methodLink "StepMachine" 93 y_Core_putPc ∈ wALL := inA6 (List.mem_of_getElem? (i := 30) rfl)
theorem a_271 : Cond.instanceMethod y_Core_putPc ∈ wALL := inA6 (List.mem_of_getElem? (i := 31) rfl)
theorem a_272 : Cond.selects "StepMachine$Core" y_Core_putPc y_Core_putPc ∈ wALL := inA6 (List.mem_of_getElem? (i := 32) rfl)
theorem a_273 : Cond.code y_Core_putPc prog_3_method_2_code 2 (some .boolean) ∈ wALL := inA6 (List.mem_of_getElem? (i := 33) rfl)
theorem a_274 : Cond.methodLink "StepMachine" 96 y_Core_putRegister ∈ wALL := inA6 (List.mem_of_getElem? (i := 34) rfl)
theorem a_275 : Cond.instanceMethod y_Core_putRegister ∈ wALL := inA6 (List.mem_of_getElem? (i := 35) rfl)
theorem a_276 : Cond.selects "StepMachine$Core" y_Core_putRegister y_Core_putRegister ∈ wALL := inA6 (List.mem_of_getElem? (i := 36) rfl)
theorem a_277 : Cond.code y_Core_putRegister prog_3_method_4_code 3 (some .boolean) ∈ wALL := inA6 (List.mem_of_getElem? (i := 37) rfl)
theorem a_278 : Cond.methodLink "StepMachineLaw" 45 y_X_get ∈ wALL := inA6 (List.mem_of_getElem? (i := 38) rfl)
theorem a_279 : Cond.instanceMethod y_X_get ∈ wALL := inA6 (List.mem_of_getElem? (i := 39) rfl)
theorem a_280 : Cond.selects "StepMachine" y_X_get y_X_get ∈ wALL := inA7 (List.mem_of_getElem? (i := 0) rfl)
theorem a_281 : Cond.code y_X_get prog_1_method_8_code 2 (some .int) ∈ wALL := inA7 (List.mem_of_getElem? (i := 1) rfl)
theorem a_282 : Cond.methodLink "StepMachine" 104 y_Core_register ∈ wALL := inA7 (List.mem_of_getElem? (i := 2) rfl)
theorem a_283 : Cond.instanceMethod y_Core_register ∈ wALL := inA7 (List.mem_of_getElem? (i := 3) rfl)
theorem a_284 : Cond.selects "StepMachine$Core" y_Core_register y_Core_register ∈ wALL := inA7 (List.mem_of_getElem? (i := 4) rfl)
theorem a_285 : Cond.code y_Core_register prog_3_method_3_code 2 (some .int) ∈ wALL := inA7 (List.mem_of_getElem? (i := 5) rfl)
theorem a_286 : Cond.methodLink "StepMachineLaw" 49 y_X_input ∈ wALL := inA7 (List.mem_of_getElem? (i := 6) rfl)
theorem a_287 : Cond.instanceMethod y_X_input ∈ wALL := inA7 (List.mem_of_getElem? (i := 7) rfl)
theorem a_288 : Cond.selects "StepMachine" y_X_input y_X_input ∈ wALL := inA7 (List.mem_of_getElem? (i := 8) rfl)
theorem a_289 : Cond.code y_X_input prog_1_method_9_code 5 (some .boolean) ∈ wALL := inA7 (List.mem_of_getElem? (i := 9) rfl)
theorem a_290 : Cond.methodLink "StepMachine" 108 y_Port_hasRoomIn ∈ wALL := inA7 (List.mem_of_getElem? (i := 10) rfl)
theorem a_291 : Cond.instanceMethod y_Port_hasRoomIn ∈ wALL := inA7 (List.mem_of_getElem? (i := 11) rfl)
theorem a_292 : Cond.selects "StepMachine$Ports" y_Port_hasRoomIn y_Port_hasRoomIn ∈ wALL := inA7 (List.mem_of_getElem? (i := 12) rfl)
theorem a_293 : Cond.code y_Port_hasRoomIn prog_9_method_2_code 2 (some .boolean) ∈ wALL := inA7 (List.mem_of_getElem? (i := 13) rfl)
theorem a_294 : Cond.methodLink "StepMachine" 111 y_Port_give ∈ wALL := inA7 (List.mem_of_getElem? (i := 14) rfl)
theorem a_295 : Cond.instanceMethod y_Port_give ∈ wALL := inA7 (List.mem_of_getElem? (i := 15) rfl)
theorem a_296 : Cond.selects "StepMachine$Ports" y_Port_give y_Port_give ∈ wALL := inA7 (List.mem_of_getElem? (i := 16) rfl)
theorem a_297 : Cond.code y_Port_give prog_9_method_3_code 2 none ∈ wALL := inA7 (List.mem_of_getElem? (i := 17) rfl)
theorem a_298 : Cond.methodLink "StepMachine$Ports" 22 y_Port_hasRoomIn ∈ wALL := inA7 (List.mem_of_getElem? (i := 18) rfl)
theorem a_299 : Cond.methodLink "StepMachineLaw" 54 y_X_halt ∈ wALL := inA7 (List.mem_of_getElem? (i := 19) rfl)
theorem a_300 : Cond.instanceMethod y_X_halt ∈ wALL := inA7 (List.mem_of_getElem? (i := 20) rfl)
theorem a_301 : Cond.selects "StepMachine" y_X_halt y_X_halt ∈ wALL := inA7 (List.mem_of_getElem? (i := 21) rfl)
theorem a_302 : Cond.code y_X_halt prog_1_method_10_code 3 (some .boolean) ∈ wALL := inA7 (List.mem_of_getElem? (i := 22) rfl)
theorem a_303 : Cond.methodLink "StepMachine" 115 y_Halt_add ∈ wALL := inA7 (List.mem_of_getElem? (i := 23) rfl)
theorem a_304 : Cond.instanceMethod y_Halt_add ∈ wALL := inA7 (List.mem_of_getElem? (i := 24) rfl)
theorem a_305 : Cond.selects "StepMachine$Halts" y_Halt_add y_Halt_add ∈ wALL := inA7 (List.mem_of_getElem? (i := 25) rfl)
theorem a_306 : Cond.code y_Halt_add prog_5_method_3_code 2 (some .boolean) ∈ wALL := inA7 (List.mem_of_getElem? (i := 26) rfl)
theorem a_307 : Cond.methodLink "StepMachine$Halts" 19 y_Halt_has ∈ wALL := inA7 (List.mem_of_getElem? (i := 27) rfl)
theorem a_308 : Cond.instanceMethod y_Halt_has ∈ wALL := inA7 (List.mem_of_getElem? (i := 28) rfl)
theorem a_309 : Cond.selects "StepMachine$Halts" y_Halt_has y_Halt_has ∈ wALL := inA7 (List.mem_of_getElem? (i := 29) rfl)
theorem a_310 : Cond.code y_Halt_has prog_5_method_2_code 2 (some .boolean) ∈ wALL := inA7 (List.mem_of_getElem? (i := 30) rfl)
theorem a_311 : Cond.methodLink "StepMachine$Halts" 15 y_Halt_find ∈ wALL := inA7 (List.mem_of_getElem? (i := 31) rfl)
theorem a_312 : Cond.instanceMethod y_Halt_find ∈ wALL := inA7 (List.mem_of_getElem? (i := 32) rfl)
theorem a_313 : Cond.code y_Halt_find prog_5_method_5_code 3 (some .int) ∈ wALL := inA7 (List.mem_of_getElem? (i := 33) rfl)
theorem a_314 : Cond.methodLink "StepMachine" 118 y_Halt_remove ∈ wALL := inA7 (List.mem_of_getElem? (i := 34) rfl)
theorem a_315 : Cond.instanceMethod y_Halt_remove ∈ wALL := inA7 (List.mem_of_getElem? (i := 35) rfl)
theorem a_316 : Cond.selects "StepMachine$Halts" y_Halt_remove y_Halt_remove ∈ wALL := inA7 (List.mem_of_getElem? (i := 36) rfl)
theorem a_317 : Cond.code y_Halt_remove prog_5_method_4_code 3 (some .boolean) ∈ wALL := inA7 (List.mem_of_getElem? (i := 37) rfl)
theorem a_318 : Cond.methodLink "StepMachineLaw" 58 y_X_step ∈ wALL := inA7 (List.mem_of_getElem? (i := 38) rfl)
theorem a_319 : Cond.instanceMethod y_X_step ∈ wALL := inA7 (List.mem_of_getElem? (i := 39) rfl)
theorem a_320 : Cond.selects "StepMachine" y_X_step y_X_step ∈ wALL := inA8 (List.mem_of_getElem? (i := 0) rfl)
theorem a_321 : Cond.code y_X_step prog_1_method_11_code 1 (some .int) ∈ wALL := inA8 (List.mem_of_getElem? (i := 1) rfl)
theorem a_322 : Cond.methodLink "StepMachine" 121 y_Core_hasEnded ∈ wALL := inA8 (List.mem_of_getElem? (i := 2) rfl)
theorem a_323 : Cond.instanceMethod y_Core_hasEnded ∈ wALL := inA8 (List.mem_of_getElem? (i := 3) rfl)
theorem a_324 : Cond.selects "StepMachine$Core" y_Core_hasEnded y_Core_hasEnded ∈ wALL := inA8 (List.mem_of_getElem? (i := 4) rfl)
theorem a_325 : Cond.code y_Core_hasEnded prog_3_method_6_code 1 (some .boolean) ∈ wALL := inA8 (List.mem_of_getElem? (i := 5) rfl)
theorem a_326 : Cond.methodLink "StepMachine" 125 y_Core_advance ∈ wALL := inA8 (List.mem_of_getElem? (i := 6) rfl)
theorem a_327 : Cond.instanceMethod y_Core_advance ∈ wALL := inA8 (List.mem_of_getElem? (i := 7) rfl)
theorem a_328 : Cond.selects "StepMachine$Core" y_Core_advance y_Core_advance ∈ wALL := inA8 (List.mem_of_getElem? (i := 8) rfl)
theorem a_329 : Cond.code y_Core_advance prog_3_method_8_code 2 none ∈ wALL := inA8 (List.mem_of_getElem? (i := 9) rfl)
theorem a_330 : Cond.methodLink "StepMachine$Core" 58 y_Core_fetch ∈ wALL := inA8 (List.mem_of_getElem? (i := 10) rfl)
theorem a_331 : Cond.instanceMethod y_Core_fetch ∈ wALL := inA8 (List.mem_of_getElem? (i := 11) rfl)
theorem a_332 : Cond.code y_Core_fetch prog_3_method_11_code 2 (some .boolean) ∈ wALL := inA8 (List.mem_of_getElem? (i := 12) rfl)
theorem a_333 : Cond.methodLink "StepMachine$Core" 152 y_Core_mayExecuteHalf ∈ wALL := inA8 (List.mem_of_getElem? (i := 13) rfl)
theorem a_334 : Cond.instanceMethod y_Core_mayExecuteHalf ∈ wALL := inA8 (List.mem_of_getElem? (i := 14) rfl)
theorem a_335 : Cond.code y_Core_mayExecuteHalf prog_3_method_12_code 3 (some .boolean) ∈ wALL := inA8 (List.mem_of_getElem? (i := 15) rfl)
theorem a_336 : Cond.methodLink "StepMachine$Core" 171 y_Guar_firstWithout ∈ wALL := inA8 (List.mem_of_getElem? (i := 16) rfl)
theorem a_337 : Cond.instanceMethod y_Guar_firstWithout ∈ wALL := inA8 (List.mem_of_getElem? (i := 17) rfl)
theorem a_338 : Cond.selects "StepMachine$Guard" y_Guar_firstWithout y_Guar_firstWithout ∈ wALL := inA8 (List.mem_of_getElem? (i := 18) rfl)
theorem a_339 : Cond.code y_Guar_firstWithout prog_4_method_4_code 5 (some .int) ∈ wALL := inA8 (List.mem_of_getElem? (i := 19) rfl)
theorem a_340 : Cond.methodLink "StepMachine$Guard" 27 y_Guar_rightsAt ∈ wALL := inA8 (List.mem_of_getElem? (i := 20) rfl)
theorem a_341 : Cond.instanceMethod y_Guar_rightsAt ∈ wALL := inA8 (List.mem_of_getElem? (i := 21) rfl)
theorem a_342 : Cond.selects "StepMachine$Guard" y_Guar_rightsAt y_Guar_rightsAt ∈ wALL := inA8 (List.mem_of_getElem? (i := 22) rfl)
theorem a_343 : Cond.code y_Guar_rightsAt prog_4_method_3_code 3 (some .int) ∈ wALL := inA8 (List.mem_of_getElem? (i := 23) rfl)
theorem a_344 : Cond.methodLink "StepMachine$Core" 78 y_Core_become ∈ wALL := inA8 (List.mem_of_getElem? (i := 24) rfl)
theorem a_345 : Cond.methodLink "StepMachine$Core" 155 y_Memo_number ∈ wALL := inA8 (List.mem_of_getElem? (i := 25) rfl)
theorem a_346 : Cond.methodLink "StepMachine$Core" 159 y_Word_isLong ∈ wALL := inA8 (List.mem_of_getElem? (i := 26) rfl)
theorem a_347 : Cond.static y_Word_isLong ∈ wALL := inA8 (List.mem_of_getElem? (i := 27) rfl)
theorem a_348 : Cond.code y_Word_isLong prog_12_method_2_code 1 (some .boolean) ∈ wALL := inA8 (List.mem_of_getElem? (i := 28) rfl)
theorem a_349 : Cond.methodLink "StepMachine$Core" 162 y_Shor_read ∈ wALL := inA8 (List.mem_of_getElem? (i := 29) rfl)
theorem a_350 : Cond.static y_Shor_read ∈ wALL := inA8 (List.mem_of_getElem? (i := 30) rfl)
theorem a_351 : Cond.code y_Shor_read prog_10_method_2_code 2 none ∈ wALL := inA8 (List.mem_of_getElem? (i := 31) rfl)
theorem a_352 : Cond.methodLink "StepMachine$ShortForm" 7 y_Word_clear ∈ wALL := inA8 (List.mem_of_getElem? (i := 32) rfl)
theorem a_353 : Cond.instanceMethod y_Word_clear ∈ wALL := inA8 (List.mem_of_getElem? (i := 33) rfl)
theorem a_354 : Cond.selects "StepMachine$Word" y_Word_clear y_Word_clear ∈ wALL := inA8 (List.mem_of_getElem? (i := 34) rfl)
theorem a_355 : Cond.code y_Word_clear prog_12_method_3_code 2 none ∈ wALL := inA8 (List.mem_of_getElem? (i := 35) rfl)
theorem a_356 : Cond.methodLink "StepMachine$Word" 13 y_Word_is ∈ wALL := inA8 (List.mem_of_getElem? (i := 36) rfl)
theorem a_357 : Cond.instanceMethod y_Word_is ∈ wALL := inA8 (List.mem_of_getElem? (i := 37) rfl)
theorem a_358 : Cond.selects "StepMachine$Word" y_Word_is y_Word_is ∈ wALL := inA8 (List.mem_of_getElem? (i := 38) rfl)
theorem a_359 : Cond.code y_Word_is prog_12_method_4_code 6 none ∈ wALL := inA8 (List.mem_of_getElem? (i := 39) rfl)
theorem a_360 : Cond.methodLink "StepMachine$ShortForm" 13 y_Shor_readFirst ∈ wALL := inA9 (List.mem_of_getElem? (i := 0) rfl)
theorem a_361 : Cond.static y_Shor_readFirst ∈ wALL := inA9 (List.mem_of_getElem? (i := 1) rfl)
theorem a_362 : Cond.code y_Shor_readFirst prog_10_method_3_code 5 none ∈ wALL := inA9 (List.mem_of_getElem? (i := 2) rfl)
theorem a_363 : Cond.methodLink "StepMachine$ShortForm" 25 y_Word_part ∈ wALL := inA9 (List.mem_of_getElem? (i := 3) rfl)
theorem a_364 : Cond.static y_Word_part ∈ wALL := inA9 (List.mem_of_getElem? (i := 4) rfl)
theorem a_365 : Cond.code y_Word_part prog_12_method_7_code 4 (some .int) ∈ wALL := inA9 (List.mem_of_getElem? (i := 5) rfl)
theorem a_366 : Cond.methodLink "StepMachine$ShortForm" 29 y_Shor_readStackAddress ∈ wALL := inA9 (List.mem_of_getElem? (i := 6) rfl)
theorem a_367 : Cond.static y_Shor_readStackAddress ∈ wALL := inA9 (List.mem_of_getElem? (i := 7) rfl)
theorem a_368 : Cond.code y_Shor_readStackAddress prog_10_method_4_code 4 none ∈ wALL := inA9 (List.mem_of_getElem? (i := 8) rfl)
theorem a_369 : Cond.methodLink "StepMachine$ShortForm" 33 y_Word_is ∈ wALL := inA9 (List.mem_of_getElem? (i := 9) rfl)
theorem a_370 : Cond.methodLink "StepMachine$ShortForm" 19 y_Shor_readSecond ∈ wALL := inA9 (List.mem_of_getElem? (i := 10) rfl)
theorem a_371 : Cond.static y_Shor_readSecond ∈ wALL := inA9 (List.mem_of_getElem? (i := 11) rfl)
theorem a_372 : Cond.code y_Shor_readSecond prog_10_method_5_code 4 none ∈ wALL := inA9 (List.mem_of_getElem? (i := 12) rfl)
theorem a_373 : Cond.methodLink "StepMachine$ShortForm" 37 y_Shor_sixBits ∈ wALL := inA9 (List.mem_of_getElem? (i := 13) rfl)
theorem a_374 : Cond.static y_Shor_sixBits ∈ wALL := inA9 (List.mem_of_getElem? (i := 14) rfl)
theorem a_375 : Cond.code y_Shor_sixBits prog_10_method_15_code 1 (some .int) ∈ wALL := inA9 (List.mem_of_getElem? (i := 15) rfl)
theorem a_376 : Cond.methodLink "StepMachine$ShortForm" 57 y_Word_signed ∈ wALL := inA9 (List.mem_of_getElem? (i := 16) rfl)
theorem a_377 : Cond.static y_Word_signed ∈ wALL := inA9 (List.mem_of_getElem? (i := 17) rfl)
theorem a_378 : Cond.code y_Word_signed prog_12_method_8_code 2 (some .int) ∈ wALL := inA9 (List.mem_of_getElem? (i := 18) rfl)
theorem a_379 : Cond.methodLink "StepMachine$ShortForm" 41 y_Shor_readAddition ∈ wALL := inA9 (List.mem_of_getElem? (i := 19) rfl)
theorem a_380 : Cond.static y_Shor_readAddition ∈ wALL := inA9 (List.mem_of_getElem? (i := 20) rfl)
theorem a_381 : Cond.code y_Shor_readAddition prog_10_method_6_code 4 none ∈ wALL := inA9 (List.mem_of_getElem? (i := 21) rfl)
theorem a_382 : Cond.methodLink "StepMachine$ShortForm" 45 y_Shor_immediateOfJump ∈ wALL := inA9 (List.mem_of_getElem? (i := 22) rfl)
theorem a_383 : Cond.static y_Shor_immediateOfJump ∈ wALL := inA9 (List.mem_of_getElem? (i := 23) rfl)
theorem a_384 : Cond.code y_Shor_immediateOfJump prog_10_method_16_code 2 (some .int) ∈ wALL := inA9 (List.mem_of_getElem? (i := 24) rfl)
theorem a_385 : Cond.methodLink "StepMachine$ShortForm" 48 y_Shor_readUpper ∈ wALL := inA9 (List.mem_of_getElem? (i := 25) rfl)
theorem a_386 : Cond.static y_Shor_readUpper ∈ wALL := inA9 (List.mem_of_getElem? (i := 26) rfl)
theorem a_387 : Cond.code y_Shor_readUpper prog_10_method_7_code 5 none ∈ wALL := inA9 (List.mem_of_getElem? (i := 27) rfl)
theorem a_388 : Cond.constant "StepMachine$ShortForm" 61 1048575 ∈ wALL := inA9 (List.mem_of_getElem? (i := 28) rfl)
theorem a_389 : Cond.methodLink "StepMachine$ShortForm" 51 y_Shor_readNearPair ∈ wALL := inA9 (List.mem_of_getElem? (i := 29) rfl)
theorem a_390 : Cond.static y_Shor_readNearPair ∈ wALL := inA9 (List.mem_of_getElem? (i := 30) rfl)
theorem a_391 : Cond.code y_Shor_readNearPair prog_10_method_8_code 5 none ∈ wALL := inA9 (List.mem_of_getElem? (i := 31) rfl)
theorem a_392 : Cond.methodLink "StepMachine$ShortForm" 62 y_Shor_kindOfShift ∈ wALL := inA9 (List.mem_of_getElem? (i := 32) rfl)
theorem a_393 : Cond.static y_Shor_kindOfShift ∈ wALL := inA9 (List.mem_of_getElem? (i := 33) rfl)
theorem a_394 : Cond.code y_Shor_kindOfShift prog_10_method_9_code 3 (some .int) ∈ wALL := inA9 (List.mem_of_getElem? (i := 34) rfl)
theorem a_395 : Cond.methodLink "StepMachine$ShortForm" 66 y_Shor_kindOfPair ∈ wALL := inA9 (List.mem_of_getElem? (i := 35) rfl)
theorem a_396 : Cond.static y_Shor_kindOfPair ∈ wALL := inA9 (List.mem_of_getElem? (i := 36) rfl)
theorem a_397 : Cond.code y_Shor_kindOfPair prog_10_method_10_code 2 (some .int) ∈ wALL := inA9 (List.mem_of_getElem? (i := 37) rfl)
theorem a_398 : Cond.methodLink "StepMachine$ShortForm" 54 y_Shor_immediateOfBranch ∈ wALL := inA9 (List.mem_of_getElem? (i := 38) rfl)
theorem a_399 : Cond.static y_Shor_immediateOfBranch ∈ wALL := inA9 (List.mem_of_getElem? (i := 39) rfl)
theorem a_400 : Cond.code y_Shor_immediateOfBranch prog_10_method_17_code 2 (some .int) ∈ wALL := inA10 (List.mem_of_getElem? (i := 0) rfl)
theorem a_401 : Cond.methodLink "StepMachine$ShortForm" 22 y_Shor_readThird ∈ wALL := inA10 (List.mem_of_getElem? (i := 1) rfl)
theorem a_402 : Cond.static y_Shor_readThird ∈ wALL := inA10 (List.mem_of_getElem? (i := 2) rfl)
theorem a_403 : Cond.code y_Shor_readThird prog_10_method_11_code 4 none ∈ wALL := inA10 (List.mem_of_getElem? (i := 3) rfl)
theorem a_404 : Cond.methodLink "StepMachine$ShortForm" 70 y_Shor_shiftUp ∈ wALL := inA10 (List.mem_of_getElem? (i := 4) rfl)
theorem a_405 : Cond.static y_Shor_shiftUp ∈ wALL := inA10 (List.mem_of_getElem? (i := 5) rfl)
theorem a_406 : Cond.code y_Shor_shiftUp prog_10_method_13_code 2 (some .int) ∈ wALL := inA10 (List.mem_of_getElem? (i := 6) rfl)
theorem a_407 : Cond.methodLink "StepMachine$ShortForm" 73 y_Shor_readStackLoad ∈ wALL := inA10 (List.mem_of_getElem? (i := 7) rfl)
theorem a_408 : Cond.static y_Shor_readStackLoad ∈ wALL := inA10 (List.mem_of_getElem? (i := 8) rfl)
theorem a_409 : Cond.code y_Shor_readStackLoad prog_10_method_12_code 4 none ∈ wALL := inA10 (List.mem_of_getElem? (i := 9) rfl)
theorem a_410 : Cond.methodLink "StepMachine$ShortForm" 76 y_Shor_readPair ∈ wALL := inA10 (List.mem_of_getElem? (i := 10) rfl)
theorem a_411 : Cond.static y_Shor_readPair ∈ wALL := inA10 (List.mem_of_getElem? (i := 11) rfl)
theorem a_412 : Cond.code y_Shor_readPair prog_10_method_14_code 5 none ∈ wALL := inA10 (List.mem_of_getElem? (i := 12) rfl)
theorem a_413 : Cond.constant "StepMachine$ShortForm" 82 36866 ∈ wALL := inA10 (List.mem_of_getElem? (i := 13) rfl)
theorem a_414 : Cond.methodLink "StepMachine$ShortForm" 79 y_Shor_immediateOfStackStore ∈ wALL := inA10 (List.mem_of_getElem? (i := 14) rfl)
theorem a_415 : Cond.static y_Shor_immediateOfStackStore ∈ wALL := inA10 (List.mem_of_getElem? (i := 15) rfl)
theorem a_416 : Cond.code y_Shor_immediateOfStackStore prog_10_method_18_code 1 (some .int) ∈ wALL := inA10 (List.mem_of_getElem? (i := 16) rfl)
theorem a_417 : Cond.methodLink "StepMachine$Core" 168 y_Long_read ∈ wALL := inA10 (List.mem_of_getElem? (i := 17) rfl)
theorem a_418 : Cond.static y_Long_read ∈ wALL := inA10 (List.mem_of_getElem? (i := 18) rfl)
theorem a_419 : Cond.code y_Long_read prog_7_method_2_code 7 none ∈ wALL := inA10 (List.mem_of_getElem? (i := 19) rfl)
theorem a_420 : Cond.methodLink "StepMachine$LongForm" 7 y_Word_clear ∈ wALL := inA10 (List.mem_of_getElem? (i := 20) rfl)
theorem a_421 : Cond.methodLink "StepMachine$LongForm" 13 y_Word_is ∈ wALL := inA10 (List.mem_of_getElem? (i := 21) rfl)
theorem a_422 : Cond.methodLink "StepMachine$LongForm" 17 y_Long_immediateOfJump ∈ wALL := inA10 (List.mem_of_getElem? (i := 22) rfl)
theorem a_423 : Cond.static y_Long_immediateOfJump ∈ wALL := inA10 (List.mem_of_getElem? (i := 23) rfl)
theorem a_424 : Cond.code y_Long_immediateOfJump prog_7_method_8_code 2 (some .int) ∈ wALL := inA10 (List.mem_of_getElem? (i := 24) rfl)
theorem a_425 : Cond.methodLink "StepMachine$LongForm" 69 y_Word_part ∈ wALL := inA10 (List.mem_of_getElem? (i := 25) rfl)
theorem a_426 : Cond.methodLink "StepMachine$LongForm" 73 y_Word_signed ∈ wALL := inA10 (List.mem_of_getElem? (i := 26) rfl)
theorem a_427 : Cond.fieldLink "StepMachine$LongForm" 23 "StepMachine$LongForm" "BRANCHES" "[I" ∈ wALL := inA10 (List.mem_of_getElem? (i := 27) rfl)
theorem a_428 : Cond.methodLink "StepMachine$LongForm" 27 y_Long_kindIn ∈ wALL := inA10 (List.mem_of_getElem? (i := 28) rfl)
theorem a_429 : Cond.static y_Long_kindIn ∈ wALL := inA10 (List.mem_of_getElem? (i := 29) rfl)
theorem a_430 : Cond.code y_Long_kindIn prog_7_method_3_code 2 (some .int) ∈ wALL := inA10 (List.mem_of_getElem? (i := 30) rfl)
theorem a_431 : Cond.methodLink "StepMachine$LongForm" 31 y_Long_immediateOfBranch ∈ wALL := inA10 (List.mem_of_getElem? (i := 31) rfl)
theorem a_432 : Cond.static y_Long_immediateOfBranch ∈ wALL := inA10 (List.mem_of_getElem? (i := 32) rfl)
theorem a_433 : Cond.code y_Long_immediateOfBranch prog_7_method_9_code 2 (some .int) ∈ wALL := inA10 (List.mem_of_getElem? (i := 33) rfl)
theorem a_434 : Cond.fieldLink "StepMachine$LongForm" 34 "StepMachine$LongForm" "LOADS" "[I" ∈ wALL := inA10 (List.mem_of_getElem? (i := 34) rfl)
theorem a_435 : Cond.fieldLink "StepMachine$LongForm" 37 "StepMachine$LongForm" "STORES" "[I" ∈ wALL := inA10 (List.mem_of_getElem? (i := 35) rfl)
theorem a_436 : Cond.methodLink "StepMachine$LongForm" 40 y_Long_immediateOfStore ∈ wALL := inA10 (List.mem_of_getElem? (i := 36) rfl)
theorem a_437 : Cond.static y_Long_immediateOfStore ∈ wALL := inA10 (List.mem_of_getElem? (i := 37) rfl)
theorem a_438 : Cond.code y_Long_immediateOfStore prog_7_method_10_code 1 (some .int) ∈ wALL := inA10 (List.mem_of_getElem? (i := 38) rfl)
theorem a_439 : Cond.methodLink "StepMachine$LongForm" 43 y_Long_readImmediate ∈ wALL := inA10 (List.mem_of_getElem? (i := 39) rfl)
theorem a_440 : Cond.static y_Long_readImmediate ∈ wALL := inA11 (List.mem_of_getElem? (i := 0) rfl)
theorem a_441 : Cond.code y_Long_readImmediate prog_7_method_6_code 5 none ∈ wALL := inA11 (List.mem_of_getElem? (i := 1) rfl)
theorem a_442 : Cond.methodLink "StepMachine$LongForm" 63 y_Long_kindOfShift ∈ wALL := inA11 (List.mem_of_getElem? (i := 2) rfl)
theorem a_443 : Cond.static y_Long_kindOfShift ∈ wALL := inA11 (List.mem_of_getElem? (i := 3) rfl)
theorem a_444 : Cond.code y_Long_kindOfShift prog_7_method_7_code 2 (some .int) ∈ wALL := inA11 (List.mem_of_getElem? (i := 4) rfl)
theorem a_445 : Cond.fieldLink "StepMachine$LongForm" 66 "StepMachine$LongForm" "IMMEDIATES" "[I" ∈ wALL := inA11 (List.mem_of_getElem? (i := 5) rfl)
theorem a_446 : Cond.methodLink "StepMachine$LongForm" 47 y_Long_kindOfPair ∈ wALL := inA11 (List.mem_of_getElem? (i := 6) rfl)
theorem a_447 : Cond.static y_Long_kindOfPair ∈ wALL := inA11 (List.mem_of_getElem? (i := 7) rfl)
theorem a_448 : Cond.code y_Long_kindOfPair prog_7_method_4_code 2 (some .int) ∈ wALL := inA11 (List.mem_of_getElem? (i := 8) rfl)
theorem a_449 : Cond.fieldLink "StepMachine$LongForm" 54 "StepMachine$LongForm" "PLAIN" "[I" ∈ wALL := inA11 (List.mem_of_getElem? (i := 9) rfl)
theorem a_450 : Cond.fieldLink "StepMachine$LongForm" 57 "StepMachine$LongForm" "PRODUCTS" "[I" ∈ wALL := inA11 (List.mem_of_getElem? (i := 10) rfl)
theorem a_451 : Cond.fieldLink "StepMachine$LongForm" 60 "StepMachine$LongForm" "OTHER" "[I" ∈ wALL := inA11 (List.mem_of_getElem? (i := 11) rfl)
theorem a_452 : Cond.methodLink "StepMachine$LongForm" 51 y_Long_kindOfWhole ∈ wALL := inA11 (List.mem_of_getElem? (i := 12) rfl)
theorem a_453 : Cond.static y_Long_kindOfWhole ∈ wALL := inA11 (List.mem_of_getElem? (i := 13) rfl)
theorem a_454 : Cond.code y_Long_kindOfWhole prog_7_method_5_code 1 (some .int) ∈ wALL := inA11 (List.mem_of_getElem? (i := 14) rfl)
theorem a_455 : Cond.methodLink "StepMachine$Core" 62 y_Core_failsInMemory ∈ wALL := inA11 (List.mem_of_getElem? (i := 15) rfl)
theorem a_456 : Cond.instanceMethod y_Core_failsInMemory ∈ wALL := inA11 (List.mem_of_getElem? (i := 16) rfl)
theorem a_457 : Cond.code y_Core_failsInMemory prog_3_method_13_code 4 (some .boolean) ∈ wALL := inA11 (List.mem_of_getElem? (i := 17) rfl)
theorem a_458 : Cond.methodLink "StepMachine$Core" 175 y_Word_accessBytes ∈ wALL := inA11 (List.mem_of_getElem? (i := 18) rfl)
theorem a_459 : Cond.instanceMethod y_Word_accessBytes ∈ wALL := inA11 (List.mem_of_getElem? (i := 19) rfl)
theorem a_460 : Cond.selects "StepMachine$Word" y_Word_accessBytes y_Word_accessBytes ∈ wALL := inA11 (List.mem_of_getElem? (i := 20) rfl)
theorem a_461 : Cond.code y_Word_accessBytes prog_12_method_6_code 1 (some .int) ∈ wALL := inA11 (List.mem_of_getElem? (i := 21) rfl)
theorem a_462 : Cond.methodLink "StepMachine$Core" 145 y_Core_address ∈ wALL := inA11 (List.mem_of_getElem? (i := 22) rfl)
theorem a_463 : Cond.instanceMethod y_Core_address ∈ wALL := inA11 (List.mem_of_getElem? (i := 23) rfl)
theorem a_464 : Cond.code y_Core_address prog_3_method_14_code 1 (some .int) ∈ wALL := inA11 (List.mem_of_getElem? (i := 24) rfl)
theorem a_465 : Cond.methodLink "StepMachine$Core" 139 y_Core_register ∈ wALL := inA11 (List.mem_of_getElem? (i := 25) rfl)
theorem a_466 : Cond.methodLink "StepMachine$Core" 142 y_Word_isStore ∈ wALL := inA11 (List.mem_of_getElem? (i := 26) rfl)
theorem a_467 : Cond.instanceMethod y_Word_isStore ∈ wALL := inA11 (List.mem_of_getElem? (i := 27) rfl)
theorem a_468 : Cond.selects "StepMachine$Word" y_Word_isStore y_Word_isStore ∈ wALL := inA11 (List.mem_of_getElem? (i := 28) rfl)
theorem a_469 : Cond.code y_Word_isStore prog_12_method_5_code 1 (some .boolean) ∈ wALL := inA11 (List.mem_of_getElem? (i := 29) rfl)
theorem a_470 : Cond.methodLink "StepMachine$Core" 65 y_Core_beginsUnit ∈ wALL := inA11 (List.mem_of_getElem? (i := 30) rfl)
theorem a_471 : Cond.instanceMethod y_Core_beginsUnit ∈ wALL := inA11 (List.mem_of_getElem? (i := 31) rfl)
theorem a_472 : Cond.selects "StepMachine$Core" y_Core_beginsUnit y_Core_beginsUnit ∈ wALL := inA11 (List.mem_of_getElem? (i := 32) rfl)
theorem a_473 : Cond.code y_Core_beginsUnit prog_3_method_7_code 1 (some .boolean) ∈ wALL := inA11 (List.mem_of_getElem? (i := 33) rfl)
theorem a_474 : Cond.methodLink "StepMachine$Core" 54 y_Guar_isMarked ∈ wALL := inA11 (List.mem_of_getElem? (i := 34) rfl)
theorem a_475 : Cond.instanceMethod y_Guar_isMarked ∈ wALL := inA11 (List.mem_of_getElem? (i := 35) rfl)
theorem a_476 : Cond.selects "StepMachine$Guard" y_Guar_isMarked y_Guar_isMarked ∈ wALL := inA11 (List.mem_of_getElem? (i := 36) rfl)
theorem a_477 : Cond.code y_Guar_isMarked prog_4_method_6_code 2 (some .boolean) ∈ wALL := inA11 (List.mem_of_getElem? (i := 37) rfl)
theorem a_478 : Cond.methodLink "StepMachine$Core" 68 y_Trai_open ∈ wALL := inA11 (List.mem_of_getElem? (i := 38) rfl)
theorem a_479 : Cond.instanceMethod y_Trai_open ∈ wALL := inA11 (List.mem_of_getElem? (i := 39) rfl)
theorem a_480 : Cond.selects "StepMachine$Trail" y_Trai_open y_Trai_open ∈ wALL := inA12 (List.mem_of_getElem? (i := 0) rfl)
theorem a_481 : Cond.code y_Trai_open prog_11_method_2_code 2 (some (.object "StepMachine$Kept")) ∈ wALL := inA12 (List.mem_of_getElem? (i := 1) rfl)
theorem a_482 : Cond.methodLink "StepMachine$Trail" 20 y_Trai_place ∈ wALL := inA12 (List.mem_of_getElem? (i := 2) rfl)
theorem a_483 : Cond.static y_Trai_place ∈ wALL := inA12 (List.mem_of_getElem? (i := 3) rfl)
theorem a_484 : Cond.code y_Trai_place prog_11_method_5_code 1 (some .int) ∈ wALL := inA12 (List.mem_of_getElem? (i := 4) rfl)
theorem a_485 : Cond.methodLink "StepMachine$Trail" 27 y_Math_floorMod ∈ wALL := inA12 (List.mem_of_getElem? (i := 5) rfl)
theorem a_486 : Cond.static y_Math_floorMod ∈ wALL := inA12 (List.mem_of_getElem? (i := 6) rfl)
theorem a_487 : Cond.code y_Math_floorMod prog_15_method_50_code 3 (some .int) ∈ wALL := inA12 (List.mem_of_getElem? (i := 7) rfl)
theorem a_488 : Cond.methodLink "StepMachine$Core" 74 y_Core_remember ∈ wALL := inA12 (List.mem_of_getElem? (i := 8) rfl)
theorem a_489 : Cond.instanceMethod y_Core_remember ∈ wALL := inA12 (List.mem_of_getElem? (i := 9) rfl)
theorem a_490 : Cond.code y_Core_remember prog_3_method_10_code 2 none ∈ wALL := inA12 (List.mem_of_getElem? (i := 10) rfl)
theorem a_491 : Cond.methodLink "StepMachine$Core" 149 y_Memo_cellOf ∈ wALL := inA12 (List.mem_of_getElem? (i := 11) rfl)
theorem a_492 : Cond.methodLink "StepMachine$Core" 82 y_Core_perform ∈ wALL := inA12 (List.mem_of_getElem? (i := 12) rfl)
theorem a_493 : Cond.instanceMethod y_Core_perform ∈ wALL := inA12 (List.mem_of_getElem? (i := 13) rfl)
theorem a_494 : Cond.code y_Core_perform prog_3_method_15_code 2 none ∈ wALL := inA12 (List.mem_of_getElem? (i := 14) rfl)
theorem a_495 : Cond.methodLink "StepMachine$Core" 184 y_Core_link ∈ wALL := inA12 (List.mem_of_getElem? (i := 15) rfl)
theorem a_496 : Cond.instanceMethod y_Core_link ∈ wALL := inA12 (List.mem_of_getElem? (i := 16) rfl)
theorem a_497 : Cond.code y_Core_link prog_3_method_19_code 2 none ∈ wALL := inA12 (List.mem_of_getElem? (i := 17) rfl)
theorem a_498 : Cond.methodLink "StepMachine$Core" 118 y_Core_putRegister ∈ wALL := inA12 (List.mem_of_getElem? (i := 18) rfl)
theorem a_499 : Cond.methodLink "StepMachine$Core" 221 y_Core_jump ∈ wALL := inA12 (List.mem_of_getElem? (i := 19) rfl)
theorem a_500 : Cond.instanceMethod y_Core_jump ∈ wALL := inA12 (List.mem_of_getElem? (i := 20) rfl)
theorem a_501 : Cond.code y_Core_jump prog_3_method_21_code 2 none ∈ wALL := inA12 (List.mem_of_getElem? (i := 21) rfl)
theorem a_502 : Cond.methodLink "StepMachine$Core" 188 y_Core_branch ∈ wALL := inA12 (List.mem_of_getElem? (i := 22) rfl)
theorem a_503 : Cond.instanceMethod y_Core_branch ∈ wALL := inA12 (List.mem_of_getElem? (i := 23) rfl)
theorem a_504 : Cond.code y_Core_branch prog_3_method_20_code 1 none ∈ wALL := inA12 (List.mem_of_getElem? (i := 24) rfl)
theorem a_505 : Cond.methodLink "StepMachine$Core" 224 y_Arit_holds ∈ wALL := inA12 (List.mem_of_getElem? (i := 25) rfl)
theorem a_506 : Cond.static y_Arit_holds ∈ wALL := inA12 (List.mem_of_getElem? (i := 26) rfl)
theorem a_507 : Cond.code y_Arit_holds prog_2_method_2_code 3 (some .boolean) ∈ wALL := inA12 (List.mem_of_getElem? (i := 27) rfl)
theorem a_508 : Cond.methodLink "StepMachine$Arithmetic" 7 y_Arit_isBelow ∈ wALL := inA12 (List.mem_of_getElem? (i := 28) rfl)
theorem a_509 : Cond.static y_Arit_isBelow ∈ wALL := inA12 (List.mem_of_getElem? (i := 29) rfl)
theorem a_510 : Cond.code y_Arit_isBelow prog_2_method_6_code 2 (some .boolean) ∈ wALL := inA12 (List.mem_of_getElem? (i := 30) rfl)
theorem a_511 : Cond.constantLong "StepMachine$Arithmetic" 17 4294967295 ∈ wALL := inA12 (List.mem_of_getElem? (i := 31) rfl)
theorem a_512 : Cond.methodLink "StepMachine$Core" 197 y_Core_goOn ∈ wALL := inA12 (List.mem_of_getElem? (i := 32) rfl)
theorem a_513 : Cond.instanceMethod y_Core_goOn ∈ wALL := inA12 (List.mem_of_getElem? (i := 33) rfl)
theorem a_514 : Cond.code y_Core_goOn prog_3_method_18_code 1 none ∈ wALL := inA12 (List.mem_of_getElem? (i := 34) rfl)
theorem a_515 : Cond.methodLink "StepMachine$Core" 191 y_Core_serve ∈ wALL := inA12 (List.mem_of_getElem? (i := 35) rfl)
theorem a_516 : Cond.instanceMethod y_Core_serve ∈ wALL := inA12 (List.mem_of_getElem? (i := 36) rfl)
theorem a_517 : Cond.code y_Core_serve prog_3_method_22_code 2 none ∈ wALL := inA12 (List.mem_of_getElem? (i := 37) rfl)
theorem a_518 : Cond.methodLink "StepMachine$Core" 228 y_Port_put ∈ wALL := inA12 (List.mem_of_getElem? (i := 38) rfl)
theorem a_519 : Cond.instanceMethod y_Port_put ∈ wALL := inA12 (List.mem_of_getElem? (i := 39) rfl)
theorem a_520 : Cond.selects "StepMachine$Ports" y_Port_put y_Port_put ∈ wALL := inA13 (List.mem_of_getElem? (i := 0) rfl)
theorem a_521 : Cond.code y_Port_put prog_9_method_5_code 2 (some .int) ∈ wALL := inA13 (List.mem_of_getElem? (i := 1) rfl)
theorem a_522 : Cond.methodLink "StepMachine$Core" 231 y_Core_answer ∈ wALL := inA13 (List.mem_of_getElem? (i := 2) rfl)
theorem a_523 : Cond.instanceMethod y_Core_answer ∈ wALL := inA13 (List.mem_of_getElem? (i := 3) rfl)
theorem a_524 : Cond.code y_Core_answer prog_3_method_23_code 2 none ∈ wALL := inA13 (List.mem_of_getElem? (i := 4) rfl)
theorem a_525 : Cond.methodLink "StepMachine$Core" 234 y_Port_take ∈ wALL := inA13 (List.mem_of_getElem? (i := 5) rfl)
theorem a_526 : Cond.instanceMethod y_Port_take ∈ wALL := inA13 (List.mem_of_getElem? (i := 6) rfl)
theorem a_527 : Cond.selects "StepMachine$Ports" y_Port_take y_Port_take ∈ wALL := inA13 (List.mem_of_getElem? (i := 7) rfl)
theorem a_528 : Cond.code y_Port_take prog_9_method_4_code 2 (some .int) ∈ wALL := inA13 (List.mem_of_getElem? (i := 8) rfl)
theorem a_529 : Cond.methodLink "StepMachine$Core" 194 y_Core_change ∈ wALL := inA13 (List.mem_of_getElem? (i := 9) rfl)
theorem a_530 : Cond.instanceMethod y_Core_change ∈ wALL := inA13 (List.mem_of_getElem? (i := 10) rfl)
theorem a_531 : Cond.code y_Core_change prog_3_method_16_code 3 none ∈ wALL := inA13 (List.mem_of_getElem? (i := 11) rfl)
theorem a_532 : Cond.methodLink "StepMachine$Core" 203 y_Memo_putNumber ∈ wALL := inA13 (List.mem_of_getElem? (i := 12) rfl)
theorem a_533 : Cond.methodLink "StepMachine$Core" 207 y_Core_loaded ∈ wALL := inA13 (List.mem_of_getElem? (i := 13) rfl)
theorem a_534 : Cond.instanceMethod y_Core_loaded ∈ wALL := inA13 (List.mem_of_getElem? (i := 14) rfl)
theorem a_535 : Cond.code y_Core_loaded prog_3_method_17_code 2 (some .int) ∈ wALL := inA13 (List.mem_of_getElem? (i := 15) rfl)
theorem a_536 : Cond.methodLink "StepMachine$Core" 215 y_Word_signed ∈ wALL := inA13 (List.mem_of_getElem? (i := 16) rfl)
theorem a_537 : Cond.methodLink "StepMachine$Core" 210 y_Arit_result ∈ wALL := inA13 (List.mem_of_getElem? (i := 17) rfl)
theorem a_538 : Cond.static y_Arit_result ∈ wALL := inA13 (List.mem_of_getElem? (i := 18) rfl)
theorem a_539 : Cond.code y_Arit_result prog_2_method_3_code 3 (some .int) ∈ wALL := inA13 (List.mem_of_getElem? (i := 19) rfl)
theorem a_540 : Cond.methodLink "StepMachine$Arithmetic" 13 y_Arit_product ∈ wALL := inA13 (List.mem_of_getElem? (i := 20) rfl)
theorem a_541 : Cond.static y_Arit_product ∈ wALL := inA13 (List.mem_of_getElem? (i := 21) rfl)
theorem a_542 : Cond.code y_Arit_product prog_2_method_4_code 3 (some .int) ∈ wALL := inA13 (List.mem_of_getElem? (i := 22) rfl)
theorem a_543 : Cond.methodLink "StepMachine$Arithmetic" 19 y_Arit_quotient ∈ wALL := inA13 (List.mem_of_getElem? (i := 23) rfl)
theorem a_544 : Cond.static y_Arit_quotient ∈ wALL := inA13 (List.mem_of_getElem? (i := 24) rfl)
theorem a_545 : Cond.code y_Arit_quotient prog_2_method_5_code 9 (some .int) ∈ wALL := inA13 (List.mem_of_getElem? (i := 25) rfl)
theorem a_546 : Cond.methodLink "StepMachineLaw" 63 y_X_run ∈ wALL := inA13 (List.mem_of_getElem? (i := 26) rfl)
theorem a_547 : Cond.instanceMethod y_X_run ∈ wALL := inA13 (List.mem_of_getElem? (i := 27) rfl)
theorem a_548 : Cond.selects "StepMachine" y_X_run y_X_run ∈ wALL := inA13 (List.mem_of_getElem? (i := 28) rfl)
theorem a_549 : Cond.code y_X_run prog_1_method_12_code 5 (some .int) ∈ wALL := inA13 (List.mem_of_getElem? (i := 29) rfl)
theorem a_550 : Cond.constant "StepMachine" 134 65537 ∈ wALL := inA13 (List.mem_of_getElem? (i := 30) rfl)
theorem a_551 : Cond.methodLink "StepMachine" 135 y_Halt_has ∈ wALL := inA13 (List.mem_of_getElem? (i := 31) rfl)
theorem a_552 : Cond.methodLink "StepMachine" 136 y_Core_beginsUnit ∈ wALL := inA13 (List.mem_of_getElem? (i := 32) rfl)
theorem a_553 : Cond.methodLink "StepMachineLaw" 67 y_X_back ∈ wALL := inA13 (List.mem_of_getElem? (i := 33) rfl)
theorem a_554 : Cond.instanceMethod y_X_back ∈ wALL := inA13 (List.mem_of_getElem? (i := 34) rfl)
theorem a_555 : Cond.selects "StepMachine" y_X_back y_X_back ∈ wALL := inA13 (List.mem_of_getElem? (i := 35) rfl)
theorem a_556 : Cond.code y_X_back prog_1_method_13_code 4 (some .int) ∈ wALL := inA13 (List.mem_of_getElem? (i := 36) rfl)
theorem a_557 : Cond.methodLink "StepMachine" 139 y_Trai_takeLatest ∈ wALL := inA13 (List.mem_of_getElem? (i := 37) rfl)
theorem a_558 : Cond.instanceMethod y_Trai_takeLatest ∈ wALL := inA13 (List.mem_of_getElem? (i := 38) rfl)
theorem a_559 : Cond.selects "StepMachine$Trail" y_Trai_takeLatest y_Trai_takeLatest ∈ wALL := inA13 (List.mem_of_getElem? (i := 39) rfl)
theorem a_560 : Cond.code y_Trai_takeLatest prog_11_method_3_code 1 (some (.object "StepMachine$Kept")) ∈ wALL := inA14 (List.mem_of_getElem? (i := 0) rfl)
theorem a_561 : Cond.methodLink "StepMachine" 143 y_Core_undo ∈ wALL := inA14 (List.mem_of_getElem? (i := 1) rfl)
theorem a_562 : Cond.instanceMethod y_Core_undo ∈ wALL := inA14 (List.mem_of_getElem? (i := 2) rfl)
theorem a_563 : Cond.selects "StepMachine$Core" y_Core_undo y_Core_undo ∈ wALL := inA14 (List.mem_of_getElem? (i := 3) rfl)
theorem a_564 : Cond.code y_Core_undo prog_3_method_9_code 2 none ∈ wALL := inA14 (List.mem_of_getElem? (i := 4) rfl)
theorem a_565 : Cond.methodLink "StepMachine$Core" 128 y_Memo_putCell ∈ wALL := inA14 (List.mem_of_getElem? (i := 5) rfl)
theorem a_566 : Cond.methodLink "StepMachineLaw" 71 y_X_state ∈ wALL := inA14 (List.mem_of_getElem? (i := 6) rfl)
theorem a_567 : Cond.instanceMethod y_X_state ∈ wALL := inA14 (List.mem_of_getElem? (i := 7) rfl)
theorem a_568 : Cond.selects "StepMachine" y_X_state y_X_state ∈ wALL := inA14 (List.mem_of_getElem? (i := 8) rfl)
theorem a_569 : Cond.code y_X_state prog_1_method_14_code 2 (some .int) ∈ wALL := inA14 (List.mem_of_getElem? (i := 9) rfl)
theorem a_570 : Cond.methodLink "StepMachineLaw" 75 y_X_output ∈ wALL := inA14 (List.mem_of_getElem? (i := 10) rfl)
theorem a_571 : Cond.instanceMethod y_X_output ∈ wALL := inA14 (List.mem_of_getElem? (i := 11) rfl)
theorem a_572 : Cond.selects "StepMachine" y_X_output y_X_output ∈ wALL := inA14 (List.mem_of_getElem? (i := 12) rfl)
theorem a_573 : Cond.code y_X_output prog_1_method_15_code 2 (some .int) ∈ wALL := inA14 (List.mem_of_getElem? (i := 13) rfl)
theorem a_574 : Cond.methodLink "StepMachine" 169 y_Port_outputAt ∈ wALL := inA14 (List.mem_of_getElem? (i := 14) rfl)
theorem a_575 : Cond.instanceMethod y_Port_outputAt ∈ wALL := inA14 (List.mem_of_getElem? (i := 15) rfl)
theorem a_576 : Cond.selects "StepMachine$Ports" y_Port_outputAt y_Port_outputAt ∈ wALL := inA14 (List.mem_of_getElem? (i := 16) rfl)
theorem a_577 : Cond.code y_Port_outputAt prog_9_method_6_code 2 (some .int) ∈ wALL := inA14 (List.mem_of_getElem? (i := 17) rfl)
theorem a_578 : Cond.methodLink "StepMachineLaw" 79 y_X_rights ∈ wALL := inA14 (List.mem_of_getElem? (i := 18) rfl)
theorem a_579 : Cond.instanceMethod y_X_rights ∈ wALL := inA14 (List.mem_of_getElem? (i := 19) rfl)
theorem a_580 : Cond.selects "StepMachine" y_X_rights y_X_rights ∈ wALL := inA14 (List.mem_of_getElem? (i := 20) rfl)
theorem a_581 : Cond.code y_X_rights prog_1_method_16_code 2 (some .int) ∈ wALL := inA14 (List.mem_of_getElem? (i := 21) rfl)
theorem a_582 : Cond.methodLink "StepMachine" 172 y_Guar_rightsAt ∈ wALL := inA14 (List.mem_of_getElem? (i := 22) rfl)
theorem a_583 : Cond.methodLink "StepMachine" 175 y_Guar_isMarked ∈ wALL := inA14 (List.mem_of_getElem? (i := 23) rfl)
theorem a_584 : Cond.classLink "StepMachineLaw" 10 "StepMachineModel" ∈ wALL := inA14 (List.mem_of_getElem? (i := 24) rfl)
theorem a_585 : Cond.instantiable "StepMachineModel" 29 ∈ wALL := inA14 (List.mem_of_getElem? (i := 25) rfl)
theorem a_586 : Cond.methodLink "StepMachineLaw" 12 y_M_init ∈ wALL := inA14 (List.mem_of_getElem? (i := 26) rfl)
theorem a_587 : Cond.instanceMethod y_M_init ∈ wALL := inA14 (List.mem_of_getElem? (i := 27) rfl)
theorem a_588 : Cond.code y_M_init prog_14_method_1_code 2 none ∈ wALL := inA14 (List.mem_of_getElem? (i := 28) rfl)
theorem a_589 : Cond.methodLink "StepMachineModel" 1 objectInit ∈ wALL := inA14 (List.mem_of_getElem? (i := 29) rfl)
theorem a_590 : Cond.constant "StepMachineModel" 16 131072 ∈ wALL := inA14 (List.mem_of_getElem? (i := 30) rfl)
theorem a_591 : Cond.constant "StepMachineModel" 20 65536 ∈ wALL := inA14 (List.mem_of_getElem? (i := 31) rfl)
theorem a_592 : Cond.methodLink "StepMachineModel" 49 y_M_layLong ∈ wALL := inA14 (List.mem_of_getElem? (i := 32) rfl)
theorem a_593 : Cond.instanceMethod y_M_layLong ∈ wALL := inA14 (List.mem_of_getElem? (i := 33) rfl)
theorem a_594 : Cond.code y_M_layLong prog_14_method_11_code 2 none ∈ wALL := inA14 (List.mem_of_getElem? (i := 34) rfl)
theorem a_595 : Cond.constant "StepMachineModel" 56 267386895 ∈ wALL := inA14 (List.mem_of_getElem? (i := 35) rfl)
theorem a_596 : Cond.constant "StepMachineModel" 57 1048691 ∈ wALL := inA14 (List.mem_of_getElem? (i := 36) rfl)
theorem a_597 : Cond.methodLink "StepMachineModel" 58 y_M_fix ∈ wALL := inA14 (List.mem_of_getElem? (i := 37) rfl)
theorem a_598 : Cond.instanceMethod y_M_fix ∈ wALL := inA14 (List.mem_of_getElem? (i := 38) rfl)
theorem a_599 : Cond.code y_M_fix prog_14_method_4_code 6 none ∈ wALL := inA14 (List.mem_of_getElem? (i := 39) rfl)
theorem a_600 : Cond.methodLink "StepMachineModel" 62 y_M_opcodeOf ∈ wALL := inA15 (List.mem_of_getElem? (i := 0) rfl)
theorem a_601 : Cond.static y_M_opcodeOf ∈ wALL := inA15 (List.mem_of_getElem? (i := 1) rfl)
theorem a_602 : Cond.code y_M_opcodeOf prog_14_method_5_code 1 (some .int) ∈ wALL := inA15 (List.mem_of_getElem? (i := 2) rfl)
theorem a_603 : Cond.methodLink "StepMachineModel" 66 y_M_lay ∈ wALL := inA15 (List.mem_of_getElem? (i := 3) rfl)
theorem a_604 : Cond.instanceMethod y_M_lay ∈ wALL := inA15 (List.mem_of_getElem? (i := 4) rfl)
theorem a_605 : Cond.code y_M_lay prog_14_method_3_code 7 none ∈ wALL := inA15 (List.mem_of_getElem? (i := 5) rfl)
theorem a_606 : Cond.methodLink "StepMachineModel" 70 y_M_thirdOf ∈ wALL := inA15 (List.mem_of_getElem? (i := 6) rfl)
theorem a_607 : Cond.static y_M_thirdOf ∈ wALL := inA15 (List.mem_of_getElem? (i := 7) rfl)
theorem a_608 : Cond.code y_M_thirdOf prog_14_method_6_code 1 (some .int) ∈ wALL := inA15 (List.mem_of_getElem? (i := 8) rfl)
theorem a_609 : Cond.methodLink "StepMachineModel" 73 y_M_isBranch ∈ wALL := inA15 (List.mem_of_getElem? (i := 9) rfl)
theorem a_610 : Cond.static y_M_isBranch ∈ wALL := inA15 (List.mem_of_getElem? (i := 10) rfl)
theorem a_611 : Cond.code y_M_isBranch prog_14_method_8_code 1 (some .boolean) ∈ wALL := inA15 (List.mem_of_getElem? (i := 11) rfl)
theorem a_612 : Cond.methodLink "StepMachineModel" 77 y_M_isStore ∈ wALL := inA15 (List.mem_of_getElem? (i := 12) rfl)
theorem a_613 : Cond.static y_M_isStore ∈ wALL := inA15 (List.mem_of_getElem? (i := 13) rfl)
theorem a_614 : Cond.code y_M_isStore prog_14_method_9_code 1 (some .boolean) ∈ wALL := inA15 (List.mem_of_getElem? (i := 14) rfl)
theorem a_615 : Cond.methodLink "StepMachineModel" 80 y_M_seventhOf ∈ wALL := inA15 (List.mem_of_getElem? (i := 15) rfl)
theorem a_616 : Cond.static y_M_seventhOf ∈ wALL := inA15 (List.mem_of_getElem? (i := 16) rfl)
theorem a_617 : Cond.code y_M_seventhOf prog_14_method_7_code 1 (some .int) ∈ wALL := inA15 (List.mem_of_getElem? (i := 17) rfl)
theorem a_618 : Cond.methodLink "StepMachineModel" 83 y_M_isShift ∈ wALL := inA15 (List.mem_of_getElem? (i := 18) rfl)
theorem a_619 : Cond.static y_M_isShift ∈ wALL := inA15 (List.mem_of_getElem? (i := 19) rfl)
theorem a_620 : Cond.code y_M_isShift prog_14_method_10_code 1 (some .boolean) ∈ wALL := inA15 (List.mem_of_getElem? (i := 20) rfl)
theorem a_621 : Cond.methodLink "StepMachineModel" 53 y_M_layShort ∈ wALL := inA15 (List.mem_of_getElem? (i := 21) rfl)
theorem a_622 : Cond.instanceMethod y_M_layShort ∈ wALL := inA15 (List.mem_of_getElem? (i := 22) rfl)
theorem a_623 : Cond.code y_M_layShort prog_14_method_14_code 2 none ∈ wALL := inA15 (List.mem_of_getElem? (i := 23) rfl)
theorem a_624 : Cond.methodLink "StepMachineModel" 86 y_M_ends ∈ wALL := inA15 (List.mem_of_getElem? (i := 24) rfl)
theorem a_625 : Cond.instanceMethod y_M_ends ∈ wALL := inA15 (List.mem_of_getElem? (i := 25) rfl)
theorem a_626 : Cond.code y_M_ends prog_14_method_13_code 4 none ∈ wALL := inA15 (List.mem_of_getElem? (i := 26) rfl)
theorem a_627 : Cond.methodLink "StepMachineModel" 90 y_M_one ∈ wALL := inA15 (List.mem_of_getElem? (i := 27) rfl)
theorem a_628 : Cond.instanceMethod y_M_one ∈ wALL := inA15 (List.mem_of_getElem? (i := 28) rfl)
theorem a_629 : Cond.code y_M_one prog_14_method_12_code 4 none ∈ wALL := inA15 (List.mem_of_getElem? (i := 29) rfl)
theorem a_630 : Cond.methodLink "StepMachineModel" 93 y_M_layJump ∈ wALL := inA15 (List.mem_of_getElem? (i := 30) rfl)
theorem a_631 : Cond.instanceMethod y_M_layJump ∈ wALL := inA15 (List.mem_of_getElem? (i := 31) rfl)
theorem a_632 : Cond.code y_M_layJump prog_14_method_15_code 3 none ∈ wALL := inA15 (List.mem_of_getElem? (i := 32) rfl)
theorem a_633 : Cond.fieldLink "StepMachineModel" 7 "StepMachineModel" "row" "[I" ∈ wALL := inA15 (List.mem_of_getElem? (i := 33) rfl)
theorem a_634 : Cond.fieldLink "StepMachineModel" 13 "StepMachineModel" "part" "[I" ∈ wALL := inA15 (List.mem_of_getElem? (i := 34) rfl)
theorem a_635 : Cond.fieldLink "StepMachineModel" 17 "StepMachineModel" "memory" "[I" ∈ wALL := inA15 (List.mem_of_getElem? (i := 35) rfl)
theorem a_636 : Cond.fieldLink "StepMachineModel" 21 "StepMachineModel" "marked" "[Z" ∈ wALL := inA15 (List.mem_of_getElem? (i := 36) rfl)
theorem a_637 : Cond.fieldLink "StepMachineModel" 25 "StepMachineModel" "segmentFrom" "[I" ∈ wALL := inA15 (List.mem_of_getElem? (i := 37) rfl)
theorem a_638 : Cond.fieldLink "StepMachineModel" 28 "StepMachineModel" "segmentSize" "[I" ∈ wALL := inA15 (List.mem_of_getElem? (i := 38) rfl)
theorem a_639 : Cond.fieldLink "StepMachineModel" 31 "StepMachineModel" "segmentRights" "[I" ∈ wALL := inA15 (List.mem_of_getElem? (i := 39) rfl)
theorem a_640 : Cond.fieldLink "StepMachineModel" 189 "StepMachineModel" "marking" "Z" ∈ wALL := inA16 (List.mem_of_getElem? (i := 0) rfl)
theorem a_641 : Cond.fieldLink "StepMachineModel" 34 "StepMachineModel" "halts" "[I" ∈ wALL := inA16 (List.mem_of_getElem? (i := 1) rfl)
theorem a_642 : Cond.fieldLink "StepMachineModel" 207 "StepMachineModel" "haltCount" "I" ∈ wALL := inA16 (List.mem_of_getElem? (i := 2) rfl)
theorem a_643 : Cond.fieldLink "StepMachineModel" 37 "StepMachineModel" "register" "[I" ∈ wALL := inA16 (List.mem_of_getElem? (i := 3) rfl)
theorem a_644 : Cond.fieldLink "StepMachineModel" 195 "StepMachineModel" "pc" "I" ∈ wALL := inA16 (List.mem_of_getElem? (i := 4) rfl)
theorem a_645 : Cond.fieldLink "StepMachineModel" 40 "StepMachineModel" "input" "[I" ∈ wALL := inA16 (List.mem_of_getElem? (i := 5) rfl)
theorem a_646 : Cond.fieldLink "StepMachineModel" 204 "StepMachineModel" "inputSize" "I" ∈ wALL := inA16 (List.mem_of_getElem? (i := 6) rfl)
theorem a_647 : Cond.fieldLink "StepMachineModel" 266 "StepMachineModel" "taken" "I" ∈ wALL := inA16 (List.mem_of_getElem? (i := 7) rfl)
theorem a_648 : Cond.fieldLink "StepMachineModel" 43 "StepMachineModel" "output" "[I" ∈ wALL := inA16 (List.mem_of_getElem? (i := 8) rfl)
theorem a_649 : Cond.fieldLink "StepMachineModel" 263 "StepMachineModel" "outputSize" "I" ∈ wALL := inA16 (List.mem_of_getElem? (i := 9) rfl)
theorem a_650 : Cond.fieldLink "StepMachineModel" 198 "StepMachineModel" "state" "I" ∈ wALL := inA16 (List.mem_of_getElem? (i := 10) rfl)
theorem a_651 : Cond.fieldLink "StepMachineModel" 201 "StepMachineModel" "culprit" "I" ∈ wALL := inA16 (List.mem_of_getElem? (i := 11) rfl)
theorem a_652 : Cond.fieldLink "StepMachineModel" 254 "StepMachineModel" "value" "I" ∈ wALL := inA16 (List.mem_of_getElem? (i := 12) rfl)
theorem a_653 : Cond.fieldLink "StepMachineModel" 257 "StepMachineModel" "steps" "I" ∈ wALL := inA16 (List.mem_of_getElem? (i := 13) rfl)
theorem a_654 : Cond.fieldLink "StepMachineModel" 260 "StepMachineModel" "units" "I" ∈ wALL := inA16 (List.mem_of_getElem? (i := 14) rfl)
theorem a_655 : Cond.fieldLink "StepMachineModel" 46 "StepMachineModel" "kept" "[I" ∈ wALL := inA16 (List.mem_of_getElem? (i := 15) rfl)
theorem a_656 : Cond.fieldLink "StepMachineModel" 180 "StepMachineModel" "keptCount" "I" ∈ wALL := inA16 (List.mem_of_getElem? (i := 16) rfl)
theorem a_657 : Cond.fieldLink "StepMachineModel" 251 "StepMachineModel" "keptNext" "I" ∈ wALL := inA16 (List.mem_of_getElem? (i := 17) rfl)
theorem a_658 : Cond.fieldLink "StepMachineModel" 236 "StepMachineModel" "bytes" "I" ∈ wALL := inA16 (List.mem_of_getElem? (i := 18) rfl)
theorem a_659 : Cond.fieldLink "StepMachineModel" 242 "StepMachineModel" "kind" "I" ∈ wALL := inA16 (List.mem_of_getElem? (i := 19) rfl)
theorem a_660 : Cond.fieldLink "StepMachineModel" 287 "StepMachineModel" "target" "I" ∈ wALL := inA16 (List.mem_of_getElem? (i := 20) rfl)
theorem a_661 : Cond.fieldLink "StepMachineModel" 284 "StepMachineModel" "jumps" "Z" ∈ wALL := inA16 (List.mem_of_getElem? (i := 21) rfl)
theorem a_662 : Cond.laysFinal "StepMachineModel" "StepMachineModel" "row" "[I" ∈ wALL := inA16 (List.mem_of_getElem? (i := 22) rfl)
theorem a_663 : Cond.laysFinal "StepMachineModel" "StepMachineModel" "part" "[I" ∈ wALL := inA16 (List.mem_of_getElem? (i := 23) rfl)
theorem a_664 : Cond.laysFinal "StepMachineModel" "StepMachineModel" "memory" "[I" ∈ wALL := inA16 (List.mem_of_getElem? (i := 24) rfl)
theorem a_665 : Cond.laysFinal "StepMachineModel" "StepMachineModel" "marked" "[Z" ∈ wALL := inA16 (List.mem_of_getElem? (i := 25) rfl)
theorem a_666 : Cond.laysFinal "StepMachineModel" "StepMachineModel" "segmentFrom" "[I" ∈ wALL := inA16 (List.mem_of_getElem? (i := 26) rfl)
theorem a_667 : Cond.laysFinal "StepMachineModel" "StepMachineModel" "segmentSize" "[I" ∈ wALL := inA16 (List.mem_of_getElem? (i := 27) rfl)
theorem a_668 : Cond.laysFinal "StepMachineModel" "StepMachineModel" "segmentRights" "[I" ∈ wALL := inA16 (List.mem_of_getElem? (i := 28) rfl)
theorem a_669 : Cond.lays "StepMachineModel" "StepMachineModel" "marking" "Z" ∈ wALL := inA16 (List.mem_of_getElem? (i := 29) rfl)
theorem a_670 : Cond.laysFinal "StepMachineModel" "StepMachineModel" "halts" "[I" ∈ wALL := inA16 (List.mem_of_getElem? (i := 30) rfl)
theorem a_671 : Cond.lays "StepMachineModel" "StepMachineModel" "haltCount" "I" ∈ wALL := inA16 (List.mem_of_getElem? (i := 31) rfl)
theorem a_672 : Cond.laysFinal "StepMachineModel" "StepMachineModel" "register" "[I" ∈ wALL := inA16 (List.mem_of_getElem? (i := 32) rfl)
theorem a_673 : Cond.lays "StepMachineModel" "StepMachineModel" "pc" "I" ∈ wALL := inA16 (List.mem_of_getElem? (i := 33) rfl)
theorem a_674 : Cond.laysFinal "StepMachineModel" "StepMachineModel" "input" "[I" ∈ wALL := inA16 (List.mem_of_getElem? (i := 34) rfl)
theorem a_675 : Cond.lays "StepMachineModel" "StepMachineModel" "inputSize" "I" ∈ wALL := inA16 (List.mem_of_getElem? (i := 35) rfl)
theorem a_676 : Cond.lays "StepMachineModel" "StepMachineModel" "taken" "I" ∈ wALL := inA16 (List.mem_of_getElem? (i := 36) rfl)
theorem a_677 : Cond.laysFinal "StepMachineModel" "StepMachineModel" "output" "[I" ∈ wALL := inA16 (List.mem_of_getElem? (i := 37) rfl)
theorem a_678 : Cond.lays "StepMachineModel" "StepMachineModel" "outputSize" "I" ∈ wALL := inA16 (List.mem_of_getElem? (i := 38) rfl)
theorem a_679 : Cond.lays "StepMachineModel" "StepMachineModel" "state" "I" ∈ wALL := inA16 (List.mem_of_getElem? (i := 39) rfl)
theorem a_680 : Cond.lays "StepMachineModel" "StepMachineModel" "culprit" "I" ∈ wALL := inA17 (List.mem_of_getElem? (i := 0) rfl)
theorem a_681 : Cond.lays "StepMachineModel" "StepMachineModel" "value" "I" ∈ wALL := inA17 (List.mem_of_getElem? (i := 1) rfl)
theorem a_682 : Cond.lays "StepMachineModel" "StepMachineModel" "steps" "I" ∈ wALL := inA17 (List.mem_of_getElem? (i := 2) rfl)
theorem a_683 : Cond.lays "StepMachineModel" "StepMachineModel" "units" "I" ∈ wALL := inA17 (List.mem_of_getElem? (i := 3) rfl)
theorem a_684 : Cond.laysFinal "StepMachineModel" "StepMachineModel" "kept" "[I" ∈ wALL := inA17 (List.mem_of_getElem? (i := 4) rfl)
theorem a_685 : Cond.lays "StepMachineModel" "StepMachineModel" "keptCount" "I" ∈ wALL := inA17 (List.mem_of_getElem? (i := 5) rfl)
theorem a_686 : Cond.lays "StepMachineModel" "StepMachineModel" "keptNext" "I" ∈ wALL := inA17 (List.mem_of_getElem? (i := 6) rfl)
theorem a_687 : Cond.lays "StepMachineModel" "StepMachineModel" "bytes" "I" ∈ wALL := inA17 (List.mem_of_getElem? (i := 7) rfl)
theorem a_688 : Cond.lays "StepMachineModel" "StepMachineModel" "kind" "I" ∈ wALL := inA17 (List.mem_of_getElem? (i := 8) rfl)
theorem a_689 : Cond.lays "StepMachineModel" "StepMachineModel" "target" "I" ∈ wALL := inA17 (List.mem_of_getElem? (i := 9) rfl)
theorem a_690 : Cond.lays "StepMachineModel" "StepMachineModel" "jumps" "Z" ∈ wALL := inA17 (List.mem_of_getElem? (i := 10) rfl)
theorem a_691 : Cond.arrayClass Jvm.ClassFile.FieldType.boolean ∈ wALL := inA17 (List.mem_of_getElem? (i := 11) rfl)
theorem a_692 : Cond.methodLink "StepMachineLaw" 17 y_M_segment ∈ wALL := inA17 (List.mem_of_getElem? (i := 12) rfl)
theorem a_693 : Cond.instanceMethod y_M_segment ∈ wALL := inA17 (List.mem_of_getElem? (i := 13) rfl)
theorem a_694 : Cond.selects "StepMachineModel" y_M_segment y_M_segment ∈ wALL := inA17 (List.mem_of_getElem? (i := 14) rfl)
theorem a_695 : Cond.code y_M_segment prog_14_method_32_code 5 (some .boolean) ∈ wALL := inA17 (List.mem_of_getElem? (i := 15) rfl)
theorem a_696 : Cond.constantLong "StepMachineModel" 184 131072 ∈ wALL := inA17 (List.mem_of_getElem? (i := 16) rfl)
theorem a_697 : Cond.methodLink "StepMachineModel" 186 y_M_forget ∈ wALL := inA17 (List.mem_of_getElem? (i := 17) rfl)
theorem a_698 : Cond.instanceMethod y_M_forget ∈ wALL := inA17 (List.mem_of_getElem? (i := 18) rfl)
theorem a_699 : Cond.code y_M_forget prog_14_method_31_code 1 none ∈ wALL := inA17 (List.mem_of_getElem? (i := 19) rfl)
theorem a_700 : Cond.methodLink "StepMachineLaw" 22 y_M_mark ∈ wALL := inA17 (List.mem_of_getElem? (i := 20) rfl)
theorem a_701 : Cond.instanceMethod y_M_mark ∈ wALL := inA17 (List.mem_of_getElem? (i := 21) rfl)
theorem a_702 : Cond.selects "StepMachineModel" y_M_mark y_M_mark ∈ wALL := inA17 (List.mem_of_getElem? (i := 22) rfl)
theorem a_703 : Cond.code y_M_mark prog_14_method_33_code 3 (some .boolean) ∈ wALL := inA17 (List.mem_of_getElem? (i := 23) rfl)
theorem a_704 : Cond.methodLink "StepMachineLaw" 27 y_M_marking ∈ wALL := inA17 (List.mem_of_getElem? (i := 24) rfl)
theorem a_705 : Cond.instanceMethod y_M_marking ∈ wALL := inA17 (List.mem_of_getElem? (i := 25) rfl)
theorem a_706 : Cond.selects "StepMachineModel" y_M_marking y_M_marking ∈ wALL := inA17 (List.mem_of_getElem? (i := 26) rfl)
theorem a_707 : Cond.code y_M_marking prog_14_method_34_code 2 none ∈ wALL := inA17 (List.mem_of_getElem? (i := 27) rfl)
theorem a_708 : Cond.methodLink "StepMachineLaw" 34 y_M_poke ∈ wALL := inA17 (List.mem_of_getElem? (i := 28) rfl)
theorem a_709 : Cond.instanceMethod y_M_poke ∈ wALL := inA17 (List.mem_of_getElem? (i := 29) rfl)
theorem a_710 : Cond.selects "StepMachineModel" y_M_poke y_M_poke ∈ wALL := inA17 (List.mem_of_getElem? (i := 30) rfl)
theorem a_711 : Cond.code y_M_poke prog_14_method_35_code 6 (some .boolean) ∈ wALL := inA17 (List.mem_of_getElem? (i := 31) rfl)
theorem a_712 : Cond.constantLong "StepMachineModel" 193 255 ∈ wALL := inA17 (List.mem_of_getElem? (i := 32) rfl)
theorem a_713 : Cond.methodLink "StepMachineLaw" 39 y_M_peek ∈ wALL := inA17 (List.mem_of_getElem? (i := 33) rfl)
theorem a_714 : Cond.instanceMethod y_M_peek ∈ wALL := inA17 (List.mem_of_getElem? (i := 34) rfl)
theorem a_715 : Cond.selects "StepMachineModel" y_M_peek y_M_peek ∈ wALL := inA17 (List.mem_of_getElem? (i := 35) rfl)
theorem a_716 : Cond.code y_M_peek prog_14_method_36_code 2 (some .int) ∈ wALL := inA17 (List.mem_of_getElem? (i := 36) rfl)
theorem a_717 : Cond.methodLink "StepMachineLaw" 44 y_M_set ∈ wALL := inA17 (List.mem_of_getElem? (i := 37) rfl)
theorem a_718 : Cond.instanceMethod y_M_set ∈ wALL := inA17 (List.mem_of_getElem? (i := 38) rfl)
theorem a_719 : Cond.selects "StepMachineModel" y_M_set y_M_set ∈ wALL := inA17 (List.mem_of_getElem? (i := 39) rfl)
theorem a_720 : Cond.code y_M_set prog_14_method_37_code 3 (some .boolean) ∈ wALL := inA18 (List.mem_of_getElem? (i := 0) rfl)
theorem a_721 : Cond.methodLink "StepMachineLaw" 48 y_M_get ∈ wALL := inA18 (List.mem_of_getElem? (i := 1) rfl)
theorem a_722 : Cond.instanceMethod y_M_get ∈ wALL := inA18 (List.mem_of_getElem? (i := 2) rfl)
theorem a_723 : Cond.selects "StepMachineModel" y_M_get y_M_get ∈ wALL := inA18 (List.mem_of_getElem? (i := 3) rfl)
theorem a_724 : Cond.code y_M_get prog_14_method_38_code 2 (some .int) ∈ wALL := inA18 (List.mem_of_getElem? (i := 4) rfl)
theorem a_725 : Cond.methodLink "StepMachineLaw" 53 y_M_input ∈ wALL := inA18 (List.mem_of_getElem? (i := 5) rfl)
theorem a_726 : Cond.instanceMethod y_M_input ∈ wALL := inA18 (List.mem_of_getElem? (i := 6) rfl)
theorem a_727 : Cond.selects "StepMachineModel" y_M_input y_M_input ∈ wALL := inA18 (List.mem_of_getElem? (i := 7) rfl)
theorem a_728 : Cond.code y_M_input prog_14_method_39_code 5 (some .boolean) ∈ wALL := inA18 (List.mem_of_getElem? (i := 8) rfl)
theorem a_729 : Cond.methodLink "StepMachineLaw" 57 y_M_halt ∈ wALL := inA18 (List.mem_of_getElem? (i := 9) rfl)
theorem a_730 : Cond.instanceMethod y_M_halt ∈ wALL := inA18 (List.mem_of_getElem? (i := 10) rfl)
theorem a_731 : Cond.selects "StepMachineModel" y_M_halt y_M_halt ∈ wALL := inA18 (List.mem_of_getElem? (i := 11) rfl)
theorem a_732 : Cond.code y_M_halt prog_14_method_41_code 4 (some .boolean) ∈ wALL := inA18 (List.mem_of_getElem? (i := 12) rfl)
theorem a_733 : Cond.methodLink "StepMachineModel" 210 y_M_haltAt ∈ wALL := inA18 (List.mem_of_getElem? (i := 13) rfl)
theorem a_734 : Cond.instanceMethod y_M_haltAt ∈ wALL := inA18 (List.mem_of_getElem? (i := 14) rfl)
theorem a_735 : Cond.code y_M_haltAt prog_14_method_40_code 3 (some .int) ∈ wALL := inA18 (List.mem_of_getElem? (i := 15) rfl)
theorem a_736 : Cond.methodLink "StepMachineLaw" 62 y_M_step ∈ wALL := inA18 (List.mem_of_getElem? (i := 16) rfl)
theorem a_737 : Cond.instanceMethod y_M_step ∈ wALL := inA18 (List.mem_of_getElem? (i := 17) rfl)
theorem a_738 : Cond.selects "StepMachineModel" y_M_step y_M_step ∈ wALL := inA18 (List.mem_of_getElem? (i := 18) rfl)
theorem a_739 : Cond.code y_M_step prog_14_method_64_code 4 (some .int) ∈ wALL := inA18 (List.mem_of_getElem? (i := 19) rfl)
theorem a_740 : Cond.methodLink "StepMachineModel" 309 y_M_isEnd ∈ wALL := inA18 (List.mem_of_getElem? (i := 20) rfl)
theorem a_741 : Cond.instanceMethod y_M_isEnd ∈ wALL := inA18 (List.mem_of_getElem? (i := 21) rfl)
theorem a_742 : Cond.code y_M_isEnd prog_14_method_63_code 1 (some .boolean) ∈ wALL := inA18 (List.mem_of_getElem? (i := 22) rfl)
theorem a_743 : Cond.methodLink "StepMachineModel" 313 y_M_isUnit ∈ wALL := inA18 (List.mem_of_getElem? (i := 23) rfl)
theorem a_744 : Cond.instanceMethod y_M_isUnit ∈ wALL := inA18 (List.mem_of_getElem? (i := 24) rfl)
theorem a_745 : Cond.code y_M_isUnit prog_14_method_62_code 1 (some .boolean) ∈ wALL := inA18 (List.mem_of_getElem? (i := 25) rfl)
theorem a_746 : Cond.methodLink "StepMachineModel" 221 y_M_bare ∈ wALL := inA18 (List.mem_of_getElem? (i := 26) rfl)
theorem a_747 : Cond.static y_M_bare ∈ wALL := inA18 (List.mem_of_getElem? (i := 27) rfl)
theorem a_748 : Cond.code y_M_bare prog_14_method_44_code 1 (some .long) ∈ wALL := inA18 (List.mem_of_getElem? (i := 28) rfl)
theorem a_749 : Cond.constantLong "StepMachineModel" 213 4294967295 ∈ wALL := inA18 (List.mem_of_getElem? (i := 29) rfl)
theorem a_750 : Cond.methodLink "StepMachineModel" 305 y_M_isMarked ∈ wALL := inA18 (List.mem_of_getElem? (i := 30) rfl)
theorem a_751 : Cond.instanceMethod y_M_isMarked ∈ wALL := inA18 (List.mem_of_getElem? (i := 31) rfl)
theorem a_752 : Cond.code y_M_isMarked prog_14_method_43_code 3 (some .boolean) ∈ wALL := inA18 (List.mem_of_getElem? (i := 32) rfl)
theorem a_753 : Cond.constantLong "StepMachineModel" 114 2 ∈ wALL := inA18 (List.mem_of_getElem? (i := 33) rfl)
theorem a_754 : Cond.methodLink "StepMachineModel" 316 y_M_isFetched ∈ wALL := inA18 (List.mem_of_getElem? (i := 34) rfl)
theorem a_755 : Cond.instanceMethod y_M_isFetched ∈ wALL := inA18 (List.mem_of_getElem? (i := 35) rfl)
theorem a_756 : Cond.code y_M_isFetched prog_14_method_48_code 7 (some .boolean) ∈ wALL := inA18 (List.mem_of_getElem? (i := 36) rfl)
theorem a_757 : Cond.methodLink "StepMachineModel" 225 y_M_without ∈ wALL := inA18 (List.mem_of_getElem? (i := 37) rfl)
theorem a_758 : Cond.instanceMethod y_M_without ∈ wALL := inA18 (List.mem_of_getElem? (i := 38) rfl)
theorem a_759 : Cond.code y_M_without prog_14_method_46_code 6 (some .long) ∈ wALL := inA18 (List.mem_of_getElem? (i := 39) rfl)
theorem a_760 : Cond.methodLink "StepMachineModel" 215 y_M_rightsOf ∈ wALL := inA19 (List.mem_of_getElem? (i := 0) rfl)
theorem a_761 : Cond.instanceMethod y_M_rightsOf ∈ wALL := inA19 (List.mem_of_getElem? (i := 1) rfl)
theorem a_762 : Cond.code y_M_rightsOf prog_14_method_42_code 4 (some .int) ∈ wALL := inA19 (List.mem_of_getElem? (i := 2) rfl)
theorem a_763 : Cond.constantLong "StepMachineModel" 219 (-1) ∈ wALL := inA19 (List.mem_of_getElem? (i := 3) rfl)
theorem a_764 : Cond.methodLink "StepMachineModel" 229 y_M_fail ∈ wALL := inA19 (List.mem_of_getElem? (i := 4) rfl)
theorem a_765 : Cond.instanceMethod y_M_fail ∈ wALL := inA19 (List.mem_of_getElem? (i := 5) rfl)
theorem a_766 : Cond.code y_M_fail prog_14_method_45_code 3 (some .int) ∈ wALL := inA19 (List.mem_of_getElem? (i := 6) rfl)
theorem a_767 : Cond.methodLink "StepMachineModel" 233 y_M_fetched ∈ wALL := inA19 (List.mem_of_getElem? (i := 7) rfl)
theorem a_768 : Cond.instanceMethod y_M_fetched ∈ wALL := inA19 (List.mem_of_getElem? (i := 8) rfl)
theorem a_769 : Cond.code y_M_fetched prog_14_method_47_code 5 (some .int) ∈ wALL := inA19 (List.mem_of_getElem? (i := 9) rfl)
theorem a_770 : Cond.methodLink "StepMachineModel" 168 y_M_isLong ∈ wALL := inA19 (List.mem_of_getElem? (i := 10) rfl)
theorem a_771 : Cond.static y_M_isLong ∈ wALL := inA19 (List.mem_of_getElem? (i := 11) rfl)
theorem a_772 : Cond.code y_M_isLong prog_14_method_27_code 1 (some .boolean) ∈ wALL := inA19 (List.mem_of_getElem? (i := 12) rfl)
theorem a_773 : Cond.methodLink "StepMachineModel" 239 y_M_find ∈ wALL := inA19 (List.mem_of_getElem? (i := 13) rfl)
theorem a_774 : Cond.instanceMethod y_M_find ∈ wALL := inA19 (List.mem_of_getElem? (i := 14) rfl)
theorem a_775 : Cond.code y_M_find prog_14_method_28_code 5 (some .int) ∈ wALL := inA19 (List.mem_of_getElem? (i := 15) rfl)
theorem a_776 : Cond.methodLink "StepMachineModel" 171 y_M_take ∈ wALL := inA19 (List.mem_of_getElem? (i := 16) rfl)
theorem a_777 : Cond.instanceMethod y_M_take ∈ wALL := inA19 (List.mem_of_getElem? (i := 17) rfl)
theorem a_778 : Cond.code y_M_take prog_14_method_26_code 6 (some .boolean) ∈ wALL := inA19 (List.mem_of_getElem? (i := 18) rfl)
theorem a_779 : Cond.methodLink "StepMachineModel" 100 y_M_isShortPart ∈ wALL := inA19 (List.mem_of_getElem? (i := 19) rfl)
theorem a_780 : Cond.instanceMethod y_M_isShortPart ∈ wALL := inA19 (List.mem_of_getElem? (i := 20) rfl)
theorem a_781 : Cond.code y_M_isShortPart prog_14_method_19_code 4 (some .boolean) ∈ wALL := inA19 (List.mem_of_getElem? (i := 21) rfl)
theorem a_782 : Cond.methodLink "StepMachineModel" 97 y_M_bitsOf ∈ wALL := inA19 (List.mem_of_getElem? (i := 22) rfl)
theorem a_783 : Cond.static y_M_bitsOf ∈ wALL := inA19 (List.mem_of_getElem? (i := 23) rfl)
theorem a_784 : Cond.code y_M_bitsOf prog_14_method_17_code 1 (some .int) ∈ wALL := inA19 (List.mem_of_getElem? (i := 24) rfl)
theorem a_785 : Cond.methodLink "StepMachineModel" 161 y_M_signOf ∈ wALL := inA19 (List.mem_of_getElem? (i := 25) rfl)
theorem a_786 : Cond.static y_M_signOf ∈ wALL := inA19 (List.mem_of_getElem? (i := 26) rfl)
theorem a_787 : Cond.code y_M_signOf prog_14_method_23_code 1 (some .int) ∈ wALL := inA19 (List.mem_of_getElem? (i := 27) rfl)
theorem a_788 : Cond.constant "StepMachineModel" 164 1048575 ∈ wALL := inA19 (List.mem_of_getElem? (i := 28) rfl)
theorem a_789 : Cond.methodLink "StepMachineModel" 165 y_M_areGood ∈ wALL := inA19 (List.mem_of_getElem? (i := 29) rfl)
theorem a_790 : Cond.instanceMethod y_M_areGood ∈ wALL := inA19 (List.mem_of_getElem? (i := 30) rfl)
theorem a_791 : Cond.code y_M_areGood prog_14_method_24_code 3 (some .boolean) ∈ wALL := inA19 (List.mem_of_getElem? (i := 31) rfl)
theorem a_792 : Cond.methodLink "StepMachineModel" 150 y_M_has ∈ wALL := inA19 (List.mem_of_getElem? (i := 32) rfl)
theorem a_793 : Cond.instanceMethod y_M_has ∈ wALL := inA19 (List.mem_of_getElem? (i := 33) rfl)
theorem a_794 : Cond.code y_M_has prog_14_method_18_code 5 (some .boolean) ∈ wALL := inA19 (List.mem_of_getElem? (i := 34) rfl)
theorem a_795 : Cond.methodLink "StepMachineModel" 153 y_M_isRegister ∈ wALL := inA19 (List.mem_of_getElem? (i := 35) rfl)
theorem a_796 : Cond.instanceMethod y_M_isRegister ∈ wALL := inA19 (List.mem_of_getElem? (i := 36) rfl)
theorem a_797 : Cond.code y_M_isRegister prog_14_method_20_code 4 (some .boolean) ∈ wALL := inA19 (List.mem_of_getElem? (i := 37) rfl)
theorem a_798 : Cond.methodLink "StepMachineModel" 157 y_M_isImmediate ∈ wALL := inA19 (List.mem_of_getElem? (i := 38) rfl)
theorem a_799 : Cond.static y_M_isImmediate ∈ wALL := inA19 (List.mem_of_getElem? (i := 39) rfl)
theorem a_800 : Cond.code y_M_isImmediate prog_14_method_22_code 3 (some .boolean) ∈ wALL := inA20 (List.mem_of_getElem? (i := 0) rfl)
theorem a_801 : Cond.constantLong "StepMachineModel" 104 1048575 ∈ wALL := inA20 (List.mem_of_getElem? (i := 1) rfl)
theorem a_802 : Cond.methodLink "StepMachineModel" 106 y_M_isStep ∈ wALL := inA20 (List.mem_of_getElem? (i := 2) rfl)
theorem a_803 : Cond.static y_M_isStep ∈ wALL := inA20 (List.mem_of_getElem? (i := 3) rfl)
theorem a_804 : Cond.code y_M_isStep prog_14_method_21_code 8 (some .boolean) ∈ wALL := inA20 (List.mem_of_getElem? (i := 4) rfl)
theorem a_805 : Cond.constantLong "StepMachineModel" 110 (-1048576) ∈ wALL := inA20 (List.mem_of_getElem? (i := 5) rfl)
theorem a_806 : Cond.constantLong "StepMachineModel" 112 1048574 ∈ wALL := inA20 (List.mem_of_getElem? (i := 6) rfl)
theorem a_807 : Cond.constantLong "StepMachineModel" 116 (-4096) ∈ wALL := inA20 (List.mem_of_getElem? (i := 7) rfl)
theorem a_808 : Cond.constantLong "StepMachineModel" 118 4094 ∈ wALL := inA20 (List.mem_of_getElem? (i := 8) rfl)
theorem a_809 : Cond.constantLong "StepMachineModel" 120 31 ∈ wALL := inA20 (List.mem_of_getElem? (i := 9) rfl)
theorem a_810 : Cond.constantLong "StepMachineModel" 122 (-2048) ∈ wALL := inA20 (List.mem_of_getElem? (i := 10) rfl)
theorem a_811 : Cond.constantLong "StepMachineModel" 124 2047 ∈ wALL := inA20 (List.mem_of_getElem? (i := 11) rfl)
theorem a_812 : Cond.constantLong "StepMachineModel" 126 4 ∈ wALL := inA20 (List.mem_of_getElem? (i := 12) rfl)
theorem a_813 : Cond.constantLong "StepMachineModel" 128 1020 ∈ wALL := inA20 (List.mem_of_getElem? (i := 13) rfl)
theorem a_814 : Cond.constantLong "StepMachineModel" 130 124 ∈ wALL := inA20 (List.mem_of_getElem? (i := 14) rfl)
theorem a_815 : Cond.constantLong "StepMachineModel" 132 (-32) ∈ wALL := inA20 (List.mem_of_getElem? (i := 15) rfl)
theorem a_816 : Cond.constantLong "StepMachineModel" 134 2046 ∈ wALL := inA20 (List.mem_of_getElem? (i := 16) rfl)
theorem a_817 : Cond.constantLong "StepMachineModel" 136 (-512) ∈ wALL := inA20 (List.mem_of_getElem? (i := 17) rfl)
theorem a_818 : Cond.constantLong "StepMachineModel" 138 496 ∈ wALL := inA20 (List.mem_of_getElem? (i := 18) rfl)
theorem a_819 : Cond.constantLong "StepMachineModel" 140 16 ∈ wALL := inA20 (List.mem_of_getElem? (i := 19) rfl)
theorem a_820 : Cond.constantLong "StepMachineModel" 142 1048544 ∈ wALL := inA20 (List.mem_of_getElem? (i := 20) rfl)
theorem a_821 : Cond.constantLong "StepMachineModel" 144 (-256) ∈ wALL := inA20 (List.mem_of_getElem? (i := 21) rfl)
theorem a_822 : Cond.constantLong "StepMachineModel" 146 254 ∈ wALL := inA20 (List.mem_of_getElem? (i := 22) rfl)
theorem a_823 : Cond.constantLong "StepMachineModel" 148 252 ∈ wALL := inA20 (List.mem_of_getElem? (i := 23) rfl)
theorem a_824 : Cond.methodLink "StepMachineModel" 245 y_M_stretch ∈ wALL := inA20 (List.mem_of_getElem? (i := 24) rfl)
theorem a_825 : Cond.instanceMethod y_M_stretch ∈ wALL := inA20 (List.mem_of_getElem? (i := 25) rfl)
theorem a_826 : Cond.code y_M_stretch prog_14_method_30_code 5 (some .int) ∈ wALL := inA20 (List.mem_of_getElem? (i := 26) rfl)
theorem a_827 : Cond.methodLink "StepMachineModel" 174 y_M_longKind ∈ wALL := inA20 (List.mem_of_getElem? (i := 27) rfl)
theorem a_828 : Cond.static y_M_longKind ∈ wALL := inA20 (List.mem_of_getElem? (i := 28) rfl)
theorem a_829 : Cond.code y_M_longKind prog_14_method_29_code 1 (some .int) ∈ wALL := inA20 (List.mem_of_getElem? (i := 29) rfl)
theorem a_830 : Cond.methodLink "StepMachineModel" 177 y_M_put ∈ wALL := inA20 (List.mem_of_getElem? (i := 30) rfl)
theorem a_831 : Cond.instanceMethod y_M_put ∈ wALL := inA20 (List.mem_of_getElem? (i := 31) rfl)
theorem a_832 : Cond.code y_M_put prog_14_method_25_code 6 (some .int) ∈ wALL := inA20 (List.mem_of_getElem? (i := 32) rfl)
theorem a_833 : Cond.methodLink "StepMachineModel" 319 y_M_canReach ∈ wALL := inA20 (List.mem_of_getElem? (i := 33) rfl)
theorem a_834 : Cond.instanceMethod y_M_canReach ∈ wALL := inA20 (List.mem_of_getElem? (i := 34) rfl)
theorem a_835 : Cond.code y_M_canReach prog_14_method_50_code 5 (some .boolean) ∈ wALL := inA20 (List.mem_of_getElem? (i := 35) rfl)
theorem a_836 : Cond.methodLink "StepMachineModel" 248 y_M_widthOf ∈ wALL := inA20 (List.mem_of_getElem? (i := 36) rfl)
theorem a_837 : Cond.instanceMethod y_M_widthOf ∈ wALL := inA20 (List.mem_of_getElem? (i := 37) rfl)
theorem a_838 : Cond.code y_M_widthOf prog_14_method_49_code 2 (some .int) ∈ wALL := inA20 (List.mem_of_getElem? (i := 38) rfl)
theorem a_839 : Cond.methodLink "StepMachineModel" 322 y_M_keep ∈ wALL := inA20 (List.mem_of_getElem? (i := 39) rfl)
theorem a_840 : Cond.instanceMethod y_M_keep ∈ wALL := inA21 (List.mem_of_getElem? (i := 0) rfl)
theorem a_841 : Cond.code y_M_keep prog_14_method_51_code 2 none ∈ wALL := inA21 (List.mem_of_getElem? (i := 1) rfl)
theorem a_842 : Cond.methodLink "StepMachineModel" 325 y_M_work ∈ wALL := inA21 (List.mem_of_getElem? (i := 2) rfl)
theorem a_843 : Cond.instanceMethod y_M_work ∈ wALL := inA21 (List.mem_of_getElem? (i := 3) rfl)
theorem a_844 : Cond.code y_M_work prog_14_method_61_code 5 none ∈ wALL := inA21 (List.mem_of_getElem? (i := 4) rfl)
theorem a_845 : Cond.methodLink "StepMachineModel" 281 y_M_become ∈ wALL := inA21 (List.mem_of_getElem? (i := 5) rfl)
theorem a_846 : Cond.instanceMethod y_M_become ∈ wALL := inA21 (List.mem_of_getElem? (i := 6) rfl)
theorem a_847 : Cond.code y_M_become prog_14_method_53_code 3 none ∈ wALL := inA21 (List.mem_of_getElem? (i := 7) rfl)
theorem a_848 : Cond.methodLink "StepMachineModel" 269 y_M_latest ∈ wALL := inA21 (List.mem_of_getElem? (i := 8) rfl)
theorem a_849 : Cond.instanceMethod y_M_latest ∈ wALL := inA21 (List.mem_of_getElem? (i := 9) rfl)
theorem a_850 : Cond.code y_M_latest prog_14_method_52_code 1 (some .int) ∈ wALL := inA21 (List.mem_of_getElem? (i := 10) rfl)
theorem a_851 : Cond.methodLink "StepMachineModel" 290 y_M_branches ∈ wALL := inA21 (List.mem_of_getElem? (i := 11) rfl)
theorem a_852 : Cond.static y_M_branches ∈ wALL := inA21 (List.mem_of_getElem? (i := 12) rfl)
theorem a_853 : Cond.code y_M_branches prog_14_method_59_code 3 (some .boolean) ∈ wALL := inA21 (List.mem_of_getElem? (i := 13) rfl)
theorem a_854 : Cond.methodLink "StepMachineModel" 293 y_M_loaded ∈ wALL := inA21 (List.mem_of_getElem? (i := 14) rfl)
theorem a_855 : Cond.instanceMethod y_M_loaded ∈ wALL := inA21 (List.mem_of_getElem? (i := 15) rfl)
theorem a_856 : Cond.code y_M_loaded prog_14_method_55_code 3 (some .int) ∈ wALL := inA21 (List.mem_of_getElem? (i := 16) rfl)
theorem a_857 : Cond.methodLink "StepMachineModel" 296 y_M_store ∈ wALL := inA21 (List.mem_of_getElem? (i := 17) rfl)
theorem a_858 : Cond.instanceMethod y_M_store ∈ wALL := inA21 (List.mem_of_getElem? (i := 18) rfl)
theorem a_859 : Cond.code y_M_store prog_14_method_54_code 6 none ∈ wALL := inA21 (List.mem_of_getElem? (i := 19) rfl)
theorem a_860 : Cond.methodLink "StepMachineModel" 299 y_M_reckoned ∈ wALL := inA21 (List.mem_of_getElem? (i := 20) rfl)
theorem a_861 : Cond.static y_M_reckoned ∈ wALL := inA21 (List.mem_of_getElem? (i := 21) rfl)
theorem a_862 : Cond.code y_M_reckoned prog_14_method_57_code 3 (some .int) ∈ wALL := inA21 (List.mem_of_getElem? (i := 22) rfl)
theorem a_863 : Cond.methodLink "StepMachineModel" 273 y_M_truth ∈ wALL := inA21 (List.mem_of_getElem? (i := 23) rfl)
theorem a_864 : Cond.static y_M_truth ∈ wALL := inA21 (List.mem_of_getElem? (i := 24) rfl)
theorem a_865 : Cond.code y_M_truth prog_14_method_56_code 1 (some .int) ∈ wALL := inA21 (List.mem_of_getElem? (i := 25) rfl)
theorem a_866 : Cond.methodLink "StepMachineModel" 277 y_M_multiplied ∈ wALL := inA21 (List.mem_of_getElem? (i := 26) rfl)
theorem a_867 : Cond.static y_M_multiplied ∈ wALL := inA21 (List.mem_of_getElem? (i := 27) rfl)
theorem a_868 : Cond.code y_M_multiplied prog_14_method_58_code 3 (some .int) ∈ wALL := inA21 (List.mem_of_getElem? (i := 28) rfl)
theorem a_869 : Cond.methodLink "StepMachineModel" 302 y_M_serve ∈ wALL := inA21 (List.mem_of_getElem? (i := 29) rfl)
theorem a_870 : Cond.instanceMethod y_M_serve ∈ wALL := inA21 (List.mem_of_getElem? (i := 30) rfl)
theorem a_871 : Cond.code y_M_serve prog_14_method_60_code 3 none ∈ wALL := inA21 (List.mem_of_getElem? (i := 31) rfl)
theorem a_872 : Cond.methodLink "StepMachineLaw" 66 y_M_run ∈ wALL := inA21 (List.mem_of_getElem? (i := 32) rfl)
theorem a_873 : Cond.instanceMethod y_M_run ∈ wALL := inA21 (List.mem_of_getElem? (i := 33) rfl)
theorem a_874 : Cond.selects "StepMachineModel" y_M_run y_M_run ∈ wALL := inA21 (List.mem_of_getElem? (i := 34) rfl)
theorem a_875 : Cond.code y_M_run prog_14_method_65_code 5 (some .int) ∈ wALL := inA21 (List.mem_of_getElem? (i := 35) rfl)
theorem a_876 : Cond.methodLink "StepMachineModel" 328 y_M_step ∈ wALL := inA21 (List.mem_of_getElem? (i := 36) rfl)
theorem a_877 : Cond.methodLink "StepMachineLaw" 70 y_M_back ∈ wALL := inA21 (List.mem_of_getElem? (i := 37) rfl)
theorem a_878 : Cond.instanceMethod y_M_back ∈ wALL := inA21 (List.mem_of_getElem? (i := 38) rfl)
theorem a_879 : Cond.selects "StepMachineModel" y_M_back y_M_back ∈ wALL := inA21 (List.mem_of_getElem? (i := 39) rfl)
theorem a_880 : Cond.code y_M_back prog_14_method_66_code 5 (some .int) ∈ wALL := inA22 (List.mem_of_getElem? (i := 0) rfl)
theorem a_881 : Cond.methodLink "StepMachineLaw" 74 y_M_state ∈ wALL := inA22 (List.mem_of_getElem? (i := 1) rfl)
theorem a_882 : Cond.instanceMethod y_M_state ∈ wALL := inA22 (List.mem_of_getElem? (i := 2) rfl)
theorem a_883 : Cond.selects "StepMachineModel" y_M_state y_M_state ∈ wALL := inA22 (List.mem_of_getElem? (i := 3) rfl)
theorem a_884 : Cond.code y_M_state prog_14_method_67_code 2 (some .int) ∈ wALL := inA22 (List.mem_of_getElem? (i := 4) rfl)
theorem a_885 : Cond.methodLink "StepMachineLaw" 78 y_M_output ∈ wALL := inA22 (List.mem_of_getElem? (i := 5) rfl)
theorem a_886 : Cond.instanceMethod y_M_output ∈ wALL := inA22 (List.mem_of_getElem? (i := 6) rfl)
theorem a_887 : Cond.selects "StepMachineModel" y_M_output y_M_output ∈ wALL := inA22 (List.mem_of_getElem? (i := 7) rfl)
theorem a_888 : Cond.code y_M_output prog_14_method_68_code 2 (some .int) ∈ wALL := inA22 (List.mem_of_getElem? (i := 8) rfl)
theorem a_889 : Cond.methodLink "StepMachineLaw" 82 y_M_rights ∈ wALL := inA22 (List.mem_of_getElem? (i := 9) rfl)
theorem a_890 : Cond.instanceMethod y_M_rights ∈ wALL := inA22 (List.mem_of_getElem? (i := 10) rfl)
theorem a_891 : Cond.selects "StepMachineModel" y_M_rights y_M_rights ∈ wALL := inA22 (List.mem_of_getElem? (i := 11) rfl)
theorem a_892 : Cond.code y_M_rights prog_14_method_69_code 2 (some .int) ∈ wALL := inA22 (List.mem_of_getElem? (i := 12) rfl)
theorem a_893 : Cond.constantLong "StepMachineLaw" 28 4294967295 ∈ wALL := inA22 (List.mem_of_getElem? (i := 13) rfl)
theorem a_894 : Cond.selects "StepMachine" y_X_forgetIf y_X_forgetIf ∈ wALL := inA22 (List.mem_of_getElem? (i := 14) rfl)
theorem a_895 : Cond.selects "StepMachine$Halts" y_Halt_find y_Halt_find ∈ wALL := inA22 (List.mem_of_getElem? (i := 15) rfl)
theorem a_896 : Cond.selects "StepMachine$Core" y_Core_fetch y_Core_fetch ∈ wALL := inA22 (List.mem_of_getElem? (i := 16) rfl)
theorem a_897 : Cond.selects "StepMachine$Core" y_Core_mayExecuteHalf y_Core_mayExecuteHalf ∈ wALL := inA22 (List.mem_of_getElem? (i := 17) rfl)
theorem a_898 : Cond.selects "StepMachine$Core" y_Core_failsInMemory y_Core_failsInMemory ∈ wALL := inA22 (List.mem_of_getElem? (i := 18) rfl)
theorem a_899 : Cond.selects "StepMachine$Core" y_Core_address y_Core_address ∈ wALL := inA22 (List.mem_of_getElem? (i := 19) rfl)
theorem a_900 : Cond.selects "StepMachine$Core" y_Core_remember y_Core_remember ∈ wALL := inA22 (List.mem_of_getElem? (i := 20) rfl)
theorem a_901 : Cond.selects "StepMachine$Core" y_Core_perform y_Core_perform ∈ wALL := inA22 (List.mem_of_getElem? (i := 21) rfl)
theorem a_902 : Cond.selects "StepMachine$Core" y_Core_link y_Core_link ∈ wALL := inA22 (List.mem_of_getElem? (i := 22) rfl)
theorem a_903 : Cond.selects "StepMachine$Core" y_Core_jump y_Core_jump ∈ wALL := inA22 (List.mem_of_getElem? (i := 23) rfl)
theorem a_904 : Cond.selects "StepMachine$Core" y_Core_branch y_Core_branch ∈ wALL := inA22 (List.mem_of_getElem? (i := 24) rfl)
theorem a_905 : Cond.selects "StepMachine$Core" y_Core_goOn y_Core_goOn ∈ wALL := inA22 (List.mem_of_getElem? (i := 25) rfl)
theorem a_906 : Cond.selects "StepMachine$Core" y_Core_serve y_Core_serve ∈ wALL := inA22 (List.mem_of_getElem? (i := 26) rfl)
theorem a_907 : Cond.selects "StepMachine$Core" y_Core_answer y_Core_answer ∈ wALL := inA22 (List.mem_of_getElem? (i := 27) rfl)
theorem a_908 : Cond.selects "StepMachine$Core" y_Core_change y_Core_change ∈ wALL := inA22 (List.mem_of_getElem? (i := 28) rfl)
theorem a_909 : Cond.selects "StepMachine$Core" y_Core_loaded y_Core_loaded ∈ wALL := inA22 (List.mem_of_getElem? (i := 29) rfl)
theorem a_910 : Cond.selects "StepMachineModel" y_M_layLong y_M_layLong ∈ wALL := inA22 (List.mem_of_getElem? (i := 30) rfl)
theorem a_911 : Cond.selects "StepMachineModel" y_M_fix y_M_fix ∈ wALL := inA22 (List.mem_of_getElem? (i := 31) rfl)
theorem a_912 : Cond.selects "StepMachineModel" y_M_lay y_M_lay ∈ wALL := inA22 (List.mem_of_getElem? (i := 32) rfl)
theorem a_913 : Cond.selects "StepMachineModel" y_M_layShort y_M_layShort ∈ wALL := inA22 (List.mem_of_getElem? (i := 33) rfl)
theorem a_914 : Cond.selects "StepMachineModel" y_M_ends y_M_ends ∈ wALL := inA22 (List.mem_of_getElem? (i := 34) rfl)
theorem a_915 : Cond.selects "StepMachineModel" y_M_one y_M_one ∈ wALL := inA22 (List.mem_of_getElem? (i := 35) rfl)
theorem a_916 : Cond.selects "StepMachineModel" y_M_layJump y_M_layJump ∈ wALL := inA22 (List.mem_of_getElem? (i := 36) rfl)
theorem a_917 : Cond.selects "StepMachineModel" y_M_forget y_M_forget ∈ wALL := inA22 (List.mem_of_getElem? (i := 37) rfl)
theorem a_918 : Cond.selects "StepMachineModel" y_M_haltAt y_M_haltAt ∈ wALL := inA22 (List.mem_of_getElem? (i := 38) rfl)
theorem a_919 : Cond.selects "StepMachineModel" y_M_isEnd y_M_isEnd ∈ wALL := inA22 (List.mem_of_getElem? (i := 39) rfl)
theorem a_920 : Cond.selects "StepMachineModel" y_M_isUnit y_M_isUnit ∈ wALL := inA23 (List.mem_of_getElem? (i := 0) rfl)
theorem a_921 : Cond.selects "StepMachineModel" y_M_isMarked y_M_isMarked ∈ wALL := inA23 (List.mem_of_getElem? (i := 1) rfl)
theorem a_922 : Cond.selects "StepMachineModel" y_M_isFetched y_M_isFetched ∈ wALL := inA23 (List.mem_of_getElem? (i := 2) rfl)
theorem a_923 : Cond.selects "StepMachineModel" y_M_without y_M_without ∈ wALL := inA23 (List.mem_of_getElem? (i := 3) rfl)
theorem a_924 : Cond.selects "StepMachineModel" y_M_rightsOf y_M_rightsOf ∈ wALL := inA23 (List.mem_of_getElem? (i := 4) rfl)
theorem a_925 : Cond.selects "StepMachineModel" y_M_fail y_M_fail ∈ wALL := inA23 (List.mem_of_getElem? (i := 5) rfl)
theorem a_926 : Cond.selects "StepMachineModel" y_M_fetched y_M_fetched ∈ wALL := inA23 (List.mem_of_getElem? (i := 6) rfl)
theorem a_927 : Cond.selects "StepMachineModel" y_M_find y_M_find ∈ wALL := inA23 (List.mem_of_getElem? (i := 7) rfl)
theorem a_928 : Cond.selects "StepMachineModel" y_M_take y_M_take ∈ wALL := inA23 (List.mem_of_getElem? (i := 8) rfl)
theorem a_929 : Cond.selects "StepMachineModel" y_M_isShortPart y_M_isShortPart ∈ wALL := inA23 (List.mem_of_getElem? (i := 9) rfl)
theorem a_930 : Cond.selects "StepMachineModel" y_M_areGood y_M_areGood ∈ wALL := inA23 (List.mem_of_getElem? (i := 10) rfl)
theorem a_931 : Cond.selects "StepMachineModel" y_M_has y_M_has ∈ wALL := inA23 (List.mem_of_getElem? (i := 11) rfl)
theorem a_932 : Cond.selects "StepMachineModel" y_M_isRegister y_M_isRegister ∈ wALL := inA23 (List.mem_of_getElem? (i := 12) rfl)
theorem a_933 : Cond.selects "StepMachineModel" y_M_stretch y_M_stretch ∈ wALL := inA23 (List.mem_of_getElem? (i := 13) rfl)
theorem a_934 : Cond.selects "StepMachineModel" y_M_put y_M_put ∈ wALL := inA23 (List.mem_of_getElem? (i := 14) rfl)
theorem a_935 : Cond.selects "StepMachineModel" y_M_canReach y_M_canReach ∈ wALL := inA23 (List.mem_of_getElem? (i := 15) rfl)
theorem a_936 : Cond.selects "StepMachineModel" y_M_widthOf y_M_widthOf ∈ wALL := inA23 (List.mem_of_getElem? (i := 16) rfl)
theorem a_937 : Cond.selects "StepMachineModel" y_M_keep y_M_keep ∈ wALL := inA23 (List.mem_of_getElem? (i := 17) rfl)
theorem a_938 : Cond.selects "StepMachineModel" y_M_work y_M_work ∈ wALL := inA23 (List.mem_of_getElem? (i := 18) rfl)
theorem a_939 : Cond.selects "StepMachineModel" y_M_become y_M_become ∈ wALL := inA23 (List.mem_of_getElem? (i := 19) rfl)
theorem a_940 : Cond.selects "StepMachineModel" y_M_latest y_M_latest ∈ wALL := inA23 (List.mem_of_getElem? (i := 20) rfl)
theorem a_941 : Cond.selects "StepMachineModel" y_M_loaded y_M_loaded ∈ wALL := inA23 (List.mem_of_getElem? (i := 21) rfl)
theorem a_942 : Cond.selects "StepMachineModel" y_M_store y_M_store ∈ wALL := inA23 (List.mem_of_getElem? (i := 22) rfl)
theorem a_943 : Cond.selects "StepMachineModel" y_M_serve y_M_serve ∈ wALL := inA23 (List.mem_of_getElem? (i := 23) rfl)
theorem wALL_all : wALL.all goodWord = true := by decide +kernel
theorem wALL_good : GoodIn wALL wALL := fun w h => ⟨h, good_of_word (List.all_eq_true.mp wALL_all w h)⟩
theorem inU_0 : ∀ w ∈ u_ws "StepMachine$Memory" TX0 1, w ∈ wALL := by decide +kernel
theorem inU_1 : ∀ w ∈ u_ws "StepMachine$Guard" TX1 5, w ∈ wALL := by decide +kernel
theorem inU_2 : ∀ w ∈ u_ws "StepMachine$Halts" TX2 2, w ∈ wALL := by decide +kernel
theorem inU_3 : ∀ w ∈ u_ws "StepMachine$Ports" TX3 5, w ∈ wALL := by decide +kernel
theorem inU_4 : ∀ w ∈ u_ws "StepMachine$Word" TX4 6, w ∈ wALL := by decide +kernel
theorem inU_5 : ∀ w ∈ u_ws "StepMachine$Kept" TX5 12, w ∈ wALL := by decide +kernel
theorem inU_6 : ∀ w ∈ u_ws "StepMachine$Trail" TX6 3, w ∈ wALL := by decide +kernel
theorem inU_7 : ∀ w ∈ u_ws "StepMachine$Core" TX7 12, w ∈ wALL := by decide +kernel
theorem inU_8 : ∀ w ∈ u_ws "StepMachine" TX8 6, w ∈ wALL := by decide +kernel
theorem inU_9 : ∀ w ∈ u_ws "StepMachineModel" TX9 29, w ∈ wALL := by decide +kernel
abbrev wM (y : MethodName) (cc : ByteArray) (ml : Nat) (rt : Option FieldType) : List Cond := Cond.code y cc ml rt :: wALL
theorem goodM {y : MethodName} {cc : ByteArray} {ml : Nat} {rt : Option FieldType} (h : Cond.code y cc ml rt ∈ wALL) : GoodIn wALL (wM y cc ml rt) := by
  intro w hw
  rcases List.mem_cons.mp hw with rfl | hw
  · exact wALL_good _ h
  · exact wALL_good _ hw
theorem goodV {own C : String} {idx : Nat} {y : MethodName} {cc : ByteArray} {ml : Nat} {rt : Option FieldType} (h1 : Cond.methodLink own idx y ∈ wALL) (h2 : Cond.instanceMethod y ∈ wALL) (h3 : Cond.selects C y y ∈ wALL) (h4 : Cond.initialized C ∈ wALL) (h5 : Cond.code y cc ml rt ∈ wALL) : GoodIn wALL (wsV own idx C y (wM y cc ml rt)) := by
  intro w hw
  rcases List.mem_append.mp hw with hw | hw
  · simp only [List.mem_cons, List.not_mem_nil, or_false] at hw
    rcases hw with rfl | rfl | rfl | rfl
    · exact wALL_good _ h1
    · exact wALL_good _ h2
    · exact wALL_good _ h3
    · exact wALL_good _ h4
  · exact goodM h5 w hw
theorem goodS {own : String} {idx : Nat} {y : MethodName} {cc : ByteArray} {ml : Nat} {rt : Option FieldType} (h1 : Cond.methodLink own idx y ∈ wALL) (h2 : Cond.static y ∈ wALL) (h4 : Cond.initialized y.cls ∈ wALL) (h5 : Cond.code y cc ml rt ∈ wALL) : GoodIn wALL (va_wsS own idx y (wM y cc ml rt)) := by
  intro w hw
  rcases List.mem_append.mp hw with hw | hw
  · simp only [List.mem_cons, List.not_mem_nil, or_false] at hw
    rcases hw with rfl | rfl | rfl
    · exact wALL_good _ h1
    · exact wALL_good _ h2
    · exact wALL_good _ h4
  · exact goodM h5 w hw
theorem hs_Arit_holds : y_Arit_holds.cls ≠ "java/lang/invoke/MethodHandle" ∧ y_Arit_holds.cls ≠ "java/lang/invoke/VarHandle" ∧ (parseMethodDescriptor y_Arit_holds.desc).map (fun d => d.parameters.length) = some 3 := by decide +kernel
theorem hs_Arit_result : y_Arit_result.cls ≠ "java/lang/invoke/MethodHandle" ∧ y_Arit_result.cls ≠ "java/lang/invoke/VarHandle" ∧ (parseMethodDescriptor y_Arit_result.desc).map (fun d => d.parameters.length) = some 3 := by decide +kernel
theorem hs_Arit_product : y_Arit_product.cls ≠ "java/lang/invoke/MethodHandle" ∧ y_Arit_product.cls ≠ "java/lang/invoke/VarHandle" ∧ (parseMethodDescriptor y_Arit_product.desc).map (fun d => d.parameters.length) = some 3 := by decide +kernel
theorem hs_Arit_quotient : y_Arit_quotient.cls ≠ "java/lang/invoke/MethodHandle" ∧ y_Arit_quotient.cls ≠ "java/lang/invoke/VarHandle" ∧ (parseMethodDescriptor y_Arit_quotient.desc).map (fun d => d.parameters.length) = some 3 := by decide +kernel
theorem hs_Arit_isBelow : y_Arit_isBelow.cls ≠ "java/lang/invoke/MethodHandle" ∧ y_Arit_isBelow.cls ≠ "java/lang/invoke/VarHandle" ∧ (parseMethodDescriptor y_Arit_isBelow.desc).map (fun d => d.parameters.length) = some 2 := by decide +kernel
theorem hv_Core_putPc : y_Core_putPc.cls = "StepMachine$Core" ∧ y_Core_putPc.cls ≠ "java/lang/invoke/MethodHandle" ∧ y_Core_putPc.cls ≠ "java/lang/invoke/VarHandle" ∧ (parseMethodDescriptor y_Core_putPc.desc).map (fun d => d.parameters.length) = some 1 := by decide +kernel
theorem hv_Core_register : y_Core_register.cls = "StepMachine$Core" ∧ y_Core_register.cls ≠ "java/lang/invoke/MethodHandle" ∧ y_Core_register.cls ≠ "java/lang/invoke/VarHandle" ∧ (parseMethodDescriptor y_Core_register.desc).map (fun d => d.parameters.length) = some 1 := by decide +kernel
theorem hv_Core_putRegister : y_Core_putRegister.cls = "StepMachine$Core" ∧ y_Core_putRegister.cls ≠ "java/lang/invoke/MethodHandle" ∧ y_Core_putRegister.cls ≠ "java/lang/invoke/VarHandle" ∧ (parseMethodDescriptor y_Core_putRegister.desc).map (fun d => d.parameters.length) = some 2 := by decide +kernel
theorem hv_Core_become : y_Core_become.cls = "StepMachine$Core" ∧ y_Core_become.cls ≠ "java/lang/invoke/MethodHandle" ∧ y_Core_become.cls ≠ "java/lang/invoke/VarHandle" ∧ (parseMethodDescriptor y_Core_become.desc).map (fun d => d.parameters.length) = some 2 := by decide +kernel
theorem hv_Core_hasEnded : y_Core_hasEnded.cls = "StepMachine$Core" ∧ y_Core_hasEnded.cls ≠ "java/lang/invoke/MethodHandle" ∧ y_Core_hasEnded.cls ≠ "java/lang/invoke/VarHandle" ∧ (parseMethodDescriptor y_Core_hasEnded.desc).map (fun d => d.parameters.length) = some 0 := by decide +kernel
theorem hv_Core_beginsUnit : y_Core_beginsUnit.cls = "StepMachine$Core" ∧ y_Core_beginsUnit.cls ≠ "java/lang/invoke/MethodHandle" ∧ y_Core_beginsUnit.cls ≠ "java/lang/invoke/VarHandle" ∧ (parseMethodDescriptor y_Core_beginsUnit.desc).map (fun d => d.parameters.length) = some 0 := by decide +kernel
theorem hv_Core_advance : y_Core_advance.cls = "StepMachine$Core" ∧ y_Core_advance.cls ≠ "java/lang/invoke/MethodHandle" ∧ y_Core_advance.cls ≠ "java/lang/invoke/VarHandle" ∧ (parseMethodDescriptor y_Core_advance.desc).map (fun d => d.parameters.length) = some 0 := by decide +kernel
theorem hv_Core_undo : y_Core_undo.cls = "StepMachine$Core" ∧ y_Core_undo.cls ≠ "java/lang/invoke/MethodHandle" ∧ y_Core_undo.cls ≠ "java/lang/invoke/VarHandle" ∧ (parseMethodDescriptor y_Core_undo.desc).map (fun d => d.parameters.length) = some 1 := by decide +kernel
theorem hv_Core_remember : y_Core_remember.cls = "StepMachine$Core" ∧ y_Core_remember.cls ≠ "java/lang/invoke/MethodHandle" ∧ y_Core_remember.cls ≠ "java/lang/invoke/VarHandle" ∧ (parseMethodDescriptor y_Core_remember.desc).map (fun d => d.parameters.length) = some 1 := by decide +kernel
theorem hv_Core_fetch : y_Core_fetch.cls = "StepMachine$Core" ∧ y_Core_fetch.cls ≠ "java/lang/invoke/MethodHandle" ∧ y_Core_fetch.cls ≠ "java/lang/invoke/VarHandle" ∧ (parseMethodDescriptor y_Core_fetch.desc).map (fun d => d.parameters.length) = some 0 := by decide +kernel
theorem hv_Core_mayExecuteHalf : y_Core_mayExecuteHalf.cls = "StepMachine$Core" ∧ y_Core_mayExecuteHalf.cls ≠ "java/lang/invoke/MethodHandle" ∧ y_Core_mayExecuteHalf.cls ≠ "java/lang/invoke/VarHandle" ∧ (parseMethodDescriptor y_Core_mayExecuteHalf.desc).map (fun d => d.parameters.length) = some 1 := by decide +kernel
theorem hv_Core_failsInMemory : y_Core_failsInMemory.cls = "StepMachine$Core" ∧ y_Core_failsInMemory.cls ≠ "java/lang/invoke/MethodHandle" ∧ y_Core_failsInMemory.cls ≠ "java/lang/invoke/VarHandle" ∧ (parseMethodDescriptor y_Core_failsInMemory.desc).map (fun d => d.parameters.length) = some 0 := by decide +kernel
theorem hv_Core_address : y_Core_address.cls = "StepMachine$Core" ∧ y_Core_address.cls ≠ "java/lang/invoke/MethodHandle" ∧ y_Core_address.cls ≠ "java/lang/invoke/VarHandle" ∧ (parseMethodDescriptor y_Core_address.desc).map (fun d => d.parameters.length) = some 0 := by decide +kernel
theorem hv_Core_perform : y_Core_perform.cls = "StepMachine$Core" ∧ y_Core_perform.cls ≠ "java/lang/invoke/MethodHandle" ∧ y_Core_perform.cls ≠ "java/lang/invoke/VarHandle" ∧ (parseMethodDescriptor y_Core_perform.desc).map (fun d => d.parameters.length) = some 0 := by decide +kernel
theorem hv_Core_change : y_Core_change.cls = "StepMachine$Core" ∧ y_Core_change.cls ≠ "java/lang/invoke/MethodHandle" ∧ y_Core_change.cls ≠ "java/lang/invoke/VarHandle" ∧ (parseMethodDescriptor y_Core_change.desc).map (fun d => d.parameters.length) = some 0 := by decide +kernel
theorem hv_Core_loaded : y_Core_loaded.cls = "StepMachine$Core" ∧ y_Core_loaded.cls ≠ "java/lang/invoke/MethodHandle" ∧ y_Core_loaded.cls ≠ "java/lang/invoke/VarHandle" ∧ (parseMethodDescriptor y_Core_loaded.desc).map (fun d => d.parameters.length) = some 0 := by decide +kernel
theorem hv_Core_goOn : y_Core_goOn.cls = "StepMachine$Core" ∧ y_Core_goOn.cls ≠ "java/lang/invoke/MethodHandle" ∧ y_Core_goOn.cls ≠ "java/lang/invoke/VarHandle" ∧ (parseMethodDescriptor y_Core_goOn.desc).map (fun d => d.parameters.length) = some 0 := by decide +kernel
theorem hv_Core_link : y_Core_link.cls = "StepMachine$Core" ∧ y_Core_link.cls ≠ "java/lang/invoke/MethodHandle" ∧ y_Core_link.cls ≠ "java/lang/invoke/VarHandle" ∧ (parseMethodDescriptor y_Core_link.desc).map (fun d => d.parameters.length) = some 1 := by decide +kernel
theorem hv_Core_branch : y_Core_branch.cls = "StepMachine$Core" ∧ y_Core_branch.cls ≠ "java/lang/invoke/MethodHandle" ∧ y_Core_branch.cls ≠ "java/lang/invoke/VarHandle" ∧ (parseMethodDescriptor y_Core_branch.desc).map (fun d => d.parameters.length) = some 0 := by decide +kernel
theorem hv_Core_jump : y_Core_jump.cls = "StepMachine$Core" ∧ y_Core_jump.cls ≠ "java/lang/invoke/MethodHandle" ∧ y_Core_jump.cls ≠ "java/lang/invoke/VarHandle" ∧ (parseMethodDescriptor y_Core_jump.desc).map (fun d => d.parameters.length) = some 1 := by decide +kernel
theorem hv_Core_serve : y_Core_serve.cls = "StepMachine$Core" ∧ y_Core_serve.cls ≠ "java/lang/invoke/MethodHandle" ∧ y_Core_serve.cls ≠ "java/lang/invoke/VarHandle" ∧ (parseMethodDescriptor y_Core_serve.desc).map (fun d => d.parameters.length) = some 0 := by decide +kernel
theorem hv_Core_answer : y_Core_answer.cls = "StepMachine$Core" ∧ y_Core_answer.cls ≠ "java/lang/invoke/MethodHandle" ∧ y_Core_answer.cls ≠ "java/lang/invoke/VarHandle" ∧ (parseMethodDescriptor y_Core_answer.desc).map (fun d => d.parameters.length) = some 1 := by decide +kernel
theorem hv_Guar_putSegment : y_Guar_putSegment.cls = "StepMachine$Guard" ∧ y_Guar_putSegment.cls ≠ "java/lang/invoke/MethodHandle" ∧ y_Guar_putSegment.cls ≠ "java/lang/invoke/VarHandle" ∧ (parseMethodDescriptor y_Guar_putSegment.desc).map (fun d => d.parameters.length) = some 4 := by decide +kernel
theorem hv_Guar_rightsAt : y_Guar_rightsAt.cls = "StepMachine$Guard" ∧ y_Guar_rightsAt.cls ≠ "java/lang/invoke/MethodHandle" ∧ y_Guar_rightsAt.cls ≠ "java/lang/invoke/VarHandle" ∧ (parseMethodDescriptor y_Guar_rightsAt.desc).map (fun d => d.parameters.length) = some 1 := by decide +kernel
theorem hv_Guar_firstWithout : y_Guar_firstWithout.cls = "StepMachine$Guard" ∧ y_Guar_firstWithout.cls ≠ "java/lang/invoke/MethodHandle" ∧ y_Guar_firstWithout.cls ≠ "java/lang/invoke/VarHandle" ∧ (parseMethodDescriptor y_Guar_firstWithout.desc).map (fun d => d.parameters.length) = some 3 := by decide +kernel
theorem hv_Guar_putMark : y_Guar_putMark.cls = "StepMachine$Guard" ∧ y_Guar_putMark.cls ≠ "java/lang/invoke/MethodHandle" ∧ y_Guar_putMark.cls ≠ "java/lang/invoke/VarHandle" ∧ (parseMethodDescriptor y_Guar_putMark.desc).map (fun d => d.parameters.length) = some 2 := by decide +kernel
theorem hv_Guar_isMarked : y_Guar_isMarked.cls = "StepMachine$Guard" ∧ y_Guar_isMarked.cls ≠ "java/lang/invoke/MethodHandle" ∧ y_Guar_isMarked.cls ≠ "java/lang/invoke/VarHandle" ∧ (parseMethodDescriptor y_Guar_isMarked.desc).map (fun d => d.parameters.length) = some 1 := by decide +kernel
theorem hs_Guar_mayBeMarked : y_Guar_mayBeMarked.cls ≠ "java/lang/invoke/MethodHandle" ∧ y_Guar_mayBeMarked.cls ≠ "java/lang/invoke/VarHandle" ∧ (parseMethodDescriptor y_Guar_mayBeMarked.desc).map (fun d => d.parameters.length) = some 1 := by decide +kernel
theorem hv_Halt_has : y_Halt_has.cls = "StepMachine$Halts" ∧ y_Halt_has.cls ≠ "java/lang/invoke/MethodHandle" ∧ y_Halt_has.cls ≠ "java/lang/invoke/VarHandle" ∧ (parseMethodDescriptor y_Halt_has.desc).map (fun d => d.parameters.length) = some 1 := by decide +kernel
theorem hv_Halt_add : y_Halt_add.cls = "StepMachine$Halts" ∧ y_Halt_add.cls ≠ "java/lang/invoke/MethodHandle" ∧ y_Halt_add.cls ≠ "java/lang/invoke/VarHandle" ∧ (parseMethodDescriptor y_Halt_add.desc).map (fun d => d.parameters.length) = some 1 := by decide +kernel
theorem hv_Halt_remove : y_Halt_remove.cls = "StepMachine$Halts" ∧ y_Halt_remove.cls ≠ "java/lang/invoke/MethodHandle" ∧ y_Halt_remove.cls ≠ "java/lang/invoke/VarHandle" ∧ (parseMethodDescriptor y_Halt_remove.desc).map (fun d => d.parameters.length) = some 1 := by decide +kernel
theorem hv_Halt_find : y_Halt_find.cls = "StepMachine$Halts" ∧ y_Halt_find.cls ≠ "java/lang/invoke/MethodHandle" ∧ y_Halt_find.cls ≠ "java/lang/invoke/VarHandle" ∧ (parseMethodDescriptor y_Halt_find.desc).map (fun d => d.parameters.length) = some 1 := by decide +kernel
theorem hs_Long_read : y_Long_read.cls ≠ "java/lang/invoke/MethodHandle" ∧ y_Long_read.cls ≠ "java/lang/invoke/VarHandle" ∧ (parseMethodDescriptor y_Long_read.desc).map (fun d => d.parameters.length) = some 2 := by decide +kernel
theorem hs_Long_kindIn : y_Long_kindIn.cls ≠ "java/lang/invoke/MethodHandle" ∧ y_Long_kindIn.cls ≠ "java/lang/invoke/VarHandle" ∧ (parseMethodDescriptor y_Long_kindIn.desc).map (fun d => d.parameters.length) = some 2 := by decide +kernel
theorem hs_Long_kindOfPair : y_Long_kindOfPair.cls ≠ "java/lang/invoke/MethodHandle" ∧ y_Long_kindOfPair.cls ≠ "java/lang/invoke/VarHandle" ∧ (parseMethodDescriptor y_Long_kindOfPair.desc).map (fun d => d.parameters.length) = some 2 := by decide +kernel
theorem hs_Long_kindOfWhole : y_Long_kindOfWhole.cls ≠ "java/lang/invoke/MethodHandle" ∧ y_Long_kindOfWhole.cls ≠ "java/lang/invoke/VarHandle" ∧ (parseMethodDescriptor y_Long_kindOfWhole.desc).map (fun d => d.parameters.length) = some 1 := by decide +kernel
theorem hs_Long_readImmediate : y_Long_readImmediate.cls ≠ "java/lang/invoke/MethodHandle" ∧ y_Long_readImmediate.cls ≠ "java/lang/invoke/VarHandle" ∧ (parseMethodDescriptor y_Long_readImmediate.desc).map (fun d => d.parameters.length) = some 2 := by decide +kernel
theorem hs_Long_kindOfShift : y_Long_kindOfShift.cls ≠ "java/lang/invoke/MethodHandle" ∧ y_Long_kindOfShift.cls ≠ "java/lang/invoke/VarHandle" ∧ (parseMethodDescriptor y_Long_kindOfShift.desc).map (fun d => d.parameters.length) = some 2 := by decide +kernel
theorem hs_Long_immediateOfJump : y_Long_immediateOfJump.cls ≠ "java/lang/invoke/MethodHandle" ∧ y_Long_immediateOfJump.cls ≠ "java/lang/invoke/VarHandle" ∧ (parseMethodDescriptor y_Long_immediateOfJump.desc).map (fun d => d.parameters.length) = some 1 := by decide +kernel
theorem hs_Long_immediateOfBranch : y_Long_immediateOfBranch.cls ≠ "java/lang/invoke/MethodHandle" ∧ y_Long_immediateOfBranch.cls ≠ "java/lang/invoke/VarHandle" ∧ (parseMethodDescriptor y_Long_immediateOfBranch.desc).map (fun d => d.parameters.length) = some 1 := by decide +kernel
theorem hs_Long_immediateOfStore : y_Long_immediateOfStore.cls ≠ "java/lang/invoke/MethodHandle" ∧ y_Long_immediateOfStore.cls ≠ "java/lang/invoke/VarHandle" ∧ (parseMethodDescriptor y_Long_immediateOfStore.desc).map (fun d => d.parameters.length) = some 1 := by decide +kernel
theorem hs_Memo_has : y_Memo_has.cls ≠ "java/lang/invoke/MethodHandle" ∧ y_Memo_has.cls ≠ "java/lang/invoke/VarHandle" ∧ (parseMethodDescriptor y_Memo_has.desc).map (fun d => d.parameters.length) = some 1 := by decide +kernel
theorem hv_Memo_number : y_Memo_number.cls = "StepMachine$Memory" ∧ y_Memo_number.cls ≠ "java/lang/invoke/MethodHandle" ∧ y_Memo_number.cls ≠ "java/lang/invoke/VarHandle" ∧ (parseMethodDescriptor y_Memo_number.desc).map (fun d => d.parameters.length) = some 2 := by decide +kernel
theorem hv_Memo_putNumber : y_Memo_putNumber.cls = "StepMachine$Memory" ∧ y_Memo_putNumber.cls ≠ "java/lang/invoke/MethodHandle" ∧ y_Memo_putNumber.cls ≠ "java/lang/invoke/VarHandle" ∧ (parseMethodDescriptor y_Memo_putNumber.desc).map (fun d => d.parameters.length) = some 3 := by decide +kernel
theorem hv_Memo_cellOf : y_Memo_cellOf.cls = "StepMachine$Memory" ∧ y_Memo_cellOf.cls ≠ "java/lang/invoke/MethodHandle" ∧ y_Memo_cellOf.cls ≠ "java/lang/invoke/VarHandle" ∧ (parseMethodDescriptor y_Memo_cellOf.desc).map (fun d => d.parameters.length) = some 1 := by decide +kernel
theorem hv_Memo_putCell : y_Memo_putCell.cls = "StepMachine$Memory" ∧ y_Memo_putCell.cls ≠ "java/lang/invoke/MethodHandle" ∧ y_Memo_putCell.cls ≠ "java/lang/invoke/VarHandle" ∧ (parseMethodDescriptor y_Memo_putCell.desc).map (fun d => d.parameters.length) = some 2 := by decide +kernel
theorem hs_Memo_shiftOf : y_Memo_shiftOf.cls ≠ "java/lang/invoke/MethodHandle" ∧ y_Memo_shiftOf.cls ≠ "java/lang/invoke/VarHandle" ∧ (parseMethodDescriptor y_Memo_shiftOf.desc).map (fun d => d.parameters.length) = some 1 := by decide +kernel
theorem hs_Memo_maskOf : y_Memo_maskOf.cls ≠ "java/lang/invoke/MethodHandle" ∧ y_Memo_maskOf.cls ≠ "java/lang/invoke/VarHandle" ∧ (parseMethodDescriptor y_Memo_maskOf.desc).map (fun d => d.parameters.length) = some 1 := by decide +kernel
theorem hv_Port_hasRoomIn : y_Port_hasRoomIn.cls = "StepMachine$Ports" ∧ y_Port_hasRoomIn.cls ≠ "java/lang/invoke/MethodHandle" ∧ y_Port_hasRoomIn.cls ≠ "java/lang/invoke/VarHandle" ∧ (parseMethodDescriptor y_Port_hasRoomIn.desc).map (fun d => d.parameters.length) = some 1 := by decide +kernel
theorem hv_Port_give : y_Port_give.cls = "StepMachine$Ports" ∧ y_Port_give.cls ≠ "java/lang/invoke/MethodHandle" ∧ y_Port_give.cls ≠ "java/lang/invoke/VarHandle" ∧ (parseMethodDescriptor y_Port_give.desc).map (fun d => d.parameters.length) = some 1 := by decide +kernel
theorem hv_Port_take : y_Port_take.cls = "StepMachine$Ports" ∧ y_Port_take.cls ≠ "java/lang/invoke/MethodHandle" ∧ y_Port_take.cls ≠ "java/lang/invoke/VarHandle" ∧ (parseMethodDescriptor y_Port_take.desc).map (fun d => d.parameters.length) = some 0 := by decide +kernel
theorem hv_Port_put : y_Port_put.cls = "StepMachine$Ports" ∧ y_Port_put.cls ≠ "java/lang/invoke/MethodHandle" ∧ y_Port_put.cls ≠ "java/lang/invoke/VarHandle" ∧ (parseMethodDescriptor y_Port_put.desc).map (fun d => d.parameters.length) = some 1 := by decide +kernel
theorem hv_Port_outputAt : y_Port_outputAt.cls = "StepMachine$Ports" ∧ y_Port_outputAt.cls ≠ "java/lang/invoke/MethodHandle" ∧ y_Port_outputAt.cls ≠ "java/lang/invoke/VarHandle" ∧ (parseMethodDescriptor y_Port_outputAt.desc).map (fun d => d.parameters.length) = some 1 := by decide +kernel
theorem hs_Shor_read : y_Shor_read.cls ≠ "java/lang/invoke/MethodHandle" ∧ y_Shor_read.cls ≠ "java/lang/invoke/VarHandle" ∧ (parseMethodDescriptor y_Shor_read.desc).map (fun d => d.parameters.length) = some 2 := by decide +kernel
theorem hs_Shor_readFirst : y_Shor_readFirst.cls ≠ "java/lang/invoke/MethodHandle" ∧ y_Shor_readFirst.cls ≠ "java/lang/invoke/VarHandle" ∧ (parseMethodDescriptor y_Shor_readFirst.desc).map (fun d => d.parameters.length) = some 2 := by decide +kernel
theorem hs_Shor_readStackAddress : y_Shor_readStackAddress.cls ≠ "java/lang/invoke/MethodHandle" ∧ y_Shor_readStackAddress.cls ≠ "java/lang/invoke/VarHandle" ∧ (parseMethodDescriptor y_Shor_readStackAddress.desc).map (fun d => d.parameters.length) = some 3 := by decide +kernel
theorem hs_Shor_readSecond : y_Shor_readSecond.cls ≠ "java/lang/invoke/MethodHandle" ∧ y_Shor_readSecond.cls ≠ "java/lang/invoke/VarHandle" ∧ (parseMethodDescriptor y_Shor_readSecond.desc).map (fun d => d.parameters.length) = some 2 := by decide +kernel
theorem hs_Shor_readAddition : y_Shor_readAddition.cls ≠ "java/lang/invoke/MethodHandle" ∧ y_Shor_readAddition.cls ≠ "java/lang/invoke/VarHandle" ∧ (parseMethodDescriptor y_Shor_readAddition.desc).map (fun d => d.parameters.length) = some 4 := by decide +kernel
theorem hs_Shor_readUpper : y_Shor_readUpper.cls ≠ "java/lang/invoke/MethodHandle" ∧ y_Shor_readUpper.cls ≠ "java/lang/invoke/VarHandle" ∧ (parseMethodDescriptor y_Shor_readUpper.desc).map (fun d => d.parameters.length) = some 4 := by decide +kernel
theorem hs_Shor_readNearPair : y_Shor_readNearPair.cls ≠ "java/lang/invoke/MethodHandle" ∧ y_Shor_readNearPair.cls ≠ "java/lang/invoke/VarHandle" ∧ (parseMethodDescriptor y_Shor_readNearPair.desc).map (fun d => d.parameters.length) = some 3 := by decide +kernel
theorem hs_Shor_kindOfShift : y_Shor_kindOfShift.cls ≠ "java/lang/invoke/MethodHandle" ∧ y_Shor_kindOfShift.cls ≠ "java/lang/invoke/VarHandle" ∧ (parseMethodDescriptor y_Shor_kindOfShift.desc).map (fun d => d.parameters.length) = some 3 := by decide +kernel
theorem hs_Shor_kindOfPair : y_Shor_kindOfPair.cls ≠ "java/lang/invoke/MethodHandle" ∧ y_Shor_kindOfPair.cls ≠ "java/lang/invoke/VarHandle" ∧ (parseMethodDescriptor y_Shor_kindOfPair.desc).map (fun d => d.parameters.length) = some 2 := by decide +kernel
theorem hs_Shor_readThird : y_Shor_readThird.cls ≠ "java/lang/invoke/MethodHandle" ∧ y_Shor_readThird.cls ≠ "java/lang/invoke/VarHandle" ∧ (parseMethodDescriptor y_Shor_readThird.desc).map (fun d => d.parameters.length) = some 2 := by decide +kernel
theorem hs_Shor_readStackLoad : y_Shor_readStackLoad.cls ≠ "java/lang/invoke/MethodHandle" ∧ y_Shor_readStackLoad.cls ≠ "java/lang/invoke/VarHandle" ∧ (parseMethodDescriptor y_Shor_readStackLoad.desc).map (fun d => d.parameters.length) = some 3 := by decide +kernel
theorem hs_Shor_shiftUp : y_Shor_shiftUp.cls ≠ "java/lang/invoke/MethodHandle" ∧ y_Shor_shiftUp.cls ≠ "java/lang/invoke/VarHandle" ∧ (parseMethodDescriptor y_Shor_shiftUp.desc).map (fun d => d.parameters.length) = some 2 := by decide +kernel
theorem hs_Shor_readPair : y_Shor_readPair.cls ≠ "java/lang/invoke/MethodHandle" ∧ y_Shor_readPair.cls ≠ "java/lang/invoke/VarHandle" ∧ (parseMethodDescriptor y_Shor_readPair.desc).map (fun d => d.parameters.length) = some 4 := by decide +kernel
theorem hs_Shor_sixBits : y_Shor_sixBits.cls ≠ "java/lang/invoke/MethodHandle" ∧ y_Shor_sixBits.cls ≠ "java/lang/invoke/VarHandle" ∧ (parseMethodDescriptor y_Shor_sixBits.desc).map (fun d => d.parameters.length) = some 1 := by decide +kernel
theorem hs_Shor_immediateOfJump : y_Shor_immediateOfJump.cls ≠ "java/lang/invoke/MethodHandle" ∧ y_Shor_immediateOfJump.cls ≠ "java/lang/invoke/VarHandle" ∧ (parseMethodDescriptor y_Shor_immediateOfJump.desc).map (fun d => d.parameters.length) = some 1 := by decide +kernel
theorem hs_Shor_immediateOfBranch : y_Shor_immediateOfBranch.cls ≠ "java/lang/invoke/MethodHandle" ∧ y_Shor_immediateOfBranch.cls ≠ "java/lang/invoke/VarHandle" ∧ (parseMethodDescriptor y_Shor_immediateOfBranch.desc).map (fun d => d.parameters.length) = some 1 := by decide +kernel
theorem hs_Shor_immediateOfStackStore : y_Shor_immediateOfStackStore.cls ≠ "java/lang/invoke/MethodHandle" ∧ y_Shor_immediateOfStackStore.cls ≠ "java/lang/invoke/VarHandle" ∧ (parseMethodDescriptor y_Shor_immediateOfStackStore.desc).map (fun d => d.parameters.length) = some 1 := by decide +kernel
theorem hv_Trai_open : y_Trai_open.cls = "StepMachine$Trail" ∧ y_Trai_open.cls ≠ "java/lang/invoke/MethodHandle" ∧ y_Trai_open.cls ≠ "java/lang/invoke/VarHandle" ∧ (parseMethodDescriptor y_Trai_open.desc).map (fun d => d.parameters.length) = some 0 := by decide +kernel
theorem hv_Trai_takeLatest : y_Trai_takeLatest.cls = "StepMachine$Trail" ∧ y_Trai_takeLatest.cls ≠ "java/lang/invoke/MethodHandle" ∧ y_Trai_takeLatest.cls ≠ "java/lang/invoke/VarHandle" ∧ (parseMethodDescriptor y_Trai_takeLatest.desc).map (fun d => d.parameters.length) = some 0 := by decide +kernel
theorem hv_Trai_forget : y_Trai_forget.cls = "StepMachine$Trail" ∧ y_Trai_forget.cls ≠ "java/lang/invoke/MethodHandle" ∧ y_Trai_forget.cls ≠ "java/lang/invoke/VarHandle" ∧ (parseMethodDescriptor y_Trai_forget.desc).map (fun d => d.parameters.length) = some 0 := by decide +kernel
theorem hs_Trai_place : y_Trai_place.cls ≠ "java/lang/invoke/MethodHandle" ∧ y_Trai_place.cls ≠ "java/lang/invoke/VarHandle" ∧ (parseMethodDescriptor y_Trai_place.desc).map (fun d => d.parameters.length) = some 1 := by decide +kernel
theorem hs_Word_isLong : y_Word_isLong.cls ≠ "java/lang/invoke/MethodHandle" ∧ y_Word_isLong.cls ≠ "java/lang/invoke/VarHandle" ∧ (parseMethodDescriptor y_Word_isLong.desc).map (fun d => d.parameters.length) = some 1 := by decide +kernel
theorem hv_Word_clear : y_Word_clear.cls = "StepMachine$Word" ∧ y_Word_clear.cls ≠ "java/lang/invoke/MethodHandle" ∧ y_Word_clear.cls ≠ "java/lang/invoke/VarHandle" ∧ (parseMethodDescriptor y_Word_clear.desc).map (fun d => d.parameters.length) = some 1 := by decide +kernel
theorem hv_Word_is : y_Word_is.cls = "StepMachine$Word" ∧ y_Word_is.cls ≠ "java/lang/invoke/MethodHandle" ∧ y_Word_is.cls ≠ "java/lang/invoke/VarHandle" ∧ (parseMethodDescriptor y_Word_is.desc).map (fun d => d.parameters.length) = some 5 := by decide +kernel
theorem hv_Word_isStore : y_Word_isStore.cls = "StepMachine$Word" ∧ y_Word_isStore.cls ≠ "java/lang/invoke/MethodHandle" ∧ y_Word_isStore.cls ≠ "java/lang/invoke/VarHandle" ∧ (parseMethodDescriptor y_Word_isStore.desc).map (fun d => d.parameters.length) = some 0 := by decide +kernel
theorem hv_Word_accessBytes : y_Word_accessBytes.cls = "StepMachine$Word" ∧ y_Word_accessBytes.cls ≠ "java/lang/invoke/MethodHandle" ∧ y_Word_accessBytes.cls ≠ "java/lang/invoke/VarHandle" ∧ (parseMethodDescriptor y_Word_accessBytes.desc).map (fun d => d.parameters.length) = some 0 := by decide +kernel
theorem hs_Word_part : y_Word_part.cls ≠ "java/lang/invoke/MethodHandle" ∧ y_Word_part.cls ≠ "java/lang/invoke/VarHandle" ∧ (parseMethodDescriptor y_Word_part.desc).map (fun d => d.parameters.length) = some 4 := by decide +kernel
theorem hs_Word_signed : y_Word_signed.cls ≠ "java/lang/invoke/MethodHandle" ∧ y_Word_signed.cls ≠ "java/lang/invoke/VarHandle" ∧ (parseMethodDescriptor y_Word_signed.desc).map (fun d => d.parameters.length) = some 2 := by decide +kernel
theorem hv_X_segment : y_X_segment.cls = "StepMachine" ∧ y_X_segment.cls ≠ "java/lang/invoke/MethodHandle" ∧ y_X_segment.cls ≠ "java/lang/invoke/VarHandle" ∧ (parseMethodDescriptor y_X_segment.desc).map (fun d => d.parameters.length) = some 4 := by decide +kernel
theorem hv_X_mark : y_X_mark.cls = "StepMachine" ∧ y_X_mark.cls ≠ "java/lang/invoke/MethodHandle" ∧ y_X_mark.cls ≠ "java/lang/invoke/VarHandle" ∧ (parseMethodDescriptor y_X_mark.desc).map (fun d => d.parameters.length) = some 2 := by decide +kernel
theorem hv_X_marking : y_X_marking.cls = "StepMachine" ∧ y_X_marking.cls ≠ "java/lang/invoke/MethodHandle" ∧ y_X_marking.cls ≠ "java/lang/invoke/VarHandle" ∧ (parseMethodDescriptor y_X_marking.desc).map (fun d => d.parameters.length) = some 1 := by decide +kernel
theorem hv_X_poke : y_X_poke.cls = "StepMachine" ∧ y_X_poke.cls ≠ "java/lang/invoke/MethodHandle" ∧ y_X_poke.cls ≠ "java/lang/invoke/VarHandle" ∧ (parseMethodDescriptor y_X_poke.desc).map (fun d => d.parameters.length) = some 3 := by decide +kernel
theorem hv_X_peek : y_X_peek.cls = "StepMachine" ∧ y_X_peek.cls ≠ "java/lang/invoke/MethodHandle" ∧ y_X_peek.cls ≠ "java/lang/invoke/VarHandle" ∧ (parseMethodDescriptor y_X_peek.desc).map (fun d => d.parameters.length) = some 1 := by decide +kernel
theorem hv_X_set : y_X_set.cls = "StepMachine" ∧ y_X_set.cls ≠ "java/lang/invoke/MethodHandle" ∧ y_X_set.cls ≠ "java/lang/invoke/VarHandle" ∧ (parseMethodDescriptor y_X_set.desc).map (fun d => d.parameters.length) = some 2 := by decide +kernel
theorem hv_X_get : y_X_get.cls = "StepMachine" ∧ y_X_get.cls ≠ "java/lang/invoke/MethodHandle" ∧ y_X_get.cls ≠ "java/lang/invoke/VarHandle" ∧ (parseMethodDescriptor y_X_get.desc).map (fun d => d.parameters.length) = some 1 := by decide +kernel
theorem hv_X_input : y_X_input.cls = "StepMachine" ∧ y_X_input.cls ≠ "java/lang/invoke/MethodHandle" ∧ y_X_input.cls ≠ "java/lang/invoke/VarHandle" ∧ (parseMethodDescriptor y_X_input.desc).map (fun d => d.parameters.length) = some 2 := by decide +kernel
theorem hv_X_halt : y_X_halt.cls = "StepMachine" ∧ y_X_halt.cls ≠ "java/lang/invoke/MethodHandle" ∧ y_X_halt.cls ≠ "java/lang/invoke/VarHandle" ∧ (parseMethodDescriptor y_X_halt.desc).map (fun d => d.parameters.length) = some 2 := by decide +kernel
theorem hv_X_step : y_X_step.cls = "StepMachine" ∧ y_X_step.cls ≠ "java/lang/invoke/MethodHandle" ∧ y_X_step.cls ≠ "java/lang/invoke/VarHandle" ∧ (parseMethodDescriptor y_X_step.desc).map (fun d => d.parameters.length) = some 0 := by decide +kernel
theorem hv_X_run : y_X_run.cls = "StepMachine" ∧ y_X_run.cls ≠ "java/lang/invoke/MethodHandle" ∧ y_X_run.cls ≠ "java/lang/invoke/VarHandle" ∧ (parseMethodDescriptor y_X_run.desc).map (fun d => d.parameters.length) = some 1 := by decide +kernel
theorem hv_X_back : y_X_back.cls = "StepMachine" ∧ y_X_back.cls ≠ "java/lang/invoke/MethodHandle" ∧ y_X_back.cls ≠ "java/lang/invoke/VarHandle" ∧ (parseMethodDescriptor y_X_back.desc).map (fun d => d.parameters.length) = some 1 := by decide +kernel
theorem hv_X_state : y_X_state.cls = "StepMachine" ∧ y_X_state.cls ≠ "java/lang/invoke/MethodHandle" ∧ y_X_state.cls ≠ "java/lang/invoke/VarHandle" ∧ (parseMethodDescriptor y_X_state.desc).map (fun d => d.parameters.length) = some 1 := by decide +kernel
theorem hv_X_output : y_X_output.cls = "StepMachine" ∧ y_X_output.cls ≠ "java/lang/invoke/MethodHandle" ∧ y_X_output.cls ≠ "java/lang/invoke/VarHandle" ∧ (parseMethodDescriptor y_X_output.desc).map (fun d => d.parameters.length) = some 1 := by decide +kernel
theorem hv_X_rights : y_X_rights.cls = "StepMachine" ∧ y_X_rights.cls ≠ "java/lang/invoke/MethodHandle" ∧ y_X_rights.cls ≠ "java/lang/invoke/VarHandle" ∧ (parseMethodDescriptor y_X_rights.desc).map (fun d => d.parameters.length) = some 1 := by decide +kernel
theorem hv_X_forgetIf : y_X_forgetIf.cls = "StepMachine" ∧ y_X_forgetIf.cls ≠ "java/lang/invoke/MethodHandle" ∧ y_X_forgetIf.cls ≠ "java/lang/invoke/VarHandle" ∧ (parseMethodDescriptor y_X_forgetIf.desc).map (fun d => d.parameters.length) = some 1 := by decide +kernel
theorem hs_X_byteOf : y_X_byteOf.cls ≠ "java/lang/invoke/MethodHandle" ∧ y_X_byteOf.cls ≠ "java/lang/invoke/VarHandle" ∧ (parseMethodDescriptor y_X_byteOf.desc).map (fun d => d.parameters.length) = some 2 := by decide +kernel
theorem hv_M_lay : y_M_lay.cls = "StepMachineModel" ∧ y_M_lay.cls ≠ "java/lang/invoke/MethodHandle" ∧ y_M_lay.cls ≠ "java/lang/invoke/VarHandle" ∧ (parseMethodDescriptor y_M_lay.desc).map (fun d => d.parameters.length) = some 5 := by decide +kernel
theorem hv_M_fix : y_M_fix.cls = "StepMachineModel" ∧ y_M_fix.cls ≠ "java/lang/invoke/MethodHandle" ∧ y_M_fix.cls ≠ "java/lang/invoke/VarHandle" ∧ (parseMethodDescriptor y_M_fix.desc).map (fun d => d.parameters.length) = some 4 := by decide +kernel
theorem hs_M_opcodeOf : y_M_opcodeOf.cls ≠ "java/lang/invoke/MethodHandle" ∧ y_M_opcodeOf.cls ≠ "java/lang/invoke/VarHandle" ∧ (parseMethodDescriptor y_M_opcodeOf.desc).map (fun d => d.parameters.length) = some 1 := by decide +kernel
theorem hs_M_thirdOf : y_M_thirdOf.cls ≠ "java/lang/invoke/MethodHandle" ∧ y_M_thirdOf.cls ≠ "java/lang/invoke/VarHandle" ∧ (parseMethodDescriptor y_M_thirdOf.desc).map (fun d => d.parameters.length) = some 1 := by decide +kernel
theorem hs_M_seventhOf : y_M_seventhOf.cls ≠ "java/lang/invoke/MethodHandle" ∧ y_M_seventhOf.cls ≠ "java/lang/invoke/VarHandle" ∧ (parseMethodDescriptor y_M_seventhOf.desc).map (fun d => d.parameters.length) = some 1 := by decide +kernel
theorem hs_M_isBranch : y_M_isBranch.cls ≠ "java/lang/invoke/MethodHandle" ∧ y_M_isBranch.cls ≠ "java/lang/invoke/VarHandle" ∧ (parseMethodDescriptor y_M_isBranch.desc).map (fun d => d.parameters.length) = some 1 := by decide +kernel
theorem hs_M_isStore : y_M_isStore.cls ≠ "java/lang/invoke/MethodHandle" ∧ y_M_isStore.cls ≠ "java/lang/invoke/VarHandle" ∧ (parseMethodDescriptor y_M_isStore.desc).map (fun d => d.parameters.length) = some 1 := by decide +kernel
theorem hs_M_isShift : y_M_isShift.cls ≠ "java/lang/invoke/MethodHandle" ∧ y_M_isShift.cls ≠ "java/lang/invoke/VarHandle" ∧ (parseMethodDescriptor y_M_isShift.desc).map (fun d => d.parameters.length) = some 1 := by decide +kernel
theorem hv_M_layLong : y_M_layLong.cls = "StepMachineModel" ∧ y_M_layLong.cls ≠ "java/lang/invoke/MethodHandle" ∧ y_M_layLong.cls ≠ "java/lang/invoke/VarHandle" ∧ (parseMethodDescriptor y_M_layLong.desc).map (fun d => d.parameters.length) = some 1 := by decide +kernel
theorem hv_M_one : y_M_one.cls = "StepMachineModel" ∧ y_M_one.cls ≠ "java/lang/invoke/MethodHandle" ∧ y_M_one.cls ≠ "java/lang/invoke/VarHandle" ∧ (parseMethodDescriptor y_M_one.desc).map (fun d => d.parameters.length) = some 3 := by decide +kernel
theorem hv_M_ends : y_M_ends.cls = "StepMachineModel" ∧ y_M_ends.cls ≠ "java/lang/invoke/MethodHandle" ∧ y_M_ends.cls ≠ "java/lang/invoke/VarHandle" ∧ (parseMethodDescriptor y_M_ends.desc).map (fun d => d.parameters.length) = some 3 := by decide +kernel
theorem hv_M_layShort : y_M_layShort.cls = "StepMachineModel" ∧ y_M_layShort.cls ≠ "java/lang/invoke/MethodHandle" ∧ y_M_layShort.cls ≠ "java/lang/invoke/VarHandle" ∧ (parseMethodDescriptor y_M_layShort.desc).map (fun d => d.parameters.length) = some 0 := by decide +kernel
theorem hv_M_layJump : y_M_layJump.cls = "StepMachineModel" ∧ y_M_layJump.cls ≠ "java/lang/invoke/MethodHandle" ∧ y_M_layJump.cls ≠ "java/lang/invoke/VarHandle" ∧ (parseMethodDescriptor y_M_layJump.desc).map (fun d => d.parameters.length) = some 2 := by decide +kernel
theorem hs_M_bitsOf : y_M_bitsOf.cls ≠ "java/lang/invoke/MethodHandle" ∧ y_M_bitsOf.cls ≠ "java/lang/invoke/VarHandle" ∧ (parseMethodDescriptor y_M_bitsOf.desc).map (fun d => d.parameters.length) = some 1 := by decide +kernel
theorem hv_M_has : y_M_has.cls = "StepMachineModel" ∧ y_M_has.cls ≠ "java/lang/invoke/MethodHandle" ∧ y_M_has.cls ≠ "java/lang/invoke/VarHandle" ∧ (parseMethodDescriptor y_M_has.desc).map (fun d => d.parameters.length) = some 2 := by decide +kernel
theorem hv_M_isShortPart : y_M_isShortPart.cls = "StepMachineModel" ∧ y_M_isShortPart.cls ≠ "java/lang/invoke/MethodHandle" ∧ y_M_isShortPart.cls ≠ "java/lang/invoke/VarHandle" ∧ (parseMethodDescriptor y_M_isShortPart.desc).map (fun d => d.parameters.length) = some 2 := by decide +kernel
theorem hv_M_isRegister : y_M_isRegister.cls = "StepMachineModel" ∧ y_M_isRegister.cls ≠ "java/lang/invoke/MethodHandle" ∧ y_M_isRegister.cls ≠ "java/lang/invoke/VarHandle" ∧ (parseMethodDescriptor y_M_isRegister.desc).map (fun d => d.parameters.length) = some 3 := by decide +kernel
theorem hs_M_isStep : y_M_isStep.cls ≠ "java/lang/invoke/MethodHandle" ∧ y_M_isStep.cls ≠ "java/lang/invoke/VarHandle" ∧ (parseMethodDescriptor y_M_isStep.desc).map (fun d => d.parameters.length) = some 4 := by decide +kernel
theorem hs_M_isImmediate : y_M_isImmediate.cls ≠ "java/lang/invoke/MethodHandle" ∧ y_M_isImmediate.cls ≠ "java/lang/invoke/VarHandle" ∧ (parseMethodDescriptor y_M_isImmediate.desc).map (fun d => d.parameters.length) = some 2 := by decide +kernel
theorem hs_M_signOf : y_M_signOf.cls ≠ "java/lang/invoke/MethodHandle" ∧ y_M_signOf.cls ≠ "java/lang/invoke/VarHandle" ∧ (parseMethodDescriptor y_M_signOf.desc).map (fun d => d.parameters.length) = some 1 := by decide +kernel
theorem hv_M_areGood : y_M_areGood.cls = "StepMachineModel" ∧ y_M_areGood.cls ≠ "java/lang/invoke/MethodHandle" ∧ y_M_areGood.cls ≠ "java/lang/invoke/VarHandle" ∧ (parseMethodDescriptor y_M_areGood.desc).map (fun d => d.parameters.length) = some 1 := by decide +kernel
theorem hv_M_put : y_M_put.cls = "StepMachineModel" ∧ y_M_put.cls ≠ "java/lang/invoke/MethodHandle" ∧ y_M_put.cls ≠ "java/lang/invoke/VarHandle" ∧ (parseMethodDescriptor y_M_put.desc).map (fun d => d.parameters.length) = some 1 := by decide +kernel
theorem hv_M_take : y_M_take.cls = "StepMachineModel" ∧ y_M_take.cls ≠ "java/lang/invoke/MethodHandle" ∧ y_M_take.cls ≠ "java/lang/invoke/VarHandle" ∧ (parseMethodDescriptor y_M_take.desc).map (fun d => d.parameters.length) = some 2 := by decide +kernel
theorem hs_M_isLong : y_M_isLong.cls ≠ "java/lang/invoke/MethodHandle" ∧ y_M_isLong.cls ≠ "java/lang/invoke/VarHandle" ∧ (parseMethodDescriptor y_M_isLong.desc).map (fun d => d.parameters.length) = some 1 := by decide +kernel
theorem hv_M_find : y_M_find.cls = "StepMachineModel" ∧ y_M_find.cls ≠ "java/lang/invoke/MethodHandle" ∧ y_M_find.cls ≠ "java/lang/invoke/VarHandle" ∧ (parseMethodDescriptor y_M_find.desc).map (fun d => d.parameters.length) = some 1 := by decide +kernel
theorem hs_M_longKind : y_M_longKind.cls ≠ "java/lang/invoke/MethodHandle" ∧ y_M_longKind.cls ≠ "java/lang/invoke/VarHandle" ∧ (parseMethodDescriptor y_M_longKind.desc).map (fun d => d.parameters.length) = some 1 := by decide +kernel
theorem hv_M_stretch : y_M_stretch.cls = "StepMachineModel" ∧ y_M_stretch.cls ≠ "java/lang/invoke/MethodHandle" ∧ y_M_stretch.cls ≠ "java/lang/invoke/VarHandle" ∧ (parseMethodDescriptor y_M_stretch.desc).map (fun d => d.parameters.length) = some 1 := by decide +kernel
theorem hv_M_forget : y_M_forget.cls = "StepMachineModel" ∧ y_M_forget.cls ≠ "java/lang/invoke/MethodHandle" ∧ y_M_forget.cls ≠ "java/lang/invoke/VarHandle" ∧ (parseMethodDescriptor y_M_forget.desc).map (fun d => d.parameters.length) = some 0 := by decide +kernel
theorem hv_M_segment : y_M_segment.cls = "StepMachineModel" ∧ y_M_segment.cls ≠ "java/lang/invoke/MethodHandle" ∧ y_M_segment.cls ≠ "java/lang/invoke/VarHandle" ∧ (parseMethodDescriptor y_M_segment.desc).map (fun d => d.parameters.length) = some 4 := by decide +kernel
theorem hv_M_mark : y_M_mark.cls = "StepMachineModel" ∧ y_M_mark.cls ≠ "java/lang/invoke/MethodHandle" ∧ y_M_mark.cls ≠ "java/lang/invoke/VarHandle" ∧ (parseMethodDescriptor y_M_mark.desc).map (fun d => d.parameters.length) = some 2 := by decide +kernel
theorem hv_M_marking : y_M_marking.cls = "StepMachineModel" ∧ y_M_marking.cls ≠ "java/lang/invoke/MethodHandle" ∧ y_M_marking.cls ≠ "java/lang/invoke/VarHandle" ∧ (parseMethodDescriptor y_M_marking.desc).map (fun d => d.parameters.length) = some 1 := by decide +kernel
theorem hv_M_poke : y_M_poke.cls = "StepMachineModel" ∧ y_M_poke.cls ≠ "java/lang/invoke/MethodHandle" ∧ y_M_poke.cls ≠ "java/lang/invoke/VarHandle" ∧ (parseMethodDescriptor y_M_poke.desc).map (fun d => d.parameters.length) = some 3 := by decide +kernel
theorem hv_M_peek : y_M_peek.cls = "StepMachineModel" ∧ y_M_peek.cls ≠ "java/lang/invoke/MethodHandle" ∧ y_M_peek.cls ≠ "java/lang/invoke/VarHandle" ∧ (parseMethodDescriptor y_M_peek.desc).map (fun d => d.parameters.length) = some 1 := by decide +kernel
theorem hv_M_set : y_M_set.cls = "StepMachineModel" ∧ y_M_set.cls ≠ "java/lang/invoke/MethodHandle" ∧ y_M_set.cls ≠ "java/lang/invoke/VarHandle" ∧ (parseMethodDescriptor y_M_set.desc).map (fun d => d.parameters.length) = some 2 := by decide +kernel
theorem hv_M_get : y_M_get.cls = "StepMachineModel" ∧ y_M_get.cls ≠ "java/lang/invoke/MethodHandle" ∧ y_M_get.cls ≠ "java/lang/invoke/VarHandle" ∧ (parseMethodDescriptor y_M_get.desc).map (fun d => d.parameters.length) = some 1 := by decide +kernel
theorem hv_M_input : y_M_input.cls = "StepMachineModel" ∧ y_M_input.cls ≠ "java/lang/invoke/MethodHandle" ∧ y_M_input.cls ≠ "java/lang/invoke/VarHandle" ∧ (parseMethodDescriptor y_M_input.desc).map (fun d => d.parameters.length) = some 2 := by decide +kernel
theorem hv_M_haltAt : y_M_haltAt.cls = "StepMachineModel" ∧ y_M_haltAt.cls ≠ "java/lang/invoke/MethodHandle" ∧ y_M_haltAt.cls ≠ "java/lang/invoke/VarHandle" ∧ (parseMethodDescriptor y_M_haltAt.desc).map (fun d => d.parameters.length) = some 1 := by decide +kernel
theorem hv_M_halt : y_M_halt.cls = "StepMachineModel" ∧ y_M_halt.cls ≠ "java/lang/invoke/MethodHandle" ∧ y_M_halt.cls ≠ "java/lang/invoke/VarHandle" ∧ (parseMethodDescriptor y_M_halt.desc).map (fun d => d.parameters.length) = some 2 := by decide +kernel
theorem hv_M_rightsOf : y_M_rightsOf.cls = "StepMachineModel" ∧ y_M_rightsOf.cls ≠ "java/lang/invoke/MethodHandle" ∧ y_M_rightsOf.cls ≠ "java/lang/invoke/VarHandle" ∧ (parseMethodDescriptor y_M_rightsOf.desc).map (fun d => d.parameters.length) = some 1 := by decide +kernel
theorem hv_M_isMarked : y_M_isMarked.cls = "StepMachineModel" ∧ y_M_isMarked.cls ≠ "java/lang/invoke/MethodHandle" ∧ y_M_isMarked.cls ≠ "java/lang/invoke/VarHandle" ∧ (parseMethodDescriptor y_M_isMarked.desc).map (fun d => d.parameters.length) = some 1 := by decide +kernel
theorem hs_M_bare : y_M_bare.cls ≠ "java/lang/invoke/MethodHandle" ∧ y_M_bare.cls ≠ "java/lang/invoke/VarHandle" ∧ (parseMethodDescriptor y_M_bare.desc).map (fun d => d.parameters.length) = some 1 := by decide +kernel
theorem hv_M_fail : y_M_fail.cls = "StepMachineModel" ∧ y_M_fail.cls ≠ "java/lang/invoke/MethodHandle" ∧ y_M_fail.cls ≠ "java/lang/invoke/VarHandle" ∧ (parseMethodDescriptor y_M_fail.desc).map (fun d => d.parameters.length) = some 2 := by decide +kernel
theorem hv_M_without : y_M_without.cls = "StepMachineModel" ∧ y_M_without.cls ≠ "java/lang/invoke/MethodHandle" ∧ y_M_without.cls ≠ "java/lang/invoke/VarHandle" ∧ (parseMethodDescriptor y_M_without.desc).map (fun d => d.parameters.length) = some 3 := by decide +kernel
theorem hv_M_fetched : y_M_fetched.cls = "StepMachineModel" ∧ y_M_fetched.cls ≠ "java/lang/invoke/MethodHandle" ∧ y_M_fetched.cls ≠ "java/lang/invoke/VarHandle" ∧ (parseMethodDescriptor y_M_fetched.desc).map (fun d => d.parameters.length) = some 2 := by decide +kernel
theorem hv_M_isFetched : y_M_isFetched.cls = "StepMachineModel" ∧ y_M_isFetched.cls ≠ "java/lang/invoke/MethodHandle" ∧ y_M_isFetched.cls ≠ "java/lang/invoke/VarHandle" ∧ (parseMethodDescriptor y_M_isFetched.desc).map (fun d => d.parameters.length) = some 0 := by decide +kernel
theorem hv_M_widthOf : y_M_widthOf.cls = "StepMachineModel" ∧ y_M_widthOf.cls ≠ "java/lang/invoke/MethodHandle" ∧ y_M_widthOf.cls ≠ "java/lang/invoke/VarHandle" ∧ (parseMethodDescriptor y_M_widthOf.desc).map (fun d => d.parameters.length) = some 1 := by decide +kernel
theorem hv_M_canReach : y_M_canReach.cls = "StepMachineModel" ∧ y_M_canReach.cls ≠ "java/lang/invoke/MethodHandle" ∧ y_M_canReach.cls ≠ "java/lang/invoke/VarHandle" ∧ (parseMethodDescriptor y_M_canReach.desc).map (fun d => d.parameters.length) = some 0 := by decide +kernel
theorem hv_M_keep : y_M_keep.cls = "StepMachineModel" ∧ y_M_keep.cls ≠ "java/lang/invoke/MethodHandle" ∧ y_M_keep.cls ≠ "java/lang/invoke/VarHandle" ∧ (parseMethodDescriptor y_M_keep.desc).map (fun d => d.parameters.length) = some 0 := by decide +kernel
theorem hv_M_latest : y_M_latest.cls = "StepMachineModel" ∧ y_M_latest.cls ≠ "java/lang/invoke/MethodHandle" ∧ y_M_latest.cls ≠ "java/lang/invoke/VarHandle" ∧ (parseMethodDescriptor y_M_latest.desc).map (fun d => d.parameters.length) = some 0 := by decide +kernel
theorem hv_M_become : y_M_become.cls = "StepMachineModel" ∧ y_M_become.cls ≠ "java/lang/invoke/MethodHandle" ∧ y_M_become.cls ≠ "java/lang/invoke/VarHandle" ∧ (parseMethodDescriptor y_M_become.desc).map (fun d => d.parameters.length) = some 2 := by decide +kernel
theorem hv_M_store : y_M_store.cls = "StepMachineModel" ∧ y_M_store.cls ≠ "java/lang/invoke/MethodHandle" ∧ y_M_store.cls ≠ "java/lang/invoke/VarHandle" ∧ (parseMethodDescriptor y_M_store.desc).map (fun d => d.parameters.length) = some 3 := by decide +kernel
theorem hv_M_loaded : y_M_loaded.cls = "StepMachineModel" ∧ y_M_loaded.cls ≠ "java/lang/invoke/MethodHandle" ∧ y_M_loaded.cls ≠ "java/lang/invoke/VarHandle" ∧ (parseMethodDescriptor y_M_loaded.desc).map (fun d => d.parameters.length) = some 1 := by decide +kernel
theorem hs_M_truth : y_M_truth.cls ≠ "java/lang/invoke/MethodHandle" ∧ y_M_truth.cls ≠ "java/lang/invoke/VarHandle" ∧ (parseMethodDescriptor y_M_truth.desc).map (fun d => d.parameters.length) = some 1 := by decide +kernel
theorem hs_M_reckoned : y_M_reckoned.cls ≠ "java/lang/invoke/MethodHandle" ∧ y_M_reckoned.cls ≠ "java/lang/invoke/VarHandle" ∧ (parseMethodDescriptor y_M_reckoned.desc).map (fun d => d.parameters.length) = some 3 := by decide +kernel
theorem hs_M_multiplied : y_M_multiplied.cls ≠ "java/lang/invoke/MethodHandle" ∧ y_M_multiplied.cls ≠ "java/lang/invoke/VarHandle" ∧ (parseMethodDescriptor y_M_multiplied.desc).map (fun d => d.parameters.length) = some 3 := by decide +kernel
theorem hs_M_branches : y_M_branches.cls ≠ "java/lang/invoke/MethodHandle" ∧ y_M_branches.cls ≠ "java/lang/invoke/VarHandle" ∧ (parseMethodDescriptor y_M_branches.desc).map (fun d => d.parameters.length) = some 3 := by decide +kernel
theorem hv_M_serve : y_M_serve.cls = "StepMachineModel" ∧ y_M_serve.cls ≠ "java/lang/invoke/MethodHandle" ∧ y_M_serve.cls ≠ "java/lang/invoke/VarHandle" ∧ (parseMethodDescriptor y_M_serve.desc).map (fun d => d.parameters.length) = some 0 := by decide +kernel
theorem hv_M_work : y_M_work.cls = "StepMachineModel" ∧ y_M_work.cls ≠ "java/lang/invoke/MethodHandle" ∧ y_M_work.cls ≠ "java/lang/invoke/VarHandle" ∧ (parseMethodDescriptor y_M_work.desc).map (fun d => d.parameters.length) = some 0 := by decide +kernel
theorem hv_M_isUnit : y_M_isUnit.cls = "StepMachineModel" ∧ y_M_isUnit.cls ≠ "java/lang/invoke/MethodHandle" ∧ y_M_isUnit.cls ≠ "java/lang/invoke/VarHandle" ∧ (parseMethodDescriptor y_M_isUnit.desc).map (fun d => d.parameters.length) = some 0 := by decide +kernel
theorem hv_M_isEnd : y_M_isEnd.cls = "StepMachineModel" ∧ y_M_isEnd.cls ≠ "java/lang/invoke/MethodHandle" ∧ y_M_isEnd.cls ≠ "java/lang/invoke/VarHandle" ∧ (parseMethodDescriptor y_M_isEnd.desc).map (fun d => d.parameters.length) = some 0 := by decide +kernel
theorem hv_M_step : y_M_step.cls = "StepMachineModel" ∧ y_M_step.cls ≠ "java/lang/invoke/MethodHandle" ∧ y_M_step.cls ≠ "java/lang/invoke/VarHandle" ∧ (parseMethodDescriptor y_M_step.desc).map (fun d => d.parameters.length) = some 0 := by decide +kernel
theorem hv_M_run : y_M_run.cls = "StepMachineModel" ∧ y_M_run.cls ≠ "java/lang/invoke/MethodHandle" ∧ y_M_run.cls ≠ "java/lang/invoke/VarHandle" ∧ (parseMethodDescriptor y_M_run.desc).map (fun d => d.parameters.length) = some 1 := by decide +kernel
theorem hv_M_back : y_M_back.cls = "StepMachineModel" ∧ y_M_back.cls ≠ "java/lang/invoke/MethodHandle" ∧ y_M_back.cls ≠ "java/lang/invoke/VarHandle" ∧ (parseMethodDescriptor y_M_back.desc).map (fun d => d.parameters.length) = some 1 := by decide +kernel
theorem hv_M_state : y_M_state.cls = "StepMachineModel" ∧ y_M_state.cls ≠ "java/lang/invoke/MethodHandle" ∧ y_M_state.cls ≠ "java/lang/invoke/VarHandle" ∧ (parseMethodDescriptor y_M_state.desc).map (fun d => d.parameters.length) = some 1 := by decide +kernel
theorem hv_M_output : y_M_output.cls = "StepMachineModel" ∧ y_M_output.cls ≠ "java/lang/invoke/MethodHandle" ∧ y_M_output.cls ≠ "java/lang/invoke/VarHandle" ∧ (parseMethodDescriptor y_M_output.desc).map (fun d => d.parameters.length) = some 1 := by decide +kernel
theorem hv_M_rights : y_M_rights.cls = "StepMachineModel" ∧ y_M_rights.cls ≠ "java/lang/invoke/MethodHandle" ∧ y_M_rights.cls ≠ "java/lang/invoke/VarHandle" ∧ (parseMethodDescriptor y_M_rights.desc).map (fun d => d.parameters.length) = some 1 := by decide +kernel
theorem hs_Math_floorMod : y_Math_floorMod.cls ≠ "java/lang/invoke/MethodHandle" ∧ y_Math_floorMod.cls ≠ "java/lang/invoke/VarHandle" ∧ (parseMethodDescriptor y_Math_floorMod.desc).map (fun d => d.parameters.length) = some 2 := by decide +kernel
