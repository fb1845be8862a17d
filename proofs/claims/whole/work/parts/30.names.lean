/-! NAMES, by program (wip/whole/prog): the kinds of objects, their fields, the methods. -/
def kT0 : u_T := fun k => match k with
  | 0 => ("TwinEntry", "calculator", "LTwinEntry$Calculator;", true)
  | 1 => ("TwinEntry", "program", "LTwinEntry$Program;", true)
  | 2 => ("TwinEntry", "solver", "LTwinEntry$Solver;", true)
  | 3 => ("TwinEntry", "history", "LTwinEntry$History;", true)
  | 4 => ("TwinEntry", "line", "LTwinEntry$Line;", true)
  | 5 => ("TwinEntry", "translator", "LTwinEntry$Translator;", true)
  | _ => ("TwinEntry", "running", "I", false)
def kF0 : Nat → FieldType := fun k => match k with
  | 0 => .object "TwinEntry$Calculator"
  | 1 => .object "TwinEntry$Program"
  | 2 => .object "TwinEntry$Solver"
  | 3 => .object "TwinEntry$History"
  | 4 => .object "TwinEntry$Line"
  | 5 => .object "TwinEntry$Translator"
  | _ => .int
def kT1 : u_T := fun k => match k with
  | 0 => ("TwinEntry$Calculator", "desk", "LTwinEntry$Desk;", true)
  | 1 => ("TwinEntry$Calculator", "arithmetic", "LTwinEntry$Arithmetic;", true)
  | 2 => ("TwinEntry$Calculator", "model", "I", false)
  | 3 => ("TwinEntry$Calculator", "fault", "I", false)
  | 4 => ("TwinEntry$Calculator", "outcome", "LTwinEntry$Decimal;", true)
  | 5 => ("TwinEntry$Calculator", "one", "LTwinEntry$Decimal;", true)
  | _ => ("TwinEntry$Calculator", "trial", "LTwinEntry$Entry;", true)
def kF1 : Nat → FieldType := fun k => match k with
  | 0 => .object "TwinEntry$Desk"
  | 1 => .object "TwinEntry$Arithmetic"
  | 2 => .int
  | 3 => .int
  | 4 => .object "TwinEntry$Decimal"
  | 5 => .object "TwinEntry$Decimal"
  | _ => .object "TwinEntry$Entry"
def kT2 : u_T := fun k => match k with
  | 0 => ("TwinEntry$Desk", "numbers", "[LTwinEntry$Decimal;", true)
  | 1 => ("TwinEntry$Desk", "x", "LTwinEntry$Decimal;", true)
  | 2 => ("TwinEntry$Desk", "y", "LTwinEntry$Decimal;", true)
  | 3 => ("TwinEntry$Desk", "z", "LTwinEntry$Decimal;", true)
  | 4 => ("TwinEntry$Desk", "t", "LTwinEntry$Decimal;", true)
  | 5 => ("TwinEntry$Desk", "last", "LTwinEntry$Decimal;", true)
  | 6 => ("TwinEntry$Desk", "rowNumbers", "[LTwinEntry$Decimal;", true)
  | 7 => ("TwinEntry$Desk", "row", "LTwinEntry$Row;", true)
  | 8 => ("TwinEntry$Desk", "entry", "LTwinEntry$Entry;", true)
  | _ => ("TwinEntry$Desk", "lift", "Z", false)
def kF2 : Nat → FieldType := fun k => match k with
  | 0 => .array (.object "TwinEntry$Decimal")
  | 1 => .object "TwinEntry$Decimal"
  | 2 => .object "TwinEntry$Decimal"
  | 3 => .object "TwinEntry$Decimal"
  | 4 => .object "TwinEntry$Decimal"
  | 5 => .object "TwinEntry$Decimal"
  | 6 => .array (.object "TwinEntry$Decimal")
  | 7 => .object "TwinEntry$Row"
  | 8 => .object "TwinEntry$Entry"
  | _ => .boolean
def kT3 : u_T := fun k => match k with
  | 0 => ("TwinEntry$Row", "things", "[I", true)
  | 1 => ("TwinEntry$Row", "size", "I", false)
  | _ => ("TwinEntry$Row", "place", "I", false)
def kF3 : Nat → FieldType := fun k => match k with
  | 0 => .array .int
  | 1 => .int
  | _ => .int
def kT4 : u_T := fun k => match k with
  | 0 => ("TwinEntry$Entry", "open", "Z", false)
  | 1 => ("TwinEntry$Entry", "minus", "Z", false)
  | 2 => ("TwinEntry$Entry", "row", "J", false)
  | 3 => ("TwinEntry$Entry", "length", "I", false)
  | 4 => ("TwinEntry$Entry", "point", "I", false)
  | 5 => ("TwinEntry$Entry", "hasPart", "Z", false)
  | 6 => ("TwinEntry$Entry", "partMinus", "Z", false)
  | 7 => ("TwinEntry$Entry", "part", "I", false)
  | _ => ("TwinEntry$Entry", "partLength", "I", false)
def kF4 : Nat → FieldType := fun k => match k with
  | 0 => .boolean
  | 1 => .boolean
  | 2 => .long
  | 3 => .int
  | 4 => .int
  | 5 => .boolean
  | 6 => .boolean
  | 7 => .int
  | _ => .int
def kT5 : u_T := fun k => match k with
  | 0 => ("TwinEntry$Decimal", "signed", "J", false)
  | _ => ("TwinEntry$Decimal", "power", "I", false)
def kF5 : Nat → FieldType := fun k => match k with
  | 0 => .long
  | _ => .int
def kT6 : u_T := fun k => match k with
  | 0 => ("TwinEntry$Arithmetic", "minus", "Z", false)
  | 1 => ("TwinEntry$Arithmetic", "whole", "J", false)
  | 2 => ("TwinEntry$Arithmetic", "more", "Z", false)
  | _ => ("TwinEntry$Arithmetic", "unit", "I", false)
def kF6 : Nat → FieldType := fun k => match k with
  | 0 => .boolean
  | 1 => .long
  | 2 => .boolean
  | _ => .int
def kT7 : u_T := fun k => match k with
  | 0 => ("TwinEntry$Program", "codes", "[I", true)
  | 1 => ("TwinEntry$Program", "place", "I", false)
  | 2 => ("TwinEntry$Program", "callsUnderWay", "I", false)
  | _ => ("TwinEntry$Program", "calls", "[I", true)
def kF7 : Nat → FieldType := fun k => match k with
  | 0 => .array .int
  | 1 => .int
  | 2 => .int
  | _ => .array .int
def kT8 : u_T := fun k => match k with
  | 0 => ("TwinEntry$Solver", "taken", "I", false)
  | 1 => ("TwinEntry$Solver", "start", "I", false)
  | 2 => ("TwinEntry$Solver", "a", "LTwinEntry$Decimal;", true)
  | 3 => ("TwinEntry$Solver", "b", "LTwinEntry$Decimal;", true)
  | 4 => ("TwinEntry$Solver", "valueOfA", "LTwinEntry$Decimal;", true)
  | 5 => ("TwinEntry$Solver", "valueOfB", "LTwinEntry$Decimal;", true)
  | 6 => ("TwinEntry$Solver", "current", "LTwinEntry$Decimal;", true)
  | 7 => ("TwinEntry$Solver", "value", "LTwinEntry$Decimal;", true)
  | 8 => ("TwinEntry$Solver", "middle", "LTwinEntry$Decimal;", true)
  | _ => ("TwinEntry$Solver", "two", "LTwinEntry$Decimal;", true)
def kF8 : Nat → FieldType := fun k => match k with
  | 0 => .int
  | 1 => .int
  | 2 => .object "TwinEntry$Decimal"
  | 3 => .object "TwinEntry$Decimal"
  | 4 => .object "TwinEntry$Decimal"
  | 5 => .object "TwinEntry$Decimal"
  | 6 => .object "TwinEntry$Decimal"
  | 7 => .object "TwinEntry$Decimal"
  | 8 => .object "TwinEntry$Decimal"
  | _ => .object "TwinEntry$Decimal"
def kT9 : u_T := fun k => match k with
  | 0 => ("TwinEntry$History", "kept", "I", false)
  | 1 => ("TwinEntry$History", "ring", "[LTwinEntry$Desk;", true)
  | _ => ("TwinEntry$History", "next", "I", false)
def kF9 : Nat → FieldType := fun k => match k with
  | 0 => .int
  | 1 => .array (.object "TwinEntry$Desk")
  | _ => .int
def kT10 : u_T := fun k => match k with
  | 0 => ("TwinEntry$Line", "scientific", "Z", false)
  | 1 => ("TwinEntry$Line", "behindPoint", "I", false)
  | 2 => ("TwinEntry$Line", "characters", "[I", true)
  | _ => ("TwinEntry$Line", "length", "I", false)
def kF10 : Nat → FieldType := fun k => match k with
  | 0 => .boolean
  | 1 => .int
  | 2 => .array .int
  | _ => .int
def kT11 : u_T := fun k => match k with
  | 0 => ("TwinEntry$Translator", "outKeys", "[I", true)
  | 1 => ("TwinEntry$Translator", "outLength", "I", false)
  | 2 => ("TwinEntry$Translator", "textLength", "I", false)
  | 3 => ("TwinEntry$Translator", "text", "[I", true)
  | 4 => ("TwinEntry$Translator", "row", "LTwinEntry$Row;", true)
  | 5 => ("TwinEntry$Translator", "hasEntry", "Z", false)
  | _ => ("TwinEntry$Translator", "lastIsEntryKey", "Z", false)
def kF11 : Nat → FieldType := fun k => match k with
  | 0 => .array .int
  | 1 => .int
  | 2 => .int
  | 3 => .array .int
  | 4 => .object "TwinEntry$Row"
  | 5 => .boolean
  | _ => .boolean
def kT12 : u_T := fun k => match k with
  | 0 => ("TwinEntryModel", "thrown", "I", false)
  | 1 => ("TwinEntryModel", "cell", "[I", true)
  | 2 => ("TwinEntryModel", "digit", "[J", true)
  | 3 => ("TwinEntryModel", "kept", "I", false)
  | 4 => ("TwinEntryModel", "model", "I", false)
  | 5 => ("TwinEntryModel", "fault", "I", false)
  | 6 => ("TwinEntryModel", "codes", "[I", true)
  | 7 => ("TwinEntryModel", "calls", "[I", true)
  | 8 => ("TwinEntryModel", "calling", "I", false)
  | 9 => ("TwinEntryModel", "runs", "I", false)
  | 10 => ("TwinEntryModel", "at", "I", false)
  | 11 => ("TwinEntryModel", "label", "I", false)
  | 12 => ("TwinEntryModel", "phase", "I", false)
  | 13 => ("TwinEntryModel", "values", "I", false)
  | 14 => ("TwinEntryModel", "solveSign", "[I", true)
  | 15 => ("TwinEntryModel", "solveDigits", "[J", true)
  | 16 => ("TwinEntryModel", "solveExponent", "[I", true)
  | 17 => ("TwinEntryModel", "kind", "I", false)
  | 18 => ("TwinEntryModel", "places", "I", false)
  | 19 => ("TwinEntryModel", "line", "[I", true)
  | 20 => ("TwinEntryModel", "filled", "I", false)
  | 21 => ("TwinEntryModel", "text", "[I", true)
  | 22 => ("TwinEntryModel", "typed", "I", false)
  | 23 => ("TwinEntryModel", "made", "[I", true)
  | 24 => ("TwinEntryModel", "out", "I", false)
  | 25 => ("TwinEntryModel", "things", "[I", true)
  | 26 => ("TwinEntryModel", "count", "I", false)
  | 27 => ("TwinEntryModel", "lastIsEntry", "Z", false)
  | 28 => ("TwinEntryModel", "row", "[I", true)
  | 29 => ("TwinEntryModel", "sign", "I", false)
  | 30 => ("TwinEntryModel", "number", "J", false)
  | 31 => ("TwinEntryModel", "power", "I", false)
  | 32 => ("TwinEntryModel", "where", "I", false)
  | _ => ("TwinEntryModel", "entering", "Z", false)
def kF12 : Nat → FieldType := fun k => match k with
  | 0 => .int
  | 1 => .array .int
  | 2 => .array .long
  | 3 => .int
  | 4 => .int
  | 5 => .int
  | 6 => .array .int
  | 7 => .array .int
  | 8 => .int
  | 9 => .int
  | 10 => .int
  | 11 => .int
  | 12 => .int
  | 13 => .int
  | 14 => .array .int
  | 15 => .array .long
  | 16 => .array .int
  | 17 => .int
  | 18 => .int
  | 19 => .array .int
  | 20 => .int
  | 21 => .array .int
  | 22 => .int
  | 23 => .array .int
  | 24 => .int
  | 25 => .array .int
  | 26 => .int
  | 27 => .boolean
  | 28 => .array .int
  | 29 => .int
  | 30 => .long
  | 31 => .int
  | 32 => .int
  | _ => .boolean
abbrev xcl : List vw_C := [("TwinEntry", kT0, 7), ("TwinEntry$Calculator", kT1, 7), ("TwinEntry$Desk", kT2, 10), ("TwinEntry$Row", kT3, 3), ("TwinEntry$Entry", kT4, 9), ("TwinEntry$Decimal", kT5, 2), ("TwinEntry$Arithmetic", kT6, 4), ("TwinEntry$Program", kT7, 4), ("TwinEntry$Solver", kT8, 10), ("TwinEntry$History", kT9, 3), ("TwinEntry$Line", kT10, 4), ("TwinEntry$Translator", kT11, 7), ("TwinEntryModel", kT12, 34)]
def xfts : Nat → Nat → FieldType := fun ci => match ci with
  | 0 => kF0
  | 1 => kF1
  | 2 => kF2
  | 3 => kF3
  | 4 => kF4
  | 5 => kF5
  | 6 => kF6
  | 7 => kF7
  | 8 => kF8
  | 9 => kF9
  | 10 => kF10
  | 11 => kF11
  | _ => kF12
abbrev xsT : String × String × String := ("TwinEntry", "TENS", "[J")
/-- 0: TwinEntry.<init>()V -/
def mi0 : xMi := (⟨"TwinEntry", "<init>", "()V"⟩, prog_1_method_1_code, 1, none, 4, 82, 1, 0)
/-- 1: TwinEntry.model(I)V -/
def mi1 : xMi := (⟨"TwinEntry", "model", "(I)V"⟩, prog_1_method_2_code, 2, none, 6, 83, 2, 1)
/-- 2: TwinEntry.press(J)I -/
def mi2 : xMi := (⟨"TwinEntry", "press", "(J)I"⟩, prog_1_method_3_code, 6, (some .int), 6, 157, 2, 1)
/-- 3: TwinEntry.run(I)I -/
def mi3 : xMi := (⟨"TwinEntry", "run", "(I)I"⟩, prog_1_method_4_code, 4, (some .int), 6, 157, 2, 1)
/-- 4: TwinEntry.stop()Z -/
def mi4 : xMi := (⟨"TwinEntry", "stop", "()Z"⟩, prog_1_method_5_code, 2, (some .boolean), 2, 44, 2, 0)
/-- 5: TwinEntry.solve(I)I -/
def mi5 : xMi := (⟨"TwinEntry", "solve", "(I)I"⟩, prog_1_method_6_code, 3, (some .int), 6, 88, 2, 1)
/-- 6: TwinEntry.shown(I)J -/
def mi6 : xMi := (⟨"TwinEntry", "shown", "(I)J"⟩, prog_1_method_7_code, 3, (some .long), 6, 118, 2, 1)
/-- 7: TwinEntry.digits(I)J -/
def mi7 : xMi := (⟨"TwinEntry", "digits", "(I)J"⟩, prog_1_method_8_code, 2, (some .long), 6, 83, 2, 1)
/-- 8: TwinEntry.exponent(I)I -/
def mi8 : xMi := (⟨"TwinEntry", "exponent", "(I)I"⟩, prog_1_method_9_code, 2, (some .int), 6, 83, 2, 1)
/-- 9: TwinEntry.mode(II)V -/
def mi9 : xMi := (⟨"TwinEntry", "mode", "(II)V"⟩, prog_1_method_10_code, 3, none, 6, 83, 2, 2)
/-- 10: TwinEntry.store(IJ)V -/
def mi10 : xMi := (⟨"TwinEntry", "store", "(IJ)V"⟩, prog_1_method_11_code, 5, none, 6, 83, 2, 2)
/-- 11: TwinEntry.code(I)I -/
def mi11 : xMi := (⟨"TwinEntry", "code", "(I)I"⟩, prog_1_method_12_code, 2, (some .int), 6, 83, 2, 1)
/-- 12: TwinEntry.type(J)I -/
def mi12 : xMi := (⟨"TwinEntry", "type", "(J)I"⟩, prog_1_method_13_code, 3, (some .int), 2, 47, 2, 1)
/-- 13: TwinEntry.wipe()I -/
def mi13 : xMi := (⟨"TwinEntry", "wipe", "()I"⟩, prog_1_method_14_code, 2, (some .int), 0, 0, 2, 0)
/-- 14: TwinEntry.translate()I -/
def mi14 : xMi := (⟨"TwinEntry", "translate", "()I"⟩, prog_1_method_15_code, 1, (some .int), 6, 141, 2, 0)
/-- 15: TwinEntry.out(I)I -/
def mi15 : xMi := (⟨"TwinEntry", "out", "(I)I"⟩, prog_1_method_16_code, 2, (some .int), 6, 83, 2, 1)
/-- 16: TwinEntry.undo()Z -/
def mi16 : xMi := (⟨"TwinEntry", "undo", "()Z"⟩, prog_1_method_17_code, 1, (some .boolean), 6, 83, 2, 0)
/-- 17: TwinEntry.state(I)I -/
def mi17 : xMi := (⟨"TwinEntry", "state", "(I)I"⟩, prog_1_method_18_code, 3, (some .int), 1, 27, 2, 1)
/-- 18: TwinEntry.pressOne(I)I -/
def mi18 : xMi := (⟨"TwinEntry", "pressOne", "(I)I"⟩, prog_1_method_19_code, 4, (some .int), 5, 134, 2, 1)
/-- 19: TwinEntry.startProgram(I)I -/
def mi19 : xMi := (⟨"TwinEntry", "startProgram", "(I)I"⟩, prog_1_method_20_code, 3, (some .int), 1, 22, 2, 1)
/-- 20: TwinEntry.endProgram(I)V -/
def mi20 : xMi := (⟨"TwinEntry", "endProgram", "(I)V"⟩, prog_1_method_21_code, 2, none, 0, 0, 2, 1)
/-- 21: TwinEntry.endValue(I)V -/
def mi21 : xMi := (⟨"TwinEntry", "endValue", "(I)V"⟩, prog_1_method_22_code, 3, none, 5, 134, 2, 1)
/-- 22: TwinEntry.byteOf(JI)I -/
def mi22 : xMi := (⟨"TwinEntry", "byteOf", "(JI)I"⟩, prog_1_method_23_code, 3, (some .int), 0, 0, 0, 2)
/-- 23: TwinEntry.isDigit(I)Z -/
def mi23 : xMi := (⟨"TwinEntry", "isDigit", "(I)Z"⟩, prog_1_method_24_code, 1, (some .boolean), 0, 0, 0, 1)
/-- 24: TwinEntry.beginsEntry(I)Z -/
def mi24 : xMi := (⟨"TwinEntry", "beginsEntry", "(I)Z"⟩, prog_1_method_25_code, 1, (some .boolean), 1, 20, 0, 1)
/-- 25: TwinEntry.isOperation(I)Z -/
def mi25 : xMi := (⟨"TwinEntry", "isOperation", "(I)Z"⟩, prog_1_method_26_code, 1, (some .boolean), 0, 0, 0, 1)
/-- 26: TwinEntry.isFunction(I)Z -/
def mi26 : xMi := (⟨"TwinEntry", "isFunction", "(I)Z"⟩, prog_1_method_27_code, 1, (some .boolean), 0, 0, 0, 1)
/-- 27: TwinEntry.isRecall(I)Z -/
def mi27 : xMi := (⟨"TwinEntry", "isRecall", "(I)Z"⟩, prog_1_method_28_code, 1, (some .boolean), 0, 0, 0, 1)
/-- 28: TwinEntry.isRowKey(I)Z -/
def mi28 : xMi := (⟨"TwinEntry", "isRowKey", "(I)Z"⟩, prog_1_method_29_code, 1, (some .boolean), 1, 20, 0, 1)
/-- 29: TwinEntry.nearest(JJZ)J -/
def mi29 : xMi := (⟨"TwinEntry", "nearest", "(JJZ)J"⟩, prog_1_method_30_code, 11, (some .long), 0, 0, 0, 3)
/-- 30: TwinEntryModel.<init>()V -/
def mi30 : xMi := (⟨"TwinEntryModel", "<init>", "()V"⟩, prog_14_method_1_code, 1, none, 1, 20, 1, 0)
/-- 31: TwinEntryModel.thrown()I -/
def mi31 : xMi := (⟨"TwinEntryModel", "thrown", "()I"⟩, prog_14_method_2_code, 1, (some .int), 0, 0, 2, 0)
/-- 32: TwinEntryModel.set(IIJI)V -/
def mi32 : xMi := (⟨"TwinEntryModel", "set", "(IIJI)V"⟩, prog_14_method_3_code, 6, none, 0, 0, 2, 4)
/-- 33: TwinEntryModel.move(II)V -/
def mi33 : xMi := (⟨"TwinEntryModel", "move", "(II)V"⟩, prog_14_method_4_code, 3, none, 1, 25, 2, 2)
/-- 34: TwinEntryModel.clearRow()V -/
def mi34 : xMi := (⟨"TwinEntryModel", "clearRow", "()V"⟩, prog_14_method_5_code, 2, none, 0, 0, 2, 0)
/-- 35: TwinEntryModel.round(IIIZ)I -/
def mi35 : xMi := (⟨"TwinEntryModel", "round", "(IIIZ)I"⟩, prog_14_method_6_code, 11, (some .int), 0, 0, 2, 4)
/-- 36: TwinEntryModel.lay(JII)V -/
def mi36 : xMi := (⟨"TwinEntryModel", "lay", "(JII)V"⟩, prog_14_method_7_code, 8, none, 0, 0, 2, 3)
/-- 37: TwinEntryModel.compare(JIJI)I -/
def mi37 : xMi := (⟨"TwinEntryModel", "compare", "(JIJI)I"⟩, prog_14_method_8_code, 6, (some .int), 0, 0, 0, 4)
/-- 38: TwinEntryModel.add(IJIIJI)I -/
def mi38 : xMi := (⟨"TwinEntryModel", "add", "(IJIIJI)I"⟩, prog_14_method_9_code, 13, (some .int), 1, 30, 2, 6)
/-- 39: TwinEntryModel.multiply(IJIIJI)I -/
def mi39 : xMi := (⟨"TwinEntryModel", "multiply", "(IJIIJI)I"⟩, prog_14_method_10_code, 15, (some .int), 1, 30, 2, 6)
/-- 40: TwinEntryModel.divide(IJIIJI)I -/
def mi40 : xMi := (⟨"TwinEntryModel", "divide", "(IJIIJI)I"⟩, prog_14_method_11_code, 12, (some .int), 1, 30, 2, 6)
/-- 41: TwinEntryModel.root(IJI)I -/
def mi41 : xMi := (⟨"TwinEntryModel", "root", "(IJI)I"⟩, prog_14_method_12_code, 17, (some .int), 1, 30, 2, 3)
/-- 42: TwinEntryModel.work(III)I -/
def mi42 : xMi := (⟨"TwinEntryModel", "work", "(III)I"⟩, prog_14_method_13_code, 12, (some .int), 2, 64, 2, 3)
/-- 43: TwinEntryModel.put(II)I -/
def mi43 : xMi := (⟨"TwinEntryModel", "put", "(II)I"⟩, prog_14_method_14_code, 3, (some .int), 1, 25, 2, 2)
/-- 44: TwinEntryModel.copy(II)V -/
def mi44 : xMi := (⟨"TwinEntryModel", "copy", "(II)V"⟩, prog_14_method_15_code, 4, none, 0, 0, 2, 2)
/-- 45: TwinEntryModel.keep(I)V -/
def mi45 : xMi := (⟨"TwinEntryModel", "keep", "(I)V"⟩, prog_14_method_16_code, 3, none, 1, 23, 2, 1)
/-- 46: TwinEntryModel.isFigure(I)Z -/
def mi46 : xMi := (⟨"TwinEntryModel", "isFigure", "(I)Z"⟩, prog_14_method_17_code, 1, (some .boolean), 0, 0, 0, 1)
/-- 47: TwinEntryModel.begins(I)Z -/
def mi47 : xMi := (⟨"TwinEntryModel", "begins", "(I)Z"⟩, prog_14_method_18_code, 1, (some .boolean), 1, 20, 0, 1)
/-- 48: TwinEntryModel.hasPoint()Z -/
def mi48 : xMi := (⟨"TwinEntryModel", "hasPoint", "()Z"⟩, prog_14_method_19_code, 3, (some .boolean), 0, 0, 2, 0)
/-- 49: TwinEntryModel.figures()I -/
def mi49 : xMi := (⟨"TwinEntryModel", "figures", "()I"⟩, prog_14_method_20_code, 1, (some .int), 1, 22, 2, 0)
/-- 50: TwinEntryModel.worth()I -/
def mi50 : xMi := (⟨"TwinEntryModel", "worth", "()I"⟩, prog_14_method_21_code, 5, (some .int), 1, 30, 2, 0)
/-- 51: TwinEntryModel.takesBack()Z -/
def mi51 : xMi := (⟨"TwinEntryModel", "takesBack", "()Z"⟩, prog_14_method_22_code, 1, (some .boolean), 0, 0, 2, 0)
/-- 52: TwinEntryModel.edit(I)V -/
def mi52 : xMi := (⟨"TwinEntryModel", "edit", "(I)V"⟩, prog_14_method_23_code, 3, none, 2, 42, 2, 1)
/-- 53: TwinEntryModel.entryKey(I)I -/
def mi53 : xMi := (⟨"TwinEntryModel", "entryKey", "(I)I"⟩, prog_14_method_24_code, 4, (some .int), 4, 87, 2, 1)
/-- 54: TwinEntryModel.end()V -/
def mi54 : xMi := (⟨"TwinEntryModel", "end", "()V"⟩, prog_14_method_25_code, 1, none, 0, 0, 2, 0)
/-- 55: TwinEntryModel.lift()V -/
def mi55 : xMi := (⟨"TwinEntryModel", "lift", "()V"⟩, prog_14_method_26_code, 1, none, 2, 47, 2, 0)
/-- 56: TwinEntryModel.push()V -/
def mi56 : xMi := (⟨"TwinEntryModel", "push", "()V"⟩, prog_14_method_27_code, 1, none, 3, 67, 2, 0)
/-- 57: TwinEntryModel.recall(I)V -/
def mi57 : xMi := (⟨"TwinEntryModel", "recall", "(I)V"⟩, prog_14_method_28_code, 2, none, 0, 0, 2, 1)
/-- 58: TwinEntryModel.single(I)I -/
def mi58 : xMi := (⟨"TwinEntryModel", "single", "(I)I"⟩, prog_14_method_29_code, 2, (some .int), 3, 95, 2, 1)
/-- 59: TwinEntryModel.isOperation(I)Z -/
def mi59 : xMi := (⟨"TwinEntryModel", "isOperation", "(I)Z"⟩, prog_14_method_30_code, 1, (some .boolean), 0, 0, 0, 1)
/-- 60: TwinEntryModel.isCommon(I)Z -/
def mi60 : xMi := (⟨"TwinEntryModel", "isCommon", "(I)Z"⟩, prog_14_method_31_code, 1, (some .boolean), 0, 0, 0, 1)
/-- 61: TwinEntryModel.key(I)I -/
def mi61 : xMi := (⟨"TwinEntryModel", "key", "(I)I"⟩, prog_14_method_32_code, 2, (some .int), 6, 162, 2, 1)
/-- 62: TwinEntryModel.common(I)I -/
def mi62 : xMi := (⟨"TwinEntryModel", "common", "(I)I"⟩, prog_14_method_33_code, 3, (some .int), 4, 116, 2, 1)
/-- 63: TwinEntryModel.stackKey(I)I -/
def mi63 : xMi := (⟨"TwinEntryModel", "stackKey", "(I)I"⟩, prog_14_method_34_code, 3, (some .int), 4, 95, 2, 1)
/-- 64: TwinEntryModel.close()I -/
def mi64 : xMi := (⟨"TwinEntryModel", "close", "()I"⟩, prog_14_method_35_code, 2, (some .int), 3, 95, 2, 0)
/-- 65: TwinEntryModel.tightness(I)I -/
def mi65 : xMi := (⟨"TwinEntryModel", "tightness", "(I)I"⟩, prog_14_method_36_code, 1, (some .int), 0, 0, 0, 1)
/-- 66: TwinEntryModel.formulaKey(I)I -/
def mi66 : xMi := (⟨"TwinEntryModel", "formulaKey", "(I)I"⟩, prog_14_method_37_code, 3, (some .int), 5, 140, 2, 1)
/-- 67: TwinEntryModel.closing(I)I -/
def mi67 : xMi := (⟨"TwinEntryModel", "closing", "(I)I"⟩, prog_14_method_38_code, 5, (some .int), 4, 116, 2, 1)
/-- 68: TwinEntryModel.labelAt(I)I -/
def mi68 : xMi := (⟨"TwinEntryModel", "labelAt", "(I)I"⟩, prog_14_method_39_code, 3, (some .int), 0, 0, 2, 1)
/-- 69: TwinEntryModel.start(I)V -/
def mi69 : xMi := (⟨"TwinEntryModel", "start", "(I)V"⟩, prog_14_method_40_code, 2, none, 1, 22, 2, 1)
/-- 70: TwinEntryModel.pressed(I)I -/
def mi70 : xMi := (⟨"TwinEntryModel", "pressed", "(I)I"⟩, prog_14_method_41_code, 2, (some .int), 7, 183, 2, 1)
/-- 71: TwinEntryModel.test(Z)V -/
def mi71 : xMi := (⟨"TwinEntryModel", "test", "(Z)V"⟩, prog_14_method_42_code, 2, none, 0, 0, 2, 1)
/-- 72: TwinEntryModel.go(I)I -/
def mi72 : xMi := (⟨"TwinEntryModel", "go", "(I)I"⟩, prog_14_method_43_code, 3, (some .int), 1, 22, 2, 1)
/-- 73: TwinEntryModel.deed(I)I -/
def mi73 : xMi := (⟨"TwinEntryModel", "deed", "(I)I"⟩, prog_14_method_44_code, 4, (some .int), 7, 183, 2, 1)
/-- 74: TwinEntryModel.step()V -/
def mi74 : xMi := (⟨"TwinEntryModel", "step", "()V"⟩, prog_14_method_45_code, 3, none, 8, 206, 2, 0)
/-- 75: TwinEntryModel.fail(I)V -/
def mi75 : xMi := (⟨"TwinEntryModel", "fail", "(I)V"⟩, prog_14_method_46_code, 2, none, 1, 23, 2, 1)
/-- 76: TwinEntryModel.note(II)V -/
def mi76 : xMi := (⟨"TwinEntryModel", "note", "(II)V"⟩, prog_14_method_47_code, 3, none, 0, 0, 2, 2)
/-- 77: TwinEntryModel.tell(II)V -/
def mi77 : xMi := (⟨"TwinEntryModel", "tell", "(II)V"⟩, prog_14_method_48_code, 3, none, 1, 25, 2, 2)
/-- 78: TwinEntryModel.take(I)V -/
def mi78 : xMi := (⟨"TwinEntryModel", "take", "(I)V"⟩, prog_14_method_49_code, 3, none, 2, 47, 2, 1)
/-- 79: TwinEntryModel.find(III)V -/
def mi79 : xMi := (⟨"TwinEntryModel", "find", "(III)V"⟩, prog_14_method_50_code, 4, none, 2, 47, 2, 3)
/-- 80: TwinEntryModel.isSame(II)Z -/
def mi80 : xMi := (⟨"TwinEntryModel", "isSame", "(II)Z"⟩, prog_14_method_51_code, 3, (some .boolean), 0, 0, 2, 2)
/-- 81: TwinEntryModel.halve()V -/
def mi81 : xMi := (⟨"TwinEntryModel", "halve", "()V"⟩, prog_14_method_52_code, 3, none, 3, 70, 2, 0)
/-- 82: TwinEntryModel.taken()V -/
def mi82 : xMi := (⟨"TwinEntryModel", "taken", "()V"⟩, prog_14_method_53_code, 2, none, 4, 92, 2, 0)
/-- 83: TwinEntryModel.model(I)V -/
def mi83 : xMi := (⟨"TwinEntryModel", "model", "(I)V"⟩, prog_14_method_54_code, 3, none, 1, 25, 2, 1)
/-- 84: TwinEntryModel.press(J)I -/
def mi84 : xMi := (⟨"TwinEntryModel", "press", "(J)I"⟩, prog_14_method_55_code, 6, (some .int), 8, 204, 2, 1)
/-- 85: TwinEntryModel.run(I)I -/
def mi85 : xMi := (⟨"TwinEntryModel", "run", "(I)I"⟩, prog_14_method_56_code, 3, (some .int), 9, 228, 2, 1)
/-- 86: TwinEntryModel.stop()Z -/
def mi86 : xMi := (⟨"TwinEntryModel", "stop", "()Z"⟩, prog_14_method_57_code, 1, (some .boolean), 1, 23, 2, 0)
/-- 87: TwinEntryModel.solve(I)I -/
def mi87 : xMi := (⟨"TwinEntryModel", "solve", "(I)I"⟩, prog_14_method_58_code, 2, (some .int), 3, 69, 2, 1)
/-- 88: TwinEntryModel.undo()Z -/
def mi88 : xMi := (⟨"TwinEntryModel", "undo", "()Z"⟩, prog_14_method_59_code, 1, (some .boolean), 1, 23, 2, 0)
/-- 89: TwinEntryModel.noNumber(I)Z -/
def mi89 : xMi := (⟨"TwinEntryModel", "noNumber", "(I)Z"⟩, prog_14_method_60_code, 1, (some .boolean), 0, 0, 0, 1)
/-- 90: TwinEntryModel.digits(I)J -/
def mi90 : xMi := (⟨"TwinEntryModel", "digits", "(I)J"⟩, prog_14_method_61_code, 2, (some .long), 1, 20, 2, 1)
/-- 91: TwinEntryModel.exponent(I)I -/
def mi91 : xMi := (⟨"TwinEntryModel", "exponent", "(I)I"⟩, prog_14_method_62_code, 2, (some .int), 1, 20, 2, 1)
/-- 92: TwinEntryModel.mode(II)V -/
def mi92 : xMi := (⟨"TwinEntryModel", "mode", "(II)V"⟩, prog_14_method_63_code, 3, none, 0, 0, 2, 2)
/-- 93: TwinEntryModel.store(IJ)V -/
def mi93 : xMi := (⟨"TwinEntryModel", "store", "(IJ)V"⟩, prog_14_method_64_code, 5, none, 0, 0, 2, 2)
/-- 94: TwinEntryModel.code(I)I -/
def mi94 : xMi := (⟨"TwinEntryModel", "code", "(I)I"⟩, prog_14_method_65_code, 2, (some .int), 0, 0, 2, 1)
/-- 95: TwinEntryModel.state(I)I -/
def mi95 : xMi := (⟨"TwinEntryModel", "state", "(I)I"⟩, prog_14_method_66_code, 2, (some .int), 0, 0, 2, 1)
/-- 96: TwinEntryModel.show(I)V -/
def mi96 : xMi := (⟨"TwinEntryModel", "show", "(I)V"⟩, prog_14_method_67_code, 2, none, 0, 0, 2, 1)
/-- 97: TwinEntryModel.showFigures(JI)V -/
def mi97 : xMi := (⟨"TwinEntryModel", "showFigures", "(JI)V"⟩, prog_14_method_68_code, 7, none, 1, 21, 2, 2)
/-- 98: TwinEntryModel.ten(I)J -/
def mi98 : xMi := (⟨"TwinEntryModel", "ten", "(I)J"⟩, prog_14_method_69_code, 4, (some .long), 0, 0, 0, 1)
/-- 99: TwinEntryModel.cut(JI)J -/
def mi99 : xMi := (⟨"TwinEntryModel", "cut", "(JI)J"⟩, prog_14_method_70_code, 9, (some .long), 1, 23, 0, 2)
/-- 100: TwinEntryModel.showScientific()V -/
def mi100 : xMi := (⟨"TwinEntryModel", "showScientific", "()V"⟩, prog_14_method_71_code, 5, none, 2, 51, 2, 0)
/-- 101: TwinEntryModel.showNumber()V -/
def mi101 : xMi := (⟨"TwinEntryModel", "showNumber", "()V"⟩, prog_14_method_72_code, 10, none, 3, 75, 2, 0)
/-- 102: TwinEntryModel.showEntry()V -/
def mi102 : xMi := (⟨"TwinEntryModel", "showEntry", "()V"⟩, prog_14_method_73_code, 2, none, 1, 21, 2, 0)
/-- 103: TwinEntryModel.shown(I)J -/
def mi103 : xMi := (⟨"TwinEntryModel", "shown", "(I)J"⟩, prog_14_method_74_code, 5, (some .long), 4, 104, 2, 1)
/-- 104: TwinEntryModel.type(J)I -/
def mi104 : xMi := (⟨"TwinEntryModel", "type", "(J)I"⟩, prog_14_method_75_code, 6, (some .int), 0, 0, 2, 1)
/-- 105: TwinEntryModel.wipe()I -/
def mi105 : xMi := (⟨"TwinEntryModel", "wipe", "()I"⟩, prog_14_method_76_code, 2, (some .int), 0, 0, 2, 0)
/-- 106: TwinEntryModel.bring(I)V -/
def mi106 : xMi := (⟨"TwinEntryModel", "bring", "(I)V"⟩, prog_14_method_77_code, 2, none, 0, 0, 2, 1)
/-- 107: TwinEntryModel.numbersInRow()I -/
def mi107 : xMi := (⟨"TwinEntryModel", "numbersInRow", "()I"⟩, prog_14_method_78_code, 3, (some .int), 0, 0, 2, 0)
/-- 108: TwinEntryModel.shut()V -/
def mi108 : xMi := (⟨"TwinEntryModel", "shut", "()V"⟩, prog_14_method_79_code, 1, none, 1, 21, 2, 0)
/-- 109: TwinEntryModel.fresh(I)I -/
def mi109 : xMi := (⟨"TwinEntryModel", "fresh", "(I)I"⟩, prog_14_method_80_code, 2, (some .int), 2, 40, 2, 1)
/-- 110: TwinEntryModel.bracket(I)I -/
def mi110 : xMi := (⟨"TwinEntryModel", "bracket", "(I)I"⟩, prog_14_method_81_code, 3, (some .int), 2, 41, 2, 1)
/-- 111: TwinEntryModel.operator(I)I -/
def mi111 : xMi := (⟨"TwinEntryModel", "operator", "(I)I"⟩, prog_14_method_82_code, 2, (some .int), 2, 41, 2, 1)
/-- 112: TwinEntryModel.translated(I)I -/
def mi112 : xMi := (⟨"TwinEntryModel", "translated", "(I)I"⟩, prog_14_method_83_code, 4, (some .int), 3, 63, 2, 1)
/-- 113: TwinEntryModel.translate()I -/
def mi113 : xMi := (⟨"TwinEntryModel", "translate", "()I"⟩, prog_14_method_84_code, 3, (some .int), 4, 86, 2, 0)
/-- 114: TwinEntryModel.out(I)I -/
def mi114 : xMi := (⟨"TwinEntryModel", "out", "(I)I"⟩, prog_14_method_85_code, 2, (some .int), 0, 0, 2, 1)
/-- 115: TwinEntry$Arithmetic.<init>()V -/
def mi115 : xMi := (⟨"TwinEntry$Arithmetic", "<init>", "()V"⟩, prog_2_method_1_code, 1, none, 1, 20, 1, 0)
/-- 116: TwinEntry$Arithmetic.combine(ILTwinEntry$Decimal;LTwinEntry$Decimal;LTwinEntry$Decimal;)I -/
def mi116 : xMi := (⟨"TwinEntry$Arithmetic", "combine", "(ILTwinEntry$Decimal;LTwinEntry$Decimal;LTwinEntry$Decimal;)I"⟩, prog_2_method_2_code, 5, (some .int), 2, 62, 2, 4)
/-- 117: TwinEntry$Arithmetic.root(LTwinEntry$Decimal;LTwinEntry$Decimal;)I -/
def mi117 : xMi := (⟨"TwinEntry$Arithmetic", "root", "(LTwinEntry$Decimal;LTwinEntry$Decimal;)I"⟩, prog_2_method_3_code, 6, (some .int), 2, 56, 2, 2)
/-- 118: TwinEntry$Arithmetic.read(LTwinEntry$Entry;LTwinEntry$Decimal;)I -/
def mi118 : xMi := (⟨"TwinEntry$Arithmetic", "read", "(LTwinEntry$Entry;LTwinEntry$Decimal;)I"⟩, prog_2_method_4_code, 4, (some .int), 2, 56, 2, 2)
/-- 119: TwinEntry$Arithmetic.add(LTwinEntry$Decimal;JI)V -/
def mi119 : xMi := (⟨"TwinEntry$Arithmetic", "add", "(LTwinEntry$Decimal;JI)V"⟩, prog_2_method_5_code, 16, none, 1, 27, 2, 3)
/-- 120: TwinEntry$Arithmetic.multiply(LTwinEntry$Decimal;LTwinEntry$Decimal;)V -/
def mi120 : xMi := (⟨"TwinEntry$Arithmetic", "multiply", "(LTwinEntry$Decimal;LTwinEntry$Decimal;)V"⟩, prog_2_method_6_code, 13, none, 1, 27, 2, 2)
/-- 121: TwinEntry$Arithmetic.divide(LTwinEntry$Decimal;LTwinEntry$Decimal;)V -/
def mi121 : xMi := (⟨"TwinEntry$Arithmetic", "divide", "(LTwinEntry$Decimal;LTwinEntry$Decimal;)V"⟩, prog_2_method_7_code, 8, none, 1, 27, 2, 2)
/-- 122: TwinEntry$Arithmetic.takeRoot(J)V -/
def mi122 : xMi := (⟨"TwinEntry$Arithmetic", "takeRoot", "(J)V"⟩, prog_2_method_8_code, 14, none, 0, 0, 2, 1)
/-- 123: TwinEntry$Arithmetic.round(LTwinEntry$Decimal;)I -/
def mi123 : xMi := (⟨"TwinEntry$Arithmetic", "round", "(LTwinEntry$Decimal;)I"⟩, prog_2_method_9_code, 7, (some .int), 1, 30, 2, 1)
/-- 124: TwinEntry$Calculator.<init>()V -/
def mi124 : xMi := (⟨"TwinEntry$Calculator", "<init>", "()V"⟩, prog_3_method_1_code, 1, none, 3, 61, 1, 0)
/-- 125: TwinEntry$Calculator.doKey(I)I -/
def mi125 : xMi := (⟨"TwinEntry$Calculator", "doKey", "(I)I"⟩, prog_3_method_2_code, 4, (some .int), 4, 111, 2, 1)
/-- 126: TwinEntry$Calculator.endEntry()V -/
def mi126 : xMi := (⟨"TwinEntry$Calculator", "endEntry", "()V"⟩, prog_3_method_3_code, 1, none, 0, 0, 2, 0)
/-- 127: TwinEntry$Calculator.countDown(I)I -/
def mi127 : xMi := (⟨"TwinEntry$Calculator", "countDown", "(I)I"⟩, prog_3_method_4_code, 3, (some .int), 3, 86, 2, 1)
/-- 128: TwinEntry$Calculator.keyEntry(I)I -/
def mi128 : xMi := (⟨"TwinEntry$Calculator", "keyEntry", "(I)I"⟩, prog_3_method_5_code, 4, (some .int), 3, 79, 2, 1)
/-- 129: TwinEntry$Calculator.bring(LTwinEntry$Decimal;)V -/
def mi129 : xMi := (⟨"TwinEntry$Calculator", "bring", "(LTwinEntry$Decimal;)V"⟩, prog_3_method_6_code, 2, none, 2, 41, 2, 1)
/-- 130: TwinEntry$Calculator.workOutFunction(I)I -/
def mi130 : xMi := (⟨"TwinEntry$Calculator", "workOutFunction", "(I)I"⟩, prog_3_method_7_code, 2, (some .int), 3, 86, 2, 1)
/-- 131: TwinEntry$Calculator.keyFunction()V -/
def mi131 : xMi := (⟨"TwinEntry$Calculator", "keyFunction", "()V"⟩, prog_3_method_8_code, 1, none, 1, 21, 2, 0)
/-- 132: TwinEntry$Calculator.keyNumber(I)V -/
def mi132 : xMi := (⟨"TwinEntry$Calculator", "keyNumber", "(I)V"⟩, prog_3_method_9_code, 4, none, 3, 62, 2, 1)
/-- 133: TwinEntry$Calculator.keyOperation(I)I -/
def mi133 : xMi := (⟨"TwinEntry$Calculator", "keyOperation", "(I)I"⟩, prog_3_method_10_code, 3, (some .int), 3, 86, 2, 1)
/-- 134: TwinEntry$Calculator.keyStack(I)I -/
def mi134 : xMi := (⟨"TwinEntry$Calculator", "keyStack", "(I)I"⟩, prog_3_method_11_code, 2, (some .int), 3, 62, 2, 1)
/-- 135: TwinEntry$Calculator.keyFormula(I)I -/
def mi135 : xMi := (⟨"TwinEntry$Calculator", "keyFormula", "(I)I"⟩, prog_3_method_12_code, 6, (some .int), 3, 86, 2, 1)
/-- 136: TwinEntry$Decimal.<init>()V -/
def mi136 : xMi := (⟨"TwinEntry$Decimal", "<init>", "()V"⟩, prog_4_method_1_code, 1, none, 1, 20, 1, 0)
/-- 137: TwinEntry$Decimal.set(LTwinEntry$Decimal;)V -/
def mi137 : xMi := (⟨"TwinEntry$Decimal", "set", "(LTwinEntry$Decimal;)V"⟩, prog_4_method_2_code, 2, none, 0, 0, 2, 1)
/-- 138: TwinEntry$Decimal.setDigit(I)V -/
def mi138 : xMi := (⟨"TwinEntry$Decimal", "setDigit", "(I)V"⟩, prog_4_method_3_code, 2, none, 0, 0, 2, 1)
/-- 139: TwinEntry$Decimal.clear()V -/
def mi139 : xMi := (⟨"TwinEntry$Decimal", "clear", "()V"⟩, prog_4_method_4_code, 1, none, 0, 0, 2, 0)
/-- 140: TwinEntry$Decimal.isBelowZero()Z -/
def mi140 : xMi := (⟨"TwinEntry$Decimal", "isBelowZero", "()Z"⟩, prog_4_method_5_code, 1, (some .boolean), 0, 0, 2, 0)
/-- 141: TwinEntry$Decimal.isSame(LTwinEntry$Decimal;)Z -/
def mi141 : xMi := (⟨"TwinEntry$Decimal", "isSame", "(LTwinEntry$Decimal;)Z"⟩, prog_4_method_6_code, 2, (some .boolean), 0, 0, 2, 1)
/-- 142: TwinEntry$Decimal.isSmallerInSize(LTwinEntry$Decimal;)Z -/
def mi142 : xMi := (⟨"TwinEntry$Decimal", "isSmallerInSize", "(LTwinEntry$Decimal;)Z"⟩, prog_4_method_7_code, 2, (some .boolean), 1, 27, 2, 1)
/-- 143: TwinEntry$Desk.<init>()V -/
def mi143 : xMi := (⟨"TwinEntry$Desk", "<init>", "()V"⟩, prog_5_method_1_code, 2, none, 2, 40, 1, 0)
/-- 144: TwinEntry$Desk.set(LTwinEntry$Desk;)V -/
def mi144 : xMi := (⟨"TwinEntry$Desk", "set", "(LTwinEntry$Desk;)V"⟩, prog_5_method_2_code, 3, none, 1, 22, 2, 1)
/-- 145: TwinEntry$Desk.clear()V -/
def mi145 : xMi := (⟨"TwinEntry$Desk", "clear", "()V"⟩, prog_5_method_3_code, 2, none, 1, 20, 2, 0)
/-- 146: TwinEntry$Desk.raise()V -/
def mi146 : xMi := (⟨"TwinEntry$Desk", "raise", "()V"⟩, prog_5_method_4_code, 1, none, 1, 21, 2, 0)
/-- 147: TwinEntry$Desk.fill(LTwinEntry$Decimal;)V -/
def mi147 : xMi := (⟨"TwinEntry$Desk", "fill", "(LTwinEntry$Decimal;)V"⟩, prog_5_method_5_code, 2, none, 1, 21, 2, 1)
/-- 148: TwinEntry$Entry.<init>()V -/
def mi148 : xMi := (⟨"TwinEntry$Entry", "<init>", "()V"⟩, prog_6_method_1_code, 1, none, 1, 20, 1, 0)
/-- 149: TwinEntry$Entry.set(LTwinEntry$Entry;)V -/
def mi149 : xMi := (⟨"TwinEntry$Entry", "set", "(LTwinEntry$Entry;)V"⟩, prog_6_method_2_code, 2, none, 0, 0, 2, 1)
/-- 150: TwinEntry$Entry.begin()V -/
def mi150 : xMi := (⟨"TwinEntry$Entry", "begin", "()V"⟩, prog_6_method_3_code, 1, none, 1, 20, 2, 0)
/-- 151: TwinEntry$Entry.take(I)V -/
def mi151 : xMi := (⟨"TwinEntry$Entry", "take", "(I)V"⟩, prog_6_method_4_code, 2, none, 2, 40, 2, 1)
/-- 152: TwinEntry$Entry.addDigit(I)V -/
def mi152 : xMi := (⟨"TwinEntry$Entry", "addDigit", "(I)V"⟩, prog_6_method_5_code, 2, none, 0, 0, 2, 1)
/-- 153: TwinEntry$Entry.addPoint()V -/
def mi153 : xMi := (⟨"TwinEntry$Entry", "addPoint", "()V"⟩, prog_6_method_6_code, 1, none, 0, 0, 2, 0)
/-- 154: TwinEntry$Entry.addPart()V -/
def mi154 : xMi := (⟨"TwinEntry$Entry", "addPart", "()V"⟩, prog_6_method_7_code, 1, none, 0, 0, 2, 0)
/-- 155: TwinEntry$Entry.changeSign()V -/
def mi155 : xMi := (⟨"TwinEntry$Entry", "changeSign", "()V"⟩, prog_6_method_8_code, 1, none, 0, 0, 2, 0)
/-- 156: TwinEntry$Entry.takeFromPart()V -/
def mi156 : xMi := (⟨"TwinEntry$Entry", "takeFromPart", "()V"⟩, prog_6_method_9_code, 1, none, 1, 20, 2, 0)
/-- 157: TwinEntry$Entry.dropPart()V -/
def mi157 : xMi := (⟨"TwinEntry$Entry", "dropPart", "()V"⟩, prog_6_method_10_code, 1, none, 0, 0, 2, 0)
/-- 158: TwinEntry$Entry.takeFromRow()V -/
def mi158 : xMi := (⟨"TwinEntry$Entry", "takeFromRow", "()V"⟩, prog_6_method_11_code, 1, none, 0, 0, 2, 0)
/-- 159: TwinEntry$History.<init>()V -/
def mi159 : xMi := (⟨"TwinEntry$History", "<init>", "()V"⟩, prog_7_method_1_code, 2, none, 3, 61, 1, 0)
/-- 160: TwinEntry$History.prepare(LTwinEntry$Desk;)V -/
def mi160 : xMi := (⟨"TwinEntry$History", "prepare", "(LTwinEntry$Desk;)V"⟩, prog_7_method_2_code, 2, none, 2, 44, 2, 1)
/-- 161: TwinEntry$History.prepared()LTwinEntry$Desk; -/
def mi161 : xMi := (⟨"TwinEntry$History", "prepared", "()LTwinEntry$Desk;"⟩, prog_7_method_3_code, 1, (some (.object "TwinEntry$Desk")), 0, 0, 2, 0)
/-- 162: TwinEntry$History.keep()V -/
def mi162 : xMi := (⟨"TwinEntry$History", "keep", "()V"⟩, prog_7_method_4_code, 1, none, 1, 27, 2, 0)
/-- 163: TwinEntry$History.giveBack(LTwinEntry$Desk;)V -/
def mi163 : xMi := (⟨"TwinEntry$History", "giveBack", "(LTwinEntry$Desk;)V"⟩, prog_7_method_5_code, 2, none, 2, 44, 2, 1)
/-- 164: TwinEntry$History.forget()V -/
def mi164 : xMi := (⟨"TwinEntry$History", "forget", "()V"⟩, prog_7_method_6_code, 1, none, 0, 0, 2, 0)
/-- 165: TwinEntry$Line.<init>()V -/
def mi165 : xMi := (⟨"TwinEntry$Line", "<init>", "()V"⟩, prog_8_method_1_code, 1, none, 1, 20, 1, 0)
/-- 166: TwinEntry$Line.begin()V -/
def mi166 : xMi := (⟨"TwinEntry$Line", "begin", "()V"⟩, prog_8_method_2_code, 1, none, 0, 0, 2, 0)
/-- 167: TwinEntry$Line.part(I)J -/
def mi167 : xMi := (⟨"TwinEntry$Line", "part", "(I)J"⟩, prog_8_method_3_code, 7, (some .long), 0, 0, 2, 1)
/-- 168: TwinEntry$Line.writeFault(I)V -/
def mi168 : xMi := (⟨"TwinEntry$Line", "writeFault", "(I)V"⟩, prog_8_method_4_code, 2, none, 2, 45, 2, 1)
/-- 169: TwinEntry$Line.writeEntry(LTwinEntry$Entry;)V -/
def mi169 : xMi := (⟨"TwinEntry$Line", "writeEntry", "(LTwinEntry$Entry;)V"⟩, prog_8_method_5_code, 2, none, 3, 69, 2, 1)
/-- 170: TwinEntry$Line.writeNumber(LTwinEntry$Decimal;)V -/
def mi170 : xMi := (⟨"TwinEntry$Line", "writeNumber", "(LTwinEntry$Decimal;)V"⟩, prog_8_method_6_code, 2, none, 4, 97, 2, 1)
/-- 171: TwinEntry$Line.writeFixed(LTwinEntry$Decimal;)Z -/
def mi171 : xMi := (⟨"TwinEntry$Line", "writeFixed", "(LTwinEntry$Decimal;)Z"⟩, prog_8_method_7_code, 7, (some .boolean), 3, 69, 2, 1)
/-- 172: TwinEntry$Line.writeScientific(LTwinEntry$Decimal;)V -/
def mi172 : xMi := (⟨"TwinEntry$Line", "writeScientific", "(LTwinEntry$Decimal;)V"⟩, prog_8_method_8_code, 9, none, 3, 69, 2, 1)
/-- 173: TwinEntry$Line.writeWithPoint(JII)V -/
def mi173 : xMi := (⟨"TwinEntry$Line", "writeWithPoint", "(JII)V"⟩, prog_8_method_9_code, 5, none, 2, 45, 2, 3)
/-- 174: TwinEntry$Line.writeDigits(JI)V -/
def mi174 : xMi := (⟨"TwinEntry$Line", "writeDigits", "(JI)V"⟩, prog_8_method_10_code, 5, none, 1, 21, 2, 2)
/-- 175: TwinEntry$Line.write(I)V -/
def mi175 : xMi := (⟨"TwinEntry$Line", "write", "(I)V"⟩, prog_8_method_11_code, 2, none, 0, 0, 2, 1)
/-- 176: TwinEntry$Program.<init>()V -/
def mi176 : xMi := (⟨"TwinEntry$Program", "<init>", "()V"⟩, prog_9_method_1_code, 1, none, 1, 20, 1, 0)
/-- 177: TwinEntry$Program.placeOf(I)I -/
def mi177 : xMi := (⟨"TwinEntry$Program", "placeOf", "(I)I"⟩, prog_9_method_2_code, 3, (some .int), 0, 0, 2, 1)
/-- 178: TwinEntry$Program.begin(I)V -/
def mi178 : xMi := (⟨"TwinEntry$Program", "begin", "(I)V"⟩, prog_9_method_3_code, 2, none, 0, 0, 2, 1)
/-- 179: TwinEntry$Program.step(LTwinEntry$Calculator;)I -/
def mi179 : xMi := (⟨"TwinEntry$Program", "step", "(LTwinEntry$Calculator;)I"⟩, prog_9_method_4_code, 4, (some .int), 5, 134, 2, 1)
/-- 180: TwinEntry$Program.jump(ILTwinEntry$Calculator;)I -/
def mi180 : xMi := (⟨"TwinEntry$Program", "jump", "(ILTwinEntry$Calculator;)I"⟩, prog_9_method_5_code, 5, (some .int), 1, 22, 2, 2)
/-- 181: TwinEntry$Program.comeBack()I -/
def mi181 : xMi := (⟨"TwinEntry$Program", "comeBack", "()I"⟩, prog_9_method_6_code, 1, (some .int), 0, 0, 2, 0)
/-- 182: TwinEntry$Program.test(ILTwinEntry$Calculator;)I -/
def mi182 : xMi := (⟨"TwinEntry$Program", "test", "(ILTwinEntry$Calculator;)I"⟩, prog_9_method_7_code, 7, (some .int), 4, 108, 2, 2)
/-- 183: TwinEntry$Row.<init>()V -/
def mi183 : xMi := (⟨"TwinEntry$Row", "<init>", "()V"⟩, prog_10_method_1_code, 1, none, 1, 20, 1, 0)
/-- 184: TwinEntry$Row.set(LTwinEntry$Row;)V -/
def mi184 : xMi := (⟨"TwinEntry$Row", "set", "(LTwinEntry$Row;)V"⟩, prog_10_method_2_code, 3, none, 0, 0, 2, 1)
/-- 185: TwinEntry$Row.clear()V -/
def mi185 : xMi := (⟨"TwinEntry$Row", "clear", "()V"⟩, prog_10_method_3_code, 1, none, 0, 0, 2, 0)
/-- 186: TwinEntry$Row.isOutOfPlace(I)Z -/
def mi186 : xMi := (⟨"TwinEntry$Row", "isOutOfPlace", "(I)Z"⟩, prog_10_method_4_code, 2, (some .boolean), 1, 21, 2, 1)
/-- 187: TwinEntry$Row.hasBracket()Z -/
def mi187 : xMi := (⟨"TwinEntry$Row", "hasBracket", "()Z"⟩, prog_10_method_5_code, 2, (some .boolean), 0, 0, 2, 0)
/-- 188: TwinEntry$Row.countNumbers()I -/
def mi188 : xMi := (⟨"TwinEntry$Row", "countNumbers", "()I"⟩, prog_10_method_6_code, 3, (some .int), 0, 0, 2, 0)
/-- 189: TwinEntry$Row.leftBehind(I)I -/
def mi189 : xMi := (⟨"TwinEntry$Row", "leftBehind", "(I)I"⟩, prog_10_method_7_code, 4, (some .int), 1, 20, 2, 1)
/-- 190: TwinEntry$Row.isFullFor(II)Z -/
def mi190 : xMi := (⟨"TwinEntry$Row", "isFullFor", "(II)Z"⟩, prog_10_method_8_code, 3, (some .boolean), 1, 20, 2, 2)
/-- 191: TwinEntry$Row.follow(II)V -/
def mi191 : xMi := (⟨"TwinEntry$Row", "follow", "(II)V"⟩, prog_10_method_9_code, 3, none, 1, 27, 2, 2)
/-- 192: TwinEntry$Row.tightness(I)I -/
def mi192 : xMi := (⟨"TwinEntry$Row", "tightness", "(I)I"⟩, prog_10_method_10_code, 1, (some .int), 0, 0, 0, 1)
/-- 193: TwinEntry$Solver.<init>()V -/
def mi193 : xMi := (⟨"TwinEntry$Solver", "<init>", "()V"⟩, prog_11_method_1_code, 1, none, 2, 40, 1, 0)
/-- 194: TwinEntry$Solver.begin(ILTwinEntry$Desk;LTwinEntry$Program;)V -/
def mi194 : xMi := (⟨"TwinEntry$Solver", "begin", "(ILTwinEntry$Desk;LTwinEntry$Program;)V"⟩, prog_11_method_2_code, 4, none, 3, 65, 2, 3)
/-- 195: TwinEntry$Solver.useValue(LTwinEntry$Calculator;LTwinEntry$Program;)I -/
def mi195 : xMi := (⟨"TwinEntry$Solver", "useValue", "(LTwinEntry$Calculator;LTwinEntry$Program;)I"⟩, prog_11_method_3_code, 5, (some .int), 4, 110, 2, 2)
/-- 196: TwinEntry$Solver.halve(LTwinEntry$Calculator;LTwinEntry$Program;)I -/
def mi196 : xMi := (⟨"TwinEntry$Solver", "halve", "(LTwinEntry$Calculator;LTwinEntry$Program;)I"⟩, prog_11_method_4_code, 5, (some .int), 3, 86, 2, 2)
/-- 197: TwinEntry$Solver.takeValueOf(LTwinEntry$Decimal;LTwinEntry$Desk;LTwinEntry$Program;)I -/
def mi197 : xMi := (⟨"TwinEntry$Solver", "takeValueOf", "(LTwinEntry$Decimal;LTwinEntry$Desk;LTwinEntry$Program;)I"⟩, prog_11_method_5_code, 4, (some .int), 2, 42, 2, 3)
/-- 198: TwinEntry$Solver.find(LTwinEntry$Decimal;LTwinEntry$Decimal;LTwinEntry$Desk;)I -/
def mi198 : xMi := (⟨"TwinEntry$Solver", "find", "(LTwinEntry$Decimal;LTwinEntry$Decimal;LTwinEntry$Desk;)I"⟩, prog_11_method_6_code, 4, (some .int), 2, 42, 2, 3)
/-- 199: TwinEntry$Translator.<init>()V -/
def mi199 : xMi := (⟨"TwinEntry$Translator", "<init>", "()V"⟩, prog_12_method_1_code, 1, none, 2, 40, 1, 0)
/-- 200: TwinEntry$Translator.append(J)I -/
def mi200 : xMi := (⟨"TwinEntry$Translator", "append", "(J)I"⟩, prog_12_method_2_code, 6, (some .int), 1, 22, 2, 1)
/-- 201: TwinEntry$Translator.work()I -/
def mi201 : xMi := (⟨"TwinEntry$Translator", "work", "()I"⟩, prog_12_method_3_code, 2, (some .int), 5, 120, 2, 0)
/-- 202: TwinEntry$Translator.follow()I -/
def mi202 : xMi := (⟨"TwinEntry$Translator", "follow", "()I"⟩, prog_12_method_4_code, 5, (some .int), 4, 96, 2, 0)
/-- 203: TwinEntry$Translator.take(I)I -/
def mi203 : xMi := (⟨"TwinEntry$Translator", "take", "(I)I"⟩, prog_12_method_5_code, 6, (some .int), 3, 71, 2, 1)
/-- 204: TwinEntry$Translator.takeRowKey(I)I -/
def mi204 : xMi := (⟨"TwinEntry$Translator", "takeRowKey", "(I)I"⟩, prog_12_method_6_code, 3, (some .int), 2, 49, 2, 1)
/-- 205: TwinEntry$Translator.separate(I)V -/
def mi205 : xMi := (⟨"TwinEntry$Translator", "separate", "(I)V"⟩, prog_12_method_7_code, 2, none, 2, 40, 2, 1)
/-- 206: TwinEntry$Translator.close(I)V -/
def mi206 : xMi := (⟨"TwinEntry$Translator", "close", "(I)V"⟩, prog_12_method_8_code, 3, none, 1, 21, 2, 1)
/-- 207: TwinEntry$Translator.emit(I)V -/
def mi207 : xMi := (⟨"TwinEntry$Translator", "emit", "(I)V"⟩, prog_12_method_9_code, 2, none, 0, 0, 2, 1)
/-- 208: TwinEntryLaw.model(LTwinEntry;I)I -/
def mi208 : xMi := (⟨"TwinEntryLaw", "model", "(LTwinEntry;I)I"⟩, method_3_code, 3, (some .int), 7, 104, 0, 2)
/-- 209: TwinEntryLaw.press(LTwinEntry;J[J)I -/
def mi209 : xMi := (⟨"TwinEntryLaw", "press", "(LTwinEntry;J[J)I"⟩, method_4_code, 5, (some .int), 7, 182, 0, 3)
/-- 210: TwinEntryLaw.run(LTwinEntry;I[J)I -/
def mi210 : xMi := (⟨"TwinEntryLaw", "run", "(LTwinEntry;I[J)I"⟩, method_5_code, 4, (some .int), 7, 180, 0, 3)
/-- 211: TwinEntryLaw.solve(LTwinEntry;I[J)I -/
def mi211 : xMi := (⟨"TwinEntryLaw", "solve", "(LTwinEntry;I[J)I"⟩, method_6_code, 4, (some .int), 7, 110, 0, 3)
/-- 212: TwinEntryLaw.shown(LTwinEntry;I[J)I -/
def mi212 : xMi := (⟨"TwinEntryLaw", "shown", "(LTwinEntry;I[J)I"⟩, method_7_code, 4, (some .int), 7, 140, 0, 3)
/-- 213: TwinEntryLaw.digits(LTwinEntry;I[J)I -/
def mi213 : xMi := (⟨"TwinEntryLaw", "digits", "(LTwinEntry;I[J)I"⟩, method_8_code, 4, (some .int), 7, 104, 0, 3)
/-- 214: TwinEntryLaw.exponent(LTwinEntry;I[J)I -/
def mi214 : xMi := (⟨"TwinEntryLaw", "exponent", "(LTwinEntry;I[J)I"⟩, method_9_code, 4, (some .int), 7, 104, 0, 3)
/-- 215: TwinEntryLaw.mode(LTwinEntry;II)I -/
def mi215 : xMi := (⟨"TwinEntryLaw", "mode", "(LTwinEntry;II)I"⟩, method_10_code, 4, (some .int), 7, 105, 0, 3)
/-- 216: TwinEntryLaw.store(LTwinEntry;IJ)I -/
def mi216 : xMi := (⟨"TwinEntryLaw", "store", "(LTwinEntry;IJ)I"⟩, method_11_code, 5, (some .int), 7, 107, 0, 3)
/-- 217: TwinEntryLaw.code(LTwinEntry;I[J)I -/
def mi217 : xMi := (⟨"TwinEntryLaw", "code", "(LTwinEntry;I[J)I"⟩, method_12_code, 4, (some .int), 7, 104, 0, 3)
/-- 218: TwinEntryLaw.out(LTwinEntry;I[J)I -/
def mi218 : xMi := (⟨"TwinEntryLaw", "out", "(LTwinEntry;I[J)I"⟩, method_13_code, 4, (some .int), 7, 104, 0, 3)
/-- 219: TwinEntryLaw.undo(LTwinEntry;[J)I -/
def mi219 : xMi := (⟨"TwinEntryLaw", "undo", "(LTwinEntry;[J)I"⟩, method_14_code, 3, (some .int), 7, 103, 0, 2)
/-- 220: TwinEntryLaw.law([I)Z -/
def mi220 : xMi := (⟨"TwinEntryLaw", "law", "([I)Z"⟩, code, maxLocals, (some .boolean), 10, 250, 0, 1)
def xmis : List xMi := [mi0, mi1, mi2, mi3, mi4, mi5, mi6, mi7, mi8, mi9, mi10, mi11, mi12, mi13, mi14, mi15, mi16, mi17, mi18, mi19, mi20, mi21, mi22, mi23, mi24, mi25, mi26, mi27, mi28, mi29, mi30, mi31, mi32, mi33, mi34, mi35, mi36, mi37, mi38, mi39, mi40, mi41, mi42, mi43, mi44, mi45, mi46, mi47, mi48, mi49, mi50, mi51, mi52, mi53, mi54, mi55, mi56, mi57, mi58, mi59, mi60, mi61, mi62, mi63, mi64, mi65, mi66, mi67, mi68, mi69, mi70, mi71, mi72, mi73, mi74, mi75, mi76, mi77, mi78, mi79, mi80, mi81, mi82, mi83, mi84, mi85, mi86, mi87, mi88, mi89, mi90, mi91, mi92, mi93, mi94, mi95, mi96, mi97, mi98, mi99, mi100, mi101, mi102, mi103, mi104, mi105, mi106, mi107, mi108, mi109, mi110, mi111, mi112, mi113, mi114, mi115, mi116, mi117, mi118, mi119, mi120, mi121, mi122, mi123, mi124, mi125, mi126, mi127, mi128, mi129, mi130, mi131, mi132, mi133, mi134, mi135, mi136, mi137, mi138, mi139, mi140, mi141, mi142, mi143, mi144, mi145, mi146, mi147, mi148, mi149, mi150, mi151, mi152, mi153, mi154, mi155, mi156, mi157, mi158, mi159, mi160, mi161, mi162, mi163, mi164, mi165, mi166, mi167, mi168, mi169, mi170, mi171, mi172, mi173, mi174, mi175, mi176, mi177, mi178, mi179, mi180, mi181, mi182, mi183, mi184, mi185, mi186, mi187, mi188, mi189, mi190, mi191, mi192, mi193, mi194, mi195, mi196, mi197, mi198, mi199, mi200, mi201, mi202, mi203, mi204, mi205, mi206, mi207, mi208, mi209, mi210, mi211, mi212, mi213, mi214, mi215, mi216, mi217, mi218, mi219, mi220]
def xmi (y : Nat) : xMi := xmis.getD y mi0
