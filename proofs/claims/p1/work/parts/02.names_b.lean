def RX0 : String := "MeridianSeries$Buckets"
def TX0 : u_T := fun k => match k with
  | 0 => ("MeridianSeries$Items", "amount", "I", false)
  | _ => ("MeridianSeries$Buckets", "cells", "[I", true)
def tyX0 : Nat → FieldType := fun k => match k with
  | 0 => .int
  | _ => .array .int
theorem nmX0 : ∀ a, a < 2 → ∀ b, b < 2 → a ≠ b → (TX0 a).2.1 ≠ (TX0 b).2.1 := by decide +kernel
theorem tyX0_ok : ∀ k, k < 2 → parseFieldDescriptor (TX0 k).2.2.1 = some (tyX0 k) := by decide +kernel
abbrev cX0_init : ByteArray := prog_2_method_1_code
def yX0_init : MethodName := ⟨RX0, "<init>", "()V"⟩
def RX1 : String := "MeridianSeries$EventLog"
def TX1 : u_T := fun k => match k with
  | 0 => ("MeridianSeries$EventLog", "cells", "[I", true)
  | 1 => ("MeridianSeries$EventLog", "total", "I", false)
  | _ => ("MeridianSeries$EventLog", "firings", "I", false)
def tyX1 : Nat → FieldType := fun k => match k with
  | 0 => .array .int
  | 1 => .int
  | _ => .int
theorem nmX1 : ∀ a, a < 3 → ∀ b, b < 3 → a ≠ b → (TX1 a).2.1 ≠ (TX1 b).2.1 := by decide +kernel
theorem tyX1_ok : ∀ k, k < 3 → parseFieldDescriptor (TX1 k).2.2.1 = some (tyX1 k) := by decide +kernel
abbrev cX1_init : ByteArray := prog_3_method_1_code
def yX1_init : MethodName := ⟨RX1, "<init>", "()V"⟩
def RX2 : String := "MeridianSeries$Items"
abbrev cX2_init : ByteArray := prog_4_method_1_code
def yX2_init : MethodName := ⟨RX2, "<init>", "()V"⟩
def RX3 : String := "MeridianSeries$Packer"
def TX3 : u_T := fun k => match k with
  | 0 => ("MeridianSeries$Packer", "words", "[I", true)
  | 1 => ("MeridianSeries$Packer", "length", "I", false)
  | 2 => ("MeridianSeries$Packer", "packed", "I", false)
  | 3 => ("MeridianSeries$Packer", "lastTime", "I", false)
  | 4 => ("MeridianSeries$Packer", "lastStep", "I", false)
  | _ => ("MeridianSeries$Packer", "lastValue", "I", false)
def tyX3 : Nat → FieldType := fun k => match k with
  | 0 => .array .int
  | 1 => .int
  | 2 => .int
  | 3 => .int
  | 4 => .int
  | _ => .int
theorem nmX3 : ∀ a, a < 6 → ∀ b, b < 6 → a ≠ b → (TX3 a).2.1 ≠ (TX3 b).2.1 := by decide +kernel
theorem tyX3_ok : ∀ k, k < 6 → parseFieldDescriptor (TX3 k).2.2.1 = some (tyX3 k) := by decide +kernel
abbrev cX3_init : ByteArray := prog_5_method_1_code
def yX3_init : MethodName := ⟨RX3, "<init>", "()V"⟩
def RX4 : String := "MeridianSeries$Points"
def TX4 : u_T := fun k => match k with
  | 0 => ("MeridianSeries$Items", "amount", "I", false)
  | 1 => ("MeridianSeries$Points", "times", "[I", true)
  | 2 => ("MeridianSeries$Points", "values", "[I", true)
  | 3 => ("MeridianSeries$Points", "sizes", "[I", true)
  | 4 => ("MeridianSeries$Points", "sealedBlocks", "I", false)
  | 5 => ("MeridianSeries$Points", "sealedPoints", "I", false)
  | _ => ("MeridianSeries$Points", "greatestSealedTime", "I", false)
def tyX4 : Nat → FieldType := fun k => match k with
  | 0 => .int
  | 1 => .array .int
  | 2 => .array .int
  | 3 => .array .int
  | 4 => .int
  | 5 => .int
  | _ => .int
theorem nmX4 : ∀ a, a < 7 → ∀ b, b < 7 → a ≠ b → (TX4 a).2.1 ≠ (TX4 b).2.1 := by decide +kernel
theorem tyX4_ok : ∀ k, k < 7 → parseFieldDescriptor (TX4 k).2.2.1 = some (tyX4 k) := by decide +kernel
abbrev cX4_init : ByteArray := prog_6_method_1_code
def yX4_init : MethodName := ⟨RX4, "<init>", "()V"⟩
def RX5 : String := "MeridianSeries$Rule"
def TX5 : u_T := fun k => match k with
  | 0 => ("MeridianSeries$Rule", "chain", "LMeridianSeries$Series;", true)
  | 1 => ("MeridianSeries$Rule", "what", "I", true)
  | 2 => ("MeridianSeries$Rule", "length", "I", true)
  | 3 => ("MeridianSeries$Rule", "every", "I", true)
  | 4 => ("MeridianSeries$Rule", "isAbove", "Z", true)
  | 5 => ("MeridianSeries$Rule", "limit", "I", true)
  | 6 => ("MeridianSeries$Rule", "times", "I", true)
  | 7 => ("MeridianSeries$Rule", "state", "I", false)
  | _ => ("MeridianSeries$Rule", "timesInRow", "I", false)
def RX6 : String := "MeridianSeries$Series"
def TX6 : u_T := fun k => match k with
  | 0 => ("MeridianSeries$Series", "one", "I", true)
  | 1 => ("MeridianSeries$Series", "other", "I", true)
  | 2 => ("MeridianSeries$Series", "points", "LMeridianSeries$Points;", true)
  | 3 => ("MeridianSeries$Series", "fine", "LMeridianSeries$Buckets;", true)
  | _ => ("MeridianSeries$Series", "coarse", "LMeridianSeries$Buckets;", true)
def tyX6 : Nat → FieldType := fun k => match k with
  | 0 => .int
  | 1 => .int
  | 2 => .object "MeridianSeries$Points"
  | 3 => .object "MeridianSeries$Buckets"
  | _ => .object "MeridianSeries$Buckets"
theorem nmX6 : ∀ a, a < 5 → ∀ b, b < 5 → a ≠ b → (TX6 a).2.1 ≠ (TX6 b).2.1 := by decide +kernel
theorem tyX6_ok : ∀ k, k < 5 → parseFieldDescriptor (TX6 k).2.2.1 = some (tyX6 k) := by decide +kernel
abbrev cX6_init : ByteArray := prog_8_method_1_code
def yX6_init : MethodName := ⟨RX6, "<init>", "(II)V"⟩
def RX7 : String := "MeridianSeries$Settings"
def TX7 : u_T := fun k => match k with
  | 0 => ("MeridianSeries$Settings", "span", "I", false)
  | 1 => ("MeridianSeries$Settings", "width", "I", false)
  | 2 => ("MeridianSeries$Settings", "fold", "I", false)
  | 3 => ("MeridianSeries$Settings", "keep", "I", false)
  | _ => ("MeridianSeries$Settings", "longKeep", "I", false)
def tyX7 : Nat → FieldType := fun k => match k with
  | 0 => .int
  | 1 => .int
  | 2 => .int
  | 3 => .int
  | _ => .int
theorem nmX7 : ∀ a, a < 5 → ∀ b, b < 5 → a ≠ b → (TX7 a).2.1 ≠ (TX7 b).2.1 := by decide +kernel
theorem tyX7_ok : ∀ k, k < 5 → parseFieldDescriptor (TX7 k).2.2.1 = some (tyX7 k) := by decide +kernel
abbrev cX7_init : ByteArray := prog_9_method_1_code
def yX7_init : MethodName := ⟨RX7, "<init>", "()V"⟩
def RX8 : String := "MeridianSeries$Store"
def TX8 : u_T := fun k => match k with
  | 0 => ("MeridianSeries$Store", "settings", "LMeridianSeries$Settings;", true)
  | 1 => ("MeridianSeries$Store", "chains", "Ljava/util/ArrayList;", true)
  | 2 => ("MeridianSeries$Store", "rules", "Ljava/util/ArrayList;", true)
  | 3 => ("MeridianSeries$Store", "log", "LMeridianSeries$EventLog;", true)
  | _ => ("MeridianSeries$Store", "now", "I", false)
def tyX8 : Nat → FieldType := fun k => match k with
  | 0 => .object "MeridianSeries$Settings"
  | 1 => .object "java/util/ArrayList"
  | 2 => .object "java/util/ArrayList"
  | 3 => .object "MeridianSeries$EventLog"
  | _ => .int
theorem nmX8 : ∀ a, a < 5 → ∀ b, b < 5 → a ≠ b → (TX8 a).2.1 ≠ (TX8 b).2.1 := by decide +kernel
theorem tyX8_ok : ∀ k, k < 5 → parseFieldDescriptor (TX8 k).2.2.1 = some (tyX8 k) := by decide +kernel
abbrev cX8_init : ByteArray := prog_10_method_1_code
def yX8_init : MethodName := ⟨RX8, "<init>", "(LMeridianSeries$Settings;)V"⟩
abbrev cX8_hasBucket : ByteArray := prog_10_method_2_code
def yX8_hasBucket : MethodName := ⟨RX8, "hasBucket", "()Z"⟩
abbrev cX8_goOnByOne : ByteArray := prog_10_method_3_code
def yX8_goOnByOne : MethodName := ⟨RX8, "goOnByOne", "()V"⟩
abbrev cX8_copyFrom : ByteArray := prog_10_method_4_code
def yX8_copyFrom : MethodName := ⟨RX8, "copyFrom", "(LMeridianSeries$Store;)V"⟩
def RX9 : String := "MeridianSeries"
def TX9 : u_T := fun k => match k with
  | 0 => ("MeridianSeries", "settings", "LMeridianSeries$Settings;", true)
  | 1 => ("MeridianSeries", "store", "LMeridianSeries$Store;", true)
  | 2 => ("MeridianSeries", "trial", "LMeridianSeries$Store;", true)
  | 3 => ("MeridianSeries", "packer", "LMeridianSeries$Packer;", true)
  | 4 => ("MeridianSeries", "queryFrom", "I", false)
  | 5 => ("MeridianSeries", "queryStep", "I", false)
  | 6 => ("MeridianSeries", "queryWhat", "I", false)
  | 7 => ("MeridianSeries", "queryFill", "I", false)
  | _ => ("MeridianSeries", "lateCount", "I", false)
def tyX9 : Nat → FieldType := fun k => match k with
  | 0 => .object "MeridianSeries$Settings"
  | 1 => .object "MeridianSeries$Store"
  | 2 => .object "MeridianSeries$Store"
  | 3 => .object "MeridianSeries$Packer"
  | 4 => .int
  | 5 => .int
  | 6 => .int
  | 7 => .int
  | _ => .int
theorem nmX9 : ∀ a, a < 9 → ∀ b, b < 9 → a ≠ b → (TX9 a).2.1 ≠ (TX9 b).2.1 := by decide +kernel
theorem tyX9_ok : ∀ k, k < 9 → parseFieldDescriptor (TX9 k).2.2.1 = some (tyX9 k) := by decide +kernel
abbrev cX9_init : ByteArray := prog_1_method_1_code
def yX9_init : MethodName := ⟨RX9, "<init>", "()V"⟩
abbrev cX9_addSeries : ByteArray := prog_1_method_2_code
def yX9_addSeries : MethodName := ⟨RX9, "addSeries", "(II)I"⟩
abbrev cX9_setSpan : ByteArray := prog_1_method_3_code
def yX9_setSpan : MethodName := ⟨RX9, "setSpan", "(I)I"⟩
abbrev cX9_setWidths : ByteArray := prog_1_method_4_code
def yX9_setWidths : MethodName := ⟨RX9, "setWidths", "(II)I"⟩
abbrev cX9_setKeep : ByteArray := prog_1_method_5_code
def yX9_setKeep : MethodName := ⟨RX9, "setKeep", "(II)I"⟩
abbrev cX9_setQuery : ByteArray := prog_1_method_6_code
def yX9_setQuery : MethodName := ⟨RX9, "setQuery", "(IIII)I"⟩
abbrev cX9_put : ByteArray := prog_1_method_7_code
def yX9_put : MethodName := ⟨RX9, "put", "(III)I"⟩
abbrev cX9_putRow : ByteArray := prog_1_method_8_code
def yX9_putRow : MethodName := ⟨RX9, "putRow", "(IIIIII)I"⟩
abbrev cX9_goOn : ByteArray := prog_1_method_9_code
def yX9_goOn : MethodName := ⟨RX9, "goOn", "(I)I"⟩
abbrev cX9_now : ByteArray := prog_1_method_10_code
def yX9_now : MethodName := ⟨RX9, "now", "()I"⟩
abbrev cX9_series : ByteArray := prog_1_method_11_code
def yX9_series : MethodName := ⟨RX9, "series", "()I"⟩
abbrev cX9_late : ByteArray := prog_1_method_12_code
def yX9_late : MethodName := ⟨RX9, "late", "()I"⟩
abbrev cX9_blocks : ByteArray := prog_1_method_13_code
def yX9_blocks : MethodName := ⟨RX9, "blocks", "(I)I"⟩
abbrev cX9_size : ByteArray := prog_1_method_14_code
def yX9_size : MethodName := ⟨RX9, "size", "(II)I"⟩
abbrev cX9_point : ByteArray := prog_1_method_15_code
def yX9_point : MethodName := ⟨RX9, "point", "(IIIZ)I"⟩
abbrev cX9_bits : ByteArray := prog_1_method_16_code
def yX9_bits : MethodName := ⟨RX9, "bits", "(II)I"⟩
abbrev cX9_word : ByteArray := prog_1_method_17_code
def yX9_word : MethodName := ⟨RX9, "word", "(III)I"⟩
abbrev cX9_buckets : ByteArray := prog_1_method_18_code
def yX9_buckets : MethodName := ⟨RX9, "buckets", "(IZ)I"⟩
abbrev cX9_ofBucket : ByteArray := prog_1_method_19_code
def yX9_ofBucket : MethodName := ⟨RX9, "ofBucket", "(IZII)I"⟩
abbrev cX9_items : ByteArray := prog_1_method_20_code
def yX9_items : MethodName := ⟨RX9, "items", "(I)I"⟩
abbrev cX9_ask : ByteArray := prog_1_method_22_code
def yX9_ask : MethodName := ⟨RX9, "ask", "(II)I"⟩
abbrev cX9_over : ByteArray := prog_1_method_23_code
def yX9_over : MethodName := ⟨RX9, "over", "(ZIII)I"⟩
abbrev cX9_gaps : ByteArray := prog_1_method_24_code
def yX9_gaps : MethodName := ⟨RX9, "gaps", "(II)I"⟩
abbrev cX9_lastAt : ByteArray := prog_1_method_25_code
def yX9_lastAt : MethodName := ⟨RX9, "lastAt", "(II)I"⟩
abbrev cX9_addRule : ByteArray := prog_1_method_26_code
def yX9_addRule : MethodName := ⟨RX9, "addRule", "(IIIIZII)I"⟩
abbrev cX9_stateOf : ByteArray := prog_1_method_27_code
def yX9_stateOf : MethodName := ⟨RX9, "stateOf", "(I)I"⟩
abbrev cX9_inRow : ByteArray := prog_1_method_28_code
def yX9_inRow : MethodName := ⟨RX9, "inRow", "(I)I"⟩
abbrev cX9_seenBy : ByteArray := prog_1_method_29_code
def yX9_seenBy : MethodName := ⟨RX9, "seenBy", "(I)I"⟩
abbrev cX9_events : ByteArray := prog_1_method_30_code
def yX9_events : MethodName := ⟨RX9, "events", "()I"⟩
abbrev cX9_event : ByteArray := prog_1_method_31_code
def yX9_event : MethodName := ⟨RX9, "event", "(II)I"⟩
abbrev cX9_bitsWith : ByteArray := prog_1_method_32_code
def yX9_bitsWith : MethodName := ⟨RX9, "bitsWith", "(III)I"⟩
abbrev cX9_firesIn : ByteArray := prog_1_method_33_code
def yX9_firesIn : MethodName := ⟨RX9, "firesIn", "(I)I"⟩
abbrev cX9_wouldRoll : ByteArray := prog_1_method_34_code
def yX9_wouldRoll : MethodName := ⟨RX9, "wouldRoll", "(I)I"⟩
abbrev cX9_digest : ByteArray := prog_1_method_35_code
def yX9_digest : MethodName := ⟨RX9, "digest", "()J"⟩
abbrev cX9_isIn : ByteArray := prog_1_method_39_code
def yX9_isIn : MethodName := ⟨RX9, "isIn", "(JII)Z"⟩
abbrev cX9_canGoOn : ByteArray := prog_1_method_42_code
def yX9_canGoOn : MethodName := ⟨RX9, "canGoOn", "(I)Z"⟩
abbrev cX9_needArgument : ByteArray := prog_1_method_43_code
def yX9_needArgument : MethodName := ⟨RX9, "needArgument", "(Z)V"⟩
abbrev cX9_needIndex : ByteArray := prog_1_method_44_code
def yX9_needIndex : MethodName := ⟨RX9, "needIndex", "(Z)V"⟩
abbrev cX9_needState : ByteArray := prog_1_method_45_code
def yX9_needState : MethodName := ⟨RX9, "needState", "(Z)V"⟩
abbrev cX9_chainAt : ByteArray := prog_1_method_46_code
def yX9_chainAt : MethodName := ⟨RX9, "chainAt", "(I)LMeridianSeries$Series;"⟩
abbrev cX9_ruleAt : ByteArray := prog_1_method_47_code
def yX9_ruleAt : MethodName := ⟨RX9, "ruleAt", "(I)LMeridianSeries$Rule;"⟩
def RX10 : String := "MeridianSeriesModel$Bits"
def TX10 : u_T := fun k => match k with
  | _ => ("MeridianSeriesModel$Bits", "row", "Ljava/util/ArrayList;", true)
def RX11 : String := "MeridianSeriesModel$Item"
def TX11 : u_T := fun k => match k with
  | 0 => ("MeridianSeriesModel$Item", "time", "I", true)
  | 1 => ("MeridianSeriesModel$Item", "count", "I", false)
  | 2 => ("MeridianSeriesModel$Item", "sum", "I", false)
  | 3 => ("MeridianSeriesModel$Item", "min", "I", false)
  | 4 => ("MeridianSeriesModel$Item", "max", "I", false)
  | 5 => ("MeridianSeriesModel$Item", "first", "I", false)
  | _ => ("MeridianSeriesModel$Item", "last", "I", false)
def RX12 : String := "MeridianSeriesModel$Rule"
def TX12 : u_T := fun k => match k with
  | 0 => ("MeridianSeriesModel$Rule", "series", "I", true)
  | 1 => ("MeridianSeriesModel$Rule", "what", "I", true)
  | 2 => ("MeridianSeriesModel$Rule", "length", "I", true)
  | 3 => ("MeridianSeriesModel$Rule", "every", "I", true)
  | 4 => ("MeridianSeriesModel$Rule", "isAbove", "Z", true)
  | 5 => ("MeridianSeriesModel$Rule", "limit", "I", true)
  | 6 => ("MeridianSeriesModel$Rule", "times", "I", true)
  | 7 => ("MeridianSeriesModel$Rule", "state", "I", false)
  | _ => ("MeridianSeriesModel$Rule", "row", "I", false)
def RX13 : String := "MeridianSeriesModel$Series"
def TX13 : u_T := fun k => match k with
  | 0 => ("MeridianSeriesModel$Series", "labels", "[I", true)
  | 1 => ("MeridianSeriesModel$Series", "blocks", "Ljava/util/ArrayList;", true)
  | 2 => ("MeridianSeriesModel$Series", "fine", "Ljava/util/ArrayList;", false)
  | 3 => ("MeridianSeriesModel$Series", "coarse", "Ljava/util/ArrayList;", false)
  | _ => ("MeridianSeriesModel$Series", "sealedTo", "I", false)
def tyX13 : Nat → FieldType := fun k => match k with
  | 0 => .array .int
  | 1 => .object "java/util/ArrayList"
  | 2 => .object "java/util/ArrayList"
  | 3 => .object "java/util/ArrayList"
  | _ => .int
theorem nmX13 : ∀ a, a < 5 → ∀ b, b < 5 → a ≠ b → (TX13 a).2.1 ≠ (TX13 b).2.1 := by decide +kernel
theorem tyX13_ok : ∀ k, k < 5 → parseFieldDescriptor (TX13 k).2.2.1 = some (tyX13 k) := by decide +kernel
abbrev cX13_init : ByteArray := prog_16_method_1_code
def yX13_init : MethodName := ⟨RX13, "<init>", "(II)V"⟩
def RX14 : String := "MeridianSeriesModel$Store"
def TX14 : u_T := fun k => match k with
  | 0 => ("MeridianSeriesModel$Store", "series", "Ljava/util/ArrayList;", true)
  | 1 => ("MeridianSeriesModel$Store", "rules", "Ljava/util/ArrayList;", true)
  | 2 => ("MeridianSeriesModel$Store", "events", "Ljava/util/ArrayList;", true)
  | 3 => ("MeridianSeriesModel$Store", "now", "I", false)
  | 4 => ("MeridianSeriesModel$Store", "span", "I", false)
  | 5 => ("MeridianSeriesModel$Store", "width", "I", false)
  | 6 => ("MeridianSeriesModel$Store", "fold", "I", false)
  | 7 => ("MeridianSeriesModel$Store", "keep", "I", false)
  | _ => ("MeridianSeriesModel$Store", "longKeep", "I", false)
def tyX14 : Nat → FieldType := fun k => match k with
  | 0 => .object "java/util/ArrayList"
  | 1 => .object "java/util/ArrayList"
  | 2 => .object "java/util/ArrayList"
  | 3 => .int
  | 4 => .int
  | 5 => .int
  | 6 => .int
  | 7 => .int
  | _ => .int
theorem nmX14 : ∀ a, a < 9 → ∀ b, b < 9 → a ≠ b → (TX14 a).2.1 ≠ (TX14 b).2.1 := by decide +kernel
theorem tyX14_ok : ∀ k, k < 9 → parseFieldDescriptor (TX14 k).2.2.1 = some (tyX14 k) := by decide +kernel
abbrev cX14_init : ByteArray := prog_17_method_1_code
def yX14_init : MethodName := ⟨RX14, "<init>", "()V"⟩
abbrev cX14_tick : ByteArray := prog_17_method_4_code
def yX14_tick : MethodName := ⟨RX14, "tick", "()V"⟩
def RX15 : String := "MeridianSeriesModel"
def TX15 : u_T := fun k => match k with
  | 0 => ("MeridianSeriesModel", "thrown", "I", false)
  | 1 => ("MeridianSeriesModel", "late", "I", false)
  | 2 => ("MeridianSeriesModel", "from", "I", false)
  | 3 => ("MeridianSeriesModel", "step", "I", false)
  | 4 => ("MeridianSeriesModel", "what", "I", false)
  | 5 => ("MeridianSeriesModel", "fill", "I", false)
  | _ => ("MeridianSeriesModel", "store", "LMeridianSeriesModel$Store;", true)
def tyX15 : Nat → FieldType := fun k => match k with
  | 0 => .int
  | 1 => .int
  | 2 => .int
  | 3 => .int
  | 4 => .int
  | 5 => .int
  | _ => .object "MeridianSeriesModel$Store"
theorem nmX15 : ∀ a, a < 7 → ∀ b, b < 7 → a ≠ b → (TX15 a).2.1 ≠ (TX15 b).2.1 := by decide +kernel
theorem tyX15_ok : ∀ k, k < 7 → parseFieldDescriptor (TX15 k).2.2.1 = some (tyX15 k) := by decide +kernel
abbrev cX15_init : ByteArray := prog_12_method_6_code
def yX15_init : MethodName := ⟨RX15, "<init>", "()V"⟩
abbrev cX15_thrown : ByteArray := prog_12_method_7_code
def yX15_thrown : MethodName := ⟨RX15, "thrown", "()I"⟩
abbrev cX15_isIn : ByteArray := prog_12_method_8_code
def yX15_isIn : MethodName := ⟨RX15, "isIn", "(III)Z"⟩
abbrev cX15_refuse : ByteArray := prog_12_method_9_code
def yX15_refuse : MethodName := ⟨RX15, "refuse", "(ZI)Z"⟩
abbrev cX15_start : ByteArray := prog_12_method_10_code
def yX15_start : MethodName := ⟨RX15, "start", "(ZI)Z"⟩
abbrev cX15_plain : ByteArray := prog_12_method_11_code
def yX15_plain : MethodName := ⟨RX15, "plain", "(I)I"⟩
abbrev cX15_addSeries : ByteArray := prog_12_method_12_code
def yX15_addSeries : MethodName := ⟨RX15, "addSeries", "(II)I"⟩
abbrev cX15_setSpan : ByteArray := prog_12_method_13_code
def yX15_setSpan : MethodName := ⟨RX15, "setSpan", "(I)I"⟩
abbrev cX15_hasBuckets : ByteArray := prog_12_method_14_code
def yX15_hasBuckets : MethodName := ⟨RX15, "hasBuckets", "()Z"⟩
abbrev cX15_setWidths : ByteArray := prog_12_method_15_code
def yX15_setWidths : MethodName := ⟨RX15, "setWidths", "(II)I"⟩
abbrev cX15_setKeep : ByteArray := prog_12_method_16_code
def yX15_setKeep : MethodName := ⟨RX15, "setKeep", "(II)I"⟩
abbrev cX15_setQuery : ByteArray := prog_12_method_17_code
def yX15_setQuery : MethodName := ⟨RX15, "setQuery", "(IIII)I"⟩
abbrev cX15_isNoSeries : ByteArray := prog_12_method_18_code
def yX15_isNoSeries : MethodName := ⟨RX15, "isNoSeries", "(I)Z"⟩
abbrev cX15_put : ByteArray := prog_12_method_22_code
def yX15_put : MethodName := ⟨RX15, "put", "(III)I"⟩
abbrev cX15_putRow : ByteArray := prog_12_method_23_code
def yX15_putRow : MethodName := ⟨RX15, "putRow", "(IIIIII)I"⟩
abbrev cX15_goOn : ByteArray := prog_12_method_24_code
def yX15_goOn : MethodName := ⟨RX15, "goOn", "(I)I"⟩
abbrev cX15_now : ByteArray := prog_12_method_25_code
def yX15_now : MethodName := ⟨RX15, "now", "()I"⟩
abbrev cX15_series_ : ByteArray := prog_12_method_26_code
def yX15_series_ : MethodName := ⟨RX15, "series", "()I"⟩
abbrev cX15_late : ByteArray := prog_12_method_27_code
def yX15_late : MethodName := ⟨RX15, "late", "()I"⟩
abbrev cX15_blocks : ByteArray := prog_12_method_28_code
def yX15_blocks : MethodName := ⟨RX15, "blocks", "(I)I"⟩
abbrev cX15_isNoBlock : ByteArray := prog_12_method_29_code
def yX15_isNoBlock : MethodName := ⟨RX15, "isNoBlock", "(II)Z"⟩
abbrev cX15_size : ByteArray := prog_12_method_31_code
def yX15_size : MethodName := ⟨RX15, "size", "(II)I"⟩
abbrev cX15_point : ByteArray := prog_12_method_32_code
def yX15_point : MethodName := ⟨RX15, "point", "(IIIZ)I"⟩
abbrev cX15_bits : ByteArray := prog_12_method_34_code
def yX15_bits : MethodName := ⟨RX15, "bits", "(II)I"⟩
abbrev cX15_word : ByteArray := prog_12_method_35_code
def yX15_word : MethodName := ⟨RX15, "word", "(III)I"⟩
abbrev cX15_buckets_ : ByteArray := prog_12_method_37_code
def yX15_buckets_ : MethodName := ⟨RX15, "buckets", "(IZ)I"⟩
abbrev cX15_ofBucket : ByteArray := prog_12_method_38_code
def yX15_ofBucket : MethodName := ⟨RX15, "ofBucket", "(IZII)I"⟩
abbrev cX15_items : ByteArray := prog_12_method_39_code
def yX15_items : MethodName := ⟨RX15, "items", "(I)I"⟩
abbrev cX15_ask : ByteArray := prog_12_method_42_code
def yX15_ask : MethodName := ⟨RX15, "ask", "(II)I"⟩
abbrev cX15_over : ByteArray := prog_12_method_43_code
def yX15_over : MethodName := ⟨RX15, "over", "(ZIII)I"⟩
abbrev cX15_gaps : ByteArray := prog_12_method_44_code
def yX15_gaps : MethodName := ⟨RX15, "gaps", "(II)I"⟩
abbrev cX15_lastAt : ByteArray := prog_12_method_45_code
def yX15_lastAt : MethodName := ⟨RX15, "lastAt", "(II)I"⟩
abbrev cX15_addRule : ByteArray := prog_12_method_46_code
def yX15_addRule : MethodName := ⟨RX15, "addRule", "(IIIIZII)I"⟩
abbrev cX15_isNoRule : ByteArray := prog_12_method_47_code
def yX15_isNoRule : MethodName := ⟨RX15, "isNoRule", "(I)Z"⟩
abbrev cX15_stateOf : ByteArray := prog_12_method_48_code
def yX15_stateOf : MethodName := ⟨RX15, "stateOf", "(I)I"⟩
abbrev cX15_inRow : ByteArray := prog_12_method_49_code
def yX15_inRow : MethodName := ⟨RX15, "inRow", "(I)I"⟩
abbrev cX15_seenBy : ByteArray := prog_12_method_50_code
def yX15_seenBy : MethodName := ⟨RX15, "seenBy", "(I)I"⟩
abbrev cX15_events : ByteArray := prog_12_method_51_code
def yX15_events : MethodName := ⟨RX15, "events", "()I"⟩
abbrev cX15_event : ByteArray := prog_12_method_52_code
def yX15_event : MethodName := ⟨RX15, "event", "(II)I"⟩
abbrev cX15_bitsWith : ByteArray := prog_12_method_53_code
def yX15_bitsWith : MethodName := ⟨RX15, "bitsWith", "(III)I"⟩
abbrev cX15_add : ByteArray := prog_12_method_56_code
def yX15_add : MethodName := ⟨RX15, "add", "(JJ)J"⟩
abbrev cX15_digest : ByteArray := prog_12_method_58_code
def yX15_digest : MethodName := ⟨RX15, "digest", "()J"⟩
def RJ0 : String := "java/lang/String"
def TJ0 : u_T := fun k => match k with
  | 0 => ("java/lang/String", "value", "[B", true)
  | 1 => ("java/lang/String", "coder", "B", true)
  | 2 => ("java/lang/String", "hash", "I", false)
  | _ => ("java/lang/String", "hashIsZero", "Z", false)
def RJ4 : String := "java/lang/StringBuilder"
def TJ4 : u_T := fun k => match k with
  | 0 => ("java/lang/AbstractStringBuilder", "value", "[B", false)
  | 1 => ("java/lang/AbstractStringBuilder", "coder", "B", false)
  | 2 => ("java/lang/AbstractStringBuilder", "maybeLatin1", "Z", false)
  | _ => ("java/lang/AbstractStringBuilder", "count", "I", false)
def RJxa1e45 : String := "java/util/AbstractCollection"
abbrev cJxa1e45_init_da8c8 : ByteArray := prog_42_method_1_code
def yJxa1e45_init_da8c8 : MethodName := ⟨RJxa1e45, "<init>", "()V"⟩
def RJxc12de : String := "java/util/AbstractList"
abbrev cJxc12de_init_da8c8 : ByteArray := prog_43_method_1_code
def yJxc12de_init_da8c8 : MethodName := ⟨RJxc12de, "<init>", "()V"⟩
def RJx4a65c : String := "java/util/ArrayList"
def TJx4a65c : u_T := fun k => match k with
  | 0 => ("java/util/AbstractList", "modCount", "I", false)
  | 1 => ("java/util/ArrayList", "elementData", "[Ljava/lang/Object;", false)
  | _ => ("java/util/ArrayList", "size", "I", false)
def tyJx4a65c : Nat → FieldType := fun k => match k with
  | 0 => .int
  | 1 => .array (.object "java/lang/Object")
  | _ => .int
theorem nmJx4a65c : ∀ a, a < 3 → ∀ b, b < 3 → a ≠ b → (TJx4a65c a).2.1 ≠ (TJx4a65c b).2.1 := by decide +kernel
theorem tyJx4a65c_ok : ∀ k, k < 3 → parseFieldDescriptor (TJx4a65c k).2.2.1 = some (tyJx4a65c k) := by decide +kernel
abbrev cJx4a65c_init_da8c8 : ByteArray := prog_44_method_2_code
def yJx4a65c_init_da8c8 : MethodName := ⟨RJx4a65c, "<init>", "()V"⟩
abbrev cJx4a65c_grow_92f84 : ByteArray := prog_44_method_6_code
def yJx4a65c_grow_92f84 : MethodName := ⟨RJx4a65c, "grow", "(I)[Ljava/lang/Object;"⟩
abbrev cJx4a65c_grow_d5877 : ByteArray := prog_44_method_7_code
def yJx4a65c_grow_d5877 : MethodName := ⟨RJx4a65c, "grow", "()[Ljava/lang/Object;"⟩
abbrev cJx4a65c_size_8abf5 : ByteArray := prog_44_method_8_code
def yJx4a65c_size_8abf5 : MethodName := ⟨RJx4a65c, "size", "()I"⟩
abbrev cJx4a65c_add_72be8 : ByteArray := prog_44_method_24_code
def yJx4a65c_add_72be8 : MethodName := ⟨RJx4a65c, "add", "(Ljava/lang/Object;[Ljava/lang/Object;I)V"⟩
abbrev cJx4a65c_add_9ea2d : ByteArray := prog_44_method_25_code
def yJx4a65c_add_9ea2d : MethodName := ⟨RJx4a65c, "add", "(Ljava/lang/Object;)Z"⟩
def RL : String := "MeridianSeriesLaw"
abbrev cL_addSeries : ByteArray := method_3_code
def yL_addSeries : MethodName := ⟨RL, "addSeries", "(LMeridianSeries;II[J)I"⟩
abbrev cL_setSpan : ByteArray := method_4_code
def yL_setSpan : MethodName := ⟨RL, "setSpan", "(LMeridianSeries;I[J)I"⟩
abbrev cL_setWidths : ByteArray := method_5_code
def yL_setWidths : MethodName := ⟨RL, "setWidths", "(LMeridianSeries;II[J)I"⟩
abbrev cL_setKeep : ByteArray := method_6_code
def yL_setKeep : MethodName := ⟨RL, "setKeep", "(LMeridianSeries;II[J)I"⟩
abbrev cL_setQuery : ByteArray := method_7_code
def yL_setQuery : MethodName := ⟨RL, "setQuery", "(LMeridianSeries;IIII[J)I"⟩
abbrev cL_put : ByteArray := method_8_code
def yL_put : MethodName := ⟨RL, "put", "(LMeridianSeries;III[J)I"⟩
abbrev cL_putRow : ByteArray := method_9_code
def yL_putRow : MethodName := ⟨RL, "putRow", "(LMeridianSeries;IIIIII[J)I"⟩
abbrev cL_goOn : ByteArray := method_10_code
def yL_goOn : MethodName := ⟨RL, "goOn", "(LMeridianSeries;I[J)I"⟩
abbrev cL_blocks : ByteArray := method_11_code
def yL_blocks : MethodName := ⟨RL, "blocks", "(LMeridianSeries;I[J)I"⟩
abbrev cL_size : ByteArray := method_12_code
def yL_size : MethodName := ⟨RL, "size", "(LMeridianSeries;II[J)I"⟩
abbrev cL_point : ByteArray := method_13_code
def yL_point : MethodName := ⟨RL, "point", "(LMeridianSeries;IIIZ[J)I"⟩
abbrev cL_bits : ByteArray := method_14_code
def yL_bits : MethodName := ⟨RL, "bits", "(LMeridianSeries;II[J)I"⟩
abbrev cL_word : ByteArray := method_15_code
def yL_word : MethodName := ⟨RL, "word", "(LMeridianSeries;III[J)I"⟩
abbrev cL_buckets : ByteArray := method_16_code
def yL_buckets : MethodName := ⟨RL, "buckets", "(LMeridianSeries;IZ[J)I"⟩
abbrev cL_ofBucket : ByteArray := method_17_code
def yL_ofBucket : MethodName := ⟨RL, "ofBucket", "(LMeridianSeries;IZII[J)I"⟩
abbrev cL_items : ByteArray := method_18_code
def yL_items : MethodName := ⟨RL, "items", "(LMeridianSeries;I[J)I"⟩
abbrev cL_ask : ByteArray := method_19_code
def yL_ask : MethodName := ⟨RL, "ask", "(LMeridianSeries;II[J)I"⟩
abbrev cL_over : ByteArray := method_20_code
def yL_over : MethodName := ⟨RL, "over", "(LMeridianSeries;ZIII[J)I"⟩
abbrev cL_gaps : ByteArray := method_21_code
def yL_gaps : MethodName := ⟨RL, "gaps", "(LMeridianSeries;II[J)I"⟩
abbrev cL_lastAt : ByteArray := method_22_code
def yL_lastAt : MethodName := ⟨RL, "lastAt", "(LMeridianSeries;II[J)I"⟩
abbrev cL_addRule : ByteArray := method_23_code
def yL_addRule : MethodName := ⟨RL, "addRule", "(LMeridianSeries;IIIIZII[J)I"⟩
abbrev cL_stateOf : ByteArray := method_24_code
def yL_stateOf : MethodName := ⟨RL, "stateOf", "(LMeridianSeries;I[J)I"⟩
abbrev cL_inRow : ByteArray := method_25_code
def yL_inRow : MethodName := ⟨RL, "inRow", "(LMeridianSeries;I[J)I"⟩
abbrev cL_seenBy : ByteArray := method_26_code
def yL_seenBy : MethodName := ⟨RL, "seenBy", "(LMeridianSeries;I[J)I"⟩
abbrev cL_event : ByteArray := method_27_code
def yL_event : MethodName := ⟨RL, "event", "(LMeridianSeries;II[J)I"⟩
abbrev cL_bitsWith : ByteArray := method_28_code
def yL_bitsWith : MethodName := ⟨RL, "bitsWith", "(LMeridianSeries;III[J)I"⟩
abbrev cL_firesIn : ByteArray := method_29_code
def yL_firesIn : MethodName := ⟨RL, "firesIn", "(LMeridianSeries;I[J)I"⟩
abbrev cL_wouldRoll : ByteArray := method_30_code
def yL_wouldRoll : MethodName := ⟨RL, "wouldRoll", "(LMeridianSeries;I[J)I"⟩
theorem dX0_init_0 : decode cX0_init 0 = .ok (.aload_n 0, 1) := by decide +kernel
theorem dX0_init_1 : decode cX0_init 1 = .ok (.invokespecial 3, 3) := by decide +kernel
theorem dX0_init_4 : decode cX0_init 4 = .ok (.aload_n 0, 1) := by decide +kernel
theorem dX0_init_5 : decode cX0_init 5 = .ok (.sipush 175, 3) := by decide +kernel
theorem dX0_init_8 : decode cX0_init 8 = .ok (.newarray .int, 2) := by decide +kernel
theorem dX0_init_10 : decode cX0_init 10 = .ok (.putfield 11, 3) := by decide +kernel
theorem dX0_init_13 : decode cX0_init 13 = .ok (.return_, 1) := by decide +kernel
theorem dX1_init_0 : decode cX1_init 0 = .ok (.aload_n 0, 1) := by decide +kernel
theorem dX1_init_1 : decode cX1_init 1 = .ok (.invokespecial 3, 3) := by decide +kernel
theorem dX1_init_4 : decode cX1_init 4 = .ok (.aload_n 0, 1) := by decide +kernel
theorem dX1_init_5 : decode cX1_init 5 = .ok (.bipush 60, 2) := by decide +kernel
theorem dX1_init_7 : decode cX1_init 7 = .ok (.newarray .int, 2) := by decide +kernel
theorem dX1_init_9 : decode cX1_init 9 = .ok (.putfield 9, 3) := by decide +kernel
theorem dX1_init_12 : decode cX1_init 12 = .ok (.aload_n 0, 1) := by decide +kernel
theorem dX1_init_13 : decode cX1_init 13 = .ok (.iconst 0, 1) := by decide +kernel
theorem dX1_init_14 : decode cX1_init 14 = .ok (.putfield 15, 3) := by decide +kernel
theorem dX1_init_17 : decode cX1_init 17 = .ok (.aload_n 0, 1) := by decide +kernel
theorem dX1_init_18 : decode cX1_init 18 = .ok (.iconst 0, 1) := by decide +kernel
theorem dX1_init_19 : decode cX1_init 19 = .ok (.putfield 19, 3) := by decide +kernel
theorem dX1_init_22 : decode cX1_init 22 = .ok (.return_, 1) := by decide +kernel
theorem dX2_init_0 : decode cX2_init 0 = .ok (.aload_n 0, 1) := by decide +kernel
theorem dX2_init_1 : decode cX2_init 1 = .ok (.invokespecial 1, 3) := by decide +kernel
theorem dX2_init_4 : decode cX2_init 4 = .ok (.aload_n 0, 1) := by decide +kernel
theorem dX2_init_5 : decode cX2_init 5 = .ok (.iconst 0, 1) := by decide +kernel
theorem dX2_init_6 : decode cX2_init 6 = .ok (.putfield 7, 3) := by decide +kernel
theorem dX2_init_9 : decode cX2_init 9 = .ok (.return_, 1) := by decide +kernel
theorem dX3_init_0 : decode cX3_init 0 = .ok (.aload_n 0, 1) := by decide +kernel
theorem dX3_init_1 : decode cX3_init 1 = .ok (.invokespecial 3, 3) := by decide +kernel
theorem dX3_init_4 : decode cX3_init 4 = .ok (.aload_n 0, 1) := by decide +kernel
theorem dX3_init_5 : decode cX3_init 5 = .ok (.bipush 48, 2) := by decide +kernel
theorem dX3_init_7 : decode cX3_init 7 = .ok (.newarray .int, 2) := by decide +kernel
theorem dX3_init_9 : decode cX3_init 9 = .ok (.putfield 11, 3) := by decide +kernel
theorem dX3_init_12 : decode cX3_init 12 = .ok (.aload_n 0, 1) := by decide +kernel
theorem dX3_init_13 : decode cX3_init 13 = .ok (.iconst 0, 1) := by decide +kernel
theorem dX3_init_14 : decode cX3_init 14 = .ok (.putfield 15, 3) := by decide +kernel
theorem dX3_init_17 : decode cX3_init 17 = .ok (.aload_n 0, 1) := by decide +kernel
theorem dX3_init_18 : decode cX3_init 18 = .ok (.iconst 0, 1) := by decide +kernel
theorem dX3_init_19 : decode cX3_init 19 = .ok (.putfield 19, 3) := by decide +kernel
theorem dX3_init_22 : decode cX3_init 22 = .ok (.aload_n 0, 1) := by decide +kernel
theorem dX3_init_23 : decode cX3_init 23 = .ok (.iconst 0, 1) := by decide +kernel
theorem dX3_init_24 : decode cX3_init 24 = .ok (.putfield 22, 3) := by decide +kernel
theorem dX3_init_27 : decode cX3_init 27 = .ok (.aload_n 0, 1) := by decide +kernel
theorem dX3_init_28 : decode cX3_init 28 = .ok (.iconst 0, 1) := by decide +kernel
theorem dX3_init_29 : decode cX3_init 29 = .ok (.putfield 25, 3) := by decide +kernel
theorem dX3_init_32 : decode cX3_init 32 = .ok (.aload_n 0, 1) := by decide +kernel
theorem dX3_init_33 : decode cX3_init 33 = .ok (.iconst 0, 1) := by decide +kernel
theorem dX3_init_34 : decode cX3_init 34 = .ok (.putfield 28, 3) := by decide +kernel
theorem dX3_init_37 : decode cX3_init 37 = .ok (.return_, 1) := by decide +kernel
theorem dX4_init_0 : decode cX4_init 0 = .ok (.aload_n 0, 1) := by decide +kernel
theorem dX4_init_1 : decode cX4_init 1 = .ok (.invokespecial 5, 3) := by decide +kernel
theorem dX4_init_4 : decode cX4_init 4 = .ok (.aload_n 0, 1) := by decide +kernel
theorem dX4_init_5 : decode cX4_init 5 = .ok (.sipush 160, 3) := by decide +kernel
theorem dX4_init_8 : decode cX4_init 8 = .ok (.newarray .int, 2) := by decide +kernel
theorem dX4_init_10 : decode cX4_init 10 = .ok (.putfield 11, 3) := by decide +kernel
theorem dX4_init_13 : decode cX4_init 13 = .ok (.aload_n 0, 1) := by decide +kernel
theorem dX4_init_14 : decode cX4_init 14 = .ok (.sipush 160, 3) := by decide +kernel
theorem dX4_init_17 : decode cX4_init 17 = .ok (.newarray .int, 2) := by decide +kernel
theorem dX4_init_19 : decode cX4_init 19 = .ok (.putfield 15, 3) := by decide +kernel
theorem dX4_init_22 : decode cX4_init 22 = .ok (.aload_n 0, 1) := by decide +kernel
theorem dX4_init_23 : decode cX4_init 23 = .ok (.bipush 9, 2) := by decide +kernel
theorem dX4_init_25 : decode cX4_init 25 = .ok (.newarray .int, 2) := by decide +kernel
theorem dX4_init_27 : decode cX4_init 27 = .ok (.putfield 18, 3) := by decide +kernel
theorem dX4_init_30 : decode cX4_init 30 = .ok (.aload_n 0, 1) := by decide +kernel
theorem dX4_init_31 : decode cX4_init 31 = .ok (.iconst 0, 1) := by decide +kernel
theorem dX4_init_32 : decode cX4_init 32 = .ok (.putfield 21, 3) := by decide +kernel
theorem dX4_init_35 : decode cX4_init 35 = .ok (.aload_n 0, 1) := by decide +kernel
theorem dX4_init_36 : decode cX4_init 36 = .ok (.iconst 0, 1) := by decide +kernel
theorem dX4_init_37 : decode cX4_init 37 = .ok (.putfield 25, 3) := by decide +kernel
theorem dX4_init_40 : decode cX4_init 40 = .ok (.aload_n 0, 1) := by decide +kernel
theorem dX4_init_41 : decode cX4_init 41 = .ok (.iconst (-1), 1) := by decide +kernel
theorem dX4_init_42 : decode cX4_init 42 = .ok (.putfield 28, 3) := by decide +kernel
theorem dX4_init_45 : decode cX4_init 45 = .ok (.return_, 1) := by decide +kernel
theorem dX6_init_0 : decode cX6_init 0 = .ok (.aload_n 0, 1) := by decide +kernel
theorem dX6_init_1 : decode cX6_init 1 = .ok (.invokespecial 3, 3) := by decide +kernel
theorem dX6_init_4 : decode cX6_init 4 = .ok (.aload_n 0, 1) := by decide +kernel
theorem dX6_init_5 : decode cX6_init 5 = .ok (.new 9, 3) := by decide +kernel
theorem dX6_init_8 : decode cX6_init 8 = .ok (.dup, 1) := by decide +kernel
theorem dX6_init_9 : decode cX6_init 9 = .ok (.invokespecial 11, 3) := by decide +kernel
theorem dX6_init_12 : decode cX6_init 12 = .ok (.putfield 12, 3) := by decide +kernel
theorem dX6_init_15 : decode cX6_init 15 = .ok (.aload_n 0, 1) := by decide +kernel
theorem dX6_init_16 : decode cX6_init 16 = .ok (.new 18, 3) := by decide +kernel
theorem dX6_init_19 : decode cX6_init 19 = .ok (.dup, 1) := by decide +kernel
theorem dX6_init_20 : decode cX6_init 20 = .ok (.invokespecial 20, 3) := by decide +kernel
theorem dX6_init_23 : decode cX6_init 23 = .ok (.putfield 21, 3) := by decide +kernel
theorem dX6_init_26 : decode cX6_init 26 = .ok (.aload_n 0, 1) := by decide +kernel
theorem dX6_init_27 : decode cX6_init 27 = .ok (.new 18, 3) := by decide +kernel
theorem dX6_init_30 : decode cX6_init 30 = .ok (.dup, 1) := by decide +kernel
theorem dX6_init_31 : decode cX6_init 31 = .ok (.invokespecial 20, 3) := by decide +kernel
theorem dX6_init_34 : decode cX6_init 34 = .ok (.putfield 25, 3) := by decide +kernel
theorem dX6_init_37 : decode cX6_init 37 = .ok (.aload_n 0, 1) := by decide +kernel
theorem dX6_init_38 : decode cX6_init 38 = .ok (.iload_n 1, 1) := by decide +kernel
theorem dX6_init_39 : decode cX6_init 39 = .ok (.putfield 28, 3) := by decide +kernel
theorem dX6_init_42 : decode cX6_init 42 = .ok (.aload_n 0, 1) := by decide +kernel
theorem dX6_init_43 : decode cX6_init 43 = .ok (.iload_n 2, 1) := by decide +kernel
theorem dX6_init_44 : decode cX6_init 44 = .ok (.putfield 32, 3) := by decide +kernel
theorem dX6_init_47 : decode cX6_init 47 = .ok (.return_, 1) := by decide +kernel
theorem dX7_init_0 : decode cX7_init 0 = .ok (.aload_n 0, 1) := by decide +kernel
theorem dX7_init_1 : decode cX7_init 1 = .ok (.invokespecial 1, 3) := by decide +kernel
theorem dX7_init_4 : decode cX7_init 4 = .ok (.aload_n 0, 1) := by decide +kernel
theorem dX7_init_5 : decode cX7_init 5 = .ok (.bipush 8, 2) := by decide +kernel
theorem dX7_init_7 : decode cX7_init 7 = .ok (.putfield 7, 3) := by decide +kernel
theorem dX7_init_10 : decode cX7_init 10 = .ok (.aload_n 0, 1) := by decide +kernel
theorem dX7_init_11 : decode cX7_init 11 = .ok (.bipush 10, 2) := by decide +kernel
theorem dX7_init_13 : decode cX7_init 13 = .ok (.putfield 13, 3) := by decide +kernel
theorem dX7_init_16 : decode cX7_init 16 = .ok (.aload_n 0, 1) := by decide +kernel
theorem dX7_init_17 : decode cX7_init 17 = .ok (.bipush 6, 2) := by decide +kernel
theorem dX7_init_19 : decode cX7_init 19 = .ok (.putfield 16, 3) := by decide +kernel
theorem dX7_init_22 : decode cX7_init 22 = .ok (.aload_n 0, 1) := by decide +kernel
theorem dX7_init_23 : decode cX7_init 23 = .ok (.iconst 0, 1) := by decide +kernel
theorem dX7_init_24 : decode cX7_init 24 = .ok (.putfield 19, 3) := by decide +kernel
theorem dX7_init_27 : decode cX7_init 27 = .ok (.aload_n 0, 1) := by decide +kernel
theorem dX7_init_28 : decode cX7_init 28 = .ok (.iconst 0, 1) := by decide +kernel
theorem dX7_init_29 : decode cX7_init 29 = .ok (.putfield 22, 3) := by decide +kernel
theorem dX7_init_32 : decode cX7_init 32 = .ok (.return_, 1) := by decide +kernel
theorem dX8_init_0 : decode cX8_init 0 = .ok (.aload_n 0, 1) := by decide +kernel
theorem dX8_init_1 : decode cX8_init 1 = .ok (.invokespecial 1, 3) := by decide +kernel
theorem dX8_init_4 : decode cX8_init 4 = .ok (.aload_n 0, 1) := by decide +kernel
theorem dX8_init_5 : decode cX8_init 5 = .ok (.new 7, 3) := by decide +kernel
theorem dX8_init_8 : decode cX8_init 8 = .ok (.dup, 1) := by decide +kernel
theorem dX8_init_9 : decode cX8_init 9 = .ok (.invokespecial 9, 3) := by decide +kernel
theorem dX8_init_12 : decode cX8_init 12 = .ok (.putfield 10, 3) := by decide +kernel
theorem dX8_init_15 : decode cX8_init 15 = .ok (.aload_n 0, 1) := by decide +kernel
theorem dX8_init_16 : decode cX8_init 16 = .ok (.new 7, 3) := by decide +kernel
theorem dX8_init_19 : decode cX8_init 19 = .ok (.dup, 1) := by decide +kernel
theorem dX8_init_20 : decode cX8_init 20 = .ok (.invokespecial 9, 3) := by decide +kernel
theorem dX8_init_23 : decode cX8_init 23 = .ok (.putfield 16, 3) := by decide +kernel
theorem dX8_init_26 : decode cX8_init 26 = .ok (.aload_n 0, 1) := by decide +kernel
theorem dX8_init_27 : decode cX8_init 27 = .ok (.new 19, 3) := by decide +kernel
theorem dX8_init_30 : decode cX8_init 30 = .ok (.dup, 1) := by decide +kernel
theorem dX8_init_31 : decode cX8_init 31 = .ok (.invokespecial 21, 3) := by decide +kernel
theorem dX8_init_34 : decode cX8_init 34 = .ok (.putfield 22, 3) := by decide +kernel
theorem dX8_init_37 : decode cX8_init 37 = .ok (.aload_n 0, 1) := by decide +kernel
theorem dX8_init_38 : decode cX8_init 38 = .ok (.iconst 0, 1) := by decide +kernel
theorem dX8_init_39 : decode cX8_init 39 = .ok (.putfield 26, 3) := by decide +kernel
theorem dX8_init_42 : decode cX8_init 42 = .ok (.aload_n 0, 1) := by decide +kernel
theorem dX8_init_43 : decode cX8_init 43 = .ok (.aload_n 1, 1) := by decide +kernel
theorem dX8_init_44 : decode cX8_init 44 = .ok (.putfield 30, 3) := by decide +kernel
theorem dX8_init_47 : decode cX8_init 47 = .ok (.return_, 1) := by decide +kernel
theorem dX8_hasBucket_0 : decode cX8_hasBucket 0 = .ok (.iconst 0, 1) := by decide +kernel
theorem dX8_hasBucket_1 : decode cX8_hasBucket 1 = .ok (.istore_n 1, 1) := by decide +kernel
theorem dX8_hasBucket_2 : decode cX8_hasBucket 2 = .ok (.iload_n 1, 1) := by decide +kernel
theorem dX8_hasBucket_3 : decode cX8_hasBucket 3 = .ok (.aload_n 0, 1) := by decide +kernel
theorem dX8_hasBucket_4 : decode cX8_hasBucket 4 = .ok (.getfield 10, 3) := by decide +kernel
theorem dX8_hasBucket_7 : decode cX8_hasBucket 7 = .ok (.invokevirtual 34, 3) := by decide +kernel
theorem dX8_hasBucket_10 : decode cX8_hasBucket 10 = .ok (.if_icmp .ge 49, 3) := by decide +kernel
theorem dX8_hasBucket_59 : decode cX8_hasBucket 59 = .ok (.iconst 0, 1) := by decide +kernel
theorem dX8_hasBucket_60 : decode cX8_hasBucket 60 = .ok (.ireturn, 1) := by decide +kernel
theorem dX8_goOnByOne_0 : decode cX8_goOnByOne 0 = .ok (.aload_n 0, 1) := by decide +kernel
theorem dX8_goOnByOne_1 : decode cX8_goOnByOne 1 = .ok (.dup, 1) := by decide +kernel
theorem dX8_goOnByOne_2 : decode cX8_goOnByOne 2 = .ok (.getfield 26, 3) := by decide +kernel
theorem dX8_goOnByOne_5 : decode cX8_goOnByOne 5 = .ok (.iconst 1, 1) := by decide +kernel
theorem dX8_goOnByOne_6 : decode cX8_goOnByOne 6 = .ok (.iadd, 1) := by decide +kernel
theorem dX8_goOnByOne_7 : decode cX8_goOnByOne 7 = .ok (.putfield 26, 3) := by decide +kernel
theorem dX8_goOnByOne_10 : decode cX8_goOnByOne 10 = .ok (.iconst 0, 1) := by decide +kernel
theorem dX8_goOnByOne_11 : decode cX8_goOnByOne 11 = .ok (.istore_n 1, 1) := by decide +kernel
theorem dX8_goOnByOne_12 : decode cX8_goOnByOne 12 = .ok (.iload_n 1, 1) := by decide +kernel
theorem dX8_goOnByOne_13 : decode cX8_goOnByOne 13 = .ok (.aload_n 0, 1) := by decide +kernel
theorem dX8_goOnByOne_14 : decode cX8_goOnByOne 14 = .ok (.getfield 10, 3) := by decide +kernel
theorem dX8_goOnByOne_17 : decode cX8_goOnByOne 17 = .ok (.invokevirtual 34, 3) := by decide +kernel
theorem dX8_goOnByOne_20 : decode cX8_goOnByOne 20 = .ok (.if_icmp .ge 31, 3) := by decide +kernel
theorem dX8_goOnByOne_51 : decode cX8_goOnByOne 51 = .ok (.iconst 0, 1) := by decide +kernel
theorem dX8_goOnByOne_52 : decode cX8_goOnByOne 52 = .ok (.istore_n 1, 1) := by decide +kernel
theorem dX8_goOnByOne_53 : decode cX8_goOnByOne 53 = .ok (.iload_n 1, 1) := by decide +kernel
theorem dX8_goOnByOne_54 : decode cX8_goOnByOne 54 = .ok (.aload_n 0, 1) := by decide +kernel
theorem dX8_goOnByOne_55 : decode cX8_goOnByOne 55 = .ok (.getfield 16, 3) := by decide +kernel
theorem dX8_goOnByOne_58 : decode cX8_goOnByOne 58 = .ok (.invokevirtual 34, 3) := by decide +kernel
theorem dX8_goOnByOne_61 : decode cX8_goOnByOne 61 = .ok (.if_icmp .ge 63, 3) := by decide +kernel
theorem dX8_goOnByOne_124 : decode cX8_goOnByOne 124 = .ok (.return_, 1) := by decide +kernel
theorem dX8_copyFrom_0 : decode cX8_copyFrom 0 = .ok (.aload_n 0, 1) := by decide +kernel
theorem dX8_copyFrom_1 : decode cX8_copyFrom 1 = .ok (.aload_n 1, 1) := by decide +kernel
theorem dX8_copyFrom_2 : decode cX8_copyFrom 2 = .ok (.getfield 26, 3) := by decide +kernel
theorem dX8_copyFrom_5 : decode cX8_copyFrom 5 = .ok (.putfield 26, 3) := by decide +kernel
theorem dX8_copyFrom_8 : decode cX8_copyFrom 8 = .ok (.iconst 0, 1) := by decide +kernel
theorem dX8_copyFrom_9 : decode cX8_copyFrom 9 = .ok (.istore_n 2, 1) := by decide +kernel
theorem dX8_copyFrom_10 : decode cX8_copyFrom 10 = .ok (.iload_n 2, 1) := by decide +kernel
theorem dX8_copyFrom_11 : decode cX8_copyFrom 11 = .ok (.aload_n 0, 1) := by decide +kernel
theorem dX8_copyFrom_12 : decode cX8_copyFrom 12 = .ok (.getfield 10, 3) := by decide +kernel
theorem dX8_copyFrom_15 : decode cX8_copyFrom 15 = .ok (.invokevirtual 34, 3) := by decide +kernel
theorem dX8_copyFrom_18 : decode cX8_copyFrom 18 = .ok (.if_icmp .ge 45, 3) := by decide +kernel
theorem dX8_copyFrom_63 : decode cX8_copyFrom 63 = .ok (.iconst 0, 1) := by decide +kernel
theorem dX8_copyFrom_64 : decode cX8_copyFrom 64 = .ok (.istore_n 2, 1) := by decide +kernel
theorem dX8_copyFrom_65 : decode cX8_copyFrom 65 = .ok (.iload_n 2, 1) := by decide +kernel
theorem dX8_copyFrom_66 : decode cX8_copyFrom 66 = .ok (.aload_n 0, 1) := by decide +kernel
theorem dX8_copyFrom_67 : decode cX8_copyFrom 67 = .ok (.getfield 16, 3) := by decide +kernel
theorem dX8_copyFrom_70 : decode cX8_copyFrom 70 = .ok (.invokevirtual 34, 3) := by decide +kernel
theorem dX8_copyFrom_73 : decode cX8_copyFrom 73 = .ok (.if_icmp .ge 45, 3) := by decide +kernel
theorem dX8_copyFrom_118 : decode cX8_copyFrom 118 = .ok (.return_, 1) := by decide +kernel
theorem dX9_init_0 : decode cX9_init 0 = .ok (.aload_n 0, 1) := by decide +kernel
theorem dX9_init_1 : decode cX9_init 1 = .ok (.invokespecial 1, 3) := by decide +kernel
theorem dX9_init_4 : decode cX9_init 4 = .ok (.aload_n 0, 1) := by decide +kernel
theorem dX9_init_5 : decode cX9_init 5 = .ok (.new 7, 3) := by decide +kernel
theorem dX9_init_8 : decode cX9_init 8 = .ok (.dup, 1) := by decide +kernel
theorem dX9_init_9 : decode cX9_init 9 = .ok (.invokespecial 9, 3) := by decide +kernel
theorem dX9_init_12 : decode cX9_init 12 = .ok (.putfield 10, 3) := by decide +kernel
theorem dX9_init_15 : decode cX9_init 15 = .ok (.aload_n 0, 1) := by decide +kernel
theorem dX9_init_16 : decode cX9_init 16 = .ok (.new 16, 3) := by decide +kernel
theorem dX9_init_19 : decode cX9_init 19 = .ok (.dup, 1) := by decide +kernel
theorem dX9_init_20 : decode cX9_init 20 = .ok (.aload_n 0, 1) := by decide +kernel
theorem dX9_init_21 : decode cX9_init 21 = .ok (.getfield 10, 3) := by decide +kernel
theorem dX9_init_24 : decode cX9_init 24 = .ok (.invokespecial 18, 3) := by decide +kernel
theorem dX9_init_27 : decode cX9_init 27 = .ok (.putfield 21, 3) := by decide +kernel
theorem dX9_init_30 : decode cX9_init 30 = .ok (.aload_n 0, 1) := by decide +kernel
theorem dX9_init_31 : decode cX9_init 31 = .ok (.new 16, 3) := by decide +kernel
theorem dX9_init_34 : decode cX9_init 34 = .ok (.dup, 1) := by decide +kernel
theorem dX9_init_35 : decode cX9_init 35 = .ok (.aload_n 0, 1) := by decide +kernel
theorem dX9_init_36 : decode cX9_init 36 = .ok (.getfield 10, 3) := by decide +kernel
theorem dX9_init_39 : decode cX9_init 39 = .ok (.invokespecial 18, 3) := by decide +kernel
theorem dX9_init_42 : decode cX9_init 42 = .ok (.putfield 25, 3) := by decide +kernel
theorem dX9_init_45 : decode cX9_init 45 = .ok (.aload_n 0, 1) := by decide +kernel
theorem dX9_init_46 : decode cX9_init 46 = .ok (.new 28, 3) := by decide +kernel
theorem dX9_init_49 : decode cX9_init 49 = .ok (.dup, 1) := by decide +kernel
theorem dX9_init_50 : decode cX9_init 50 = .ok (.invokespecial 30, 3) := by decide +kernel
theorem dX9_init_53 : decode cX9_init 53 = .ok (.putfield 31, 3) := by decide +kernel
theorem dX9_init_56 : decode cX9_init 56 = .ok (.aload_n 0, 1) := by decide +kernel
theorem dX9_init_57 : decode cX9_init 57 = .ok (.iconst 0, 1) := by decide +kernel
theorem dX9_init_58 : decode cX9_init 58 = .ok (.putfield 35, 3) := by decide +kernel
theorem dX9_init_61 : decode cX9_init 61 = .ok (.aload_n 0, 1) := by decide +kernel
theorem dX9_init_62 : decode cX9_init 62 = .ok (.bipush 10, 2) := by decide +kernel
theorem dX9_init_64 : decode cX9_init 64 = .ok (.putfield 39, 3) := by decide +kernel
theorem dX9_init_67 : decode cX9_init 67 = .ok (.aload_n 0, 1) := by decide +kernel
theorem dX9_init_68 : decode cX9_init 68 = .ok (.iconst 1, 1) := by decide +kernel
theorem dX9_init_69 : decode cX9_init 69 = .ok (.putfield 42, 3) := by decide +kernel
theorem dX9_init_72 : decode cX9_init 72 = .ok (.aload_n 0, 1) := by decide +kernel
theorem dX9_init_73 : decode cX9_init 73 = .ok (.iconst 0, 1) := by decide +kernel
theorem dX9_init_74 : decode cX9_init 74 = .ok (.putfield 45, 3) := by decide +kernel
theorem dX9_init_77 : decode cX9_init 77 = .ok (.aload_n 0, 1) := by decide +kernel
theorem dX9_init_78 : decode cX9_init 78 = .ok (.iconst 0, 1) := by decide +kernel
theorem dX9_init_79 : decode cX9_init 79 = .ok (.putfield 48, 3) := by decide +kernel
theorem dX9_init_82 : decode cX9_init 82 = .ok (.return_, 1) := by decide +kernel
theorem dX9_addSeries_0 : decode cX9_addSeries 0 = .ok (.iload_n 1, 1) := by decide +kernel
theorem dX9_addSeries_1 : decode cX9_addSeries 1 = .ok (.i2l, 1) := by decide +kernel
theorem dX9_addSeries_2 : decode cX9_addSeries 2 = .ok (.iconst 0, 1) := by decide +kernel
theorem dX9_addSeries_3 : decode cX9_addSeries 3 = .ok (.bipush 9, 2) := by decide +kernel
theorem dX9_addSeries_5 : decode cX9_addSeries 5 = .ok (.invokestatic 51, 3) := by decide +kernel
theorem dX9_addSeries_8 : decode cX9_addSeries 8 = .ok (.ifCond .eq 18, 3) := by decide +kernel
theorem dX9_addSeries_11 : decode cX9_addSeries 11 = .ok (.iload_n 2, 1) := by decide +kernel
theorem dX9_addSeries_12 : decode cX9_addSeries 12 = .ok (.i2l, 1) := by decide +kernel
theorem dX9_addSeries_13 : decode cX9_addSeries 13 = .ok (.iconst 0, 1) := by decide +kernel
theorem dX9_addSeries_14 : decode cX9_addSeries 14 = .ok (.bipush 9, 2) := by decide +kernel
theorem dX9_addSeries_16 : decode cX9_addSeries 16 = .ok (.invokestatic 51, 3) := by decide +kernel
theorem dX9_addSeries_19 : decode cX9_addSeries 19 = .ok (.ifCond .eq 7, 3) := by decide +kernel
theorem dX9_addSeries_22 : decode cX9_addSeries 22 = .ok (.iconst 1, 1) := by decide +kernel
theorem dX9_addSeries_23 : decode cX9_addSeries 23 = .ok (.goto 4, 3) := by decide +kernel
theorem dX9_addSeries_26 : decode cX9_addSeries 26 = .ok (.iconst 0, 1) := by decide +kernel
theorem dX9_addSeries_27 : decode cX9_addSeries 27 = .ok (.invokestatic 55, 3) := by decide +kernel
theorem dX9_addSeries_30 : decode cX9_addSeries 30 = .ok (.aload_n 0, 1) := by decide +kernel
theorem dX9_addSeries_31 : decode cX9_addSeries 31 = .ok (.getfield 21, 3) := by decide +kernel
theorem dX9_addSeries_34 : decode cX9_addSeries 34 = .ok (.getfield 59, 3) := by decide +kernel
theorem dX9_addSeries_37 : decode cX9_addSeries 37 = .ok (.invokevirtual 63, 3) := by decide +kernel
theorem dX9_addSeries_40 : decode cX9_addSeries 40 = .ok (.istore_n 3, 1) := by decide +kernel
theorem dX9_addSeries_41 : decode cX9_addSeries 41 = .ok (.iload_n 3, 1) := by decide +kernel
theorem dX9_addSeries_42 : decode cX9_addSeries 42 = .ok (.bipush 6, 2) := by decide +kernel
theorem dX9_addSeries_44 : decode cX9_addSeries 44 = .ok (.if_icmp .ge 7, 3) := by decide +kernel
theorem dX9_addSeries_47 : decode cX9_addSeries 47 = .ok (.iconst 1, 1) := by decide +kernel
theorem dX9_addSeries_48 : decode cX9_addSeries 48 = .ok (.goto 4, 3) := by decide +kernel
theorem dX9_addSeries_52 : decode cX9_addSeries 52 = .ok (.invokestatic 69, 3) := by decide +kernel
theorem dX9_addSeries_55 : decode cX9_addSeries 55 = .ok (.aload_n 0, 1) := by decide +kernel
theorem dX9_addSeries_56 : decode cX9_addSeries 56 = .ok (.getfield 21, 3) := by decide +kernel
theorem dX9_addSeries_59 : decode cX9_addSeries 59 = .ok (.getfield 59, 3) := by decide +kernel
theorem dX9_addSeries_62 : decode cX9_addSeries 62 = .ok (.new 72, 3) := by decide +kernel
theorem dX9_addSeries_65 : decode cX9_addSeries 65 = .ok (.dup, 1) := by decide +kernel
theorem dX9_addSeries_66 : decode cX9_addSeries 66 = .ok (.iload_n 1, 1) := by decide +kernel
theorem dX9_addSeries_67 : decode cX9_addSeries 67 = .ok (.iload_n 2, 1) := by decide +kernel
theorem dX9_addSeries_68 : decode cX9_addSeries 68 = .ok (.invokespecial 74, 3) := by decide +kernel
theorem dX9_addSeries_71 : decode cX9_addSeries 71 = .ok (.invokevirtual 77, 3) := by decide +kernel
theorem dX9_addSeries_74 : decode cX9_addSeries 74 = .ok (.pop, 1) := by decide +kernel
theorem dX9_addSeries_75 : decode cX9_addSeries 75 = .ok (.aload_n 0, 1) := by decide +kernel
theorem dX9_addSeries_76 : decode cX9_addSeries 76 = .ok (.getfield 25, 3) := by decide +kernel
theorem dX9_addSeries_79 : decode cX9_addSeries 79 = .ok (.getfield 59, 3) := by decide +kernel
theorem dX9_addSeries_82 : decode cX9_addSeries 82 = .ok (.new 72, 3) := by decide +kernel
theorem dX9_addSeries_85 : decode cX9_addSeries 85 = .ok (.dup, 1) := by decide +kernel
theorem dX9_addSeries_86 : decode cX9_addSeries 86 = .ok (.iload_n 1, 1) := by decide +kernel
theorem dX9_addSeries_87 : decode cX9_addSeries 87 = .ok (.iload_n 2, 1) := by decide +kernel
theorem dX9_addSeries_88 : decode cX9_addSeries 88 = .ok (.invokespecial 74, 3) := by decide +kernel
theorem dX9_addSeries_91 : decode cX9_addSeries 91 = .ok (.invokevirtual 77, 3) := by decide +kernel
theorem dX9_addSeries_94 : decode cX9_addSeries 94 = .ok (.pop, 1) := by decide +kernel
theorem dX9_addSeries_95 : decode cX9_addSeries 95 = .ok (.iload_n 3, 1) := by decide +kernel
theorem dX9_addSeries_96 : decode cX9_addSeries 96 = .ok (.ireturn, 1) := by decide +kernel
theorem dX9_setSpan_0 : decode cX9_setSpan 0 = .ok (.iload_n 1, 1) := by decide +kernel
theorem dX9_setSpan_1 : decode cX9_setSpan 1 = .ok (.i2l, 1) := by decide +kernel
theorem dX9_setSpan_2 : decode cX9_setSpan 2 = .ok (.iconst 2, 1) := by decide +kernel
theorem dX9_setSpan_3 : decode cX9_setSpan 3 = .ok (.bipush 16, 2) := by decide +kernel
theorem dX9_setSpan_5 : decode cX9_setSpan 5 = .ok (.invokestatic 51, 3) := by decide +kernel
theorem dX9_setSpan_8 : decode cX9_setSpan 8 = .ok (.invokestatic 55, 3) := by decide +kernel
theorem dX9_setSpan_11 : decode cX9_setSpan 11 = .ok (.aload_n 0, 1) := by decide +kernel
theorem dX9_setSpan_12 : decode cX9_setSpan 12 = .ok (.getfield 10, 3) := by decide +kernel
theorem dX9_setSpan_15 : decode cX9_setSpan 15 = .ok (.getfield 81, 3) := by decide +kernel
theorem dX9_setSpan_18 : decode cX9_setSpan 18 = .ok (.istore_n 2, 1) := by decide +kernel
theorem dX9_setSpan_19 : decode cX9_setSpan 19 = .ok (.aload_n 0, 1) := by decide +kernel
theorem dX9_setSpan_20 : decode cX9_setSpan 20 = .ok (.getfield 10, 3) := by decide +kernel
theorem dX9_setSpan_23 : decode cX9_setSpan 23 = .ok (.iload_n 1, 1) := by decide +kernel
theorem dX9_setSpan_24 : decode cX9_setSpan 24 = .ok (.putfield 81, 3) := by decide +kernel
theorem dX9_setSpan_27 : decode cX9_setSpan 27 = .ok (.iload_n 2, 1) := by decide +kernel
theorem dX9_setSpan_28 : decode cX9_setSpan 28 = .ok (.ireturn, 1) := by decide +kernel
theorem dX9_setWidths_0 : decode cX9_setWidths 0 = .ok (.iload_n 1, 1) := by decide +kernel
theorem dX9_setWidths_1 : decode cX9_setWidths 1 = .ok (.i2l, 1) := by decide +kernel
theorem dX9_setWidths_2 : decode cX9_setWidths 2 = .ok (.iconst 2, 1) := by decide +kernel
theorem dX9_setWidths_3 : decode cX9_setWidths 3 = .ok (.bipush 100, 2) := by decide +kernel
theorem dX9_setWidths_5 : decode cX9_setWidths 5 = .ok (.invokestatic 51, 3) := by decide +kernel
theorem dX9_setWidths_8 : decode cX9_setWidths 8 = .ok (.ifCond .eq 18, 3) := by decide +kernel
theorem dX9_setWidths_11 : decode cX9_setWidths 11 = .ok (.iload_n 2, 1) := by decide +kernel
theorem dX9_setWidths_12 : decode cX9_setWidths 12 = .ok (.i2l, 1) := by decide +kernel
theorem dX9_setWidths_13 : decode cX9_setWidths 13 = .ok (.iconst 2, 1) := by decide +kernel
theorem dX9_setWidths_14 : decode cX9_setWidths 14 = .ok (.bipush 20, 2) := by decide +kernel
theorem dX9_setWidths_16 : decode cX9_setWidths 16 = .ok (.invokestatic 51, 3) := by decide +kernel
theorem dX9_setWidths_19 : decode cX9_setWidths 19 = .ok (.ifCond .eq 7, 3) := by decide +kernel
theorem dX9_setWidths_22 : decode cX9_setWidths 22 = .ok (.iconst 1, 1) := by decide +kernel
theorem dX9_setWidths_23 : decode cX9_setWidths 23 = .ok (.goto 4, 3) := by decide +kernel
theorem dX9_setWidths_26 : decode cX9_setWidths 26 = .ok (.iconst 0, 1) := by decide +kernel
theorem dX9_setWidths_27 : decode cX9_setWidths 27 = .ok (.invokestatic 55, 3) := by decide +kernel
theorem dX9_setWidths_30 : decode cX9_setWidths 30 = .ok (.aload_n 0, 1) := by decide +kernel
theorem dX9_setWidths_31 : decode cX9_setWidths 31 = .ok (.getfield 21, 3) := by decide +kernel
theorem dX9_setWidths_34 : decode cX9_setWidths 34 = .ok (.invokevirtual 84, 3) := by decide +kernel
theorem dX9_setWidths_37 : decode cX9_setWidths 37 = .ok (.ifCond .ne 7, 3) := by decide +kernel
theorem dX9_setWidths_40 : decode cX9_setWidths 40 = .ok (.iconst 1, 1) := by decide +kernel
theorem dX9_setWidths_41 : decode cX9_setWidths 41 = .ok (.goto 4, 3) := by decide +kernel
theorem dX9_setWidths_45 : decode cX9_setWidths 45 = .ok (.invokestatic 69, 3) := by decide +kernel
theorem dX9_setWidths_48 : decode cX9_setWidths 48 = .ok (.aload_n 0, 1) := by decide +kernel
theorem dX9_setWidths_49 : decode cX9_setWidths 49 = .ok (.getfield 10, 3) := by decide +kernel
theorem dX9_setWidths_52 : decode cX9_setWidths 52 = .ok (.getfield 88, 3) := by decide +kernel
theorem dX9_setWidths_55 : decode cX9_setWidths 55 = .ok (.istore_n 3, 1) := by decide +kernel
theorem dX9_setWidths_56 : decode cX9_setWidths 56 = .ok (.aload_n 0, 1) := by decide +kernel
theorem dX9_setWidths_57 : decode cX9_setWidths 57 = .ok (.getfield 10, 3) := by decide +kernel
theorem dX9_setWidths_60 : decode cX9_setWidths 60 = .ok (.iload_n 1, 1) := by decide +kernel
theorem dX9_setWidths_61 : decode cX9_setWidths 61 = .ok (.putfield 88, 3) := by decide +kernel
theorem dX9_setWidths_64 : decode cX9_setWidths 64 = .ok (.aload_n 0, 1) := by decide +kernel
theorem dX9_setWidths_65 : decode cX9_setWidths 65 = .ok (.getfield 10, 3) := by decide +kernel
theorem dX9_setWidths_68 : decode cX9_setWidths 68 = .ok (.iload_n 2, 1) := by decide +kernel
theorem dX9_setWidths_69 : decode cX9_setWidths 69 = .ok (.putfield 91, 3) := by decide +kernel
theorem dX9_setWidths_72 : decode cX9_setWidths 72 = .ok (.iload_n 3, 1) := by decide +kernel
theorem dX9_setWidths_73 : decode cX9_setWidths 73 = .ok (.ireturn, 1) := by decide +kernel
theorem dX9_setKeep_0 : decode cX9_setKeep 0 = .ok (.iload_n 1, 1) := by decide +kernel
theorem dX9_setKeep_1 : decode cX9_setKeep 1 = .ok (.i2l, 1) := by decide +kernel
theorem dX9_setKeep_2 : decode cX9_setKeep 2 = .ok (.iconst 0, 1) := by decide +kernel
theorem dX9_setKeep_3 : decode cX9_setKeep 3 = .ok (.sipush 10000, 3) := by decide +kernel
theorem dX9_setKeep_6 : decode cX9_setKeep 6 = .ok (.invokestatic 51, 3) := by decide +kernel
theorem dX9_setKeep_9 : decode cX9_setKeep 9 = .ok (.ifCond .eq 19, 3) := by decide +kernel
theorem dX9_setKeep_12 : decode cX9_setKeep 12 = .ok (.iload_n 2, 1) := by decide +kernel
theorem dX9_setKeep_13 : decode cX9_setKeep 13 = .ok (.i2l, 1) := by decide +kernel
theorem dX9_setKeep_14 : decode cX9_setKeep 14 = .ok (.iconst 0, 1) := by decide +kernel
theorem dX9_setKeep_15 : decode cX9_setKeep 15 = .ok (.sipush 10000, 3) := by decide +kernel
theorem dX9_setKeep_18 : decode cX9_setKeep 18 = .ok (.invokestatic 51, 3) := by decide +kernel
theorem dX9_setKeep_21 : decode cX9_setKeep 21 = .ok (.ifCond .eq 7, 3) := by decide +kernel
theorem dX9_setKeep_24 : decode cX9_setKeep 24 = .ok (.iconst 1, 1) := by decide +kernel
theorem dX9_setKeep_25 : decode cX9_setKeep 25 = .ok (.goto 4, 3) := by decide +kernel
theorem dX9_setKeep_28 : decode cX9_setKeep 28 = .ok (.iconst 0, 1) := by decide +kernel
theorem dX9_setKeep_29 : decode cX9_setKeep 29 = .ok (.invokestatic 55, 3) := by decide +kernel
theorem dX9_setKeep_32 : decode cX9_setKeep 32 = .ok (.aload_n 0, 1) := by decide +kernel
theorem dX9_setKeep_33 : decode cX9_setKeep 33 = .ok (.getfield 10, 3) := by decide +kernel
theorem dX9_setKeep_36 : decode cX9_setKeep 36 = .ok (.getfield 94, 3) := by decide +kernel
theorem dX9_setKeep_39 : decode cX9_setKeep 39 = .ok (.istore_n 3, 1) := by decide +kernel
theorem dX9_setKeep_40 : decode cX9_setKeep 40 = .ok (.aload_n 0, 1) := by decide +kernel
theorem dX9_setKeep_41 : decode cX9_setKeep 41 = .ok (.getfield 10, 3) := by decide +kernel
theorem dX9_setKeep_44 : decode cX9_setKeep 44 = .ok (.iload_n 1, 1) := by decide +kernel
theorem dX9_setKeep_45 : decode cX9_setKeep 45 = .ok (.putfield 94, 3) := by decide +kernel
theorem dX9_setKeep_48 : decode cX9_setKeep 48 = .ok (.aload_n 0, 1) := by decide +kernel
theorem dX9_setKeep_49 : decode cX9_setKeep 49 = .ok (.getfield 10, 3) := by decide +kernel
theorem dX9_setKeep_52 : decode cX9_setKeep 52 = .ok (.iload_n 2, 1) := by decide +kernel
theorem dX9_setKeep_53 : decode cX9_setKeep 53 = .ok (.putfield 97, 3) := by decide +kernel
theorem dX9_setKeep_56 : decode cX9_setKeep 56 = .ok (.iload_n 3, 1) := by decide +kernel
theorem dX9_setKeep_57 : decode cX9_setKeep 57 = .ok (.ireturn, 1) := by decide +kernel
theorem dX9_setQuery_0 : decode cX9_setQuery 0 = .ok (.iload_n 1, 1) := by decide +kernel
theorem dX9_setQuery_1 : decode cX9_setQuery 1 = .ok (.i2l, 1) := by decide +kernel
theorem dX9_setQuery_2 : decode cX9_setQuery 2 = .ok (.iconst 0, 1) := by decide +kernel
theorem dX9_setQuery_3 : decode cX9_setQuery 3 = .ok (.ldc 100, 2) := by decide +kernel
theorem dX9_setQuery_5 : decode cX9_setQuery 5 = .ok (.invokestatic 51, 3) := by decide +kernel
theorem dX9_setQuery_8 : decode cX9_setQuery 8 = .ok (.ifCond .eq 19, 3) := by decide +kernel
theorem dX9_setQuery_11 : decode cX9_setQuery 11 = .ok (.iload_n 2, 1) := by decide +kernel
theorem dX9_setQuery_12 : decode cX9_setQuery 12 = .ok (.i2l, 1) := by decide +kernel
theorem dX9_setQuery_13 : decode cX9_setQuery 13 = .ok (.iconst 1, 1) := by decide +kernel
theorem dX9_setQuery_14 : decode cX9_setQuery 14 = .ok (.sipush 10000, 3) := by decide +kernel
theorem dX9_setQuery_17 : decode cX9_setQuery 17 = .ok (.invokestatic 51, 3) := by decide +kernel
theorem dX9_setQuery_20 : decode cX9_setQuery 20 = .ok (.ifCond .eq 7, 3) := by decide +kernel
theorem dX9_setQuery_23 : decode cX9_setQuery 23 = .ok (.iconst 1, 1) := by decide +kernel
theorem dX9_setQuery_24 : decode cX9_setQuery 24 = .ok (.goto 4, 3) := by decide +kernel
theorem dX9_setQuery_27 : decode cX9_setQuery 27 = .ok (.iconst 0, 1) := by decide +kernel
theorem dX9_setQuery_28 : decode cX9_setQuery 28 = .ok (.invokestatic 55, 3) := by decide +kernel
theorem dX9_setQuery_31 : decode cX9_setQuery 31 = .ok (.iload_n 3, 1) := by decide +kernel
theorem dX9_setQuery_32 : decode cX9_setQuery 32 = .ok (.i2l, 1) := by decide +kernel
theorem dX9_setQuery_33 : decode cX9_setQuery 33 = .ok (.iconst 0, 1) := by decide +kernel
theorem dX9_setQuery_34 : decode cX9_setQuery 34 = .ok (.bipush 7, 2) := by decide +kernel
theorem dX9_setQuery_36 : decode cX9_setQuery 36 = .ok (.invokestatic 51, 3) := by decide +kernel
theorem dX9_setQuery_39 : decode cX9_setQuery 39 = .ok (.ifCond .eq 18, 3) := by decide +kernel
theorem dX9_setQuery_42 : decode cX9_setQuery 42 = .ok (.iload 4, 2) := by decide +kernel
theorem dX9_setQuery_44 : decode cX9_setQuery 44 = .ok (.i2l, 1) := by decide +kernel
theorem dX9_setQuery_45 : decode cX9_setQuery 45 = .ok (.iconst 0, 1) := by decide +kernel
theorem dX9_setQuery_46 : decode cX9_setQuery 46 = .ok (.iconst 3, 1) := by decide +kernel
theorem dX9_setQuery_47 : decode cX9_setQuery 47 = .ok (.invokestatic 51, 3) := by decide +kernel
theorem dX9_setQuery_50 : decode cX9_setQuery 50 = .ok (.ifCond .eq 7, 3) := by decide +kernel
theorem dX9_setQuery_53 : decode cX9_setQuery 53 = .ok (.iconst 1, 1) := by decide +kernel
theorem dX9_setQuery_54 : decode cX9_setQuery 54 = .ok (.goto 4, 3) := by decide +kernel
theorem dX9_setQuery_57 : decode cX9_setQuery 57 = .ok (.iconst 0, 1) := by decide +kernel
theorem dX9_setQuery_58 : decode cX9_setQuery 58 = .ok (.invokestatic 55, 3) := by decide +kernel
theorem dX9_setQuery_61 : decode cX9_setQuery 61 = .ok (.aload_n 0, 1) := by decide +kernel
theorem dX9_setQuery_62 : decode cX9_setQuery 62 = .ok (.getfield 39, 3) := by decide +kernel
theorem dX9_setQuery_65 : decode cX9_setQuery 65 = .ok (.istore 5, 2) := by decide +kernel
theorem dX9_setQuery_67 : decode cX9_setQuery 67 = .ok (.aload_n 0, 1) := by decide +kernel
theorem dX9_setQuery_68 : decode cX9_setQuery 68 = .ok (.iload_n 1, 1) := by decide +kernel
theorem dX9_setQuery_69 : decode cX9_setQuery 69 = .ok (.putfield 35, 3) := by decide +kernel
theorem dX9_setQuery_72 : decode cX9_setQuery 72 = .ok (.aload_n 0, 1) := by decide +kernel
theorem dX9_setQuery_73 : decode cX9_setQuery 73 = .ok (.iload_n 2, 1) := by decide +kernel
theorem dX9_setQuery_74 : decode cX9_setQuery 74 = .ok (.putfield 39, 3) := by decide +kernel
theorem dX9_setQuery_77 : decode cX9_setQuery 77 = .ok (.aload_n 0, 1) := by decide +kernel
theorem dX9_setQuery_78 : decode cX9_setQuery 78 = .ok (.iload_n 3, 1) := by decide +kernel
theorem dX9_setQuery_79 : decode cX9_setQuery 79 = .ok (.putfield 42, 3) := by decide +kernel
theorem dX9_setQuery_82 : decode cX9_setQuery 82 = .ok (.aload_n 0, 1) := by decide +kernel
theorem dX9_setQuery_83 : decode cX9_setQuery 83 = .ok (.iload 4, 2) := by decide +kernel
theorem dX9_setQuery_85 : decode cX9_setQuery 85 = .ok (.putfield 45, 3) := by decide +kernel
theorem dX9_setQuery_88 : decode cX9_setQuery 88 = .ok (.iload 5, 2) := by decide +kernel
theorem dX9_setQuery_90 : decode cX9_setQuery 90 = .ok (.ireturn, 1) := by decide +kernel
theorem dX9_put_0 : decode cX9_put 0 = .ok (.aload_n 0, 1) := by decide +kernel
theorem dX9_put_1 : decode cX9_put 1 = .ok (.iload_n 1, 1) := by decide +kernel
theorem dX9_put_2 : decode cX9_put 2 = .ok (.invokevirtual 101, 3) := by decide +kernel
theorem dX9_putRow_0 : decode cX9_putRow 0 = .ok (.aload_n 0, 1) := by decide +kernel
theorem dX9_putRow_1 : decode cX9_putRow 1 = .ok (.iload_n 1, 1) := by decide +kernel
theorem dX9_putRow_2 : decode cX9_putRow 2 = .ok (.invokevirtual 101, 3) := by decide +kernel
theorem dX9_goOn_0 : decode cX9_goOn 0 = .ok (.aload_n 0, 1) := by decide +kernel
theorem dX9_goOn_1 : decode cX9_goOn 1 = .ok (.iload_n 1, 1) := by decide +kernel
theorem dX9_goOn_2 : decode cX9_goOn 2 = .ok (.invokevirtual 125, 3) := by decide +kernel
theorem dX9_goOn_5 : decode cX9_goOn 5 = .ok (.invokestatic 55, 3) := by decide +kernel
theorem dX9_goOn_8 : decode cX9_goOn 8 = .ok (.aload_n 0, 1) := by decide +kernel
theorem dX9_goOn_9 : decode cX9_goOn 9 = .ok (.getfield 21, 3) := by decide +kernel
theorem dX9_goOn_12 : decode cX9_goOn 12 = .ok (.getfield 129, 3) := by decide +kernel
theorem dX9_goOn_15 : decode cX9_goOn 15 = .ok (.getfield 133, 3) := by decide +kernel
theorem dX9_goOn_18 : decode cX9_goOn 18 = .ok (.istore_n 2, 1) := by decide +kernel
theorem dX9_goOn_19 : decode cX9_goOn 19 = .ok (.iconst 0, 1) := by decide +kernel
theorem dX9_goOn_20 : decode cX9_goOn 20 = .ok (.istore_n 3, 1) := by decide +kernel
theorem dX9_goOn_21 : decode cX9_goOn 21 = .ok (.iload_n 3, 1) := by decide +kernel
theorem dX9_goOn_22 : decode cX9_goOn 22 = .ok (.iload_n 1, 1) := by decide +kernel
theorem dX9_goOn_23 : decode cX9_goOn 23 = .ok (.if_icmp .ge 16, 3) := by decide +kernel
theorem dX9_goOn_26 : decode cX9_goOn 26 = .ok (.aload_n 0, 1) := by decide +kernel
theorem dX9_goOn_27 : decode cX9_goOn 27 = .ok (.getfield 21, 3) := by decide +kernel
theorem dX9_goOn_30 : decode cX9_goOn 30 = .ok (.invokevirtual 138, 3) := by decide +kernel
theorem dX9_goOn_33 : decode cX9_goOn 33 = .ok (.iinc 3 1, 3) := by decide +kernel
theorem dX9_goOn_36 : decode cX9_goOn 36 = .ok (.goto (-15), 3) := by decide +kernel
theorem dX9_goOn_39 : decode cX9_goOn 39 = .ok (.aload_n 0, 1) := by decide +kernel
theorem dX9_goOn_40 : decode cX9_goOn 40 = .ok (.getfield 21, 3) := by decide +kernel
theorem dX9_goOn_43 : decode cX9_goOn 43 = .ok (.getfield 129, 3) := by decide +kernel
theorem dX9_goOn_46 : decode cX9_goOn 46 = .ok (.getfield 133, 3) := by decide +kernel
theorem dX9_goOn_49 : decode cX9_goOn 49 = .ok (.iload_n 2, 1) := by decide +kernel
theorem dX9_goOn_50 : decode cX9_goOn 50 = .ok (.isub, 1) := by decide +kernel
theorem dX9_goOn_51 : decode cX9_goOn 51 = .ok (.ireturn, 1) := by decide +kernel
theorem dX9_now_0 : decode cX9_now 0 = .ok (.aload_n 0, 1) := by decide +kernel
theorem dX9_now_1 : decode cX9_now 1 = .ok (.getfield 21, 3) := by decide +kernel
theorem dX9_now_4 : decode cX9_now 4 = .ok (.getfield 141, 3) := by decide +kernel
theorem dX9_now_7 : decode cX9_now 7 = .ok (.ireturn, 1) := by decide +kernel
theorem dX9_series_0 : decode cX9_series 0 = .ok (.aload_n 0, 1) := by decide +kernel
theorem dX9_series_1 : decode cX9_series 1 = .ok (.getfield 21, 3) := by decide +kernel
theorem dX9_series_4 : decode cX9_series 4 = .ok (.getfield 59, 3) := by decide +kernel
theorem dX9_series_7 : decode cX9_series 7 = .ok (.invokevirtual 63, 3) := by decide +kernel
theorem dX9_series_10 : decode cX9_series 10 = .ok (.ireturn, 1) := by decide +kernel
theorem dX9_late_0 : decode cX9_late 0 = .ok (.aload_n 0, 1) := by decide +kernel
theorem dX9_late_1 : decode cX9_late 1 = .ok (.getfield 48, 3) := by decide +kernel
theorem dX9_late_4 : decode cX9_late 4 = .ok (.ireturn, 1) := by decide +kernel
theorem dX9_blocks_0 : decode cX9_blocks 0 = .ok (.aload_n 0, 1) := by decide +kernel
theorem dX9_blocks_1 : decode cX9_blocks 1 = .ok (.iload_n 1, 1) := by decide +kernel
theorem dX9_blocks_2 : decode cX9_blocks 2 = .ok (.invokevirtual 101, 3) := by decide +kernel
theorem dX9_size_0 : decode cX9_size 0 = .ok (.aload_n 0, 1) := by decide +kernel
theorem dX9_size_1 : decode cX9_size 1 = .ok (.iload_n 1, 1) := by decide +kernel
theorem dX9_size_2 : decode cX9_size 2 = .ok (.invokevirtual 101, 3) := by decide +kernel
theorem dX9_point_0 : decode cX9_point 0 = .ok (.aload_n 0, 1) := by decide +kernel
theorem dX9_point_1 : decode cX9_point 1 = .ok (.iload_n 1, 1) := by decide +kernel
theorem dX9_point_2 : decode cX9_point 2 = .ok (.invokevirtual 101, 3) := by decide +kernel
theorem dX9_bits_0 : decode cX9_bits 0 = .ok (.aload_n 0, 1) := by decide +kernel
theorem dX9_bits_1 : decode cX9_bits 1 = .ok (.iload_n 1, 1) := by decide +kernel
theorem dX9_bits_2 : decode cX9_bits 2 = .ok (.invokevirtual 101, 3) := by decide +kernel
theorem dX9_word_0 : decode cX9_word 0 = .ok (.aload_n 0, 1) := by decide +kernel
theorem dX9_word_1 : decode cX9_word 1 = .ok (.iload_n 1, 1) := by decide +kernel
theorem dX9_word_2 : decode cX9_word 2 = .ok (.invokevirtual 101, 3) := by decide +kernel
theorem dX9_buckets_0 : decode cX9_buckets 0 = .ok (.aload_n 0, 1) := by decide +kernel
theorem dX9_buckets_1 : decode cX9_buckets 1 = .ok (.iload_n 1, 1) := by decide +kernel
theorem dX9_buckets_2 : decode cX9_buckets 2 = .ok (.invokevirtual 101, 3) := by decide +kernel
theorem dX9_ofBucket_0 : decode cX9_ofBucket 0 = .ok (.aload_n 0, 1) := by decide +kernel
theorem dX9_ofBucket_1 : decode cX9_ofBucket 1 = .ok (.iload_n 1, 1) := by decide +kernel
theorem dX9_ofBucket_2 : decode cX9_ofBucket 2 = .ok (.invokevirtual 101, 3) := by decide +kernel
theorem dX9_items_0 : decode cX9_items 0 = .ok (.aload_n 0, 1) := by decide +kernel
theorem dX9_items_1 : decode cX9_items 1 = .ok (.iload_n 1, 1) := by decide +kernel
theorem dX9_items_2 : decode cX9_items 2 = .ok (.invokevirtual 101, 3) := by decide +kernel
theorem dX9_ask_0 : decode cX9_ask 0 = .ok (.aload_n 0, 1) := by decide +kernel
theorem dX9_ask_1 : decode cX9_ask 1 = .ok (.iload_n 1, 1) := by decide +kernel
theorem dX9_ask_2 : decode cX9_ask 2 = .ok (.invokevirtual 101, 3) := by decide +kernel
theorem dX9_over_0 : decode cX9_over 0 = .ok (.iload_n 2, 1) := by decide +kernel
theorem dX9_over_1 : decode cX9_over 1 = .ok (.i2l, 1) := by decide +kernel
theorem dX9_over_2 : decode cX9_over 2 = .ok (.iconst 0, 1) := by decide +kernel
theorem dX9_over_3 : decode cX9_over 3 = .ok (.bipush 9, 2) := by decide +kernel
theorem dX9_over_5 : decode cX9_over 5 = .ok (.invokestatic 51, 3) := by decide +kernel
theorem dX9_over_8 : decode cX9_over 8 = .ok (.ifCond .eq 17, 3) := by decide +kernel
theorem dX9_over_11 : decode cX9_over 11 = .ok (.iload_n 3, 1) := by decide +kernel
theorem dX9_over_12 : decode cX9_over 12 = .ok (.i2l, 1) := by decide +kernel
theorem dX9_over_13 : decode cX9_over 13 = .ok (.iconst 0, 1) := by decide +kernel
theorem dX9_over_14 : decode cX9_over 14 = .ok (.iconst 3, 1) := by decide +kernel
theorem dX9_over_15 : decode cX9_over 15 = .ok (.invokestatic 51, 3) := by decide +kernel
theorem dX9_over_18 : decode cX9_over 18 = .ok (.ifCond .eq 7, 3) := by decide +kernel
theorem dX9_over_21 : decode cX9_over 21 = .ok (.iconst 1, 1) := by decide +kernel
theorem dX9_over_22 : decode cX9_over 22 = .ok (.goto 4, 3) := by decide +kernel
theorem dX9_over_25 : decode cX9_over 25 = .ok (.iconst 0, 1) := by decide +kernel
theorem dX9_over_26 : decode cX9_over 26 = .ok (.invokestatic 55, 3) := by decide +kernel
theorem dX9_over_29 : decode cX9_over 29 = .ok (.iload 4, 2) := by decide +kernel
theorem dX9_over_31 : decode cX9_over 31 = .ok (.i2l, 1) := by decide +kernel
theorem dX9_over_32 : decode cX9_over 32 = .ok (.iconst 0, 1) := by decide +kernel
theorem dX9_over_33 : decode cX9_over 33 = .ok (.sipush 1000, 3) := by decide +kernel
theorem dX9_over_36 : decode cX9_over 36 = .ok (.invokestatic 51, 3) := by decide +kernel
theorem dX9_over_39 : decode cX9_over 39 = .ok (.invokestatic 55, 3) := by decide +kernel
theorem dX9_over_42 : decode cX9_over 42 = .ok (.iconst 0, 1) := by decide +kernel
theorem dX9_over_43 : decode cX9_over 43 = .ok (.istore 5, 2) := by decide +kernel
theorem dX9_over_45 : decode cX9_over 45 = .ok (.ldc 200, 2) := by decide +kernel
theorem dX9_over_47 : decode cX9_over 47 = .ok (.istore 6, 2) := by decide +kernel
theorem dX9_over_49 : decode cX9_over 49 = .ok (.iconst 0, 1) := by decide +kernel
theorem dX9_over_50 : decode cX9_over 50 = .ok (.istore 7, 2) := by decide +kernel
theorem dX9_over_52 : decode cX9_over 52 = .ok (.iload 7, 2) := by decide +kernel
theorem dX9_over_54 : decode cX9_over 54 = .ok (.aload_n 0, 1) := by decide +kernel
theorem dX9_over_55 : decode cX9_over 55 = .ok (.getfield 21, 3) := by decide +kernel
theorem dX9_over_58 : decode cX9_over 58 = .ok (.getfield 59, 3) := by decide +kernel
theorem dX9_over_61 : decode cX9_over 61 = .ok (.invokevirtual 63, 3) := by decide +kernel
theorem dX9_over_64 : decode cX9_over 64 = .ok (.if_icmp .ge 81, 3) := by decide +kernel
theorem dX9_over_145 : decode cX9_over 145 = .ok (.iload_n 3, 1) := by decide +kernel
theorem dX9_over_146 : decode cX9_over 146 = .ok (.iconst 3, 1) := by decide +kernel
theorem dX9_over_147 : decode cX9_over 147 = .ok (.if_icmp .ne 8, 3) := by decide +kernel
theorem dX9_over_150 : decode cX9_over 150 = .ok (.iload 5, 2) := by decide +kernel
theorem dX9_over_152 : decode cX9_over 152 = .ok (.goto 5, 3) := by decide +kernel
theorem dX9_over_155 : decode cX9_over 155 = .ok (.iload 6, 2) := by decide +kernel
theorem dX9_over_157 : decode cX9_over 157 = .ok (.ireturn, 1) := by decide +kernel
theorem dX9_gaps_0 : decode cX9_gaps 0 = .ok (.aload_n 0, 1) := by decide +kernel
theorem dX9_gaps_1 : decode cX9_gaps 1 = .ok (.iload_n 1, 1) := by decide +kernel
theorem dX9_gaps_2 : decode cX9_gaps 2 = .ok (.invokevirtual 101, 3) := by decide +kernel
theorem dX9_lastAt_0 : decode cX9_lastAt 0 = .ok (.aload_n 0, 1) := by decide +kernel
theorem dX9_lastAt_1 : decode cX9_lastAt 1 = .ok (.iload_n 1, 1) := by decide +kernel
theorem dX9_lastAt_2 : decode cX9_lastAt 2 = .ok (.invokevirtual 101, 3) := by decide +kernel
theorem dX9_addRule_0 : decode cX9_addRule 0 = .ok (.aload_n 0, 1) := by decide +kernel
theorem dX9_addRule_1 : decode cX9_addRule 1 = .ok (.iload_n 1, 1) := by decide +kernel
theorem dX9_addRule_2 : decode cX9_addRule 2 = .ok (.invokevirtual 101, 3) := by decide +kernel
theorem dX9_stateOf_0 : decode cX9_stateOf 0 = .ok (.aload_n 0, 1) := by decide +kernel
theorem dX9_stateOf_1 : decode cX9_stateOf 1 = .ok (.iload_n 1, 1) := by decide +kernel
theorem dX9_stateOf_2 : decode cX9_stateOf 2 = .ok (.invokevirtual 224, 3) := by decide +kernel
theorem dX9_inRow_0 : decode cX9_inRow 0 = .ok (.aload_n 0, 1) := by decide +kernel
theorem dX9_inRow_1 : decode cX9_inRow 1 = .ok (.iload_n 1, 1) := by decide +kernel
theorem dX9_inRow_2 : decode cX9_inRow 2 = .ok (.invokevirtual 224, 3) := by decide +kernel
theorem dX9_seenBy_0 : decode cX9_seenBy 0 = .ok (.aload_n 0, 1) := by decide +kernel
theorem dX9_seenBy_1 : decode cX9_seenBy 1 = .ok (.iload_n 1, 1) := by decide +kernel
theorem dX9_seenBy_2 : decode cX9_seenBy 2 = .ok (.invokevirtual 224, 3) := by decide +kernel
theorem dX9_events_0 : decode cX9_events 0 = .ok (.aload_n 0, 1) := by decide +kernel
theorem dX9_events_1 : decode cX9_events 1 = .ok (.getfield 21, 3) := by decide +kernel
theorem dX9_events_4 : decode cX9_events 4 = .ok (.getfield 129, 3) := by decide +kernel
theorem dX9_events_7 : decode cX9_events 7 = .ok (.getfield 133, 3) := by decide +kernel
theorem dX9_events_10 : decode cX9_events 10 = .ok (.ireturn, 1) := by decide +kernel
theorem dX9_event_0 : decode cX9_event 0 = .ok (.iload_n 1, 1) := by decide +kernel
theorem dX9_event_1 : decode cX9_event 1 = .ok (.i2l, 1) := by decide +kernel
theorem dX9_event_2 : decode cX9_event 2 = .ok (.iconst 0, 1) := by decide +kernel
theorem dX9_event_3 : decode cX9_event 3 = .ok (.bipush 19, 2) := by decide +kernel
theorem dX9_event_5 : decode cX9_event 5 = .ok (.invokestatic 51, 3) := by decide +kernel
theorem dX9_event_8 : decode cX9_event 8 = .ok (.ifCond .eq 21, 3) := by decide +kernel
theorem dX9_event_11 : decode cX9_event 11 = .ok (.iload_n 1, 1) := by decide +kernel
theorem dX9_event_12 : decode cX9_event 12 = .ok (.aload_n 0, 1) := by decide +kernel
theorem dX9_event_13 : decode cX9_event 13 = .ok (.getfield 21, 3) := by decide +kernel
theorem dX9_event_16 : decode cX9_event 16 = .ok (.getfield 129, 3) := by decide +kernel
theorem dX9_event_19 : decode cX9_event 19 = .ok (.getfield 133, 3) := by decide +kernel
theorem dX9_event_22 : decode cX9_event 22 = .ok (.if_icmp .ge 7, 3) := by decide +kernel
theorem dX9_event_25 : decode cX9_event 25 = .ok (.iconst 1, 1) := by decide +kernel
theorem dX9_event_26 : decode cX9_event 26 = .ok (.goto 4, 3) := by decide +kernel
theorem dX9_event_29 : decode cX9_event 29 = .ok (.iconst 0, 1) := by decide +kernel
theorem dX9_event_30 : decode cX9_event 30 = .ok (.invokestatic 150, 3) := by decide +kernel
theorem dX9_bitsWith_0 : decode cX9_bitsWith 0 = .ok (.aload_n 0, 1) := by decide +kernel
theorem dX9_bitsWith_1 : decode cX9_bitsWith 1 = .ok (.iload_n 1, 1) := by decide +kernel
theorem dX9_bitsWith_2 : decode cX9_bitsWith 2 = .ok (.invokevirtual 101, 3) := by decide +kernel
theorem dX9_firesIn_0 : decode cX9_firesIn 0 = .ok (.aload_n 0, 1) := by decide +kernel
theorem dX9_firesIn_1 : decode cX9_firesIn 1 = .ok (.iload_n 1, 1) := by decide +kernel
theorem dX9_firesIn_2 : decode cX9_firesIn 2 = .ok (.invokevirtual 125, 3) := by decide +kernel
theorem dX9_firesIn_5 : decode cX9_firesIn 5 = .ok (.invokestatic 55, 3) := by decide +kernel
theorem dX9_firesIn_8 : decode cX9_firesIn 8 = .ok (.aload_n 0, 1) := by decide +kernel
theorem dX9_firesIn_9 : decode cX9_firesIn 9 = .ok (.getfield 25, 3) := by decide +kernel
theorem dX9_firesIn_12 : decode cX9_firesIn 12 = .ok (.aload_n 0, 1) := by decide +kernel
theorem dX9_firesIn_13 : decode cX9_firesIn 13 = .ok (.getfield 21, 3) := by decide +kernel
theorem dX9_firesIn_16 : decode cX9_firesIn 16 = .ok (.invokevirtual 245, 3) := by decide +kernel
theorem dX9_firesIn_19 : decode cX9_firesIn 19 = .ok (.aload_n 0, 1) := by decide +kernel
theorem dX9_firesIn_20 : decode cX9_firesIn 20 = .ok (.getfield 25, 3) := by decide +kernel
theorem dX9_firesIn_23 : decode cX9_firesIn 23 = .ok (.getfield 129, 3) := by decide +kernel
theorem dX9_firesIn_26 : decode cX9_firesIn 26 = .ok (.getfield 249, 3) := by decide +kernel
theorem dX9_firesIn_29 : decode cX9_firesIn 29 = .ok (.istore_n 2, 1) := by decide +kernel
theorem dX9_firesIn_30 : decode cX9_firesIn 30 = .ok (.iconst 1, 1) := by decide +kernel
theorem dX9_firesIn_31 : decode cX9_firesIn 31 = .ok (.istore_n 3, 1) := by decide +kernel
theorem dX9_firesIn_32 : decode cX9_firesIn 32 = .ok (.iload_n 3, 1) := by decide +kernel
theorem dX9_firesIn_33 : decode cX9_firesIn 33 = .ok (.iload_n 1, 1) := by decide +kernel
theorem dX9_firesIn_34 : decode cX9_firesIn 34 = .ok (.if_icmp .gt 32, 3) := by decide +kernel
theorem dX9_firesIn_37 : decode cX9_firesIn 37 = .ok (.aload_n 0, 1) := by decide +kernel
theorem dX9_firesIn_38 : decode cX9_firesIn 38 = .ok (.getfield 25, 3) := by decide +kernel
theorem dX9_firesIn_41 : decode cX9_firesIn 41 = .ok (.invokevirtual 138, 3) := by decide +kernel
theorem dX9_firesIn_44 : decode cX9_firesIn 44 = .ok (.aload_n 0, 1) := by decide +kernel
theorem dX9_firesIn_45 : decode cX9_firesIn 45 = .ok (.getfield 25, 3) := by decide +kernel
theorem dX9_firesIn_48 : decode cX9_firesIn 48 = .ok (.getfield 129, 3) := by decide +kernel
theorem dX9_firesIn_51 : decode cX9_firesIn 51 = .ok (.getfield 249, 3) := by decide +kernel
theorem dX9_firesIn_54 : decode cX9_firesIn 54 = .ok (.iload_n 2, 1) := by decide +kernel
theorem dX9_firesIn_55 : decode cX9_firesIn 55 = .ok (.if_icmp .le 5, 3) := by decide +kernel
theorem dX9_firesIn_60 : decode cX9_firesIn 60 = .ok (.iinc 3 1, 3) := by decide +kernel
theorem dX9_firesIn_63 : decode cX9_firesIn 63 = .ok (.goto (-31), 3) := by decide +kernel
theorem dX9_firesIn_66 : decode cX9_firesIn 66 = .ok (.iconst (-1), 1) := by decide +kernel
theorem dX9_firesIn_67 : decode cX9_firesIn 67 = .ok (.ireturn, 1) := by decide +kernel
theorem dX9_wouldRoll_0 : decode cX9_wouldRoll 0 = .ok (.iload_n 1, 1) := by decide +kernel
theorem dX9_wouldRoll_1 : decode cX9_wouldRoll 1 = .ok (.i2l, 1) := by decide +kernel
theorem dX9_wouldRoll_2 : decode cX9_wouldRoll 2 = .ok (.iconst 0, 1) := by decide +kernel
theorem dX9_wouldRoll_3 : decode cX9_wouldRoll 3 = .ok (.sipush 10000, 3) := by decide +kernel
theorem dX9_wouldRoll_6 : decode cX9_wouldRoll 6 = .ok (.invokestatic 51, 3) := by decide +kernel
theorem dX9_wouldRoll_9 : decode cX9_wouldRoll 9 = .ok (.invokestatic 55, 3) := by decide +kernel
theorem dX9_wouldRoll_12 : decode cX9_wouldRoll 12 = .ok (.iload_n 1, 1) := by decide +kernel
theorem dX9_wouldRoll_13 : decode cX9_wouldRoll 13 = .ok (.ifCond .eq 15, 3) := by decide +kernel
theorem dX9_wouldRoll_16 : decode cX9_wouldRoll 16 = .ok (.aload_n 0, 1) := by decide +kernel
theorem dX9_wouldRoll_17 : decode cX9_wouldRoll 17 = .ok (.getfield 21, 3) := by decide +kernel
theorem dX9_wouldRoll_20 : decode cX9_wouldRoll 20 = .ok (.getfield 141, 3) := by decide +kernel
theorem dX9_wouldRoll_23 : decode cX9_wouldRoll 23 = .ok (.ldc 100, 2) := by decide +kernel
theorem dX9_wouldRoll_25 : decode cX9_wouldRoll 25 = .ok (.if_icmp .lt 5, 3) := by decide +kernel
theorem dX9_wouldRoll_28 : decode cX9_wouldRoll 28 = .ok (.iconst 0, 1) := by decide +kernel
theorem dX9_wouldRoll_29 : decode cX9_wouldRoll 29 = .ok (.ireturn, 1) := by decide +kernel
theorem dX9_wouldRoll_30 : decode cX9_wouldRoll 30 = .ok (.iconst 0, 1) := by decide +kernel
theorem dX9_wouldRoll_31 : decode cX9_wouldRoll 31 = .ok (.istore_n 2, 1) := by decide +kernel
theorem dX9_wouldRoll_32 : decode cX9_wouldRoll 32 = .ok (.iconst 0, 1) := by decide +kernel
theorem dX9_wouldRoll_33 : decode cX9_wouldRoll 33 = .ok (.istore_n 3, 1) := by decide +kernel
theorem dX9_wouldRoll_34 : decode cX9_wouldRoll 34 = .ok (.iload_n 3, 1) := by decide +kernel
theorem dX9_wouldRoll_35 : decode cX9_wouldRoll 35 = .ok (.aload_n 0, 1) := by decide +kernel
theorem dX9_wouldRoll_36 : decode cX9_wouldRoll 36 = .ok (.getfield 21, 3) := by decide +kernel
theorem dX9_wouldRoll_39 : decode cX9_wouldRoll 39 = .ok (.getfield 59, 3) := by decide +kernel
theorem dX9_wouldRoll_42 : decode cX9_wouldRoll 42 = .ok (.invokevirtual 63, 3) := by decide +kernel
theorem dX9_wouldRoll_45 : decode cX9_wouldRoll 45 = .ok (.if_icmp .ge 43, 3) := by decide +kernel
theorem dX9_wouldRoll_88 : decode cX9_wouldRoll 88 = .ok (.iload_n 2, 1) := by decide +kernel
theorem dX9_wouldRoll_89 : decode cX9_wouldRoll 89 = .ok (.ireturn, 1) := by decide +kernel
theorem dX9_digest_0 : decode cX9_digest 0 = .ok (.ldc2_w 255, 3) := by decide +kernel
theorem dX9_digest_3 : decode cX9_digest 3 = .ok (.lstore_n 1, 1) := by decide +kernel
theorem dX9_digest_4 : decode cX9_digest 4 = .ok (.lload_n 1, 1) := by decide +kernel
theorem dX9_digest_5 : decode cX9_digest 5 = .ok (.ldc2_w 257, 3) := by decide +kernel
theorem dX9_digest_8 : decode cX9_digest 8 = .ok (.lmul, 1) := by decide +kernel
theorem dX9_digest_9 : decode cX9_digest 9 = .ok (.aload_n 0, 1) := by decide +kernel
theorem dX9_digest_10 : decode cX9_digest 10 = .ok (.getfield 21, 3) := by decide +kernel
theorem dX9_digest_13 : decode cX9_digest 13 = .ok (.getfield 141, 3) := by decide +kernel
theorem dX9_digest_16 : decode cX9_digest 16 = .ok (.i2l, 1) := by decide +kernel
theorem dX9_digest_17 : decode cX9_digest 17 = .ok (.ladd, 1) := by decide +kernel
theorem dX9_digest_18 : decode cX9_digest 18 = .ok (.lstore_n 1, 1) := by decide +kernel
theorem dX9_digest_19 : decode cX9_digest 19 = .ok (.lload_n 1, 1) := by decide +kernel
theorem dX9_digest_20 : decode cX9_digest 20 = .ok (.ldc2_w 257, 3) := by decide +kernel
theorem dX9_digest_23 : decode cX9_digest 23 = .ok (.lmul, 1) := by decide +kernel
theorem dX9_digest_24 : decode cX9_digest 24 = .ok (.aload_n 0, 1) := by decide +kernel
theorem dX9_digest_25 : decode cX9_digest 25 = .ok (.getfield 21, 3) := by decide +kernel
theorem dX9_digest_28 : decode cX9_digest 28 = .ok (.getfield 59, 3) := by decide +kernel
theorem dX9_digest_31 : decode cX9_digest 31 = .ok (.invokevirtual 63, 3) := by decide +kernel
theorem dX9_digest_34 : decode cX9_digest 34 = .ok (.i2l, 1) := by decide +kernel
theorem dX9_digest_35 : decode cX9_digest 35 = .ok (.ladd, 1) := by decide +kernel
theorem dX9_digest_36 : decode cX9_digest 36 = .ok (.lstore_n 1, 1) := by decide +kernel
theorem dX9_digest_37 : decode cX9_digest 37 = .ok (.lload_n 1, 1) := by decide +kernel
theorem dX9_digest_38 : decode cX9_digest 38 = .ok (.ldc2_w 257, 3) := by decide +kernel
theorem dX9_digest_41 : decode cX9_digest 41 = .ok (.lmul, 1) := by decide +kernel
theorem dX9_digest_42 : decode cX9_digest 42 = .ok (.aload_n 0, 1) := by decide +kernel
theorem dX9_digest_43 : decode cX9_digest 43 = .ok (.getfield 48, 3) := by decide +kernel
theorem dX9_digest_46 : decode cX9_digest 46 = .ok (.i2l, 1) := by decide +kernel
theorem dX9_digest_47 : decode cX9_digest 47 = .ok (.ladd, 1) := by decide +kernel
theorem dX9_digest_48 : decode cX9_digest 48 = .ok (.lstore_n 1, 1) := by decide +kernel
theorem dX9_digest_49 : decode cX9_digest 49 = .ok (.lload_n 1, 1) := by decide +kernel
theorem dX9_digest_50 : decode cX9_digest 50 = .ok (.ldc2_w 257, 3) := by decide +kernel
theorem dX9_digest_53 : decode cX9_digest 53 = .ok (.lmul, 1) := by decide +kernel
theorem dX9_digest_54 : decode cX9_digest 54 = .ok (.aload_n 0, 1) := by decide +kernel
theorem dX9_digest_55 : decode cX9_digest 55 = .ok (.getfield 21, 3) := by decide +kernel
theorem dX9_digest_58 : decode cX9_digest 58 = .ok (.getfield 129, 3) := by decide +kernel
theorem dX9_digest_61 : decode cX9_digest 61 = .ok (.getfield 133, 3) := by decide +kernel
theorem dX9_digest_64 : decode cX9_digest 64 = .ok (.i2l, 1) := by decide +kernel
theorem dX9_digest_65 : decode cX9_digest 65 = .ok (.ladd, 1) := by decide +kernel
theorem dX9_digest_66 : decode cX9_digest 66 = .ok (.lstore_n 1, 1) := by decide +kernel
theorem dX9_digest_67 : decode cX9_digest 67 = .ok (.iconst 0, 1) := by decide +kernel
theorem dX9_digest_68 : decode cX9_digest 68 = .ok (.istore_n 3, 1) := by decide +kernel
theorem dX9_digest_69 : decode cX9_digest 69 = .ok (.iload_n 3, 1) := by decide +kernel
theorem dX9_digest_70 : decode cX9_digest 70 = .ok (.aload_n 0, 1) := by decide +kernel
theorem dX9_digest_71 : decode cX9_digest 71 = .ok (.getfield 21, 3) := by decide +kernel
theorem dX9_digest_74 : decode cX9_digest 74 = .ok (.getfield 59, 3) := by decide +kernel
theorem dX9_digest_77 : decode cX9_digest 77 = .ok (.invokevirtual 63, 3) := by decide +kernel
theorem dX9_digest_80 : decode cX9_digest 80 = .ok (.if_icmp .ge 64, 3) := by decide +kernel
theorem dX9_digest_144 : decode cX9_digest 144 = .ok (.iconst 0, 1) := by decide +kernel
theorem dX9_digest_145 : decode cX9_digest 145 = .ok (.istore_n 3, 1) := by decide +kernel
theorem dX9_digest_146 : decode cX9_digest 146 = .ok (.iload_n 3, 1) := by decide +kernel
theorem dX9_digest_147 : decode cX9_digest 147 = .ok (.aload_n 0, 1) := by decide +kernel
theorem dX9_digest_148 : decode cX9_digest 148 = .ok (.getfield 21, 3) := by decide +kernel
theorem dX9_digest_151 : decode cX9_digest 151 = .ok (.getfield 216, 3) := by decide +kernel
theorem dX9_digest_154 : decode cX9_digest 154 = .ok (.invokevirtual 63, 3) := by decide +kernel
theorem dX9_digest_157 : decode cX9_digest 157 = .ok (.if_icmp .ge 71, 3) := by decide +kernel
theorem dX9_digest_228 : decode cX9_digest 228 = .ok (.iconst 0, 1) := by decide +kernel
theorem dX9_digest_229 : decode cX9_digest 229 = .ok (.istore_n 3, 1) := by decide +kernel
theorem dX9_digest_230 : decode cX9_digest 230 = .ok (.iload_n 3, 1) := by decide +kernel
theorem dX9_digest_231 : decode cX9_digest 231 = .ok (.iconst 5, 1) := by decide +kernel
theorem dX9_digest_232 : decode cX9_digest 232 = .ok (.if_icmp .ge 59, 3) := by decide +kernel
theorem dX9_digest_235 : decode cX9_digest 235 = .ok (.iload_n 3, 1) := by decide +kernel
theorem dX9_digest_236 : decode cX9_digest 236 = .ok (.aload_n 0, 1) := by decide +kernel
theorem dX9_digest_237 : decode cX9_digest 237 = .ok (.getfield 21, 3) := by decide +kernel
theorem dX9_digest_240 : decode cX9_digest 240 = .ok (.getfield 129, 3) := by decide +kernel
theorem dX9_digest_243 : decode cX9_digest 243 = .ok (.getfield 133, 3) := by decide +kernel
theorem dX9_digest_246 : decode cX9_digest 246 = .ok (.if_icmp .ge 45, 3) := by decide +kernel
theorem dX9_digest_291 : decode cX9_digest 291 = .ok (.lload_n 1, 1) := by decide +kernel
theorem dX9_digest_292 : decode cX9_digest 292 = .ok (.lreturn, 1) := by decide +kernel
theorem dX9_isIn_0 : decode cX9_isIn 0 = .ok (.lload_n 0, 1) := by decide +kernel
theorem dX9_isIn_1 : decode cX9_isIn 1 = .ok (.iload_n 2, 1) := by decide +kernel
theorem dX9_isIn_2 : decode cX9_isIn 2 = .ok (.i2l, 1) := by decide +kernel
theorem dX9_isIn_3 : decode cX9_isIn 3 = .ok (.lcmp, 1) := by decide +kernel
theorem dX9_isIn_4 : decode cX9_isIn 4 = .ok (.ifCond .lt 14, 3) := by decide +kernel
theorem dX9_isIn_7 : decode cX9_isIn 7 = .ok (.lload_n 0, 1) := by decide +kernel
theorem dX9_isIn_8 : decode cX9_isIn 8 = .ok (.iload_n 3, 1) := by decide +kernel
theorem dX9_isIn_9 : decode cX9_isIn 9 = .ok (.i2l, 1) := by decide +kernel
theorem dX9_isIn_10 : decode cX9_isIn 10 = .ok (.lcmp, 1) := by decide +kernel
theorem dX9_isIn_11 : decode cX9_isIn 11 = .ok (.ifCond .gt 7, 3) := by decide +kernel
theorem dX9_isIn_14 : decode cX9_isIn 14 = .ok (.iconst 1, 1) := by decide +kernel
theorem dX9_isIn_15 : decode cX9_isIn 15 = .ok (.goto 4, 3) := by decide +kernel
theorem dX9_isIn_18 : decode cX9_isIn 18 = .ok (.iconst 0, 1) := by decide +kernel
theorem dX9_isIn_19 : decode cX9_isIn 19 = .ok (.ireturn, 1) := by decide +kernel
theorem dX9_canGoOn_0 : decode cX9_canGoOn 0 = .ok (.iload_n 1, 1) := by decide +kernel
theorem dX9_canGoOn_1 : decode cX9_canGoOn 1 = .ok (.i2l, 1) := by decide +kernel
theorem dX9_canGoOn_2 : decode cX9_canGoOn 2 = .ok (.iconst 1, 1) := by decide +kernel
theorem dX9_canGoOn_3 : decode cX9_canGoOn 3 = .ok (.bipush 100, 2) := by decide +kernel
theorem dX9_canGoOn_5 : decode cX9_canGoOn 5 = .ok (.invokestatic 51, 3) := by decide +kernel
theorem dX9_canGoOn_8 : decode cX9_canGoOn 8 = .ok (.ifCond .eq 21, 3) := by decide +kernel
theorem dX9_canGoOn_11 : decode cX9_canGoOn 11 = .ok (.aload_n 0, 1) := by decide +kernel
theorem dX9_canGoOn_12 : decode cX9_canGoOn 12 = .ok (.getfield 21, 3) := by decide +kernel
theorem dX9_canGoOn_15 : decode cX9_canGoOn 15 = .ok (.getfield 141, 3) := by decide +kernel
theorem dX9_canGoOn_18 : decode cX9_canGoOn 18 = .ok (.iload_n 1, 1) := by decide +kernel
theorem dX9_canGoOn_19 : decode cX9_canGoOn 19 = .ok (.iadd, 1) := by decide +kernel
theorem dX9_canGoOn_20 : decode cX9_canGoOn 20 = .ok (.ldc 100, 2) := by decide +kernel
theorem dX9_canGoOn_22 : decode cX9_canGoOn 22 = .ok (.if_icmp .gt 7, 3) := by decide +kernel
theorem dX9_canGoOn_25 : decode cX9_canGoOn 25 = .ok (.iconst 1, 1) := by decide +kernel
theorem dX9_canGoOn_26 : decode cX9_canGoOn 26 = .ok (.goto 4, 3) := by decide +kernel
theorem dX9_canGoOn_29 : decode cX9_canGoOn 29 = .ok (.iconst 0, 1) := by decide +kernel
theorem dX9_canGoOn_30 : decode cX9_canGoOn 30 = .ok (.ireturn, 1) := by decide +kernel
theorem dX9_needArgument_0 : decode cX9_needArgument 0 = .ok (.iload_n 0, 1) := by decide +kernel
theorem dX9_needArgument_1 : decode cX9_needArgument 1 = .ok (.ifCond .ne 14, 3) := by decide +kernel
theorem dX9_needArgument_4 : decode cX9_needArgument 4 = .ok (.new 280, 3) := by decide +kernel
theorem dX9_needArgument_7 : decode cX9_needArgument 7 = .ok (.dup, 1) := by decide +kernel
theorem dX9_needArgument_8 : decode cX9_needArgument 8 = .ok (.ldc_w 282, 3) := by decide +kernel
theorem dX9_needArgument_11 : decode cX9_needArgument 11 = .ok (.invokespecial 284, 3) := by decide +kernel
theorem dX9_needArgument_14 : decode cX9_needArgument 14 = .ok (.athrow, 1) := by decide +kernel
theorem dX9_needArgument_15 : decode cX9_needArgument 15 = .ok (.return_, 1) := by decide +kernel
theorem dX9_needIndex_0 : decode cX9_needIndex 0 = .ok (.iload_n 0, 1) := by decide +kernel
theorem dX9_needIndex_1 : decode cX9_needIndex 1 = .ok (.ifCond .ne 14, 3) := by decide +kernel
theorem dX9_needIndex_4 : decode cX9_needIndex 4 = .ok (.new 287, 3) := by decide +kernel
theorem dX9_needIndex_7 : decode cX9_needIndex 7 = .ok (.dup, 1) := by decide +kernel
theorem dX9_needIndex_8 : decode cX9_needIndex 8 = .ok (.ldc_w 289, 3) := by decide +kernel
theorem dX9_needIndex_11 : decode cX9_needIndex 11 = .ok (.invokespecial 291, 3) := by decide +kernel
theorem dX9_needIndex_14 : decode cX9_needIndex 14 = .ok (.athrow, 1) := by decide +kernel
theorem dX9_needState_0 : decode cX9_needState 0 = .ok (.iload_n 0, 1) := by decide +kernel
theorem dX9_needState_1 : decode cX9_needState 1 = .ok (.ifCond .ne 14, 3) := by decide +kernel
theorem dX9_needState_15 : decode cX9_needState 15 = .ok (.return_, 1) := by decide +kernel
theorem dX9_chainAt_0 : decode cX9_chainAt 0 = .ok (.iload_n 1, 1) := by decide +kernel
theorem dX9_chainAt_1 : decode cX9_chainAt 1 = .ok (.ifCond .lt 17, 3) := by decide +kernel
theorem dX9_chainAt_4 : decode cX9_chainAt 4 = .ok (.iload_n 1, 1) := by decide +kernel
theorem dX9_chainAt_5 : decode cX9_chainAt 5 = .ok (.aload_n 0, 1) := by decide +kernel
theorem dX9_chainAt_6 : decode cX9_chainAt 6 = .ok (.getfield 21, 3) := by decide +kernel
theorem dX9_chainAt_9 : decode cX9_chainAt 9 = .ok (.getfield 59, 3) := by decide +kernel
theorem dX9_chainAt_12 : decode cX9_chainAt 12 = .ok (.invokevirtual 63, 3) := by decide +kernel
theorem dX9_chainAt_15 : decode cX9_chainAt 15 = .ok (.if_icmp .lt 14, 3) := by decide +kernel
theorem dX9_chainAt_18 : decode cX9_chainAt 18 = .ok (.new 287, 3) := by decide +kernel
theorem dX9_chainAt_21 : decode cX9_chainAt 21 = .ok (.dup, 1) := by decide +kernel
theorem dX9_chainAt_22 : decode cX9_chainAt 22 = .ok (.ldc_w 297, 3) := by decide +kernel
theorem dX9_chainAt_25 : decode cX9_chainAt 25 = .ok (.invokespecial 291, 3) := by decide +kernel
theorem dX9_chainAt_28 : decode cX9_chainAt 28 = .ok (.athrow, 1) := by decide +kernel
theorem dX9_ruleAt_0 : decode cX9_ruleAt 0 = .ok (.iload_n 1, 1) := by decide +kernel
theorem dX9_ruleAt_1 : decode cX9_ruleAt 1 = .ok (.ifCond .lt 17, 3) := by decide +kernel
theorem dX9_ruleAt_4 : decode cX9_ruleAt 4 = .ok (.iload_n 1, 1) := by decide +kernel
theorem dX9_ruleAt_5 : decode cX9_ruleAt 5 = .ok (.aload_n 0, 1) := by decide +kernel
theorem dX9_ruleAt_6 : decode cX9_ruleAt 6 = .ok (.getfield 21, 3) := by decide +kernel
theorem dX9_ruleAt_9 : decode cX9_ruleAt 9 = .ok (.getfield 216, 3) := by decide +kernel
theorem dX9_ruleAt_12 : decode cX9_ruleAt 12 = .ok (.invokevirtual 63, 3) := by decide +kernel
theorem dX9_ruleAt_15 : decode cX9_ruleAt 15 = .ok (.if_icmp .lt 14, 3) := by decide +kernel
theorem dX9_ruleAt_18 : decode cX9_ruleAt 18 = .ok (.new 287, 3) := by decide +kernel
theorem dX9_ruleAt_21 : decode cX9_ruleAt 21 = .ok (.dup, 1) := by decide +kernel
theorem dX9_ruleAt_22 : decode cX9_ruleAt 22 = .ok (.ldc_w 299, 3) := by decide +kernel
theorem dX9_ruleAt_25 : decode cX9_ruleAt 25 = .ok (.invokespecial 291, 3) := by decide +kernel
theorem dX9_ruleAt_28 : decode cX9_ruleAt 28 = .ok (.athrow, 1) := by decide +kernel
theorem dX13_init_0 : decode cX13_init 0 = .ok (.aload_n 0, 1) := by decide +kernel
theorem dX13_init_1 : decode cX13_init 1 = .ok (.invokespecial 3, 3) := by decide +kernel
theorem dX13_init_4 : decode cX13_init 4 = .ok (.aload_n 0, 1) := by decide +kernel
theorem dX13_init_5 : decode cX13_init 5 = .ok (.new 9, 3) := by decide +kernel
theorem dX13_init_8 : decode cX13_init 8 = .ok (.dup, 1) := by decide +kernel
theorem dX13_init_9 : decode cX13_init 9 = .ok (.invokespecial 11, 3) := by decide +kernel
theorem dX13_init_12 : decode cX13_init 12 = .ok (.putfield 12, 3) := by decide +kernel
theorem dX13_init_15 : decode cX13_init 15 = .ok (.aload_n 0, 1) := by decide +kernel
theorem dX13_init_16 : decode cX13_init 16 = .ok (.new 9, 3) := by decide +kernel
theorem dX13_init_19 : decode cX13_init 19 = .ok (.dup, 1) := by decide +kernel
theorem dX13_init_20 : decode cX13_init 20 = .ok (.invokespecial 11, 3) := by decide +kernel
theorem dX13_init_23 : decode cX13_init 23 = .ok (.putfield 18, 3) := by decide +kernel
theorem dX13_init_26 : decode cX13_init 26 = .ok (.aload_n 0, 1) := by decide +kernel
theorem dX13_init_27 : decode cX13_init 27 = .ok (.new 9, 3) := by decide +kernel
theorem dX13_init_30 : decode cX13_init 30 = .ok (.dup, 1) := by decide +kernel
theorem dX13_init_31 : decode cX13_init 31 = .ok (.invokespecial 11, 3) := by decide +kernel
theorem dX13_init_34 : decode cX13_init 34 = .ok (.putfield 21, 3) := by decide +kernel
theorem dX13_init_37 : decode cX13_init 37 = .ok (.aload_n 0, 1) := by decide +kernel
theorem dX13_init_38 : decode cX13_init 38 = .ok (.iconst (-1), 1) := by decide +kernel
theorem dX13_init_39 : decode cX13_init 39 = .ok (.putfield 24, 3) := by decide +kernel
theorem dX13_init_42 : decode cX13_init 42 = .ok (.aload_n 0, 1) := by decide +kernel
theorem dX13_init_43 : decode cX13_init 43 = .ok (.iconst 2, 1) := by decide +kernel
theorem dX13_init_44 : decode cX13_init 44 = .ok (.newarray .int, 2) := by decide +kernel
theorem dX13_init_46 : decode cX13_init 46 = .ok (.dup, 1) := by decide +kernel
theorem dX13_init_47 : decode cX13_init 47 = .ok (.iconst 0, 1) := by decide +kernel
theorem dX13_init_48 : decode cX13_init 48 = .ok (.iload_n 1, 1) := by decide +kernel
theorem dX13_init_49 : decode cX13_init 49 = .ok (.iastore, 1) := by decide +kernel
theorem dX13_init_50 : decode cX13_init 50 = .ok (.dup, 1) := by decide +kernel
theorem dX13_init_51 : decode cX13_init 51 = .ok (.iconst 1, 1) := by decide +kernel
theorem dX13_init_52 : decode cX13_init 52 = .ok (.iload_n 2, 1) := by decide +kernel
theorem dX13_init_53 : decode cX13_init 53 = .ok (.iastore, 1) := by decide +kernel
theorem dX13_init_54 : decode cX13_init 54 = .ok (.putfield 28, 3) := by decide +kernel
theorem dX13_init_57 : decode cX13_init 57 = .ok (.aload_n 0, 1) := by decide +kernel
theorem dX13_init_58 : decode cX13_init 58 = .ok (.getfield 12, 3) := by decide +kernel
theorem dX13_init_61 : decode cX13_init 61 = .ok (.new 9, 3) := by decide +kernel
theorem dX13_init_64 : decode cX13_init 64 = .ok (.dup, 1) := by decide +kernel
theorem dX13_init_65 : decode cX13_init 65 = .ok (.invokespecial 11, 3) := by decide +kernel
theorem dX13_init_68 : decode cX13_init 68 = .ok (.invokevirtual 32, 3) := by decide +kernel
theorem dX13_init_71 : decode cX13_init 71 = .ok (.pop, 1) := by decide +kernel
theorem dX13_init_72 : decode cX13_init 72 = .ok (.return_, 1) := by decide +kernel
theorem dX14_init_0 : decode cX14_init 0 = .ok (.aload_n 0, 1) := by decide +kernel
theorem dX14_init_1 : decode cX14_init 1 = .ok (.invokespecial 1, 3) := by decide +kernel
theorem dX14_init_4 : decode cX14_init 4 = .ok (.aload_n 0, 1) := by decide +kernel
theorem dX14_init_5 : decode cX14_init 5 = .ok (.new 7, 3) := by decide +kernel
theorem dX14_init_8 : decode cX14_init 8 = .ok (.dup, 1) := by decide +kernel
theorem dX14_init_9 : decode cX14_init 9 = .ok (.invokespecial 9, 3) := by decide +kernel
theorem dX14_init_12 : decode cX14_init 12 = .ok (.putfield 10, 3) := by decide +kernel
theorem dX14_init_15 : decode cX14_init 15 = .ok (.aload_n 0, 1) := by decide +kernel
theorem dX14_init_16 : decode cX14_init 16 = .ok (.new 7, 3) := by decide +kernel
theorem dX14_init_19 : decode cX14_init 19 = .ok (.dup, 1) := by decide +kernel
theorem dX14_init_20 : decode cX14_init 20 = .ok (.invokespecial 9, 3) := by decide +kernel
theorem dX14_init_23 : decode cX14_init 23 = .ok (.putfield 16, 3) := by decide +kernel
theorem dX14_init_26 : decode cX14_init 26 = .ok (.aload_n 0, 1) := by decide +kernel
theorem dX14_init_27 : decode cX14_init 27 = .ok (.new 7, 3) := by decide +kernel
theorem dX14_init_30 : decode cX14_init 30 = .ok (.dup, 1) := by decide +kernel
theorem dX14_init_31 : decode cX14_init 31 = .ok (.invokespecial 9, 3) := by decide +kernel
theorem dX14_init_34 : decode cX14_init 34 = .ok (.putfield 19, 3) := by decide +kernel
theorem dX14_init_37 : decode cX14_init 37 = .ok (.aload_n 0, 1) := by decide +kernel
theorem dX14_init_38 : decode cX14_init 38 = .ok (.bipush 8, 2) := by decide +kernel
theorem dX14_init_40 : decode cX14_init 40 = .ok (.putfield 22, 3) := by decide +kernel
theorem dX14_init_43 : decode cX14_init 43 = .ok (.aload_n 0, 1) := by decide +kernel
theorem dX14_init_44 : decode cX14_init 44 = .ok (.bipush 10, 2) := by decide +kernel
theorem dX14_init_46 : decode cX14_init 46 = .ok (.putfield 26, 3) := by decide +kernel
theorem dX14_init_49 : decode cX14_init 49 = .ok (.aload_n 0, 1) := by decide +kernel
theorem dX14_init_50 : decode cX14_init 50 = .ok (.bipush 6, 2) := by decide +kernel
theorem dX14_init_52 : decode cX14_init 52 = .ok (.putfield 29, 3) := by decide +kernel
theorem dX14_init_55 : decode cX14_init 55 = .ok (.return_, 1) := by decide +kernel
theorem dX14_tick_0 : decode cX14_tick 0 = .ok (.aload_n 0, 1) := by decide +kernel
theorem dX14_tick_1 : decode cX14_tick 1 = .ok (.dup, 1) := by decide +kernel
theorem dX14_tick_2 : decode cX14_tick 2 = .ok (.getfield 60, 3) := by decide +kernel
theorem dX14_tick_5 : decode cX14_tick 5 = .ok (.iconst 1, 1) := by decide +kernel
theorem dX14_tick_6 : decode cX14_tick 6 = .ok (.iadd, 1) := by decide +kernel
theorem dX14_tick_7 : decode cX14_tick 7 = .ok (.putfield 60, 3) := by decide +kernel
theorem dX14_tick_10 : decode cX14_tick 10 = .ok (.iconst 0, 1) := by decide +kernel
theorem dX14_tick_11 : decode cX14_tick 11 = .ok (.istore_n 1, 1) := by decide +kernel
theorem dX14_tick_12 : decode cX14_tick 12 = .ok (.iload_n 1, 1) := by decide +kernel
theorem dX14_tick_13 : decode cX14_tick 13 = .ok (.aload_n 0, 1) := by decide +kernel
theorem dX14_tick_14 : decode cX14_tick 14 = .ok (.getfield 10, 3) := by decide +kernel
theorem dX14_tick_17 : decode cX14_tick 17 = .ok (.invokevirtual 33, 3) := by decide +kernel
theorem dX14_tick_20 : decode cX14_tick 20 = .ok (.if_icmp .ge 43, 3) := by decide +kernel
theorem dX14_tick_63 : decode cX14_tick 63 = .ok (.iconst 0, 1) := by decide +kernel
theorem dX14_tick_64 : decode cX14_tick 64 = .ok (.istore_n 1, 1) := by decide +kernel
theorem dX14_tick_65 : decode cX14_tick 65 = .ok (.iload_n 1, 1) := by decide +kernel
theorem dX14_tick_66 : decode cX14_tick 66 = .ok (.aload_n 0, 1) := by decide +kernel
theorem dX14_tick_67 : decode cX14_tick 67 = .ok (.getfield 16, 3) := by decide +kernel
theorem dX14_tick_70 : decode cX14_tick 70 = .ok (.invokevirtual 33, 3) := by decide +kernel
theorem dX14_tick_73 : decode cX14_tick 73 = .ok (.if_icmp .ge 77, 3) := by decide +kernel
theorem dX14_tick_150 : decode cX14_tick 150 = .ok (.return_, 1) := by decide +kernel
theorem dX15_init_0 : decode cX15_init 0 = .ok (.aload_n 0, 1) := by decide +kernel
theorem dX15_init_1 : decode cX15_init 1 = .ok (.invokespecial 54, 3) := by decide +kernel
theorem dX15_init_4 : decode cX15_init 4 = .ok (.aload_n 0, 1) := by decide +kernel
theorem dX15_init_5 : decode cX15_init 5 = .ok (.bipush 10, 2) := by decide +kernel
theorem dX15_init_7 : decode cX15_init 7 = .ok (.putfield 57, 3) := by decide +kernel
theorem dX15_init_10 : decode cX15_init 10 = .ok (.aload_n 0, 1) := by decide +kernel
theorem dX15_init_11 : decode cX15_init 11 = .ok (.iconst 1, 1) := by decide +kernel
theorem dX15_init_12 : decode cX15_init 12 = .ok (.putfield 62, 3) := by decide +kernel
theorem dX15_init_15 : decode cX15_init 15 = .ok (.aload_n 0, 1) := by decide +kernel
theorem dX15_init_16 : decode cX15_init 16 = .ok (.new 65, 3) := by decide +kernel
theorem dX15_init_19 : decode cX15_init 19 = .ok (.dup, 1) := by decide +kernel
theorem dX15_init_20 : decode cX15_init 20 = .ok (.invokespecial 67, 3) := by decide +kernel
theorem dX15_init_23 : decode cX15_init 23 = .ok (.putfield 68, 3) := by decide +kernel
theorem dX15_init_26 : decode cX15_init 26 = .ok (.return_, 1) := by decide +kernel
theorem dX15_thrown_0 : decode cX15_thrown 0 = .ok (.aload_n 0, 1) := by decide +kernel
theorem dX15_thrown_1 : decode cX15_thrown 1 = .ok (.getfield 72, 3) := by decide +kernel
theorem dX15_thrown_4 : decode cX15_thrown 4 = .ok (.ireturn, 1) := by decide +kernel
theorem dX15_isIn_0 : decode cX15_isIn 0 = .ok (.iload_n 0, 1) := by decide +kernel
theorem dX15_isIn_1 : decode cX15_isIn 1 = .ok (.iload_n 1, 1) := by decide +kernel
theorem dX15_isIn_2 : decode cX15_isIn 2 = .ok (.if_icmp .lt 12, 3) := by decide +kernel
theorem dX15_isIn_5 : decode cX15_isIn 5 = .ok (.iload_n 0, 1) := by decide +kernel
theorem dX15_isIn_6 : decode cX15_isIn 6 = .ok (.iload_n 2, 1) := by decide +kernel
theorem dX15_isIn_7 : decode cX15_isIn 7 = .ok (.if_icmp .gt 7, 3) := by decide +kernel
theorem dX15_isIn_10 : decode cX15_isIn 10 = .ok (.iconst 1, 1) := by decide +kernel
theorem dX15_isIn_11 : decode cX15_isIn 11 = .ok (.goto 4, 3) := by decide +kernel
theorem dX15_isIn_14 : decode cX15_isIn 14 = .ok (.iconst 0, 1) := by decide +kernel
theorem dX15_isIn_15 : decode cX15_isIn 15 = .ok (.ireturn, 1) := by decide +kernel
theorem dX15_refuse_0 : decode cX15_refuse 0 = .ok (.iload_n 1, 1) := by decide +kernel
theorem dX15_refuse_1 : decode cX15_refuse 1 = .ok (.ifCond .eq 15, 3) := by decide +kernel
theorem dX15_refuse_4 : decode cX15_refuse 4 = .ok (.aload_n 0, 1) := by decide +kernel
theorem dX15_refuse_5 : decode cX15_refuse 5 = .ok (.getfield 72, 3) := by decide +kernel
theorem dX15_refuse_8 : decode cX15_refuse 8 = .ok (.ifCond .ne 8, 3) := by decide +kernel
theorem dX15_refuse_11 : decode cX15_refuse 11 = .ok (.aload_n 0, 1) := by decide +kernel
theorem dX15_refuse_12 : decode cX15_refuse 12 = .ok (.iload_n 2, 1) := by decide +kernel
theorem dX15_refuse_13 : decode cX15_refuse 13 = .ok (.putfield 72, 3) := by decide +kernel
theorem dX15_refuse_16 : decode cX15_refuse 16 = .ok (.aload_n 0, 1) := by decide +kernel
theorem dX15_refuse_17 : decode cX15_refuse 17 = .ok (.getfield 72, 3) := by decide +kernel
theorem dX15_refuse_20 : decode cX15_refuse 20 = .ok (.ifCond .le 7, 3) := by decide +kernel
theorem dX15_refuse_23 : decode cX15_refuse 23 = .ok (.iconst 1, 1) := by decide +kernel
theorem dX15_refuse_24 : decode cX15_refuse 24 = .ok (.goto 4, 3) := by decide +kernel
theorem dX15_refuse_27 : decode cX15_refuse 27 = .ok (.iconst 0, 1) := by decide +kernel
theorem dX15_refuse_28 : decode cX15_refuse 28 = .ok (.ireturn, 1) := by decide +kernel
theorem dX15_start_0 : decode cX15_start 0 = .ok (.aload_n 0, 1) := by decide +kernel
theorem dX15_start_1 : decode cX15_start 1 = .ok (.iconst 0, 1) := by decide +kernel
theorem dX15_start_2 : decode cX15_start 2 = .ok (.putfield 72, 3) := by decide +kernel
theorem dX15_start_5 : decode cX15_start 5 = .ok (.aload_n 0, 1) := by decide +kernel
theorem dX15_start_6 : decode cX15_start 6 = .ok (.iload_n 1, 1) := by decide +kernel
theorem dX15_start_7 : decode cX15_start 7 = .ok (.iload_n 2, 1) := by decide +kernel
theorem dX15_start_8 : decode cX15_start 8 = .ok (.invokevirtual 75, 3) := by decide +kernel
theorem dX15_start_11 : decode cX15_start 11 = .ok (.ireturn, 1) := by decide +kernel
theorem dX15_plain_0 : decode cX15_plain 0 = .ok (.aload_n 0, 1) := by decide +kernel
theorem dX15_plain_1 : decode cX15_plain 1 = .ok (.iconst 0, 1) := by decide +kernel
theorem dX15_plain_2 : decode cX15_plain 2 = .ok (.putfield 72, 3) := by decide +kernel
theorem dX15_plain_5 : decode cX15_plain 5 = .ok (.iload_n 1, 1) := by decide +kernel
theorem dX15_plain_6 : decode cX15_plain 6 = .ok (.ireturn, 1) := by decide +kernel
theorem dX15_addSeries_0 : decode cX15_addSeries 0 = .ok (.aload_n 0, 1) := by decide +kernel
theorem dX15_addSeries_1 : decode cX15_addSeries 1 = .ok (.iload_n 1, 1) := by decide +kernel
theorem dX15_addSeries_2 : decode cX15_addSeries 2 = .ok (.iconst 0, 1) := by decide +kernel
theorem dX15_addSeries_3 : decode cX15_addSeries 3 = .ok (.bipush 9, 2) := by decide +kernel
theorem dX15_addSeries_5 : decode cX15_addSeries 5 = .ok (.invokestatic 79, 3) := by decide +kernel
theorem dX15_addSeries_8 : decode cX15_addSeries 8 = .ok (.ifCond .eq 13, 3) := by decide +kernel
theorem dX15_addSeries_11 : decode cX15_addSeries 11 = .ok (.iload_n 2, 1) := by decide +kernel
theorem dX15_addSeries_12 : decode cX15_addSeries 12 = .ok (.iconst 0, 1) := by decide +kernel
theorem dX15_addSeries_13 : decode cX15_addSeries 13 = .ok (.bipush 9, 2) := by decide +kernel
theorem dX15_addSeries_15 : decode cX15_addSeries 15 = .ok (.invokestatic 79, 3) := by decide +kernel
theorem dX15_addSeries_18 : decode cX15_addSeries 18 = .ok (.ifCond .ne 7, 3) := by decide +kernel
theorem dX15_addSeries_21 : decode cX15_addSeries 21 = .ok (.iconst 1, 1) := by decide +kernel
theorem dX15_addSeries_22 : decode cX15_addSeries 22 = .ok (.goto 4, 3) := by decide +kernel
theorem dX15_addSeries_25 : decode cX15_addSeries 25 = .ok (.iconst 0, 1) := by decide +kernel
theorem dX15_addSeries_26 : decode cX15_addSeries 26 = .ok (.iconst 1, 1) := by decide +kernel
theorem dX15_addSeries_27 : decode cX15_addSeries 27 = .ok (.invokevirtual 83, 3) := by decide +kernel
theorem dX15_addSeries_30 : decode cX15_addSeries 30 = .ok (.ifCond .ne 31, 3) := by decide +kernel
theorem dX15_addSeries_33 : decode cX15_addSeries 33 = .ok (.aload_n 0, 1) := by decide +kernel
theorem dX15_addSeries_34 : decode cX15_addSeries 34 = .ok (.aload_n 0, 1) := by decide +kernel
theorem dX15_addSeries_35 : decode cX15_addSeries 35 = .ok (.getfield 68, 3) := by decide +kernel
theorem dX15_addSeries_38 : decode cX15_addSeries 38 = .ok (.getfield 86, 3) := by decide +kernel
theorem dX15_addSeries_41 : decode cX15_addSeries 41 = .ok (.invokevirtual 7, 3) := by decide +kernel
theorem dX15_addSeries_44 : decode cX15_addSeries 44 = .ok (.bipush 6, 2) := by decide +kernel
theorem dX15_addSeries_46 : decode cX15_addSeries 46 = .ok (.if_icmp .ne 7, 3) := by decide +kernel
theorem dX15_addSeries_53 : decode cX15_addSeries 53 = .ok (.iconst 0, 1) := by decide +kernel
theorem dX15_addSeries_54 : decode cX15_addSeries 54 = .ok (.iconst 2, 1) := by decide +kernel
theorem dX15_addSeries_55 : decode cX15_addSeries 55 = .ok (.invokevirtual 75, 3) := by decide +kernel
theorem dX15_addSeries_58 : decode cX15_addSeries 58 = .ok (.ifCond .eq 5, 3) := by decide +kernel
theorem dX15_addSeries_61 : decode cX15_addSeries 61 = .ok (.iconst 0, 1) := by decide +kernel
theorem dX15_addSeries_62 : decode cX15_addSeries 62 = .ok (.ireturn, 1) := by decide +kernel
theorem dX15_addSeries_63 : decode cX15_addSeries 63 = .ok (.aload_n 0, 1) := by decide +kernel
theorem dX15_addSeries_64 : decode cX15_addSeries 64 = .ok (.getfield 68, 3) := by decide +kernel
theorem dX15_addSeries_67 : decode cX15_addSeries 67 = .ok (.getfield 86, 3) := by decide +kernel
theorem dX15_addSeries_70 : decode cX15_addSeries 70 = .ok (.new 90, 3) := by decide +kernel
theorem dX15_addSeries_73 : decode cX15_addSeries 73 = .ok (.dup, 1) := by decide +kernel
theorem dX15_addSeries_74 : decode cX15_addSeries 74 = .ok (.iload_n 1, 1) := by decide +kernel
theorem dX15_addSeries_75 : decode cX15_addSeries 75 = .ok (.iload_n 2, 1) := by decide +kernel
theorem dX15_addSeries_76 : decode cX15_addSeries 76 = .ok (.invokespecial 92, 3) := by decide +kernel
theorem dX15_addSeries_79 : decode cX15_addSeries 79 = .ok (.invokevirtual 42, 3) := by decide +kernel
theorem dX15_addSeries_82 : decode cX15_addSeries 82 = .ok (.pop, 1) := by decide +kernel
theorem dX15_addSeries_83 : decode cX15_addSeries 83 = .ok (.aload_n 0, 1) := by decide +kernel
theorem dX15_addSeries_84 : decode cX15_addSeries 84 = .ok (.getfield 68, 3) := by decide +kernel
theorem dX15_addSeries_87 : decode cX15_addSeries 87 = .ok (.getfield 86, 3) := by decide +kernel
theorem dX15_addSeries_90 : decode cX15_addSeries 90 = .ok (.invokevirtual 7, 3) := by decide +kernel
theorem dX15_addSeries_93 : decode cX15_addSeries 93 = .ok (.iconst 1, 1) := by decide +kernel
theorem dX15_addSeries_94 : decode cX15_addSeries 94 = .ok (.isub, 1) := by decide +kernel
theorem dX15_addSeries_95 : decode cX15_addSeries 95 = .ok (.ireturn, 1) := by decide +kernel
theorem dX15_setSpan_0 : decode cX15_setSpan 0 = .ok (.aload_n 0, 1) := by decide +kernel
theorem dX15_setSpan_1 : decode cX15_setSpan 1 = .ok (.iload_n 1, 1) := by decide +kernel
theorem dX15_setSpan_2 : decode cX15_setSpan 2 = .ok (.iconst 2, 1) := by decide +kernel
theorem dX15_setSpan_3 : decode cX15_setSpan 3 = .ok (.bipush 16, 2) := by decide +kernel
theorem dX15_setSpan_5 : decode cX15_setSpan 5 = .ok (.invokestatic 79, 3) := by decide +kernel
theorem dX15_setSpan_8 : decode cX15_setSpan 8 = .ok (.ifCond .ne 7, 3) := by decide +kernel
theorem dX15_setSpan_11 : decode cX15_setSpan 11 = .ok (.iconst 1, 1) := by decide +kernel
theorem dX15_setSpan_12 : decode cX15_setSpan 12 = .ok (.goto 4, 3) := by decide +kernel
theorem dX15_setSpan_15 : decode cX15_setSpan 15 = .ok (.iconst 0, 1) := by decide +kernel
theorem dX15_setSpan_16 : decode cX15_setSpan 16 = .ok (.iconst 1, 1) := by decide +kernel
theorem dX15_setSpan_17 : decode cX15_setSpan 17 = .ok (.invokevirtual 83, 3) := by decide +kernel
theorem dX15_setSpan_20 : decode cX15_setSpan 20 = .ok (.ifCond .eq 5, 3) := by decide +kernel
theorem dX15_setSpan_23 : decode cX15_setSpan 23 = .ok (.iconst 0, 1) := by decide +kernel
theorem dX15_setSpan_24 : decode cX15_setSpan 24 = .ok (.ireturn, 1) := by decide +kernel
theorem dX15_setSpan_25 : decode cX15_setSpan 25 = .ok (.aload_n 0, 1) := by decide +kernel
theorem dX15_setSpan_26 : decode cX15_setSpan 26 = .ok (.getfield 68, 3) := by decide +kernel
theorem dX15_setSpan_29 : decode cX15_setSpan 29 = .ok (.getfield 94, 3) := by decide +kernel
theorem dX15_setSpan_32 : decode cX15_setSpan 32 = .ok (.istore_n 2, 1) := by decide +kernel
theorem dX15_setSpan_33 : decode cX15_setSpan 33 = .ok (.aload_n 0, 1) := by decide +kernel
theorem dX15_setSpan_34 : decode cX15_setSpan 34 = .ok (.getfield 68, 3) := by decide +kernel
theorem dX15_setSpan_37 : decode cX15_setSpan 37 = .ok (.iload_n 1, 1) := by decide +kernel
theorem dX15_setSpan_38 : decode cX15_setSpan 38 = .ok (.putfield 94, 3) := by decide +kernel
theorem dX15_setSpan_41 : decode cX15_setSpan 41 = .ok (.iload_n 2, 1) := by decide +kernel
theorem dX15_setSpan_42 : decode cX15_setSpan 42 = .ok (.ireturn, 1) := by decide +kernel
theorem dX15_hasBuckets_0 : decode cX15_hasBuckets 0 = .ok (.iconst 0, 1) := by decide +kernel
theorem dX15_hasBuckets_1 : decode cX15_hasBuckets 1 = .ok (.istore_n 1, 1) := by decide +kernel
theorem dX15_hasBuckets_2 : decode cX15_hasBuckets 2 = .ok (.iload_n 1, 1) := by decide +kernel
theorem dX15_hasBuckets_3 : decode cX15_hasBuckets 3 = .ok (.aload_n 0, 1) := by decide +kernel
theorem dX15_hasBuckets_4 : decode cX15_hasBuckets 4 = .ok (.getfield 68, 3) := by decide +kernel
theorem dX15_hasBuckets_7 : decode cX15_hasBuckets 7 = .ok (.getfield 86, 3) := by decide +kernel
theorem dX15_hasBuckets_10 : decode cX15_hasBuckets 10 = .ok (.invokevirtual 7, 3) := by decide +kernel
theorem dX15_hasBuckets_13 : decode cX15_hasBuckets 13 = .ok (.if_icmp .ge 57, 3) := by decide +kernel
theorem dX15_hasBuckets_70 : decode cX15_hasBuckets 70 = .ok (.iconst 0, 1) := by decide +kernel
theorem dX15_hasBuckets_71 : decode cX15_hasBuckets 71 = .ok (.ireturn, 1) := by decide +kernel
theorem dX15_setWidths_0 : decode cX15_setWidths 0 = .ok (.aload_n 0, 1) := by decide +kernel
theorem dX15_setWidths_1 : decode cX15_setWidths 1 = .ok (.iload_n 1, 1) := by decide +kernel
theorem dX15_setWidths_2 : decode cX15_setWidths 2 = .ok (.iconst 2, 1) := by decide +kernel
theorem dX15_setWidths_3 : decode cX15_setWidths 3 = .ok (.bipush 100, 2) := by decide +kernel
theorem dX15_setWidths_5 : decode cX15_setWidths 5 = .ok (.invokestatic 79, 3) := by decide +kernel
theorem dX15_setWidths_8 : decode cX15_setWidths 8 = .ok (.ifCond .eq 13, 3) := by decide +kernel
theorem dX15_setWidths_11 : decode cX15_setWidths 11 = .ok (.iload_n 2, 1) := by decide +kernel
theorem dX15_setWidths_12 : decode cX15_setWidths 12 = .ok (.iconst 2, 1) := by decide +kernel
theorem dX15_setWidths_13 : decode cX15_setWidths 13 = .ok (.bipush 20, 2) := by decide +kernel
theorem dX15_setWidths_15 : decode cX15_setWidths 15 = .ok (.invokestatic 79, 3) := by decide +kernel
theorem dX15_setWidths_18 : decode cX15_setWidths 18 = .ok (.ifCond .ne 7, 3) := by decide +kernel
theorem dX15_setWidths_21 : decode cX15_setWidths 21 = .ok (.iconst 1, 1) := by decide +kernel
theorem dX15_setWidths_22 : decode cX15_setWidths 22 = .ok (.goto 4, 3) := by decide +kernel
theorem dX15_setWidths_25 : decode cX15_setWidths 25 = .ok (.iconst 0, 1) := by decide +kernel
theorem dX15_setWidths_26 : decode cX15_setWidths 26 = .ok (.iconst 1, 1) := by decide +kernel
theorem dX15_setWidths_27 : decode cX15_setWidths 27 = .ok (.invokevirtual 83, 3) := by decide +kernel
theorem dX15_setWidths_30 : decode cX15_setWidths 30 = .ok (.ifCond .ne 15, 3) := by decide +kernel
theorem dX15_setWidths_33 : decode cX15_setWidths 33 = .ok (.aload_n 0, 1) := by decide +kernel
theorem dX15_setWidths_34 : decode cX15_setWidths 34 = .ok (.aload_n 0, 1) := by decide +kernel
theorem dX15_setWidths_35 : decode cX15_setWidths 35 = .ok (.invokevirtual 103, 3) := by decide +kernel
theorem dX15_setWidths_38 : decode cX15_setWidths 38 = .ok (.iconst 2, 1) := by decide +kernel
theorem dX15_setWidths_39 : decode cX15_setWidths 39 = .ok (.invokevirtual 75, 3) := by decide +kernel
theorem dX15_setWidths_42 : decode cX15_setWidths 42 = .ok (.ifCond .eq 5, 3) := by decide +kernel
theorem dX15_setWidths_45 : decode cX15_setWidths 45 = .ok (.iconst 0, 1) := by decide +kernel
theorem dX15_setWidths_46 : decode cX15_setWidths 46 = .ok (.ireturn, 1) := by decide +kernel
theorem dX15_setWidths_47 : decode cX15_setWidths 47 = .ok (.aload_n 0, 1) := by decide +kernel
theorem dX15_setWidths_48 : decode cX15_setWidths 48 = .ok (.getfield 68, 3) := by decide +kernel
theorem dX15_setWidths_51 : decode cX15_setWidths 51 = .ok (.getfield 106, 3) := by decide +kernel
theorem dX15_setWidths_54 : decode cX15_setWidths 54 = .ok (.istore_n 3, 1) := by decide +kernel
theorem dX15_setWidths_55 : decode cX15_setWidths 55 = .ok (.aload_n 0, 1) := by decide +kernel
theorem dX15_setWidths_56 : decode cX15_setWidths 56 = .ok (.getfield 68, 3) := by decide +kernel
theorem dX15_setWidths_59 : decode cX15_setWidths 59 = .ok (.iload_n 1, 1) := by decide +kernel
theorem dX15_setWidths_60 : decode cX15_setWidths 60 = .ok (.putfield 106, 3) := by decide +kernel
theorem dX15_setWidths_63 : decode cX15_setWidths 63 = .ok (.aload_n 0, 1) := by decide +kernel
theorem dX15_setWidths_64 : decode cX15_setWidths 64 = .ok (.getfield 68, 3) := by decide +kernel
theorem dX15_setWidths_67 : decode cX15_setWidths 67 = .ok (.iload_n 2, 1) := by decide +kernel
theorem dX15_setWidths_68 : decode cX15_setWidths 68 = .ok (.putfield 109, 3) := by decide +kernel
theorem dX15_setWidths_71 : decode cX15_setWidths 71 = .ok (.iload_n 3, 1) := by decide +kernel
theorem dX15_setWidths_72 : decode cX15_setWidths 72 = .ok (.ireturn, 1) := by decide +kernel
theorem dX15_setKeep_0 : decode cX15_setKeep 0 = .ok (.aload_n 0, 1) := by decide +kernel
theorem dX15_setKeep_1 : decode cX15_setKeep 1 = .ok (.iload_n 1, 1) := by decide +kernel
theorem dX15_setKeep_2 : decode cX15_setKeep 2 = .ok (.iconst 0, 1) := by decide +kernel
theorem dX15_setKeep_3 : decode cX15_setKeep 3 = .ok (.sipush 10000, 3) := by decide +kernel
theorem dX15_setKeep_6 : decode cX15_setKeep 6 = .ok (.invokestatic 79, 3) := by decide +kernel
theorem dX15_setKeep_9 : decode cX15_setKeep 9 = .ok (.ifCond .eq 14, 3) := by decide +kernel
theorem dX15_setKeep_12 : decode cX15_setKeep 12 = .ok (.iload_n 2, 1) := by decide +kernel
theorem dX15_setKeep_13 : decode cX15_setKeep 13 = .ok (.iconst 0, 1) := by decide +kernel
theorem dX15_setKeep_14 : decode cX15_setKeep 14 = .ok (.sipush 10000, 3) := by decide +kernel
theorem dX15_setKeep_17 : decode cX15_setKeep 17 = .ok (.invokestatic 79, 3) := by decide +kernel
theorem dX15_setKeep_20 : decode cX15_setKeep 20 = .ok (.ifCond .ne 7, 3) := by decide +kernel
theorem dX15_setKeep_23 : decode cX15_setKeep 23 = .ok (.iconst 1, 1) := by decide +kernel
theorem dX15_setKeep_24 : decode cX15_setKeep 24 = .ok (.goto 4, 3) := by decide +kernel
theorem dX15_setKeep_27 : decode cX15_setKeep 27 = .ok (.iconst 0, 1) := by decide +kernel
theorem dX15_setKeep_28 : decode cX15_setKeep 28 = .ok (.iconst 1, 1) := by decide +kernel
theorem dX15_setKeep_29 : decode cX15_setKeep 29 = .ok (.invokevirtual 83, 3) := by decide +kernel
theorem dX15_setKeep_32 : decode cX15_setKeep 32 = .ok (.ifCond .eq 5, 3) := by decide +kernel
theorem dX15_setKeep_35 : decode cX15_setKeep 35 = .ok (.iconst 0, 1) := by decide +kernel
theorem dX15_setKeep_36 : decode cX15_setKeep 36 = .ok (.ireturn, 1) := by decide +kernel
theorem dX15_setKeep_37 : decode cX15_setKeep 37 = .ok (.aload_n 0, 1) := by decide +kernel
theorem dX15_setKeep_38 : decode cX15_setKeep 38 = .ok (.getfield 68, 3) := by decide +kernel
theorem dX15_setKeep_41 : decode cX15_setKeep 41 = .ok (.getfield 112, 3) := by decide +kernel
theorem dX15_setKeep_44 : decode cX15_setKeep 44 = .ok (.istore_n 3, 1) := by decide +kernel
theorem dX15_setKeep_45 : decode cX15_setKeep 45 = .ok (.aload_n 0, 1) := by decide +kernel
theorem dX15_setKeep_46 : decode cX15_setKeep 46 = .ok (.getfield 68, 3) := by decide +kernel
theorem dX15_setKeep_49 : decode cX15_setKeep 49 = .ok (.iload_n 1, 1) := by decide +kernel
theorem dX15_setKeep_50 : decode cX15_setKeep 50 = .ok (.putfield 112, 3) := by decide +kernel
theorem dX15_setKeep_53 : decode cX15_setKeep 53 = .ok (.aload_n 0, 1) := by decide +kernel
theorem dX15_setKeep_54 : decode cX15_setKeep 54 = .ok (.getfield 68, 3) := by decide +kernel
theorem dX15_setKeep_57 : decode cX15_setKeep 57 = .ok (.iload_n 2, 1) := by decide +kernel
theorem dX15_setKeep_58 : decode cX15_setKeep 58 = .ok (.putfield 115, 3) := by decide +kernel
theorem dX15_setKeep_61 : decode cX15_setKeep 61 = .ok (.iload_n 3, 1) := by decide +kernel
theorem dX15_setKeep_62 : decode cX15_setKeep 62 = .ok (.ireturn, 1) := by decide +kernel
theorem dX15_setQuery_0 : decode cX15_setQuery 0 = .ok (.aload_n 0, 1) := by decide +kernel
theorem dX15_setQuery_1 : decode cX15_setQuery 1 = .ok (.iload_n 1, 1) := by decide +kernel
theorem dX15_setQuery_2 : decode cX15_setQuery 2 = .ok (.iconst 0, 1) := by decide +kernel
theorem dX15_setQuery_3 : decode cX15_setQuery 3 = .ok (.ldc 118, 2) := by decide +kernel
theorem dX15_setQuery_5 : decode cX15_setQuery 5 = .ok (.invokestatic 79, 3) := by decide +kernel
theorem dX15_setQuery_8 : decode cX15_setQuery 8 = .ok (.ifCond .eq 34, 3) := by decide +kernel
theorem dX15_setQuery_11 : decode cX15_setQuery 11 = .ok (.iload_n 2, 1) := by decide +kernel
theorem dX15_setQuery_12 : decode cX15_setQuery 12 = .ok (.iconst 1, 1) := by decide +kernel
theorem dX15_setQuery_13 : decode cX15_setQuery 13 = .ok (.sipush 10000, 3) := by decide +kernel
theorem dX15_setQuery_16 : decode cX15_setQuery 16 = .ok (.invokestatic 79, 3) := by decide +kernel
theorem dX15_setQuery_19 : decode cX15_setQuery 19 = .ok (.ifCond .eq 23, 3) := by decide +kernel
theorem dX15_setQuery_22 : decode cX15_setQuery 22 = .ok (.iload_n 3, 1) := by decide +kernel
theorem dX15_setQuery_23 : decode cX15_setQuery 23 = .ok (.iconst 0, 1) := by decide +kernel
theorem dX15_setQuery_24 : decode cX15_setQuery 24 = .ok (.bipush 7, 2) := by decide +kernel
theorem dX15_setQuery_26 : decode cX15_setQuery 26 = .ok (.invokestatic 79, 3) := by decide +kernel
theorem dX15_setQuery_29 : decode cX15_setQuery 29 = .ok (.ifCond .eq 13, 3) := by decide +kernel
theorem dX15_setQuery_32 : decode cX15_setQuery 32 = .ok (.iload 4, 2) := by decide +kernel
theorem dX15_setQuery_34 : decode cX15_setQuery 34 = .ok (.iconst 0, 1) := by decide +kernel
theorem dX15_setQuery_35 : decode cX15_setQuery 35 = .ok (.iconst 3, 1) := by decide +kernel
theorem dX15_setQuery_36 : decode cX15_setQuery 36 = .ok (.invokestatic 79, 3) := by decide +kernel
theorem dX15_setQuery_39 : decode cX15_setQuery 39 = .ok (.ifCond .ne 7, 3) := by decide +kernel
theorem dX15_setQuery_42 : decode cX15_setQuery 42 = .ok (.iconst 1, 1) := by decide +kernel
theorem dX15_setQuery_43 : decode cX15_setQuery 43 = .ok (.goto 4, 3) := by decide +kernel
theorem dX15_setQuery_46 : decode cX15_setQuery 46 = .ok (.iconst 0, 1) := by decide +kernel
theorem dX15_setQuery_47 : decode cX15_setQuery 47 = .ok (.iconst 1, 1) := by decide +kernel
theorem dX15_setQuery_48 : decode cX15_setQuery 48 = .ok (.invokevirtual 83, 3) := by decide +kernel
theorem dX15_setQuery_51 : decode cX15_setQuery 51 = .ok (.ifCond .eq 5, 3) := by decide +kernel
theorem dX15_setQuery_54 : decode cX15_setQuery 54 = .ok (.iconst 0, 1) := by decide +kernel
theorem dX15_setQuery_55 : decode cX15_setQuery 55 = .ok (.ireturn, 1) := by decide +kernel
theorem dX15_setQuery_56 : decode cX15_setQuery 56 = .ok (.aload_n 0, 1) := by decide +kernel
theorem dX15_setQuery_57 : decode cX15_setQuery 57 = .ok (.getfield 57, 3) := by decide +kernel
theorem dX15_setQuery_60 : decode cX15_setQuery 60 = .ok (.istore 5, 2) := by decide +kernel
theorem dX15_setQuery_62 : decode cX15_setQuery 62 = .ok (.aload_n 0, 1) := by decide +kernel
theorem dX15_setQuery_63 : decode cX15_setQuery 63 = .ok (.iload_n 1, 1) := by decide +kernel
theorem dX15_setQuery_64 : decode cX15_setQuery 64 = .ok (.putfield 119, 3) := by decide +kernel
theorem dX15_setQuery_67 : decode cX15_setQuery 67 = .ok (.aload_n 0, 1) := by decide +kernel
theorem dX15_setQuery_68 : decode cX15_setQuery 68 = .ok (.iload_n 2, 1) := by decide +kernel
theorem dX15_setQuery_69 : decode cX15_setQuery 69 = .ok (.putfield 57, 3) := by decide +kernel
theorem dX15_setQuery_72 : decode cX15_setQuery 72 = .ok (.aload_n 0, 1) := by decide +kernel
theorem dX15_setQuery_73 : decode cX15_setQuery 73 = .ok (.iload_n 3, 1) := by decide +kernel
theorem dX15_setQuery_74 : decode cX15_setQuery 74 = .ok (.putfield 62, 3) := by decide +kernel
theorem dX15_setQuery_77 : decode cX15_setQuery 77 = .ok (.aload_n 0, 1) := by decide +kernel
theorem dX15_setQuery_78 : decode cX15_setQuery 78 = .ok (.iload 4, 2) := by decide +kernel
theorem dX15_setQuery_80 : decode cX15_setQuery 80 = .ok (.putfield 122, 3) := by decide +kernel
theorem dX15_setQuery_83 : decode cX15_setQuery 83 = .ok (.iload 5, 2) := by decide +kernel
theorem dX15_setQuery_85 : decode cX15_setQuery 85 = .ok (.ireturn, 1) := by decide +kernel
theorem dX15_isNoSeries_0 : decode cX15_isNoSeries 0 = .ok (.aload_n 0, 1) := by decide +kernel
theorem dX15_isNoSeries_1 : decode cX15_isNoSeries 1 = .ok (.iload_n 1, 1) := by decide +kernel
theorem dX15_isNoSeries_2 : decode cX15_isNoSeries 2 = .ok (.iconst 0, 1) := by decide +kernel
theorem dX15_isNoSeries_3 : decode cX15_isNoSeries 3 = .ok (.aload_n 0, 1) := by decide +kernel
theorem dX15_isNoSeries_4 : decode cX15_isNoSeries 4 = .ok (.getfield 68, 3) := by decide +kernel
theorem dX15_isNoSeries_7 : decode cX15_isNoSeries 7 = .ok (.getfield 86, 3) := by decide +kernel
theorem dX15_isNoSeries_10 : decode cX15_isNoSeries 10 = .ok (.invokevirtual 7, 3) := by decide +kernel
theorem dX15_isNoSeries_13 : decode cX15_isNoSeries 13 = .ok (.iconst 1, 1) := by decide +kernel
theorem dX15_isNoSeries_14 : decode cX15_isNoSeries 14 = .ok (.isub, 1) := by decide +kernel
theorem dX15_isNoSeries_15 : decode cX15_isNoSeries 15 = .ok (.invokestatic 79, 3) := by decide +kernel
theorem dX15_isNoSeries_18 : decode cX15_isNoSeries 18 = .ok (.ifCond .ne 7, 3) := by decide +kernel
theorem dX15_isNoSeries_21 : decode cX15_isNoSeries 21 = .ok (.iconst 1, 1) := by decide +kernel
theorem dX15_isNoSeries_22 : decode cX15_isNoSeries 22 = .ok (.goto 4, 3) := by decide +kernel
theorem dX15_isNoSeries_25 : decode cX15_isNoSeries 25 = .ok (.iconst 0, 1) := by decide +kernel
theorem dX15_isNoSeries_26 : decode cX15_isNoSeries 26 = .ok (.iconst 1, 1) := by decide +kernel
theorem dX15_isNoSeries_27 : decode cX15_isNoSeries 27 = .ok (.invokevirtual 83, 3) := by decide +kernel
theorem dX15_isNoSeries_30 : decode cX15_isNoSeries 30 = .ok (.ireturn, 1) := by decide +kernel
theorem dX15_put_0 : decode cX15_put 0 = .ok (.aload_n 0, 1) := by decide +kernel
theorem dX15_put_1 : decode cX15_put 1 = .ok (.iload_n 1, 1) := by decide +kernel
theorem dX15_put_2 : decode cX15_put 2 = .ok (.invokevirtual 152, 3) := by decide +kernel
theorem dX15_put_5 : decode cX15_put 5 = .ok (.ifCond .ne 19, 3) := by decide +kernel
theorem dX15_put_24 : decode cX15_put 24 = .ok (.iconst 0, 1) := by decide +kernel
theorem dX15_put_25 : decode cX15_put 25 = .ok (.goto 14, 3) := by decide +kernel
theorem dX15_put_39 : decode cX15_put 39 = .ok (.ireturn, 1) := by decide +kernel
theorem dX15_putRow_0 : decode cX15_putRow 0 = .ok (.aload_n 0, 1) := by decide +kernel
theorem dX15_putRow_1 : decode cX15_putRow 1 = .ok (.iload_n 1, 1) := by decide +kernel
theorem dX15_putRow_2 : decode cX15_putRow 2 = .ok (.invokevirtual 152, 3) := by decide +kernel
theorem dX15_putRow_5 : decode cX15_putRow 5 = .ok (.ifCond .ne 39, 3) := by decide +kernel
theorem dX15_putRow_44 : decode cX15_putRow 44 = .ok (.iconst 0, 1) := by decide +kernel
theorem dX15_putRow_45 : decode cX15_putRow 45 = .ok (.ireturn, 1) := by decide +kernel
theorem dX15_goOn_0 : decode cX15_goOn 0 = .ok (.aload_n 0, 1) := by decide +kernel
theorem dX15_goOn_1 : decode cX15_goOn 1 = .ok (.iload_n 1, 1) := by decide +kernel
theorem dX15_goOn_2 : decode cX15_goOn 2 = .ok (.iconst 1, 1) := by decide +kernel
theorem dX15_goOn_3 : decode cX15_goOn 3 = .ok (.bipush 100, 2) := by decide +kernel
theorem dX15_goOn_5 : decode cX15_goOn 5 = .ok (.invokestatic 79, 3) := by decide +kernel
theorem dX15_goOn_8 : decode cX15_goOn 8 = .ok (.ifCond .eq 17, 3) := by decide +kernel
theorem dX15_goOn_11 : decode cX15_goOn 11 = .ok (.aload_n 0, 1) := by decide +kernel
theorem dX15_goOn_12 : decode cX15_goOn 12 = .ok (.getfield 68, 3) := by decide +kernel
theorem dX15_goOn_15 : decode cX15_goOn 15 = .ok (.getfield 125, 3) := by decide +kernel
theorem dX15_goOn_18 : decode cX15_goOn 18 = .ok (.iload_n 1, 1) := by decide +kernel
theorem dX15_goOn_19 : decode cX15_goOn 19 = .ok (.iadd, 1) := by decide +kernel
theorem dX15_goOn_20 : decode cX15_goOn 20 = .ok (.ldc 118, 2) := by decide +kernel
theorem dX15_goOn_22 : decode cX15_goOn 22 = .ok (.if_icmp .le 7, 3) := by decide +kernel
theorem dX15_goOn_25 : decode cX15_goOn 25 = .ok (.iconst 1, 1) := by decide +kernel
theorem dX15_goOn_26 : decode cX15_goOn 26 = .ok (.goto 4, 3) := by decide +kernel
theorem dX15_goOn_29 : decode cX15_goOn 29 = .ok (.iconst 0, 1) := by decide +kernel
theorem dX15_goOn_30 : decode cX15_goOn 30 = .ok (.iconst 1, 1) := by decide +kernel
theorem dX15_goOn_31 : decode cX15_goOn 31 = .ok (.invokevirtual 83, 3) := by decide +kernel
theorem dX15_goOn_34 : decode cX15_goOn 34 = .ok (.ifCond .eq 5, 3) := by decide +kernel
theorem dX15_goOn_37 : decode cX15_goOn 37 = .ok (.iconst 0, 1) := by decide +kernel
theorem dX15_goOn_38 : decode cX15_goOn 38 = .ok (.ireturn, 1) := by decide +kernel
theorem dX15_goOn_39 : decode cX15_goOn 39 = .ok (.aload_n 0, 1) := by decide +kernel
theorem dX15_goOn_40 : decode cX15_goOn 40 = .ok (.getfield 68, 3) := by decide +kernel
theorem dX15_goOn_43 : decode cX15_goOn 43 = .ok (.getfield 167, 3) := by decide +kernel
theorem dX15_goOn_46 : decode cX15_goOn 46 = .ok (.invokevirtual 7, 3) := by decide +kernel
theorem dX15_goOn_49 : decode cX15_goOn 49 = .ok (.istore_n 2, 1) := by decide +kernel
theorem dX15_goOn_50 : decode cX15_goOn 50 = .ok (.iconst 0, 1) := by decide +kernel
theorem dX15_goOn_51 : decode cX15_goOn 51 = .ok (.istore_n 3, 1) := by decide +kernel
theorem dX15_goOn_52 : decode cX15_goOn 52 = .ok (.iload_n 3, 1) := by decide +kernel
theorem dX15_goOn_53 : decode cX15_goOn 53 = .ok (.iload_n 1, 1) := by decide +kernel
theorem dX15_goOn_54 : decode cX15_goOn 54 = .ok (.if_icmp .ge 16, 3) := by decide +kernel
theorem dX15_goOn_57 : decode cX15_goOn 57 = .ok (.aload_n 0, 1) := by decide +kernel
theorem dX15_goOn_58 : decode cX15_goOn 58 = .ok (.getfield 68, 3) := by decide +kernel
theorem dX15_goOn_61 : decode cX15_goOn 61 = .ok (.invokevirtual 170, 3) := by decide +kernel
theorem dX15_goOn_64 : decode cX15_goOn 64 = .ok (.iinc 3 1, 3) := by decide +kernel
theorem dX15_goOn_67 : decode cX15_goOn 67 = .ok (.goto (-15), 3) := by decide +kernel
theorem dX15_goOn_70 : decode cX15_goOn 70 = .ok (.aload_n 0, 1) := by decide +kernel
theorem dX15_goOn_71 : decode cX15_goOn 71 = .ok (.getfield 68, 3) := by decide +kernel
theorem dX15_goOn_74 : decode cX15_goOn 74 = .ok (.getfield 167, 3) := by decide +kernel
theorem dX15_goOn_77 : decode cX15_goOn 77 = .ok (.invokevirtual 7, 3) := by decide +kernel
theorem dX15_goOn_80 : decode cX15_goOn 80 = .ok (.iload_n 2, 1) := by decide +kernel
theorem dX15_goOn_81 : decode cX15_goOn 81 = .ok (.isub, 1) := by decide +kernel
theorem dX15_goOn_82 : decode cX15_goOn 82 = .ok (.ireturn, 1) := by decide +kernel
theorem dX15_now_0 : decode cX15_now 0 = .ok (.aload_n 0, 1) := by decide +kernel
theorem dX15_now_1 : decode cX15_now 1 = .ok (.aload_n 0, 1) := by decide +kernel
theorem dX15_now_2 : decode cX15_now 2 = .ok (.getfield 68, 3) := by decide +kernel
theorem dX15_now_5 : decode cX15_now 5 = .ok (.getfield 125, 3) := by decide +kernel
theorem dX15_now_8 : decode cX15_now 8 = .ok (.invokevirtual 173, 3) := by decide +kernel
theorem dX15_now_11 : decode cX15_now 11 = .ok (.ireturn, 1) := by decide +kernel
theorem dX15_series__0 : decode cX15_series_ 0 = .ok (.aload_n 0, 1) := by decide +kernel
theorem dX15_series__1 : decode cX15_series_ 1 = .ok (.aload_n 0, 1) := by decide +kernel
theorem dX15_series__2 : decode cX15_series_ 2 = .ok (.getfield 68, 3) := by decide +kernel
theorem dX15_series__5 : decode cX15_series_ 5 = .ok (.getfield 86, 3) := by decide +kernel
theorem dX15_series__8 : decode cX15_series_ 8 = .ok (.invokevirtual 7, 3) := by decide +kernel
theorem dX15_series__11 : decode cX15_series_ 11 = .ok (.invokevirtual 173, 3) := by decide +kernel
theorem dX15_series__14 : decode cX15_series_ 14 = .ok (.ireturn, 1) := by decide +kernel
theorem dX15_late_0 : decode cX15_late 0 = .ok (.aload_n 0, 1) := by decide +kernel
theorem dX15_late_1 : decode cX15_late 1 = .ok (.aload_n 0, 1) := by decide +kernel
theorem dX15_late_2 : decode cX15_late 2 = .ok (.getfield 135, 3) := by decide +kernel
theorem dX15_late_5 : decode cX15_late 5 = .ok (.invokevirtual 173, 3) := by decide +kernel
theorem dX15_late_8 : decode cX15_late 8 = .ok (.ireturn, 1) := by decide +kernel
theorem dX15_blocks_0 : decode cX15_blocks 0 = .ok (.aload_n 0, 1) := by decide +kernel
theorem dX15_blocks_1 : decode cX15_blocks 1 = .ok (.iload_n 1, 1) := by decide +kernel
theorem dX15_blocks_2 : decode cX15_blocks 2 = .ok (.invokevirtual 152, 3) := by decide +kernel
theorem dX15_blocks_5 : decode cX15_blocks 5 = .ok (.ifCond .eq 7, 3) := by decide +kernel
theorem dX15_blocks_8 : decode cX15_blocks 8 = .ok (.iconst 0, 1) := by decide +kernel
theorem dX15_blocks_9 : decode cX15_blocks 9 = .ok (.goto 14, 3) := by decide +kernel
theorem dX15_blocks_23 : decode cX15_blocks 23 = .ok (.ireturn, 1) := by decide +kernel
theorem dX15_isNoBlock_0 : decode cX15_isNoBlock 0 = .ok (.aload_n 0, 1) := by decide +kernel
theorem dX15_isNoBlock_1 : decode cX15_isNoBlock 1 = .ok (.iload_n 1, 1) := by decide +kernel
theorem dX15_isNoBlock_2 : decode cX15_isNoBlock 2 = .ok (.invokevirtual 152, 3) := by decide +kernel
theorem dX15_isNoBlock_5 : decode cX15_isNoBlock 5 = .ok (.ifCond .ne 37, 3) := by decide +kernel
theorem dX15_isNoBlock_42 : decode cX15_isNoBlock 42 = .ok (.iconst 1, 1) := by decide +kernel
theorem dX15_isNoBlock_43 : decode cX15_isNoBlock 43 = .ok (.goto 4, 3) := by decide +kernel
theorem dX15_isNoBlock_47 : decode cX15_isNoBlock 47 = .ok (.ireturn, 1) := by decide +kernel
theorem dX15_size_0 : decode cX15_size 0 = .ok (.aload_n 0, 1) := by decide +kernel
theorem dX15_size_1 : decode cX15_size 1 = .ok (.iload_n 1, 1) := by decide +kernel
theorem dX15_size_2 : decode cX15_size 2 = .ok (.iload_n 2, 1) := by decide +kernel
theorem dX15_size_3 : decode cX15_size 3 = .ok (.invokevirtual 177, 3) := by decide +kernel
theorem dX15_size_6 : decode cX15_size 6 = .ok (.ifCond .eq 7, 3) := by decide +kernel
theorem dX15_size_9 : decode cX15_size 9 = .ok (.iconst 0, 1) := by decide +kernel
theorem dX15_size_10 : decode cX15_size 10 = .ok (.goto 12, 3) := by decide +kernel
theorem dX15_size_22 : decode cX15_size 22 = .ok (.ireturn, 1) := by decide +kernel
theorem dX15_point_0 : decode cX15_point 0 = .ok (.aload_n 0, 1) := by decide +kernel
theorem dX15_point_1 : decode cX15_point 1 = .ok (.iload_n 1, 1) := by decide +kernel
theorem dX15_point_2 : decode cX15_point 2 = .ok (.iload_n 2, 1) := by decide +kernel
theorem dX15_point_3 : decode cX15_point 3 = .ok (.invokevirtual 177, 3) := by decide +kernel
theorem dX15_point_6 : decode cX15_point 6 = .ok (.ifCond .ne 35, 3) := by decide +kernel
theorem dX15_point_41 : decode cX15_point 41 = .ok (.iconst 0, 1) := by decide +kernel
theorem dX15_point_42 : decode cX15_point 42 = .ok (.ireturn, 1) := by decide +kernel
theorem dX15_bits_0 : decode cX15_bits 0 = .ok (.aload_n 0, 1) := by decide +kernel
theorem dX15_bits_1 : decode cX15_bits 1 = .ok (.iload_n 1, 1) := by decide +kernel
theorem dX15_bits_2 : decode cX15_bits 2 = .ok (.iload_n 2, 1) := by decide +kernel
theorem dX15_bits_3 : decode cX15_bits 3 = .ok (.invokevirtual 177, 3) := by decide +kernel
theorem dX15_bits_6 : decode cX15_bits 6 = .ok (.ifCond .eq 7, 3) := by decide +kernel
theorem dX15_bits_9 : decode cX15_bits 9 = .ok (.iconst 0, 1) := by decide +kernel
theorem dX15_bits_10 : decode cX15_bits 10 = .ok (.goto 16, 3) := by decide +kernel
theorem dX15_bits_26 : decode cX15_bits 26 = .ok (.ireturn, 1) := by decide +kernel
theorem dX15_word_0 : decode cX15_word 0 = .ok (.aload_n 0, 1) := by decide +kernel
theorem dX15_word_1 : decode cX15_word 1 = .ok (.iload_n 1, 1) := by decide +kernel
theorem dX15_word_2 : decode cX15_word 2 = .ok (.iload_n 2, 1) := by decide +kernel
theorem dX15_word_3 : decode cX15_word 3 = .ok (.invokevirtual 177, 3) := by decide +kernel
theorem dX15_word_6 : decode cX15_word 6 = .ok (.ifCond .eq 5, 3) := by decide +kernel
theorem dX15_word_9 : decode cX15_word 9 = .ok (.iconst 0, 1) := by decide +kernel
theorem dX15_word_10 : decode cX15_word 10 = .ok (.ireturn, 1) := by decide +kernel
theorem dX15_buckets__0 : decode cX15_buckets_ 0 = .ok (.aload_n 0, 1) := by decide +kernel
theorem dX15_buckets__1 : decode cX15_buckets_ 1 = .ok (.iload_n 1, 1) := by decide +kernel
theorem dX15_buckets__2 : decode cX15_buckets_ 2 = .ok (.invokevirtual 152, 3) := by decide +kernel
theorem dX15_buckets__5 : decode cX15_buckets_ 5 = .ok (.ifCond .eq 7, 3) := by decide +kernel
theorem dX15_buckets__8 : decode cX15_buckets_ 8 = .ok (.iconst 0, 1) := by decide +kernel
theorem dX15_buckets__9 : decode cX15_buckets_ 9 = .ok (.goto 15, 3) := by decide +kernel
theorem dX15_buckets__24 : decode cX15_buckets_ 24 = .ok (.ireturn, 1) := by decide +kernel
theorem dX15_ofBucket_0 : decode cX15_ofBucket 0 = .ok (.aload_n 0, 1) := by decide +kernel
theorem dX15_ofBucket_1 : decode cX15_ofBucket 1 = .ok (.iload_n 1, 1) := by decide +kernel
theorem dX15_ofBucket_2 : decode cX15_ofBucket 2 = .ok (.invokevirtual 152, 3) := by decide +kernel
theorem dX15_ofBucket_5 : decode cX15_ofBucket 5 = .ok (.ifCond .ne 62, 3) := by decide +kernel
theorem dX15_ofBucket_67 : decode cX15_ofBucket 67 = .ok (.iconst 0, 1) := by decide +kernel
theorem dX15_ofBucket_68 : decode cX15_ofBucket 68 = .ok (.goto 24, 3) := by decide +kernel
theorem dX15_ofBucket_92 : decode cX15_ofBucket 92 = .ok (.ireturn, 1) := by decide +kernel
theorem dX15_items_0 : decode cX15_items 0 = .ok (.aload_n 0, 1) := by decide +kernel
theorem dX15_items_1 : decode cX15_items 1 = .ok (.iload_n 1, 1) := by decide +kernel
theorem dX15_items_2 : decode cX15_items 2 = .ok (.invokevirtual 152, 3) := by decide +kernel
theorem dX15_items_5 : decode cX15_items 5 = .ok (.ifCond .eq 7, 3) := by decide +kernel
theorem dX15_items_8 : decode cX15_items 8 = .ok (.iconst 0, 1) := by decide +kernel
theorem dX15_items_9 : decode cX15_items 9 = .ok (.goto 14, 3) := by decide +kernel
theorem dX15_items_23 : decode cX15_items 23 = .ok (.ireturn, 1) := by decide +kernel
theorem dX15_ask_0 : decode cX15_ask 0 = .ok (.aload_n 0, 1) := by decide +kernel
theorem dX15_ask_1 : decode cX15_ask 1 = .ok (.iload_n 1, 1) := by decide +kernel
theorem dX15_ask_2 : decode cX15_ask 2 = .ok (.invokevirtual 152, 3) := by decide +kernel
theorem dX15_ask_5 : decode cX15_ask 5 = .ok (.ifCond .ne 27, 3) := by decide +kernel
theorem dX15_ask_32 : decode cX15_ask 32 = .ok (.iconst 0, 1) := by decide +kernel
theorem dX15_ask_33 : decode cX15_ask 33 = .ok (.goto 13, 3) := by decide +kernel
theorem dX15_ask_46 : decode cX15_ask 46 = .ok (.ireturn, 1) := by decide +kernel
theorem dX15_over_0 : decode cX15_over 0 = .ok (.aload_n 0, 1) := by decide +kernel
theorem dX15_over_1 : decode cX15_over 1 = .ok (.iload_n 2, 1) := by decide +kernel
theorem dX15_over_2 : decode cX15_over 2 = .ok (.iconst 0, 1) := by decide +kernel
theorem dX15_over_3 : decode cX15_over 3 = .ok (.bipush 9, 2) := by decide +kernel
theorem dX15_over_5 : decode cX15_over 5 = .ok (.invokestatic 79, 3) := by decide +kernel
theorem dX15_over_8 : decode cX15_over 8 = .ok (.ifCond .eq 24, 3) := by decide +kernel
theorem dX15_over_11 : decode cX15_over 11 = .ok (.iload_n 3, 1) := by decide +kernel
theorem dX15_over_12 : decode cX15_over 12 = .ok (.iconst 0, 1) := by decide +kernel
theorem dX15_over_13 : decode cX15_over 13 = .ok (.iconst 3, 1) := by decide +kernel
theorem dX15_over_14 : decode cX15_over 14 = .ok (.invokestatic 79, 3) := by decide +kernel
theorem dX15_over_17 : decode cX15_over 17 = .ok (.ifCond .eq 15, 3) := by decide +kernel
theorem dX15_over_20 : decode cX15_over 20 = .ok (.iload 4, 2) := by decide +kernel
theorem dX15_over_22 : decode cX15_over 22 = .ok (.iconst 0, 1) := by decide +kernel
theorem dX15_over_23 : decode cX15_over 23 = .ok (.sipush 1000, 3) := by decide +kernel
theorem dX15_over_26 : decode cX15_over 26 = .ok (.invokestatic 79, 3) := by decide +kernel
theorem dX15_over_29 : decode cX15_over 29 = .ok (.ifCond .ne 7, 3) := by decide +kernel
theorem dX15_over_32 : decode cX15_over 32 = .ok (.iconst 1, 1) := by decide +kernel
theorem dX15_over_33 : decode cX15_over 33 = .ok (.goto 4, 3) := by decide +kernel
theorem dX15_over_36 : decode cX15_over 36 = .ok (.iconst 0, 1) := by decide +kernel
theorem dX15_over_37 : decode cX15_over 37 = .ok (.iconst 1, 1) := by decide +kernel
theorem dX15_over_38 : decode cX15_over 38 = .ok (.invokevirtual 83, 3) := by decide +kernel
theorem dX15_over_41 : decode cX15_over 41 = .ok (.ifCond .eq 5, 3) := by decide +kernel
theorem dX15_over_44 : decode cX15_over 44 = .ok (.iconst 0, 1) := by decide +kernel
theorem dX15_over_45 : decode cX15_over 45 = .ok (.ireturn, 1) := by decide +kernel
theorem dX15_over_46 : decode cX15_over 46 = .ok (.iconst 0, 1) := by decide +kernel
theorem dX15_over_47 : decode cX15_over 47 = .ok (.istore 5, 2) := by decide +kernel
theorem dX15_over_49 : decode cX15_over 49 = .ok (.iconst 0, 1) := by decide +kernel
theorem dX15_over_50 : decode cX15_over 50 = .ok (.istore 6, 2) := by decide +kernel
theorem dX15_over_52 : decode cX15_over 52 = .ok (.ldc 220, 2) := by decide +kernel
theorem dX15_over_54 : decode cX15_over 54 = .ok (.istore 7, 2) := by decide +kernel
theorem dX15_over_56 : decode cX15_over 56 = .ok (.ldc 221, 2) := by decide +kernel
theorem dX15_over_58 : decode cX15_over 58 = .ok (.istore 8, 2) := by decide +kernel
theorem dX15_over_60 : decode cX15_over 60 = .ok (.iconst 0, 1) := by decide +kernel
theorem dX15_over_61 : decode cX15_over 61 = .ok (.istore 9, 2) := by decide +kernel
theorem dX15_over_63 : decode cX15_over 63 = .ok (.iload 9, 2) := by decide +kernel
theorem dX15_over_65 : decode cX15_over 65 = .ok (.aload_n 0, 1) := by decide +kernel
theorem dX15_over_66 : decode cX15_over 66 = .ok (.getfield 68, 3) := by decide +kernel
theorem dX15_over_69 : decode cX15_over 69 = .ok (.getfield 86, 3) := by decide +kernel
theorem dX15_over_72 : decode cX15_over 72 = .ok (.invokevirtual 7, 3) := by decide +kernel
theorem dX15_over_75 : decode cX15_over 75 = .ok (.if_icmp .ge 84, 3) := by decide +kernel
theorem dX15_over_159 : decode cX15_over 159 = .ok (.iload_n 3, 1) := by decide +kernel
theorem dX15_over_160 : decode cX15_over 160 = .ok (.iconst 3, 1) := by decide +kernel
theorem dX15_over_161 : decode cX15_over 161 = .ok (.if_icmp .ne 6, 3) := by decide +kernel
theorem dX15_over_164 : decode cX15_over 164 = .ok (.iload 5, 2) := by decide +kernel
theorem dX15_over_166 : decode cX15_over 166 = .ok (.ireturn, 1) := by decide +kernel
theorem dX15_over_167 : decode cX15_over 167 = .ok (.iload 5, 2) := by decide +kernel
theorem dX15_over_169 : decode cX15_over 169 = .ok (.ifCond .ne 8, 3) := by decide +kernel
theorem dX15_over_172 : decode cX15_over 172 = .ok (.ldc 226, 2) := by decide +kernel
theorem dX15_over_174 : decode cX15_over 174 = .ok (.goto 24, 3) := by decide +kernel
theorem dX15_over_198 : decode cX15_over 198 = .ok (.ireturn, 1) := by decide +kernel
theorem dX15_gaps_0 : decode cX15_gaps 0 = .ok (.aload_n 0, 1) := by decide +kernel
theorem dX15_gaps_1 : decode cX15_gaps 1 = .ok (.iload_n 1, 1) := by decide +kernel
theorem dX15_gaps_2 : decode cX15_gaps 2 = .ok (.invokevirtual 152, 3) := by decide +kernel
theorem dX15_gaps_5 : decode cX15_gaps 5 = .ok (.ifCond .ne 26, 3) := by decide +kernel
theorem dX15_gaps_31 : decode cX15_gaps 31 = .ok (.iconst 0, 1) := by decide +kernel
theorem dX15_gaps_32 : decode cX15_gaps 32 = .ok (.ireturn, 1) := by decide +kernel
theorem dX15_lastAt_0 : decode cX15_lastAt 0 = .ok (.aload_n 0, 1) := by decide +kernel
theorem dX15_lastAt_1 : decode cX15_lastAt 1 = .ok (.iload_n 1, 1) := by decide +kernel
theorem dX15_lastAt_2 : decode cX15_lastAt 2 = .ok (.invokevirtual 152, 3) := by decide +kernel
theorem dX15_lastAt_5 : decode cX15_lastAt 5 = .ok (.ifCond .ne 26, 3) := by decide +kernel
theorem dX15_lastAt_31 : decode cX15_lastAt 31 = .ok (.iconst 0, 1) := by decide +kernel
theorem dX15_lastAt_32 : decode cX15_lastAt 32 = .ok (.ireturn, 1) := by decide +kernel
theorem dX15_addRule_0 : decode cX15_addRule 0 = .ok (.aload_n 0, 1) := by decide +kernel
theorem dX15_addRule_1 : decode cX15_addRule 1 = .ok (.iload_n 1, 1) := by decide +kernel
theorem dX15_addRule_2 : decode cX15_addRule 2 = .ok (.invokevirtual 152, 3) := by decide +kernel
theorem dX15_addRule_5 : decode cX15_addRule 5 = .ok (.ifCond .ne 98, 3) := by decide +kernel
theorem dX15_addRule_103 : decode cX15_addRule 103 = .ok (.iconst 0, 1) := by decide +kernel
theorem dX15_addRule_104 : decode cX15_addRule 104 = .ok (.ireturn, 1) := by decide +kernel
theorem dX15_isNoRule_0 : decode cX15_isNoRule 0 = .ok (.aload_n 0, 1) := by decide +kernel
theorem dX15_isNoRule_1 : decode cX15_isNoRule 1 = .ok (.iload_n 1, 1) := by decide +kernel
theorem dX15_isNoRule_2 : decode cX15_isNoRule 2 = .ok (.iconst 0, 1) := by decide +kernel
theorem dX15_isNoRule_3 : decode cX15_isNoRule 3 = .ok (.aload_n 0, 1) := by decide +kernel
theorem dX15_isNoRule_4 : decode cX15_isNoRule 4 = .ok (.getfield 68, 3) := by decide +kernel
theorem dX15_isNoRule_7 : decode cX15_isNoRule 7 = .ok (.getfield 244, 3) := by decide +kernel
theorem dX15_isNoRule_10 : decode cX15_isNoRule 10 = .ok (.invokevirtual 7, 3) := by decide +kernel
theorem dX15_isNoRule_13 : decode cX15_isNoRule 13 = .ok (.iconst 1, 1) := by decide +kernel
theorem dX15_isNoRule_14 : decode cX15_isNoRule 14 = .ok (.isub, 1) := by decide +kernel
theorem dX15_isNoRule_15 : decode cX15_isNoRule 15 = .ok (.invokestatic 79, 3) := by decide +kernel
theorem dX15_isNoRule_18 : decode cX15_isNoRule 18 = .ok (.ifCond .ne 7, 3) := by decide +kernel
theorem dX15_isNoRule_21 : decode cX15_isNoRule 21 = .ok (.iconst 1, 1) := by decide +kernel
theorem dX15_isNoRule_22 : decode cX15_isNoRule 22 = .ok (.goto 4, 3) := by decide +kernel
theorem dX15_isNoRule_25 : decode cX15_isNoRule 25 = .ok (.iconst 0, 1) := by decide +kernel
theorem dX15_isNoRule_26 : decode cX15_isNoRule 26 = .ok (.iconst 1, 1) := by decide +kernel
theorem dX15_isNoRule_27 : decode cX15_isNoRule 27 = .ok (.invokevirtual 83, 3) := by decide +kernel
theorem dX15_isNoRule_30 : decode cX15_isNoRule 30 = .ok (.ireturn, 1) := by decide +kernel
theorem dX15_stateOf_0 : decode cX15_stateOf 0 = .ok (.aload_n 0, 1) := by decide +kernel
theorem dX15_stateOf_1 : decode cX15_stateOf 1 = .ok (.iload_n 1, 1) := by decide +kernel
theorem dX15_stateOf_2 : decode cX15_stateOf 2 = .ok (.invokevirtual 252, 3) := by decide +kernel
theorem dX15_stateOf_5 : decode cX15_stateOf 5 = .ok (.ifCond .eq 7, 3) := by decide +kernel
theorem dX15_stateOf_8 : decode cX15_stateOf 8 = .ok (.iconst 0, 1) := by decide +kernel
theorem dX15_stateOf_9 : decode cX15_stateOf 9 = .ok (.goto 20, 3) := by decide +kernel
theorem dX15_stateOf_29 : decode cX15_stateOf 29 = .ok (.ireturn, 1) := by decide +kernel
theorem dX15_inRow_0 : decode cX15_inRow 0 = .ok (.aload_n 0, 1) := by decide +kernel
theorem dX15_inRow_1 : decode cX15_inRow 1 = .ok (.iload_n 1, 1) := by decide +kernel
theorem dX15_inRow_2 : decode cX15_inRow 2 = .ok (.invokevirtual 252, 3) := by decide +kernel
theorem dX15_inRow_5 : decode cX15_inRow 5 = .ok (.ifCond .eq 7, 3) := by decide +kernel
theorem dX15_inRow_8 : decode cX15_inRow 8 = .ok (.iconst 0, 1) := by decide +kernel
theorem dX15_inRow_9 : decode cX15_inRow 9 = .ok (.goto 20, 3) := by decide +kernel
theorem dX15_inRow_29 : decode cX15_inRow 29 = .ok (.ireturn, 1) := by decide +kernel
theorem dX15_seenBy_0 : decode cX15_seenBy 0 = .ok (.aload_n 0, 1) := by decide +kernel
theorem dX15_seenBy_1 : decode cX15_seenBy 1 = .ok (.iload_n 1, 1) := by decide +kernel
theorem dX15_seenBy_2 : decode cX15_seenBy 2 = .ok (.invokevirtual 252, 3) := by decide +kernel
theorem dX15_seenBy_5 : decode cX15_seenBy 5 = .ok (.ifCond .eq 7, 3) := by decide +kernel
theorem dX15_seenBy_8 : decode cX15_seenBy 8 = .ok (.iconst 0, 1) := by decide +kernel
theorem dX15_seenBy_9 : decode cX15_seenBy 9 = .ok (.goto 24, 3) := by decide +kernel
theorem dX15_seenBy_33 : decode cX15_seenBy 33 = .ok (.ireturn, 1) := by decide +kernel
theorem dX15_events_0 : decode cX15_events 0 = .ok (.aload_n 0, 1) := by decide +kernel
theorem dX15_events_1 : decode cX15_events 1 = .ok (.aload_n 0, 1) := by decide +kernel
theorem dX15_events_2 : decode cX15_events 2 = .ok (.getfield 68, 3) := by decide +kernel
theorem dX15_events_5 : decode cX15_events 5 = .ok (.getfield 167, 3) := by decide +kernel
theorem dX15_events_8 : decode cX15_events 8 = .ok (.invokevirtual 7, 3) := by decide +kernel
theorem dX15_events_11 : decode cX15_events 11 = .ok (.invokevirtual 173, 3) := by decide +kernel
theorem dX15_events_14 : decode cX15_events 14 = .ok (.ireturn, 1) := by decide +kernel
theorem dX15_event_0 : decode cX15_event 0 = .ok (.aload_n 0, 1) := by decide +kernel
theorem dX15_event_1 : decode cX15_event 1 = .ok (.iload_n 1, 1) := by decide +kernel
theorem dX15_event_2 : decode cX15_event 2 = .ok (.iconst 0, 1) := by decide +kernel
theorem dX15_event_3 : decode cX15_event 3 = .ok (.bipush 20, 2) := by decide +kernel
theorem dX15_event_5 : decode cX15_event 5 = .ok (.aload_n 0, 1) := by decide +kernel
theorem dX15_event_6 : decode cX15_event 6 = .ok (.getfield 68, 3) := by decide +kernel
theorem dX15_event_9 : decode cX15_event 9 = .ok (.getfield 167, 3) := by decide +kernel
theorem dX15_event_12 : decode cX15_event 12 = .ok (.invokevirtual 7, 3) := by decide +kernel
theorem dX15_event_15 : decode cX15_event 15 = .ok (.invokestatic 227, 3) := by decide +kernel
theorem dX15_event_18 : decode cX15_event 18 = .ok (.iconst 1, 1) := by decide +kernel
theorem dX15_event_19 : decode cX15_event 19 = .ok (.isub, 1) := by decide +kernel
theorem dX15_event_20 : decode cX15_event 20 = .ok (.invokestatic 79, 3) := by decide +kernel
theorem dX15_event_23 : decode cX15_event 23 = .ok (.ifCond .ne 7, 3) := by decide +kernel
theorem dX15_event_26 : decode cX15_event 26 = .ok (.iconst 1, 1) := by decide +kernel
theorem dX15_event_27 : decode cX15_event 27 = .ok (.goto 4, 3) := by decide +kernel
theorem dX15_event_30 : decode cX15_event 30 = .ok (.iconst 0, 1) := by decide +kernel
theorem dX15_event_31 : decode cX15_event 31 = .ok (.iconst 1, 1) := by decide +kernel
theorem dX15_event_32 : decode cX15_event 32 = .ok (.invokevirtual 83, 3) := by decide +kernel
theorem dX15_event_35 : decode cX15_event 35 = .ok (.ifCond .ne 25, 3) := by decide +kernel
theorem dX15_event_60 : decode cX15_event 60 = .ok (.iconst 0, 1) := by decide +kernel
theorem dX15_event_61 : decode cX15_event 61 = .ok (.goto 32, 3) := by decide +kernel
theorem dX15_event_93 : decode cX15_event 93 = .ok (.ireturn, 1) := by decide +kernel
theorem dX15_bitsWith_0 : decode cX15_bitsWith 0 = .ok (.aload_n 0, 1) := by decide +kernel
theorem dX15_bitsWith_1 : decode cX15_bitsWith 1 = .ok (.iload_n 1, 1) := by decide +kernel
theorem dX15_bitsWith_2 : decode cX15_bitsWith 2 = .ok (.invokevirtual 152, 3) := by decide +kernel
theorem dX15_bitsWith_5 : decode cX15_bitsWith 5 = .ok (.ifCond .ne 19, 3) := by decide +kernel
theorem dX15_bitsWith_24 : decode cX15_bitsWith 24 = .ok (.iconst 0, 1) := by decide +kernel
theorem dX15_bitsWith_25 : decode cX15_bitsWith 25 = .ok (.ireturn, 1) := by decide +kernel
theorem dX15_add_0 : decode cX15_add 0 = .ok (.lload_n 0, 1) := by decide +kernel
theorem dX15_add_1 : decode cX15_add 1 = .ok (.ldc2_w 277, 3) := by decide +kernel
theorem dX15_add_4 : decode cX15_add 4 = .ok (.lmul, 1) := by decide +kernel
theorem dX15_add_5 : decode cX15_add 5 = .ok (.lload_n 2, 1) := by decide +kernel
theorem dX15_add_6 : decode cX15_add 6 = .ok (.ladd, 1) := by decide +kernel
theorem dX15_add_7 : decode cX15_add 7 = .ok (.lreturn, 1) := by decide +kernel
theorem dX15_digest_0 : decode cX15_digest 0 = .ok (.aload_n 0, 1) := by decide +kernel
theorem dX15_digest_1 : decode cX15_digest 1 = .ok (.iconst 0, 1) := by decide +kernel
theorem dX15_digest_2 : decode cX15_digest 2 = .ok (.putfield 72, 3) := by decide +kernel
theorem dX15_digest_5 : decode cX15_digest 5 = .ok (.ldc2_w 282, 3) := by decide +kernel
theorem dX15_digest_8 : decode cX15_digest 8 = .ok (.aload_n 0, 1) := by decide +kernel
theorem dX15_digest_9 : decode cX15_digest 9 = .ok (.getfield 68, 3) := by decide +kernel
theorem dX15_digest_12 : decode cX15_digest 12 = .ok (.getfield 125, 3) := by decide +kernel
theorem dX15_digest_15 : decode cX15_digest 15 = .ok (.i2l, 1) := by decide +kernel
theorem dX15_digest_16 : decode cX15_digest 16 = .ok (.invokestatic 279, 3) := by decide +kernel
theorem dX15_digest_19 : decode cX15_digest 19 = .ok (.aload_n 0, 1) := by decide +kernel
theorem dX15_digest_20 : decode cX15_digest 20 = .ok (.getfield 68, 3) := by decide +kernel
theorem dX15_digest_23 : decode cX15_digest 23 = .ok (.getfield 86, 3) := by decide +kernel
theorem dX15_digest_26 : decode cX15_digest 26 = .ok (.invokevirtual 7, 3) := by decide +kernel
theorem dX15_digest_29 : decode cX15_digest 29 = .ok (.i2l, 1) := by decide +kernel
theorem dX15_digest_30 : decode cX15_digest 30 = .ok (.invokestatic 279, 3) := by decide +kernel
theorem dX15_digest_33 : decode cX15_digest 33 = .ok (.aload_n 0, 1) := by decide +kernel
theorem dX15_digest_34 : decode cX15_digest 34 = .ok (.getfield 135, 3) := by decide +kernel
theorem dX15_digest_37 : decode cX15_digest 37 = .ok (.i2l, 1) := by decide +kernel
theorem dX15_digest_38 : decode cX15_digest 38 = .ok (.invokestatic 279, 3) := by decide +kernel
theorem dX15_digest_41 : decode cX15_digest 41 = .ok (.aload_n 0, 1) := by decide +kernel
theorem dX15_digest_42 : decode cX15_digest 42 = .ok (.getfield 68, 3) := by decide +kernel
theorem dX15_digest_45 : decode cX15_digest 45 = .ok (.getfield 167, 3) := by decide +kernel
theorem dX15_digest_48 : decode cX15_digest 48 = .ok (.invokevirtual 7, 3) := by decide +kernel
theorem dX15_digest_51 : decode cX15_digest 51 = .ok (.i2l, 1) := by decide +kernel
theorem dX15_digest_52 : decode cX15_digest 52 = .ok (.invokestatic 279, 3) := by decide +kernel
theorem dX15_digest_55 : decode cX15_digest 55 = .ok (.lstore_n 1, 1) := by decide +kernel
theorem dX15_digest_56 : decode cX15_digest 56 = .ok (.iconst 0, 1) := by decide +kernel
theorem dX15_digest_57 : decode cX15_digest 57 = .ok (.istore_n 3, 1) := by decide +kernel
theorem dX15_digest_58 : decode cX15_digest 58 = .ok (.iload_n 3, 1) := by decide +kernel
theorem dX15_digest_59 : decode cX15_digest 59 = .ok (.aload_n 0, 1) := by decide +kernel
theorem dX15_digest_60 : decode cX15_digest 60 = .ok (.getfield 68, 3) := by decide +kernel
theorem dX15_digest_63 : decode cX15_digest 63 = .ok (.getfield 86, 3) := by decide +kernel
theorem dX15_digest_66 : decode cX15_digest 66 = .ok (.invokevirtual 7, 3) := by decide +kernel
theorem dX15_digest_69 : decode cX15_digest 69 = .ok (.if_icmp .ge 225, 3) := by decide +kernel
theorem dX15_digest_294 : decode cX15_digest 294 = .ok (.iconst 0, 1) := by decide +kernel
theorem dX15_digest_295 : decode cX15_digest 295 = .ok (.istore_n 3, 1) := by decide +kernel
theorem dX15_digest_296 : decode cX15_digest 296 = .ok (.iload_n 3, 1) := by decide +kernel
theorem dX15_digest_297 : decode cX15_digest 297 = .ok (.aload_n 0, 1) := by decide +kernel
theorem dX15_digest_298 : decode cX15_digest 298 = .ok (.getfield 68, 3) := by decide +kernel
theorem dX15_digest_301 : decode cX15_digest 301 = .ok (.getfield 244, 3) := by decide +kernel
theorem dX15_digest_304 : decode cX15_digest 304 = .ok (.invokevirtual 7, 3) := by decide +kernel
theorem dX15_digest_307 : decode cX15_digest 307 = .ok (.if_icmp .ge 78, 3) := by decide +kernel
theorem dX15_digest_385 : decode cX15_digest 385 = .ok (.iconst 0, 1) := by decide +kernel
theorem dX15_digest_386 : decode cX15_digest 386 = .ok (.istore_n 3, 1) := by decide +kernel
theorem dX15_digest_387 : decode cX15_digest 387 = .ok (.iload_n 3, 1) := by decide +kernel
theorem dX15_digest_388 : decode cX15_digest 388 = .ok (.iconst 5, 1) := by decide +kernel
theorem dX15_digest_389 : decode cX15_digest 389 = .ok (.if_icmp .ge 74, 3) := by decide +kernel
theorem dX15_digest_392 : decode cX15_digest 392 = .ok (.iload_n 3, 1) := by decide +kernel
theorem dX15_digest_393 : decode cX15_digest 393 = .ok (.aload_n 0, 1) := by decide +kernel
theorem dX15_digest_394 : decode cX15_digest 394 = .ok (.getfield 68, 3) := by decide +kernel
theorem dX15_digest_397 : decode cX15_digest 397 = .ok (.getfield 167, 3) := by decide +kernel
theorem dX15_digest_400 : decode cX15_digest 400 = .ok (.invokevirtual 7, 3) := by decide +kernel
theorem dX15_digest_403 : decode cX15_digest 403 = .ok (.if_icmp .ge 60, 3) := by decide +kernel
theorem dX15_digest_463 : decode cX15_digest 463 = .ok (.lload_n 1, 1) := by decide +kernel
theorem dX15_digest_464 : decode cX15_digest 464 = .ok (.lreturn, 1) := by decide +kernel
theorem dJxa1e45_init_da8c8_0 : decode cJxa1e45_init_da8c8 0 = .ok (.aload_n 0, 1) := by decide +kernel
theorem dJxa1e45_init_da8c8_1 : decode cJxa1e45_init_da8c8 1 = .ok (.invokespecial 1, 3) := by decide +kernel
theorem dJxa1e45_init_da8c8_4 : decode cJxa1e45_init_da8c8 4 = .ok (.return_, 1) := by decide +kernel
theorem dJxc12de_init_da8c8_0 : decode cJxc12de_init_da8c8 0 = .ok (.aload_n 0, 1) := by decide +kernel
theorem dJxc12de_init_da8c8_1 : decode cJxc12de_init_da8c8 1 = .ok (.invokespecial 1, 3) := by decide +kernel
theorem dJxc12de_init_da8c8_4 : decode cJxc12de_init_da8c8 4 = .ok (.aload_n 0, 1) := by decide +kernel
theorem dJxc12de_init_da8c8_5 : decode cJxc12de_init_da8c8 5 = .ok (.iconst 0, 1) := by decide +kernel
theorem dJxc12de_init_da8c8_6 : decode cJxc12de_init_da8c8 6 = .ok (.putfield 7, 3) := by decide +kernel
theorem dJxc12de_init_da8c8_9 : decode cJxc12de_init_da8c8 9 = .ok (.return_, 1) := by decide +kernel
theorem dJx4a65c_init_da8c8_0 : decode cJx4a65c_init_da8c8 0 = .ok (.aload_n 0, 1) := by decide +kernel
theorem dJx4a65c_init_da8c8_1 : decode cJx4a65c_init_da8c8 1 = .ok (.invokespecial 1, 3) := by decide +kernel
theorem dJx4a65c_init_da8c8_4 : decode cJx4a65c_init_da8c8 4 = .ok (.aload_n 0, 1) := by decide +kernel
theorem dJx4a65c_init_da8c8_5 : decode cJx4a65c_init_da8c8 5 = .ok (.getstatic 39, 3) := by decide +kernel
theorem dJx4a65c_init_da8c8_8 : decode cJx4a65c_init_da8c8 8 = .ok (.putfield 9, 3) := by decide +kernel
theorem dJx4a65c_init_da8c8_11 : decode cJx4a65c_init_da8c8 11 = .ok (.return_, 1) := by decide +kernel
theorem dJx4a65c_grow_92f84_0 : decode cJx4a65c_grow_92f84 0 = .ok (.aload_n 0, 1) := by decide +kernel
theorem dJx4a65c_grow_92f84_1 : decode cJx4a65c_grow_92f84 1 = .ok (.getfield 9, 3) := by decide +kernel
theorem dJx4a65c_grow_92f84_4 : decode cJx4a65c_grow_92f84 4 = .ok (.arraylength, 1) := by decide +kernel
theorem dJx4a65c_grow_92f84_5 : decode cJx4a65c_grow_92f84 5 = .ok (.istore_n 2, 1) := by decide +kernel
theorem dJx4a65c_grow_92f84_6 : decode cJx4a65c_grow_92f84 6 = .ok (.iload_n 2, 1) := by decide +kernel
theorem dJx4a65c_grow_92f84_7 : decode cJx4a65c_grow_92f84 7 = .ok (.ifCond .gt 13, 3) := by decide +kernel
theorem dJx4a65c_grow_92f84_10 : decode cJx4a65c_grow_92f84 10 = .ok (.aload_n 0, 1) := by decide +kernel
theorem dJx4a65c_grow_92f84_11 : decode cJx4a65c_grow_92f84 11 = .ok (.getfield 9, 3) := by decide +kernel
theorem dJx4a65c_grow_92f84_14 : decode cJx4a65c_grow_92f84 14 = .ok (.getstatic 39, 3) := by decide +kernel
theorem dJx4a65c_grow_92f84_17 : decode cJx4a65c_grow_92f84 17 = .ok (.if_acmp .eq 28, 3) := by decide +kernel
theorem dJx4a65c_grow_92f84_45 : decode cJx4a65c_grow_92f84 45 = .ok (.aload_n 0, 1) := by decide +kernel
theorem dJx4a65c_grow_92f84_46 : decode cJx4a65c_grow_92f84 46 = .ok (.bipush 10, 2) := by decide +kernel
theorem dJx4a65c_grow_92f84_48 : decode cJx4a65c_grow_92f84 48 = .ok (.iload_n 1, 1) := by decide +kernel
theorem dJx4a65c_grow_92f84_49 : decode cJx4a65c_grow_92f84 49 = .ok (.invokestatic 79, 3) := by decide +kernel
theorem dJx4a65c_grow_92f84_52 : decode cJx4a65c_grow_92f84 52 = .ok (.anewarray 7, 3) := by decide +kernel
theorem dJx4a65c_grow_92f84_55 : decode cJx4a65c_grow_92f84 55 = .ok (.dup_x1, 1) := by decide +kernel
theorem dJx4a65c_grow_92f84_56 : decode cJx4a65c_grow_92f84 56 = .ok (.putfield 9, 3) := by decide +kernel
theorem dJx4a65c_grow_92f84_59 : decode cJx4a65c_grow_92f84 59 = .ok (.areturn, 1) := by decide +kernel
theorem dJx4a65c_grow_d5877_0 : decode cJx4a65c_grow_d5877 0 = .ok (.aload_n 0, 1) := by decide +kernel
theorem dJx4a65c_grow_d5877_1 : decode cJx4a65c_grow_d5877 1 = .ok (.aload_n 0, 1) := by decide +kernel
theorem dJx4a65c_grow_d5877_2 : decode cJx4a65c_grow_d5877 2 = .ok (.getfield 48, 3) := by decide +kernel
theorem dJx4a65c_grow_d5877_5 : decode cJx4a65c_grow_d5877 5 = .ok (.iconst 1, 1) := by decide +kernel
theorem dJx4a65c_grow_d5877_6 : decode cJx4a65c_grow_d5877 6 = .ok (.iadd, 1) := by decide +kernel
theorem dJx4a65c_grow_d5877_7 : decode cJx4a65c_grow_d5877 7 = .ok (.invokevirtual 69, 3) := by decide +kernel
theorem dJx4a65c_grow_d5877_10 : decode cJx4a65c_grow_d5877 10 = .ok (.areturn, 1) := by decide +kernel
theorem dJx4a65c_size_8abf5_0 : decode cJx4a65c_size_8abf5 0 = .ok (.aload_n 0, 1) := by decide +kernel
theorem dJx4a65c_size_8abf5_1 : decode cJx4a65c_size_8abf5 1 = .ok (.getfield 48, 3) := by decide +kernel
theorem dJx4a65c_size_8abf5_4 : decode cJx4a65c_size_8abf5 4 = .ok (.ireturn, 1) := by decide +kernel
theorem dJx4a65c_add_72be8_0 : decode cJx4a65c_add_72be8 0 = .ok (.iload_n 3, 1) := by decide +kernel
theorem dJx4a65c_add_72be8_1 : decode cJx4a65c_add_72be8 1 = .ok (.aload_n 2, 1) := by decide +kernel
theorem dJx4a65c_add_72be8_2 : decode cJx4a65c_add_72be8 2 = .ok (.arraylength, 1) := by decide +kernel
theorem dJx4a65c_add_72be8_3 : decode cJx4a65c_add_72be8 3 = .ok (.if_icmp .ne 8, 3) := by decide +kernel
theorem dJx4a65c_add_72be8_6 : decode cJx4a65c_add_72be8 6 = .ok (.aload_n 0, 1) := by decide +kernel
theorem dJx4a65c_add_72be8_7 : decode cJx4a65c_add_72be8 7 = .ok (.invokevirtual 129, 3) := by decide +kernel
theorem dJx4a65c_add_72be8_10 : decode cJx4a65c_add_72be8 10 = .ok (.astore_n 2, 1) := by decide +kernel
theorem dJx4a65c_add_72be8_11 : decode cJx4a65c_add_72be8 11 = .ok (.aload_n 2, 1) := by decide +kernel
theorem dJx4a65c_add_72be8_12 : decode cJx4a65c_add_72be8 12 = .ok (.iload_n 3, 1) := by decide +kernel
theorem dJx4a65c_add_72be8_13 : decode cJx4a65c_add_72be8 13 = .ok (.aload_n 1, 1) := by decide +kernel
theorem dJx4a65c_add_72be8_14 : decode cJx4a65c_add_72be8 14 = .ok (.aastore, 1) := by decide +kernel
theorem dJx4a65c_add_72be8_15 : decode cJx4a65c_add_72be8 15 = .ok (.aload_n 0, 1) := by decide +kernel
theorem dJx4a65c_add_72be8_16 : decode cJx4a65c_add_72be8 16 = .ok (.iload_n 3, 1) := by decide +kernel
theorem dJx4a65c_add_72be8_17 : decode cJx4a65c_add_72be8 17 = .ok (.iconst 1, 1) := by decide +kernel
theorem dJx4a65c_add_72be8_18 : decode cJx4a65c_add_72be8 18 = .ok (.iadd, 1) := by decide +kernel
theorem dJx4a65c_add_72be8_19 : decode cJx4a65c_add_72be8 19 = .ok (.putfield 48, 3) := by decide +kernel
theorem dJx4a65c_add_72be8_22 : decode cJx4a65c_add_72be8 22 = .ok (.return_, 1) := by decide +kernel
theorem dJx4a65c_add_9ea2d_0 : decode cJx4a65c_add_9ea2d 0 = .ok (.aload_n 0, 1) := by decide +kernel
theorem dJx4a65c_add_9ea2d_1 : decode cJx4a65c_add_9ea2d 1 = .ok (.dup, 1) := by decide +kernel
theorem dJx4a65c_add_9ea2d_2 : decode cJx4a65c_add_9ea2d 2 = .ok (.getfield 63, 3) := by decide +kernel
theorem dJx4a65c_add_9ea2d_5 : decode cJx4a65c_add_9ea2d 5 = .ok (.iconst 1, 1) := by decide +kernel
theorem dJx4a65c_add_9ea2d_6 : decode cJx4a65c_add_9ea2d 6 = .ok (.iadd, 1) := by decide +kernel
theorem dJx4a65c_add_9ea2d_7 : decode cJx4a65c_add_9ea2d 7 = .ok (.putfield 63, 3) := by decide +kernel
theorem dJx4a65c_add_9ea2d_10 : decode cJx4a65c_add_9ea2d 10 = .ok (.aload_n 0, 1) := by decide +kernel
theorem dJx4a65c_add_9ea2d_11 : decode cJx4a65c_add_9ea2d 11 = .ok (.aload_n 1, 1) := by decide +kernel
theorem dJx4a65c_add_9ea2d_12 : decode cJx4a65c_add_9ea2d 12 = .ok (.aload_n 0, 1) := by decide +kernel
theorem dJx4a65c_add_9ea2d_13 : decode cJx4a65c_add_9ea2d 13 = .ok (.getfield 9, 3) := by decide +kernel
theorem dJx4a65c_add_9ea2d_16 : decode cJx4a65c_add_9ea2d 16 = .ok (.aload_n 0, 1) := by decide +kernel
theorem dJx4a65c_add_9ea2d_17 : decode cJx4a65c_add_9ea2d 17 = .ok (.getfield 48, 3) := by decide +kernel
theorem dJx4a65c_add_9ea2d_20 : decode cJx4a65c_add_9ea2d 20 = .ok (.invokevirtual 131, 3) := by decide +kernel
theorem dJx4a65c_add_9ea2d_23 : decode cJx4a65c_add_9ea2d 23 = .ok (.iconst 1, 1) := by decide +kernel
theorem dJx4a65c_add_9ea2d_24 : decode cJx4a65c_add_9ea2d 24 = .ok (.ireturn, 1) := by decide +kernel
theorem dL_addSeries_0 : decode cL_addSeries 0 = .ok (.aload_n 3, 1) := by decide +kernel
theorem dL_addSeries_1 : decode cL_addSeries 1 = .ok (.iconst 0, 1) := by decide +kernel
theorem dL_addSeries_2 : decode cL_addSeries 2 = .ok (.aload_n 0, 1) := by decide +kernel
theorem dL_addSeries_3 : decode cL_addSeries 3 = .ok (.iload_n 1, 1) := by decide +kernel
theorem dL_addSeries_4 : decode cL_addSeries 4 = .ok (.iload_n 2, 1) := by decide +kernel
theorem dL_addSeries_5 : decode cL_addSeries 5 = .ok (.invokevirtual 7, 3) := by decide +kernel
theorem dL_addSeries_8 : decode cL_addSeries 8 = .ok (.i2l, 1) := by decide +kernel
theorem dL_addSeries_9 : decode cL_addSeries 9 = .ok (.lastore, 1) := by decide +kernel
theorem dL_addSeries_10 : decode cL_addSeries 10 = .ok (.goto 11, 3) := by decide +kernel
theorem dL_addSeries_13 : decode cL_addSeries 13 = .ok (.astore 4, 2) := by decide +kernel
theorem dL_addSeries_15 : decode cL_addSeries 15 = .ok (.iconst 1, 1) := by decide +kernel
theorem dL_addSeries_16 : decode cL_addSeries 16 = .ok (.ireturn, 1) := by decide +kernel
theorem dL_addSeries_21 : decode cL_addSeries 21 = .ok (.iconst 0, 1) := by decide +kernel
theorem dL_addSeries_22 : decode cL_addSeries 22 = .ok (.ireturn, 1) := by decide +kernel
theorem dL_setSpan_0 : decode cL_setSpan 0 = .ok (.aload_n 2, 1) := by decide +kernel
theorem dL_setSpan_1 : decode cL_setSpan 1 = .ok (.iconst 0, 1) := by decide +kernel
theorem dL_setSpan_2 : decode cL_setSpan 2 = .ok (.aload_n 0, 1) := by decide +kernel
theorem dL_setSpan_3 : decode cL_setSpan 3 = .ok (.iload_n 1, 1) := by decide +kernel
theorem dL_setSpan_4 : decode cL_setSpan 4 = .ok (.invokevirtual 17, 3) := by decide +kernel
theorem dL_setSpan_7 : decode cL_setSpan 7 = .ok (.i2l, 1) := by decide +kernel
theorem dL_setSpan_8 : decode cL_setSpan 8 = .ok (.lastore, 1) := by decide +kernel
theorem dL_setSpan_9 : decode cL_setSpan 9 = .ok (.goto 6, 3) := by decide +kernel
theorem dL_setSpan_12 : decode cL_setSpan 12 = .ok (.astore_n 3, 1) := by decide +kernel
theorem dL_setSpan_13 : decode cL_setSpan 13 = .ok (.iconst 1, 1) := by decide +kernel
theorem dL_setSpan_14 : decode cL_setSpan 14 = .ok (.ireturn, 1) := by decide +kernel
theorem dL_setSpan_15 : decode cL_setSpan 15 = .ok (.iconst 0, 1) := by decide +kernel
theorem dL_setSpan_16 : decode cL_setSpan 16 = .ok (.ireturn, 1) := by decide +kernel
theorem dL_setWidths_0 : decode cL_setWidths 0 = .ok (.aload_n 3, 1) := by decide +kernel
theorem dL_setWidths_1 : decode cL_setWidths 1 = .ok (.iconst 0, 1) := by decide +kernel
theorem dL_setWidths_2 : decode cL_setWidths 2 = .ok (.aload_n 0, 1) := by decide +kernel
theorem dL_setWidths_3 : decode cL_setWidths 3 = .ok (.iload_n 1, 1) := by decide +kernel
theorem dL_setWidths_4 : decode cL_setWidths 4 = .ok (.iload_n 2, 1) := by decide +kernel
theorem dL_setWidths_5 : decode cL_setWidths 5 = .ok (.invokevirtual 21, 3) := by decide +kernel
theorem dL_setWidths_8 : decode cL_setWidths 8 = .ok (.i2l, 1) := by decide +kernel
theorem dL_setWidths_9 : decode cL_setWidths 9 = .ok (.lastore, 1) := by decide +kernel
theorem dL_setWidths_10 : decode cL_setWidths 10 = .ok (.goto 11, 3) := by decide +kernel
theorem dL_setWidths_13 : decode cL_setWidths 13 = .ok (.astore 4, 2) := by decide +kernel
theorem dL_setWidths_15 : decode cL_setWidths 15 = .ok (.iconst 1, 1) := by decide +kernel
theorem dL_setWidths_16 : decode cL_setWidths 16 = .ok (.ireturn, 1) := by decide +kernel
theorem dL_setWidths_21 : decode cL_setWidths 21 = .ok (.iconst 0, 1) := by decide +kernel
theorem dL_setWidths_22 : decode cL_setWidths 22 = .ok (.ireturn, 1) := by decide +kernel
theorem dL_setKeep_0 : decode cL_setKeep 0 = .ok (.aload_n 3, 1) := by decide +kernel
theorem dL_setKeep_1 : decode cL_setKeep 1 = .ok (.iconst 0, 1) := by decide +kernel
theorem dL_setKeep_2 : decode cL_setKeep 2 = .ok (.aload_n 0, 1) := by decide +kernel
theorem dL_setKeep_3 : decode cL_setKeep 3 = .ok (.iload_n 1, 1) := by decide +kernel
theorem dL_setKeep_4 : decode cL_setKeep 4 = .ok (.iload_n 2, 1) := by decide +kernel
theorem dL_setKeep_5 : decode cL_setKeep 5 = .ok (.invokevirtual 24, 3) := by decide +kernel
theorem dL_setKeep_8 : decode cL_setKeep 8 = .ok (.i2l, 1) := by decide +kernel
theorem dL_setKeep_9 : decode cL_setKeep 9 = .ok (.lastore, 1) := by decide +kernel
theorem dL_setKeep_10 : decode cL_setKeep 10 = .ok (.goto 7, 3) := by decide +kernel
theorem dL_setKeep_13 : decode cL_setKeep 13 = .ok (.astore 4, 2) := by decide +kernel
theorem dL_setKeep_15 : decode cL_setKeep 15 = .ok (.iconst 1, 1) := by decide +kernel
theorem dL_setKeep_16 : decode cL_setKeep 16 = .ok (.ireturn, 1) := by decide +kernel
theorem dL_setKeep_17 : decode cL_setKeep 17 = .ok (.iconst 0, 1) := by decide +kernel
theorem dL_setKeep_18 : decode cL_setKeep 18 = .ok (.ireturn, 1) := by decide +kernel
theorem dL_setQuery_0 : decode cL_setQuery 0 = .ok (.aload 5, 2) := by decide +kernel
theorem dL_setQuery_2 : decode cL_setQuery 2 = .ok (.iconst 0, 1) := by decide +kernel
theorem dL_setQuery_3 : decode cL_setQuery 3 = .ok (.aload_n 0, 1) := by decide +kernel
theorem dL_setQuery_4 : decode cL_setQuery 4 = .ok (.iload_n 1, 1) := by decide +kernel
theorem dL_setQuery_5 : decode cL_setQuery 5 = .ok (.iload_n 2, 1) := by decide +kernel
theorem dL_setQuery_6 : decode cL_setQuery 6 = .ok (.iload_n 3, 1) := by decide +kernel
theorem dL_setQuery_7 : decode cL_setQuery 7 = .ok (.iload 4, 2) := by decide +kernel
theorem dL_setQuery_9 : decode cL_setQuery 9 = .ok (.invokevirtual 27, 3) := by decide +kernel
theorem dL_setQuery_12 : decode cL_setQuery 12 = .ok (.i2l, 1) := by decide +kernel
theorem dL_setQuery_13 : decode cL_setQuery 13 = .ok (.lastore, 1) := by decide +kernel
theorem dL_setQuery_14 : decode cL_setQuery 14 = .ok (.goto 7, 3) := by decide +kernel
theorem dL_setQuery_17 : decode cL_setQuery 17 = .ok (.astore 6, 2) := by decide +kernel
theorem dL_setQuery_19 : decode cL_setQuery 19 = .ok (.iconst 1, 1) := by decide +kernel
theorem dL_setQuery_20 : decode cL_setQuery 20 = .ok (.ireturn, 1) := by decide +kernel
theorem dL_setQuery_21 : decode cL_setQuery 21 = .ok (.iconst 0, 1) := by decide +kernel
theorem dL_setQuery_22 : decode cL_setQuery 22 = .ok (.ireturn, 1) := by decide +kernel
theorem dL_put_0 : decode cL_put 0 = .ok (.aload 4, 2) := by decide +kernel
theorem dL_put_2 : decode cL_put 2 = .ok (.iconst 0, 1) := by decide +kernel
theorem dL_put_3 : decode cL_put 3 = .ok (.aload_n 0, 1) := by decide +kernel
theorem dL_put_4 : decode cL_put 4 = .ok (.iload_n 1, 1) := by decide +kernel
theorem dL_put_5 : decode cL_put 5 = .ok (.iload_n 2, 1) := by decide +kernel
theorem dL_put_6 : decode cL_put 6 = .ok (.iload_n 3, 1) := by decide +kernel
theorem dL_put_7 : decode cL_put 7 = .ok (.invokevirtual 31, 3) := by decide +kernel
theorem dL_put_15 : decode cL_put 15 = .ok (.astore 5, 2) := by decide +kernel
theorem dL_put_17 : decode cL_put 17 = .ok (.iconst 1, 1) := by decide +kernel
theorem dL_put_18 : decode cL_put 18 = .ok (.ireturn, 1) := by decide +kernel
theorem dL_putRow_0 : decode cL_putRow 0 = .ok (.aload 7, 2) := by decide +kernel
theorem dL_putRow_2 : decode cL_putRow 2 = .ok (.iconst 0, 1) := by decide +kernel
theorem dL_putRow_3 : decode cL_putRow 3 = .ok (.aload_n 0, 1) := by decide +kernel
theorem dL_putRow_4 : decode cL_putRow 4 = .ok (.iload_n 1, 1) := by decide +kernel
theorem dL_putRow_5 : decode cL_putRow 5 = .ok (.iload_n 2, 1) := by decide +kernel
theorem dL_putRow_6 : decode cL_putRow 6 = .ok (.iload_n 3, 1) := by decide +kernel
theorem dL_putRow_7 : decode cL_putRow 7 = .ok (.iload 4, 2) := by decide +kernel
theorem dL_putRow_9 : decode cL_putRow 9 = .ok (.iload 5, 2) := by decide +kernel
theorem dL_putRow_11 : decode cL_putRow 11 = .ok (.iload 6, 2) := by decide +kernel
theorem dL_putRow_13 : decode cL_putRow 13 = .ok (.invokevirtual 37, 3) := by decide +kernel
theorem dL_putRow_21 : decode cL_putRow 21 = .ok (.astore 8, 2) := by decide +kernel
theorem dL_putRow_23 : decode cL_putRow 23 = .ok (.iconst 1, 1) := by decide +kernel
theorem dL_putRow_24 : decode cL_putRow 24 = .ok (.ireturn, 1) := by decide +kernel
theorem dL_goOn_0 : decode cL_goOn 0 = .ok (.aload_n 2, 1) := by decide +kernel
theorem dL_goOn_1 : decode cL_goOn 1 = .ok (.iconst 0, 1) := by decide +kernel
theorem dL_goOn_2 : decode cL_goOn 2 = .ok (.aload_n 0, 1) := by decide +kernel
theorem dL_goOn_3 : decode cL_goOn 3 = .ok (.iload_n 1, 1) := by decide +kernel
theorem dL_goOn_4 : decode cL_goOn 4 = .ok (.invokevirtual 41, 3) := by decide +kernel
theorem dL_goOn_7 : decode cL_goOn 7 = .ok (.i2l, 1) := by decide +kernel
theorem dL_goOn_8 : decode cL_goOn 8 = .ok (.lastore, 1) := by decide +kernel
theorem dL_goOn_9 : decode cL_goOn 9 = .ok (.goto 6, 3) := by decide +kernel
theorem dL_goOn_12 : decode cL_goOn 12 = .ok (.astore_n 3, 1) := by decide +kernel
theorem dL_goOn_13 : decode cL_goOn 13 = .ok (.iconst 1, 1) := by decide +kernel
theorem dL_goOn_14 : decode cL_goOn 14 = .ok (.ireturn, 1) := by decide +kernel
theorem dL_goOn_15 : decode cL_goOn 15 = .ok (.iconst 0, 1) := by decide +kernel
theorem dL_goOn_16 : decode cL_goOn 16 = .ok (.ireturn, 1) := by decide +kernel
theorem dL_blocks_0 : decode cL_blocks 0 = .ok (.aload_n 2, 1) := by decide +kernel
theorem dL_blocks_1 : decode cL_blocks 1 = .ok (.iconst 0, 1) := by decide +kernel
theorem dL_blocks_2 : decode cL_blocks 2 = .ok (.aload_n 0, 1) := by decide +kernel
theorem dL_blocks_3 : decode cL_blocks 3 = .ok (.iload_n 1, 1) := by decide +kernel
theorem dL_blocks_4 : decode cL_blocks 4 = .ok (.invokevirtual 44, 3) := by decide +kernel
theorem dL_blocks_12 : decode cL_blocks 12 = .ok (.astore_n 3, 1) := by decide +kernel
theorem dL_blocks_13 : decode cL_blocks 13 = .ok (.iconst 1, 1) := by decide +kernel
theorem dL_blocks_14 : decode cL_blocks 14 = .ok (.ireturn, 1) := by decide +kernel
theorem dL_size_0 : decode cL_size 0 = .ok (.aload_n 3, 1) := by decide +kernel
theorem dL_size_1 : decode cL_size 1 = .ok (.iconst 0, 1) := by decide +kernel
theorem dL_size_2 : decode cL_size 2 = .ok (.aload_n 0, 1) := by decide +kernel
theorem dL_size_3 : decode cL_size 3 = .ok (.iload_n 1, 1) := by decide +kernel
theorem dL_size_4 : decode cL_size 4 = .ok (.iload_n 2, 1) := by decide +kernel
theorem dL_size_5 : decode cL_size 5 = .ok (.invokevirtual 47, 3) := by decide +kernel
theorem dL_size_13 : decode cL_size 13 = .ok (.astore 4, 2) := by decide +kernel
theorem dL_size_15 : decode cL_size 15 = .ok (.iconst 1, 1) := by decide +kernel
theorem dL_size_16 : decode cL_size 16 = .ok (.ireturn, 1) := by decide +kernel
theorem dL_point_0 : decode cL_point 0 = .ok (.aload 5, 2) := by decide +kernel
theorem dL_point_2 : decode cL_point 2 = .ok (.iconst 0, 1) := by decide +kernel
theorem dL_point_3 : decode cL_point 3 = .ok (.aload_n 0, 1) := by decide +kernel
theorem dL_point_4 : decode cL_point 4 = .ok (.iload_n 1, 1) := by decide +kernel
theorem dL_point_5 : decode cL_point 5 = .ok (.iload_n 2, 1) := by decide +kernel
theorem dL_point_6 : decode cL_point 6 = .ok (.iload_n 3, 1) := by decide +kernel
theorem dL_point_7 : decode cL_point 7 = .ok (.iload 4, 2) := by decide +kernel
theorem dL_point_9 : decode cL_point 9 = .ok (.invokevirtual 50, 3) := by decide +kernel
theorem dL_point_17 : decode cL_point 17 = .ok (.astore 6, 2) := by decide +kernel
theorem dL_point_19 : decode cL_point 19 = .ok (.iconst 1, 1) := by decide +kernel
theorem dL_point_20 : decode cL_point 20 = .ok (.ireturn, 1) := by decide +kernel
theorem dL_bits_0 : decode cL_bits 0 = .ok (.aload_n 3, 1) := by decide +kernel
theorem dL_bits_1 : decode cL_bits 1 = .ok (.iconst 0, 1) := by decide +kernel
theorem dL_bits_2 : decode cL_bits 2 = .ok (.aload_n 0, 1) := by decide +kernel
theorem dL_bits_3 : decode cL_bits 3 = .ok (.iload_n 1, 1) := by decide +kernel
theorem dL_bits_4 : decode cL_bits 4 = .ok (.iload_n 2, 1) := by decide +kernel
theorem dL_bits_5 : decode cL_bits 5 = .ok (.invokevirtual 54, 3) := by decide +kernel
theorem dL_bits_13 : decode cL_bits 13 = .ok (.astore 4, 2) := by decide +kernel
theorem dL_bits_15 : decode cL_bits 15 = .ok (.iconst 1, 1) := by decide +kernel
theorem dL_bits_16 : decode cL_bits 16 = .ok (.ireturn, 1) := by decide +kernel
theorem dL_word_0 : decode cL_word 0 = .ok (.aload 4, 2) := by decide +kernel
theorem dL_word_2 : decode cL_word 2 = .ok (.iconst 0, 1) := by decide +kernel
theorem dL_word_3 : decode cL_word 3 = .ok (.aload_n 0, 1) := by decide +kernel
theorem dL_word_4 : decode cL_word 4 = .ok (.iload_n 1, 1) := by decide +kernel
theorem dL_word_5 : decode cL_word 5 = .ok (.iload_n 2, 1) := by decide +kernel
theorem dL_word_6 : decode cL_word 6 = .ok (.iload_n 3, 1) := by decide +kernel
theorem dL_word_7 : decode cL_word 7 = .ok (.invokevirtual 57, 3) := by decide +kernel
theorem dL_word_15 : decode cL_word 15 = .ok (.astore 5, 2) := by decide +kernel
theorem dL_word_17 : decode cL_word 17 = .ok (.iconst 1, 1) := by decide +kernel
theorem dL_word_18 : decode cL_word 18 = .ok (.ireturn, 1) := by decide +kernel
theorem dL_buckets_0 : decode cL_buckets 0 = .ok (.aload_n 3, 1) := by decide +kernel
theorem dL_buckets_1 : decode cL_buckets 1 = .ok (.iconst 0, 1) := by decide +kernel
theorem dL_buckets_2 : decode cL_buckets 2 = .ok (.aload_n 0, 1) := by decide +kernel
theorem dL_buckets_3 : decode cL_buckets 3 = .ok (.iload_n 1, 1) := by decide +kernel
theorem dL_buckets_4 : decode cL_buckets 4 = .ok (.iload_n 2, 1) := by decide +kernel
theorem dL_buckets_5 : decode cL_buckets 5 = .ok (.invokevirtual 60, 3) := by decide +kernel
theorem dL_buckets_13 : decode cL_buckets 13 = .ok (.astore 4, 2) := by decide +kernel
theorem dL_buckets_15 : decode cL_buckets 15 = .ok (.iconst 1, 1) := by decide +kernel
theorem dL_buckets_16 : decode cL_buckets 16 = .ok (.ireturn, 1) := by decide +kernel
theorem dL_ofBucket_0 : decode cL_ofBucket 0 = .ok (.aload 5, 2) := by decide +kernel
theorem dL_ofBucket_2 : decode cL_ofBucket 2 = .ok (.iconst 0, 1) := by decide +kernel
theorem dL_ofBucket_3 : decode cL_ofBucket 3 = .ok (.aload_n 0, 1) := by decide +kernel
theorem dL_ofBucket_4 : decode cL_ofBucket 4 = .ok (.iload_n 1, 1) := by decide +kernel
theorem dL_ofBucket_5 : decode cL_ofBucket 5 = .ok (.iload_n 2, 1) := by decide +kernel
theorem dL_ofBucket_6 : decode cL_ofBucket 6 = .ok (.iload_n 3, 1) := by decide +kernel
theorem dL_ofBucket_7 : decode cL_ofBucket 7 = .ok (.iload 4, 2) := by decide +kernel
theorem dL_ofBucket_9 : decode cL_ofBucket 9 = .ok (.invokevirtual 64, 3) := by decide +kernel
theorem dL_ofBucket_17 : decode cL_ofBucket 17 = .ok (.astore 6, 2) := by decide +kernel
theorem dL_ofBucket_19 : decode cL_ofBucket 19 = .ok (.iconst 1, 1) := by decide +kernel
theorem dL_ofBucket_20 : decode cL_ofBucket 20 = .ok (.ireturn, 1) := by decide +kernel
theorem dL_items_0 : decode cL_items 0 = .ok (.aload_n 2, 1) := by decide +kernel
theorem dL_items_1 : decode cL_items 1 = .ok (.iconst 0, 1) := by decide +kernel
theorem dL_items_2 : decode cL_items 2 = .ok (.aload_n 0, 1) := by decide +kernel
theorem dL_items_3 : decode cL_items 3 = .ok (.iload_n 1, 1) := by decide +kernel
theorem dL_items_4 : decode cL_items 4 = .ok (.invokevirtual 68, 3) := by decide +kernel
theorem dL_items_12 : decode cL_items 12 = .ok (.astore_n 3, 1) := by decide +kernel
theorem dL_items_13 : decode cL_items 13 = .ok (.iconst 1, 1) := by decide +kernel
theorem dL_items_14 : decode cL_items 14 = .ok (.ireturn, 1) := by decide +kernel
theorem dL_ask_0 : decode cL_ask 0 = .ok (.aload_n 3, 1) := by decide +kernel
theorem dL_ask_1 : decode cL_ask 1 = .ok (.iconst 0, 1) := by decide +kernel
theorem dL_ask_2 : decode cL_ask 2 = .ok (.aload_n 0, 1) := by decide +kernel
theorem dL_ask_3 : decode cL_ask 3 = .ok (.iload_n 1, 1) := by decide +kernel
theorem dL_ask_4 : decode cL_ask 4 = .ok (.iload_n 2, 1) := by decide +kernel
theorem dL_ask_5 : decode cL_ask 5 = .ok (.invokevirtual 71, 3) := by decide +kernel
theorem dL_ask_13 : decode cL_ask 13 = .ok (.astore 4, 2) := by decide +kernel
theorem dL_ask_15 : decode cL_ask 15 = .ok (.iconst 1, 1) := by decide +kernel
theorem dL_ask_16 : decode cL_ask 16 = .ok (.ireturn, 1) := by decide +kernel
theorem dL_over_0 : decode cL_over 0 = .ok (.aload 5, 2) := by decide +kernel
theorem dL_over_2 : decode cL_over 2 = .ok (.iconst 0, 1) := by decide +kernel
theorem dL_over_3 : decode cL_over 3 = .ok (.aload_n 0, 1) := by decide +kernel
theorem dL_over_4 : decode cL_over 4 = .ok (.iload_n 1, 1) := by decide +kernel
theorem dL_over_5 : decode cL_over 5 = .ok (.iload_n 2, 1) := by decide +kernel
theorem dL_over_6 : decode cL_over 6 = .ok (.iload_n 3, 1) := by decide +kernel
theorem dL_over_7 : decode cL_over 7 = .ok (.iload 4, 2) := by decide +kernel
theorem dL_over_9 : decode cL_over 9 = .ok (.invokevirtual 74, 3) := by decide +kernel
theorem dL_over_12 : decode cL_over 12 = .ok (.i2l, 1) := by decide +kernel
theorem dL_over_13 : decode cL_over 13 = .ok (.lastore, 1) := by decide +kernel
theorem dL_over_14 : decode cL_over 14 = .ok (.goto 7, 3) := by decide +kernel
theorem dL_over_17 : decode cL_over 17 = .ok (.astore 6, 2) := by decide +kernel
theorem dL_over_19 : decode cL_over 19 = .ok (.iconst 1, 1) := by decide +kernel
theorem dL_over_20 : decode cL_over 20 = .ok (.ireturn, 1) := by decide +kernel
theorem dL_over_21 : decode cL_over 21 = .ok (.iconst 0, 1) := by decide +kernel
theorem dL_over_22 : decode cL_over 22 = .ok (.ireturn, 1) := by decide +kernel
theorem dL_gaps_0 : decode cL_gaps 0 = .ok (.aload_n 3, 1) := by decide +kernel
theorem dL_gaps_1 : decode cL_gaps 1 = .ok (.iconst 0, 1) := by decide +kernel
theorem dL_gaps_2 : decode cL_gaps 2 = .ok (.aload_n 0, 1) := by decide +kernel
theorem dL_gaps_3 : decode cL_gaps 3 = .ok (.iload_n 1, 1) := by decide +kernel
theorem dL_gaps_4 : decode cL_gaps 4 = .ok (.iload_n 2, 1) := by decide +kernel
theorem dL_gaps_5 : decode cL_gaps 5 = .ok (.invokevirtual 78, 3) := by decide +kernel
theorem dL_gaps_13 : decode cL_gaps 13 = .ok (.astore 4, 2) := by decide +kernel
theorem dL_gaps_15 : decode cL_gaps 15 = .ok (.iconst 1, 1) := by decide +kernel
theorem dL_gaps_16 : decode cL_gaps 16 = .ok (.ireturn, 1) := by decide +kernel
theorem dL_lastAt_0 : decode cL_lastAt 0 = .ok (.aload_n 3, 1) := by decide +kernel
theorem dL_lastAt_1 : decode cL_lastAt 1 = .ok (.iconst 0, 1) := by decide +kernel
theorem dL_lastAt_2 : decode cL_lastAt 2 = .ok (.aload_n 0, 1) := by decide +kernel
theorem dL_lastAt_3 : decode cL_lastAt 3 = .ok (.iload_n 1, 1) := by decide +kernel
theorem dL_lastAt_4 : decode cL_lastAt 4 = .ok (.iload_n 2, 1) := by decide +kernel
theorem dL_lastAt_5 : decode cL_lastAt 5 = .ok (.invokevirtual 81, 3) := by decide +kernel
theorem dL_lastAt_13 : decode cL_lastAt 13 = .ok (.astore 4, 2) := by decide +kernel
theorem dL_lastAt_15 : decode cL_lastAt 15 = .ok (.iconst 1, 1) := by decide +kernel
theorem dL_lastAt_16 : decode cL_lastAt 16 = .ok (.ireturn, 1) := by decide +kernel
theorem dL_addRule_0 : decode cL_addRule 0 = .ok (.aload 8, 2) := by decide +kernel
theorem dL_addRule_2 : decode cL_addRule 2 = .ok (.iconst 0, 1) := by decide +kernel
theorem dL_addRule_3 : decode cL_addRule 3 = .ok (.aload_n 0, 1) := by decide +kernel
theorem dL_addRule_4 : decode cL_addRule 4 = .ok (.iload_n 1, 1) := by decide +kernel
theorem dL_addRule_5 : decode cL_addRule 5 = .ok (.iload_n 2, 1) := by decide +kernel
theorem dL_addRule_6 : decode cL_addRule 6 = .ok (.iload_n 3, 1) := by decide +kernel
theorem dL_addRule_7 : decode cL_addRule 7 = .ok (.iload 4, 2) := by decide +kernel
theorem dL_addRule_9 : decode cL_addRule 9 = .ok (.iload 5, 2) := by decide +kernel
theorem dL_addRule_11 : decode cL_addRule 11 = .ok (.iload 6, 2) := by decide +kernel
theorem dL_addRule_13 : decode cL_addRule 13 = .ok (.iload 7, 2) := by decide +kernel
theorem dL_addRule_15 : decode cL_addRule 15 = .ok (.invokevirtual 84, 3) := by decide +kernel
theorem dL_addRule_23 : decode cL_addRule 23 = .ok (.astore 9, 2) := by decide +kernel
theorem dL_addRule_25 : decode cL_addRule 25 = .ok (.iconst 1, 1) := by decide +kernel
theorem dL_addRule_26 : decode cL_addRule 26 = .ok (.ireturn, 1) := by decide +kernel
theorem dL_stateOf_0 : decode cL_stateOf 0 = .ok (.aload_n 2, 1) := by decide +kernel
theorem dL_stateOf_1 : decode cL_stateOf 1 = .ok (.iconst 0, 1) := by decide +kernel
theorem dL_stateOf_2 : decode cL_stateOf 2 = .ok (.aload_n 0, 1) := by decide +kernel
theorem dL_stateOf_3 : decode cL_stateOf 3 = .ok (.iload_n 1, 1) := by decide +kernel
theorem dL_stateOf_4 : decode cL_stateOf 4 = .ok (.invokevirtual 88, 3) := by decide +kernel
theorem dL_stateOf_12 : decode cL_stateOf 12 = .ok (.astore_n 3, 1) := by decide +kernel
theorem dL_stateOf_13 : decode cL_stateOf 13 = .ok (.iconst 1, 1) := by decide +kernel
theorem dL_stateOf_14 : decode cL_stateOf 14 = .ok (.ireturn, 1) := by decide +kernel
theorem dL_inRow_0 : decode cL_inRow 0 = .ok (.aload_n 2, 1) := by decide +kernel
theorem dL_inRow_1 : decode cL_inRow 1 = .ok (.iconst 0, 1) := by decide +kernel
theorem dL_inRow_2 : decode cL_inRow 2 = .ok (.aload_n 0, 1) := by decide +kernel
theorem dL_inRow_3 : decode cL_inRow 3 = .ok (.iload_n 1, 1) := by decide +kernel
theorem dL_inRow_4 : decode cL_inRow 4 = .ok (.invokevirtual 91, 3) := by decide +kernel
theorem dL_inRow_12 : decode cL_inRow 12 = .ok (.astore_n 3, 1) := by decide +kernel
theorem dL_inRow_13 : decode cL_inRow 13 = .ok (.iconst 1, 1) := by decide +kernel
theorem dL_inRow_14 : decode cL_inRow 14 = .ok (.ireturn, 1) := by decide +kernel
theorem dL_seenBy_0 : decode cL_seenBy 0 = .ok (.aload_n 2, 1) := by decide +kernel
theorem dL_seenBy_1 : decode cL_seenBy 1 = .ok (.iconst 0, 1) := by decide +kernel
theorem dL_seenBy_2 : decode cL_seenBy 2 = .ok (.aload_n 0, 1) := by decide +kernel
theorem dL_seenBy_3 : decode cL_seenBy 3 = .ok (.iload_n 1, 1) := by decide +kernel
theorem dL_seenBy_4 : decode cL_seenBy 4 = .ok (.invokevirtual 94, 3) := by decide +kernel
theorem dL_seenBy_12 : decode cL_seenBy 12 = .ok (.astore_n 3, 1) := by decide +kernel
theorem dL_seenBy_13 : decode cL_seenBy 13 = .ok (.iconst 1, 1) := by decide +kernel
theorem dL_seenBy_14 : decode cL_seenBy 14 = .ok (.ireturn, 1) := by decide +kernel
theorem dL_event_0 : decode cL_event 0 = .ok (.aload_n 3, 1) := by decide +kernel
theorem dL_event_1 : decode cL_event 1 = .ok (.iconst 0, 1) := by decide +kernel
theorem dL_event_2 : decode cL_event 2 = .ok (.aload_n 0, 1) := by decide +kernel
theorem dL_event_3 : decode cL_event 3 = .ok (.iload_n 1, 1) := by decide +kernel
theorem dL_event_4 : decode cL_event 4 = .ok (.iload_n 2, 1) := by decide +kernel
theorem dL_event_5 : decode cL_event 5 = .ok (.invokevirtual 97, 3) := by decide +kernel
theorem dL_event_13 : decode cL_event 13 = .ok (.astore 4, 2) := by decide +kernel
theorem dL_event_15 : decode cL_event 15 = .ok (.iconst 1, 1) := by decide +kernel
theorem dL_event_16 : decode cL_event 16 = .ok (.ireturn, 1) := by decide +kernel
theorem dL_bitsWith_0 : decode cL_bitsWith 0 = .ok (.aload 4, 2) := by decide +kernel
theorem dL_bitsWith_2 : decode cL_bitsWith 2 = .ok (.iconst 0, 1) := by decide +kernel
theorem dL_bitsWith_3 : decode cL_bitsWith 3 = .ok (.aload_n 0, 1) := by decide +kernel
theorem dL_bitsWith_4 : decode cL_bitsWith 4 = .ok (.iload_n 1, 1) := by decide +kernel
theorem dL_bitsWith_5 : decode cL_bitsWith 5 = .ok (.iload_n 2, 1) := by decide +kernel
theorem dL_bitsWith_6 : decode cL_bitsWith 6 = .ok (.iload_n 3, 1) := by decide +kernel
theorem dL_bitsWith_7 : decode cL_bitsWith 7 = .ok (.invokevirtual 100, 3) := by decide +kernel
theorem dL_bitsWith_15 : decode cL_bitsWith 15 = .ok (.astore 5, 2) := by decide +kernel
theorem dL_bitsWith_17 : decode cL_bitsWith 17 = .ok (.iconst 1, 1) := by decide +kernel
theorem dL_bitsWith_18 : decode cL_bitsWith 18 = .ok (.ireturn, 1) := by decide +kernel
theorem dL_firesIn_0 : decode cL_firesIn 0 = .ok (.aload_n 2, 1) := by decide +kernel
theorem dL_firesIn_1 : decode cL_firesIn 1 = .ok (.iconst 0, 1) := by decide +kernel
theorem dL_firesIn_2 : decode cL_firesIn 2 = .ok (.aload_n 0, 1) := by decide +kernel
theorem dL_firesIn_3 : decode cL_firesIn 3 = .ok (.iload_n 1, 1) := by decide +kernel
theorem dL_firesIn_4 : decode cL_firesIn 4 = .ok (.invokevirtual 103, 3) := by decide +kernel
theorem dL_firesIn_7 : decode cL_firesIn 7 = .ok (.i2l, 1) := by decide +kernel
theorem dL_firesIn_8 : decode cL_firesIn 8 = .ok (.lastore, 1) := by decide +kernel
theorem dL_firesIn_9 : decode cL_firesIn 9 = .ok (.goto 6, 3) := by decide +kernel
theorem dL_firesIn_12 : decode cL_firesIn 12 = .ok (.astore_n 3, 1) := by decide +kernel
theorem dL_firesIn_13 : decode cL_firesIn 13 = .ok (.iconst 1, 1) := by decide +kernel
theorem dL_firesIn_14 : decode cL_firesIn 14 = .ok (.ireturn, 1) := by decide +kernel
theorem dL_firesIn_15 : decode cL_firesIn 15 = .ok (.iconst 0, 1) := by decide +kernel
theorem dL_firesIn_16 : decode cL_firesIn 16 = .ok (.ireturn, 1) := by decide +kernel
theorem dL_wouldRoll_0 : decode cL_wouldRoll 0 = .ok (.aload_n 2, 1) := by decide +kernel
theorem dL_wouldRoll_1 : decode cL_wouldRoll 1 = .ok (.iconst 0, 1) := by decide +kernel
theorem dL_wouldRoll_2 : decode cL_wouldRoll 2 = .ok (.aload_n 0, 1) := by decide +kernel
theorem dL_wouldRoll_3 : decode cL_wouldRoll 3 = .ok (.iload_n 1, 1) := by decide +kernel
theorem dL_wouldRoll_4 : decode cL_wouldRoll 4 = .ok (.invokevirtual 106, 3) := by decide +kernel
theorem dL_wouldRoll_7 : decode cL_wouldRoll 7 = .ok (.i2l, 1) := by decide +kernel
theorem dL_wouldRoll_8 : decode cL_wouldRoll 8 = .ok (.lastore, 1) := by decide +kernel
theorem dL_wouldRoll_9 : decode cL_wouldRoll 9 = .ok (.goto 6, 3) := by decide +kernel
theorem dL_wouldRoll_12 : decode cL_wouldRoll 12 = .ok (.astore_n 3, 1) := by decide +kernel
theorem dL_wouldRoll_13 : decode cL_wouldRoll 13 = .ok (.iconst 1, 1) := by decide +kernel
theorem dL_wouldRoll_14 : decode cL_wouldRoll 14 = .ok (.ireturn, 1) := by decide +kernel
theorem dL_wouldRoll_15 : decode cL_wouldRoll 15 = .ok (.iconst 0, 1) := by decide +kernel
theorem dL_wouldRoll_16 : decode cL_wouldRoll 16 = .ok (.ireturn, 1) := by decide +kernel
abbrev vwCl : List vw_C := [(RJ0, TJ0, 4), (RJ4, TJ4, 4), (RJx4a65c, TJx4a65c, 3), (RX0, TX0, 2), (RX1, TX1, 3), (RX3, TX3, 6), (RX4, TX4, 7), (RX5, TX5, 9), (RX6, TX6, 5), (RX7, TX7, 5), (RX8, TX8, 5), (RX9, TX9, 9), (RX10, TX10, 1), (RX11, TX11, 7), (RX12, TX12, 9), (RX13, TX13, 5), (RX14, TX14, 9), (RX15, TX15, 7)]
