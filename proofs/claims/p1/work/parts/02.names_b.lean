def RX0 : String := "MeridianSeries$Buckets"
def TX0 : u_T := fun k => match k with
  | 0 => ("MeridianSeries$Items", "amount", "I", false)
  | _ => ("MeridianSeries$Buckets", "cells", "[I", true)
def tyX0 : Nat → FieldType := fun k => match k with
  | 0 => .int
  | _ => .array .int
theorem nmX0 : ∀ a, a < 2 → ∀ b, b < 2 → a ≠ b → (TX0 a).2.1 ≠ (TX0 b).2.1 := by decide +kernel
theorem tyX0_ok : ∀ k, k < 2 → parseFieldDescriptor (TX0 k).2.2.1 = some (tyX0 k) := by decide +kernel
abbrev cX0_init : ByteArray := prog_2_method_1_code
def yX0_init : MethodName := ⟨RX0, "<init>", "()V"⟩
def RX1 : String := "MeridianSeries$EventLog"
def TX1 : u_T := fun k => match k with
  | 0 => ("MeridianSeries$EventLog", "cells", "[I", true)
  | 1 => ("MeridianSeries$EventLog", "total", "I", false)
  | _ => ("MeridianSeries$EventLog", "firings", "I", false)
def tyX1 : Nat → FieldType := fun k => match k with
  | 0 => .array .int
  | 1 => .int
  | _ => .int
theorem nmX1 : ∀ a, a < 3 → ∀ b, b < 3 → a ≠ b → (TX1 a).2.1 ≠ (TX1 b).2.1 := by decide +kernel
theorem tyX1_ok : ∀ k, k < 3 → parseFieldDescriptor (TX1 k).2.2.1 = some (tyX1 k) := by decide +kernel
abbrev cX1_init : ByteArray := prog_3_method_1_code
def yX1_init : MethodName := ⟨RX1, "<init>", "()V"⟩
def RX2 : String := "MeridianSeries$Items"
abbrev cX2_init : ByteArray := prog_4_method_1_code
def yX2_init : MethodName := ⟨RX2, "<init>", "()V"⟩
def RX3 : String := "MeridianSeries$Packer"
def TX3 : u_T := fun k => match k with
  | 0 => ("MeridianSeries$Packer", "words", "[I", true)
  | 1 => ("MeridianSeries$Packer", "length", "I", false)
  | 2 => ("MeridianSeries$Packer", "packed", "I", false)
  | 3 => ("MeridianSeries$Packer", "lastTime", "I", false)
  | 4 => ("MeridianSeries$Packer", "lastStep", "I", false)
  | _ => ("MeridianSeries$Packer", "lastValue", "I", false)
def tyX3 : Nat → FieldType := fun k => match k with
  | 0 => .array .int
  | 1 => .int
  | 2 => .int
  | 3 => .int
  | 4 => .int
  | _ => .int
theorem nmX3 : ∀ a, a < 6 → ∀ b, b < 6 → a ≠ b → (TX3 a).2.1 ≠ (TX3 b).2.1 := by decide +kernel
theorem tyX3_ok : ∀ k, k < 6 → parseFieldDescriptor (TX3 k).2.2.1 = some (tyX3 k) := by decide +kernel
abbrev cX3_init : ByteArray := prog_5_method_1_code
def yX3_init : MethodName := ⟨RX3, "<init>", "()V"⟩
def RX4 : String := "MeridianSeries$Points"
def TX4 : u_T := fun k => match k with
  | 0 => ("MeridianSeries$Items", "amount", "I", false)
  | 1 => ("MeridianSeries$Points", "times", "[I", true)
  | 2 => ("MeridianSeries$Points", "values", "[I", true)
  | 3 => ("MeridianSeries$Points", "sizes", "[I", true)
  | 4 => ("MeridianSeries$Points", "sealedBlocks", "I", false)
  | 5 => ("MeridianSeries$Points", "sealedPoints", "I", false)
  | _ => ("MeridianSeries$Points", "greatestSealedTime", "I", false)
def tyX4 : Nat → FieldType := fun k => match k with
  | 0 => .int
  | 1 => .array .int
  | 2 => .array .int
  | 3 => .array .int
  | 4 => .int
  | 5 => .int
  | _ => .int
theorem nmX4 : ∀ a, a < 7 → ∀ b, b < 7 → a ≠ b → (TX4 a).2.1 ≠ (TX4 b).2.1 := by decide +kernel
theorem tyX4_ok : ∀ k, k < 7 → parseFieldDescriptor (TX4 k).2.2.1 = some (tyX4 k) := by decide +kernel
abbrev cX4_init : ByteArray := prog_6_method_1_code
def yX4_init : MethodName := ⟨RX4, "<init>", "()V"⟩
def RX5 : String := "MeridianSeries$Rule"
def TX5 : u_T := fun k => match k with
  | 0 => ("MeridianSeries$Rule", "chain", "LMeridianSeries$Series;", true)
  | 1 => ("MeridianSeries$Rule", "what", "I", true)
  | 2 => ("MeridianSeries$Rule", "length", "I", true)
  | 3 => ("MeridianSeries$Rule", "every", "I", true)
  | 4 => ("MeridianSeries$Rule", "isAbove", "Z", true)
  | 5 => ("MeridianSeries$Rule", "limit", "I", true)
  | 6 => ("MeridianSeries$Rule", "times", "I", true)
  | 7 => ("MeridianSeries$Rule", "state", "I", false)
  | _ => ("MeridianSeries$Rule", "timesInRow", "I", false)
def RX6 : String := "MeridianSeries$Series"
def TX6 : u_T := fun k => match k with
  | 0 => ("MeridianSeries$Series", "one", "I", true)
  | 1 => ("MeridianSeries$Series", "other", "I", true)
  | 2 => ("MeridianSeries$Series", "points", "LMeridianSeries$Points;", true)
  | 3 => ("MeridianSeries$Series", "fine", "LMeridianSeries$Buckets;", true)
  | _ => ("MeridianSeries$Series", "coarse", "LMeridianSeries$Buckets;", true)
def tyX6 : Nat → FieldType := fun k => match k with
  | 0 => .int
  | 1 => .int
  | 2 => .object "MeridianSeries$Points"
  | 3 => .object "MeridianSeries$Buckets"
  | _ => .object "MeridianSeries$Buckets"
theorem nmX6 : ∀ a, a < 5 → ∀ b, b < 5 → a ≠ b → (TX6 a).2.1 ≠ (TX6 b).2.1 := by decide +kernel
theorem tyX6_ok : ∀ k, k < 5 → parseFieldDescriptor (TX6 k).2.2.1 = some (tyX6 k) := by decide +kernel
abbrev cX6_init : ByteArray := prog_8_method_1_code
def yX6_init : MethodName := ⟨RX6, "<init>", "(II)V"⟩
def RX7 : String := "MeridianSeries$Settings"
def TX7 : u_T := fun k => match k with
  | 0 => ("MeridianSeries$Settings", "span", "I", false)
  | 1 => ("MeridianSeries$Settings", "width", "I", false)
  | 2 => ("MeridianSeries$Settings", "fold", "I", false)
  | 3 => ("MeridianSeries$Settings", "keep", "I", false)
  | _ => ("MeridianSeries$Settings", "longKeep", "I", false)
def tyX7 : Nat → FieldType := fun k => match k with
  | 0 => .int
  | 1 => .int
  | 2 => .int
  | 3 => .int
  | _ => .int
theorem nmX7 : ∀ a, a < 5 → ∀ b, b < 5 → a ≠ b → (TX7 a).2.1 ≠ (TX7 b).2.1 := by decide +kernel
theorem tyX7_ok : ∀ k, k < 5 → parseFieldDescriptor (TX7 k).2.2.1 = some (tyX7 k) := by decide +kernel
abbrev cX7_init : ByteArray := prog_9_method_1_code
def yX7_init : MethodName := ⟨RX7, "<init>", "()V"⟩
def RX8 : String := "MeridianSeries$Store"
def TX8 : u_T := fun k => match k with
  | 0 => ("MeridianSeries$Store", "settings", "LMeridianSeries$Settings;", true)
  | 1 => ("MeridianSeries$Store", "chains", "Ljava/util/ArrayList;", true)
  | 2 => ("MeridianSeries$Store", "rules", "Ljava/util/ArrayList;", true)
  | 3 => ("MeridianSeries$Store", "log", "LMeridianSeries$EventLog;", true)
  | _ => ("MeridianSeries$Store", "now", "I", false)
def tyX8 : Nat → FieldType := fun k => match k with
  | 0 => .object "MeridianSeries$Settings"
  | 1 => .object "java/util/ArrayList"
  | 2 => .object "java/util/ArrayList"
  | 3 => .object "MeridianSeries$EventLog"
  | _ => .int
theorem nmX8 : ∀ a, a < 5 → ∀ b, b < 5 → a ≠ b → (TX8 a).2.1 ≠ (TX8 b).2.1 := by decide +kernel
theorem tyX8_ok : ∀ k, k < 5 → parseFieldDescriptor (TX8 k).2.2.1 = some (tyX8 k) := by decide +kernel
abbrev cX8_init : ByteArray := prog_10_method_1_code
def yX8_init : MethodName := ⟨RX8, "<init>", "(LMeridianSeries$Settings;)V"⟩
abbrev cX8_hasBucket : ByteArray := prog_10_method_2_code
def yX8_hasBucket : MethodName := ⟨RX8, "hasBucket", "()Z"⟩
abbrev cX8_goOnByOne : ByteArray := prog_10_method_3_code
def yX8_goOnByOne : MethodName := ⟨RX8, "goOnByOne", "()V"⟩
abbrev cX8_copyFrom : ByteArray := prog_10_method_4_code
def yX8_copyFrom : MethodName := ⟨RX8, "copyFrom", "(LMeridianSeries$Store;)V"⟩
def RX9 : String := "MeridianSeries"
def TX9 : u_T := fun k => match k with
  | 0 => ("MeridianSeries", "settings", "LMeridianSeries$Settings;", true)
  | 1 => ("MeridianSeries", "store", "LMeridianSeries$Store;", true)
  | 2 => ("MeridianSeries", "trial", "LMeridianSeries$Store;", true)
  | 3 => ("MeridianSeries", "packer", "LMeridianSeries$Packer;", true)
  | 4 => ("MeridianSeries", "queryFrom", "I", false)
  | 5 => ("MeridianSeries", "queryStep", "I", false)
  | 6 => ("MeridianSeries", "queryWhat", "I", false)
  | 7 => ("MeridianSeries", "queryFill", "I", false)
  | _ => ("MeridianSeries", "lateCount", "I", false)
def tyX9 : Nat → FieldType := fun k => match k with
  | 0 => .object "MeridianSeries$Settings"
  | 1 => .object "MeridianSeries$Store"
  | 2 => .object "MeridianSeries$Store"
  | 3 => .object "MeridianSeries$Packer"
  | 4 => .int
  | 5 => .int
  | 6 => .int
  | 7 => .int
  | _ => .int
theorem nmX9 : ∀ a, a < 9 → ∀ b, b < 9 → a ≠ b → (TX9 a).2.1 ≠ (TX9 b).2.1 := by decide +kernel
theorem tyX9_ok : ∀ k, k < 9 → parseFieldDescriptor (TX9 k).2.2.1 = some (tyX9 k) := by decide +kernel
abbrev cX9_init : ByteArray := prog_1_method_1_code
def yX9_init : MethodName := ⟨RX9, "<init>", "()V"⟩
abbrev cX9_addSeries : ByteArray := prog_1_method_2_code
def yX9_addSeries : MethodName := ⟨RX9, "addSeries", "(II)I"⟩
abbrev cX9_setSpan : ByteArray := prog_1_method_3_code
def yX9_setSpan : MethodName := ⟨RX9, "setSpan", "(I)I"⟩
abbrev cX9_setWidths : ByteArray := prog_1_method_4_code
def yX9_setWidths : MethodName := ⟨RX9, "setWidths", "(II)I"⟩
abbrev cX9_setKeep : ByteArray := prog_1_method_5_code
def yX9_setKeep : MethodName := ⟨RX9, "setKeep", "(II)I"⟩
abbrev cX9_setQuery : ByteArray := prog_1_method_6_code
def yX9_setQuery : MethodName := ⟨RX9, "setQuery", "(IIII)I"⟩
abbrev cX9_put : ByteArray := prog_1_method_7_code
def yX9_put : MethodName := ⟨RX9, "put", "(III)I"⟩
abbrev cX9_putRow : ByteArray := prog_1_method_8_code
def yX9_putRow : MethodName := ⟨RX9, "putRow", "(IIIIII)I"⟩
abbrev cX9_goOn : ByteArray := prog_1_method_9_code
def yX9_goOn : MethodName := ⟨RX9, "goOn", "(I)I"⟩
abbrev cX9_now : ByteArray := prog_1_method_10_code
def yX9_now : MethodName := ⟨RX9, "now", "()I"⟩
abbrev cX9_series : ByteArray := prog_1_method_11_code
def yX9_series : MethodName := ⟨RX9, "series", "()I"⟩
abbrev cX9_late : ByteArray := prog_1_method_12_code
def yX9_late : MethodName := ⟨RX9, "late", "()I"⟩
abbrev cX9_blocks : ByteArray := prog_1_method_13_code
def yX9_blocks : MethodName := ⟨RX9, "blocks", "(I)I"⟩
abbrev cX9_size : ByteArray := prog_1_method_14_code
def yX9_size : MethodName := ⟨RX9, "size", "(II)I"⟩
abbrev cX9_point : ByteArray := prog_1_method_15_code
def yX9_point : MethodName := ⟨RX9, "point", "(IIIZ)I"⟩
abbrev cX9_bits : ByteArray := prog_1_method_16_code
def yX9_bits : MethodName := ⟨RX9, "bits", "(II)I"⟩
abbrev cX9_word : ByteArray := prog_1_method_17_code
def yX9_word : MethodName := ⟨RX9, "word", "(III)I"⟩
abbrev cX9_buckets : ByteArray := prog_1_method_18_code
def yX9_buckets : MethodName := ⟨RX9, "buckets", "(IZ)I"⟩
abbrev cX9_ofBucket : ByteArray := prog_1_method_19_code
def yX9_ofBucket : MethodName := ⟨RX9, "ofBucket", "(IZII)I"⟩
abbrev cX9_items : ByteArray := prog_1_method_20_code
def yX9_items : MethodName := ⟨RX9, "items", "(I)I"⟩
abbrev cX9_ratio : ByteArray := prog_1_method_21_code
def yX9_ratio : MethodName := ⟨RX9, "ratio", "()D"⟩
abbrev cX9_ask : ByteArray := prog_1_method_22_code
def yX9_ask : MethodName := ⟨RX9, "ask", "(II)I"⟩
abbrev cX9_over : ByteArray := prog_1_method_23_code
def yX9_over : MethodName := ⟨RX9, "over", "(ZIII)I"⟩
abbrev cX9_gaps : ByteArray := prog_1_method_24_code
def yX9_gaps : MethodName := ⟨RX9, "gaps", "(II)I"⟩
abbrev cX9_lastAt : ByteArray := prog_1_method_25_code
def yX9_lastAt : MethodName := ⟨RX9, "lastAt", "(II)I"⟩
abbrev cX9_addRule : ByteArray := prog_1_method_26_code
def yX9_addRule : MethodName := ⟨RX9, "addRule", "(IIIIZII)I"⟩
abbrev cX9_stateOf : ByteArray := prog_1_method_27_code
def yX9_stateOf : MethodName := ⟨RX9, "stateOf", "(I)I"⟩
abbrev cX9_inRow : ByteArray := prog_1_method_28_code
def yX9_inRow : MethodName := ⟨RX9, "inRow", "(I)I"⟩
abbrev cX9_seenBy : ByteArray := prog_1_method_29_code
def yX9_seenBy : MethodName := ⟨RX9, "seenBy", "(I)I"⟩
abbrev cX9_events : ByteArray := prog_1_method_30_code
def yX9_events : MethodName := ⟨RX9, "events", "()I"⟩
abbrev cX9_event : ByteArray := prog_1_method_31_code
def yX9_event : MethodName := ⟨RX9, "event", "(II)I"⟩
abbrev cX9_bitsWith : ByteArray := prog_1_method_32_code
def yX9_bitsWith : MethodName := ⟨RX9, "bitsWith", "(III)I"⟩
abbrev cX9_firesIn : ByteArray := prog_1_method_33_code
def yX9_firesIn : MethodName := ⟨RX9, "firesIn", "(I)I"⟩
abbrev cX9_wouldRoll : ByteArray := prog_1_method_34_code
def yX9_wouldRoll : MethodName := ⟨RX9, "wouldRoll", "(I)I"⟩
abbrev cX9_digest : ByteArray := prog_1_method_35_code
def yX9_digest : MethodName := ⟨RX9, "digest", "()J"⟩
abbrev cX9_isIn : ByteArray := prog_1_method_39_code
def yX9_isIn : MethodName := ⟨RX9, "isIn", "(JII)Z"⟩
abbrev cX9_canGoOn : ByteArray := prog_1_method_42_code
def yX9_canGoOn : MethodName := ⟨RX9, "canGoOn", "(I)Z"⟩
abbrev cX9_needArgument : ByteArray := prog_1_method_43_code
def yX9_needArgument : MethodName := ⟨RX9, "needArgument", "(Z)V"⟩
abbrev cX9_needIndex : ByteArray := prog_1_method_44_code
def yX9_needIndex : MethodName := ⟨RX9, "needIndex", "(Z)V"⟩
abbrev cX9_needState : ByteArray := prog_1_method_45_code
def yX9_needState : MethodName := ⟨RX9, "needState", "(Z)V"⟩
abbrev cX9_chainAt : ByteArray := prog_1_method_46_code
def yX9_chainAt : MethodName := ⟨RX9, "chainAt", "(I)LMeridianSeries$Series;"⟩
abbrev cX9_ruleAt : ByteArray := prog_1_method_47_code
def yX9_ruleAt : MethodName := ⟨RX9, "ruleAt", "(I)LMeridianSeries$Rule;"⟩
def RX10 : String := "MeridianSeriesModel$Bits"
def TX10 : u_T := fun k => match k with
  | _ => ("MeridianSeriesModel$Bits", "row", "Ljava/util/ArrayList;", true)
def RX11 : String := "MeridianSeriesModel$Item"
def TX11 : u_T := fun k => match k with
  | 0 => ("MeridianSeriesModel$Item", "time", "I", true)
  | 1 => ("MeridianSeriesModel$Item", "count", "I", false)
  | 2 => ("MeridianSeriesModel$Item", "sum", "I", false)
  | 3 => ("MeridianSeriesModel$Item", "min", "I", false)
  | 4 => ("MeridianSeriesModel$Item", "max", "I", false)
  | 5 => ("MeridianSeriesModel$Item", "first", "I", false)
  | _ => ("MeridianSeriesModel$Item", "last", "I", false)
def RX12 : String := "MeridianSeriesModel$Rule"
def TX12 : u_T := fun k => match k with
  | 0 => ("MeridianSeriesModel$Rule", "series", "I", true)
  | 1 => ("MeridianSeriesModel$Rule", "what", "I", true)
  | 2 => ("MeridianSeriesModel$Rule", "length", "I", true)
  | 3 => ("MeridianSeriesModel$Rule", "every", "I", true)
  | 4 => ("MeridianSeriesModel$Rule", "isAbove", "Z", true)
  | 5 => ("MeridianSeriesModel$Rule", "limit", "I", true)
  | 6 => ("MeridianSeriesModel$Rule", "times", "I", true)
  | 7 => ("MeridianSeriesModel$Rule", "state", "I", false)
  | _ => ("MeridianSeriesModel$Rule", "row", "I", false)
def RX13 : String := "MeridianSeriesModel$Series"
def TX13 : u_T := fun k => match k with
  | 0 => ("MeridianSeriesModel$Series", "labels", "[I", true)
  | 1 => ("MeridianSeriesModel$Series", "blocks", "Ljava/util/ArrayList;", true)
  | 2 => ("MeridianSeriesModel$Series", "fine", "Ljava/util/ArrayList;", false)
  | 3 => ("MeridianSeriesModel$Series", "coarse", "Ljava/util/ArrayList;", false)
  | _ => ("MeridianSeriesModel$Series", "sealedTo", "I", false)
def tyX13 : Nat → FieldType := fun k => match k with
  | 0 => .array .int
  | 1 => .object "java/util/ArrayList"
  | 2 => .object "java/util/ArrayList"
  | 3 => .object "java/util/ArrayList"
  | _ => .int
theorem nmX13 : ∀ a, a < 5 → ∀ b, b < 5 → a ≠ b → (TX13 a).2.1 ≠ (TX13 b).2.1 := by decide +kernel
theorem tyX13_ok : ∀ k, k < 5 → parseFieldDescriptor (TX13 k).2.2.1 = some (tyX13 k) := by decide +kernel
abbrev cX13_init : ByteArray := prog_16_method_1_code
def yX13_init : MethodName := ⟨RX13, "<init>", "(II)V"⟩
def RX14 : String := "MeridianSeriesModel$Store"
def TX14 : u_T := fun k => match k with
  | 0 => ("MeridianSeriesModel$Store", "series", "Ljava/util/ArrayList;", true)
  | 1 => ("MeridianSeriesModel$Store", "rules", "Ljava/util/ArrayList;", true)
  | 2 => ("MeridianSeriesModel$Store", "events", "Ljava/util/ArrayList;", true)
  | 3 => ("MeridianSeriesModel$Store", "now", "I", false)
  | 4 => ("MeridianSeriesModel$Store", "span", "I", false)
  | 5 => ("MeridianSeriesModel$Store", "width", "I", false)
  | 6 => ("MeridianSeriesModel$Store", "fold", "I", false)
  | 7 => ("MeridianSeriesModel$Store", "keep", "I", false)
  | _ => ("MeridianSeriesModel$Store", "longKeep", "I", false)
def tyX14 : Nat → FieldType := fun k => match k with
  | 0 => .object "java/util/ArrayList"
  | 1 => .object "java/util/ArrayList"
  | 2 => .object "java/util/ArrayList"
  | 3 => .int
  | 4 => .int
  | 5 => .int
  | 6 => .int
  | 7 => .int
  | _ => .int
theorem nmX14 : ∀ a, a < 9 → ∀ b, b < 9 → a ≠ b → (TX14 a).2.1 ≠ (TX14 b).2.1 := by decide +kernel
theorem tyX14_ok : ∀ k, k < 9 → parseFieldDescriptor (TX14 k).2.2.1 = some (tyX14 k) := by decide +kernel
abbrev cX14_init : ByteArray := prog_17_method_1_code
def yX14_init : MethodName := ⟨RX14, "<init>", "()V"⟩
abbrev cX14_copy : ByteArray := prog_17_method_2_code
def yX14_copy : MethodName := ⟨RX14, "copy", "()LMeridianSeriesModel$Store;"⟩
abbrev cX14_tick : ByteArray := prog_17_method_4_code
def yX14_tick : MethodName := ⟨RX14, "tick", "()V"⟩
def RX15 : String := "MeridianSeriesModel"
def TX15 : u_T := fun k => match k with
  | 0 => ("MeridianSeriesModel", "thrown", "I", false)
  | 1 => ("MeridianSeriesModel", "late", "I", false)
  | 2 => ("MeridianSeriesModel", "from", "I", false)
  | 3 => ("MeridianSeriesModel", "step", "I", false)
  | 4 => ("MeridianSeriesModel", "what", "I", false)
  | 5 => ("MeridianSeriesModel", "fill", "I", false)
  | _ => ("MeridianSeriesModel", "store", "LMeridianSeriesModel$Store;", true)
def tyX15 : Nat → FieldType := fun k => match k with
  | 0 => .int
  | 1 => .int
  | 2 => .int
  | 3 => .int
  | 4 => .int
  | 5 => .int
  | _ => .object "MeridianSeriesModel$Store"
theorem nmX15 : ∀ a, a < 7 → ∀ b, b < 7 → a ≠ b → (TX15 a).2.1 ≠ (TX15 b).2.1 := by decide +kernel
theorem tyX15_ok : ∀ k, k < 7 → parseFieldDescriptor (TX15 k).2.2.1 = some (tyX15 k) := by decide +kernel
abbrev cX15_init : ByteArray := prog_12_method_6_code
def yX15_init : MethodName := ⟨RX15, "<init>", "()V"⟩
abbrev cX15_thrown : ByteArray := prog_12_method_7_code
def yX15_thrown : MethodName := ⟨RX15, "thrown", "()I"⟩
abbrev cX15_isIn : ByteArray := prog_12_method_8_code
def yX15_isIn : MethodName := ⟨RX15, "isIn", "(III)Z"⟩
abbrev cX15_refuse : ByteArray := prog_12_method_9_code
def yX15_refuse : MethodName := ⟨RX15, "refuse", "(ZI)Z"⟩
abbrev cX15_start : ByteArray := prog_12_method_10_code
def yX15_start : MethodName := ⟨RX15, "start", "(ZI)Z"⟩
abbrev cX15_plain : ByteArray := prog_12_method_11_code
def yX15_plain : MethodName := ⟨RX15, "plain", "(I)I"⟩
abbrev cX15_addSeries : ByteArray := prog_12_method_12_code
def yX15_addSeries : MethodName := ⟨RX15, "addSeries", "(II)I"⟩
abbrev cX15_setSpan : ByteArray := prog_12_method_13_code
def yX15_setSpan : MethodName := ⟨RX15, "setSpan", "(I)I"⟩
abbrev cX15_hasBuckets : ByteArray := prog_12_method_14_code
def yX15_hasBuckets : MethodName := ⟨RX15, "hasBuckets", "()Z"⟩
abbrev cX15_setWidths : ByteArray := prog_12_method_15_code
def yX15_setWidths : MethodName := ⟨RX15, "setWidths", "(II)I"⟩
abbrev cX15_setKeep : ByteArray := prog_12_method_16_code
def yX15_setKeep : MethodName := ⟨RX15, "setKeep", "(II)I"⟩
abbrev cX15_setQuery : ByteArray := prog_12_method_17_code
def yX15_setQuery : MethodName := ⟨RX15, "setQuery", "(IIII)I"⟩
abbrev cX15_isNoSeries : ByteArray := prog_12_method_18_code
def yX15_isNoSeries : MethodName := ⟨RX15, "isNoSeries", "(I)Z"⟩
abbrev cX15_put : ByteArray := prog_12_method_22_code
def yX15_put : MethodName := ⟨RX15, "put", "(III)I"⟩
abbrev cX15_putRow : ByteArray := prog_12_method_23_code
def yX15_putRow : MethodName := ⟨RX15, "putRow", "(IIIIII)I"⟩
abbrev cX15_goOn : ByteArray := prog_12_method_24_code
def yX15_goOn : MethodName := ⟨RX15, "goOn", "(I)I"⟩
abbrev cX15_now : ByteArray := prog_12_method_25_code
def yX15_now : MethodName := ⟨RX15, "now", "()I"⟩
abbrev cX15_series_ : ByteArray := prog_12_method_26_code
def yX15_series_ : MethodName := ⟨RX15, "series", "()I"⟩
abbrev cX15_late : ByteArray := prog_12_method_27_code
def yX15_late : MethodName := ⟨RX15, "late", "()I"⟩
abbrev cX15_blocks : ByteArray := prog_12_method_28_code
def yX15_blocks : MethodName := ⟨RX15, "blocks", "(I)I"⟩
abbrev cX15_isNoBlock : ByteArray := prog_12_method_29_code
def yX15_isNoBlock : MethodName := ⟨RX15, "isNoBlock", "(II)Z"⟩
abbrev cX15_size : ByteArray := prog_12_method_31_code
def yX15_size : MethodName := ⟨RX15, "size", "(II)I"⟩
abbrev cX15_point : ByteArray := prog_12_method_32_code
def yX15_point : MethodName := ⟨RX15, "point", "(IIIZ)I"⟩
abbrev cX15_bits : ByteArray := prog_12_method_34_code
def yX15_bits : MethodName := ⟨RX15, "bits", "(II)I"⟩
abbrev cX15_word : ByteArray := prog_12_method_35_code
def yX15_word : MethodName := ⟨RX15, "word", "(III)I"⟩
abbrev cX15_buckets_ : ByteArray := prog_12_method_37_code
def yX15_buckets_ : MethodName := ⟨RX15, "buckets", "(IZ)I"⟩
abbrev cX15_ofBucket : ByteArray := prog_12_method_38_code
def yX15_ofBucket : MethodName := ⟨RX15, "ofBucket", "(IZII)I"⟩
abbrev cX15_items : ByteArray := prog_12_method_39_code
def yX15_items : MethodName := ⟨RX15, "items", "(I)I"⟩
abbrev cX15_ratio : ByteArray := prog_12_method_40_code
def yX15_ratio : MethodName := ⟨RX15, "ratio", "()D"⟩
abbrev cX15_ask : ByteArray := prog_12_method_42_code
def yX15_ask : MethodName := ⟨RX15, "ask", "(II)I"⟩
abbrev cX15_over : ByteArray := prog_12_method_43_code
def yX15_over : MethodName := ⟨RX15, "over", "(ZIII)I"⟩
abbrev cX15_gaps : ByteArray := prog_12_method_44_code
def yX15_gaps : MethodName := ⟨RX15, "gaps", "(II)I"⟩
abbrev cX15_lastAt : ByteArray := prog_12_method_45_code
def yX15_lastAt : MethodName := ⟨RX15, "lastAt", "(II)I"⟩
abbrev cX15_addRule : ByteArray := prog_12_method_46_code
def yX15_addRule : MethodName := ⟨RX15, "addRule", "(IIIIZII)I"⟩
abbrev cX15_isNoRule : ByteArray := prog_12_method_47_code
def yX15_isNoRule : MethodName := ⟨RX15, "isNoRule", "(I)Z"⟩
abbrev cX15_stateOf : ByteArray := prog_12_method_48_code
def yX15_stateOf : MethodName := ⟨RX15, "stateOf", "(I)I"⟩
abbrev cX15_inRow : ByteArray := prog_12_method_49_code
def yX15_inRow : MethodName := ⟨RX15, "inRow", "(I)I"⟩
abbrev cX15_seenBy : ByteArray := prog_12_method_50_code
def yX15_seenBy : MethodName := ⟨RX15, "seenBy", "(I)I"⟩
abbrev cX15_events : ByteArray := prog_12_method_51_code
def yX15_events : MethodName := ⟨RX15, "events", "()I"⟩
abbrev cX15_event : ByteArray := prog_12_method_52_code
def yX15_event : MethodName := ⟨RX15, "event", "(II)I"⟩
abbrev cX15_bitsWith : ByteArray := prog_12_method_53_code
def yX15_bitsWith : MethodName := ⟨RX15, "bitsWith", "(III)I"⟩
abbrev cX15_firesIn : ByteArray := prog_12_method_54_code
def yX15_firesIn : MethodName := ⟨RX15, "firesIn", "(I)I"⟩
abbrev cX15_wouldRoll : ByteArray := prog_12_method_55_code
def yX15_wouldRoll : MethodName := ⟨RX15, "wouldRoll", "(I)I"⟩
abbrev cX15_add : ByteArray := prog_12_method_56_code
def yX15_add : MethodName := ⟨RX15, "add", "(JJ)J"⟩
abbrev cX15_digest : ByteArray := prog_12_method_58_code
def yX15_digest : MethodName := ⟨RX15, "digest", "()J"⟩
def RJ0 : String := "java/lang/String"
def TJ0 : u_T := fun k => match k with
  | 0 => ("java/lang/String", "value", "[B", true)
  | 1 => ("java/lang/String", "coder", "B", true)
  | 2 => ("java/lang/String", "hash", "I", false)
  | _ => ("java/lang/String", "hashIsZero", "Z", false)
def RJ4 : String := "java/lang/StringBuilder"
def TJ4 : u_T := fun k => match k with
  | 0 => ("java/lang/AbstractStringBuilder", "value", "[B", false)
  | 1 => ("java/lang/AbstractStringBuilder", "coder", "B", false)
  | 2 => ("java/lang/AbstractStringBuilder", "maybeLatin1", "Z", false)
  | _ => ("java/lang/AbstractStringBuilder", "count", "I", false)
def RJxa1e45 : String := "java/util/AbstractCollection"
abbrev cJxa1e45_init_da8c8 : ByteArray := prog_42_method_1_code
def yJxa1e45_init_da8c8 : MethodName := ⟨RJxa1e45, "<init>", "()V"⟩
def RJxc12de : String := "java/util/AbstractList"
abbrev cJxc12de_init_da8c8 : ByteArray := prog_43_method_1_code
def yJxc12de_init_da8c8 : MethodName := ⟨RJxc12de, "<init>", "()V"⟩
def RJx4a65c : String := "java/util/ArrayList"
def TJx4a65c : u_T := fun k => match k with
  | 0 => ("java/util/AbstractList", "modCount", "I", false)
  | 1 => ("java/util/ArrayList", "elementData", "[Ljava/lang/Object;", false)
  | _ => ("java/util/ArrayList", "size", "I", false)
def tyJx4a65c : Nat → FieldType := fun k => match k with
  | 0 => .int
  | 1 => .array (.object "java/lang/Object")
  | _ => .int
theorem nmJx4a65c : ∀ a, a < 3 → ∀ b, b < 3 → a ≠ b → (TJx4a65c a).2.1 ≠ (TJx4a65c b).2.1 := by decide +kernel
theorem tyJx4a65c_ok : ∀ k, k < 3 → parseFieldDescriptor (TJx4a65c k).2.2.1 = some (tyJx4a65c k) := by decide +kernel
abbrev cJx4a65c_init_da8c8 : ByteArray := prog_44_method_2_code
def yJx4a65c_init_da8c8 : MethodName := ⟨RJx4a65c, "<init>", "()V"⟩
abbrev cJx4a65c_grow_92f84 : ByteArray := prog_44_method_6_code
def yJx4a65c_grow_92f84 : MethodName := ⟨RJx4a65c, "grow", "(I)[Ljava/lang/Object;"⟩
abbrev cJx4a65c_grow_d5877 : ByteArray := prog_44_method_7_code
def yJx4a65c_grow_d5877 : MethodName := ⟨RJx4a65c, "grow", "()[Ljava/lang/Object;"⟩
abbrev cJx4a65c_size_8abf5 : ByteArray := prog_44_method_8_code
def yJx4a65c_size_8abf5 : MethodName := ⟨RJx4a65c, "size", "()I"⟩
abbrev cJx4a65c_toArray_d5877 : ByteArray := prog_44_method_16_code
def yJx4a65c_toArray_d5877 : MethodName := ⟨RJx4a65c, "toArray", "()[Ljava/lang/Object;"⟩
abbrev cJx4a65c_add_72be8 : ByteArray := prog_44_method_24_code
def yJx4a65c_add_72be8 : MethodName := ⟨RJx4a65c, "add", "(Ljava/lang/Object;[Ljava/lang/Object;I)V"⟩
abbrev cJx4a65c_add_9ea2d : ByteArray := prog_44_method_25_code
def yJx4a65c_add_9ea2d : MethodName := ⟨RJx4a65c, "add", "(Ljava/lang/Object;)Z"⟩
abbrev cJx4a65c_addAll_f0b43 : ByteArray := prog_44_method_41_code
def yJx4a65c_addAll_f0b43 : MethodName := ⟨RJx4a65c, "addAll", "(Ljava/util/Collection;)Z"⟩
def RJ7 : String := "java/util/Arrays"
abbrev cJ7_copyOf_1904c : ByteArray := prog_45_method_119_code
def yJ7_copyOf_1904c : MethodName := ⟨RJ7, "copyOf", "([Ljava/lang/Object;I)[Ljava/lang/Object;"⟩
abbrev cJ7_copyOf_6403c : ByteArray := prog_45_method_120_code
def yJ7_copyOf_6403c : MethodName := ⟨RJ7, "copyOf", "([Ljava/lang/Object;ILjava/lang/Class;)[Ljava/lang/Object;"⟩
def RL : String := "MeridianSeriesLaw"
abbrev cL_addSeries : ByteArray := method_3_code
def yL_addSeries : MethodName := ⟨RL, "addSeries", "(LMeridianSeries;II[J)I"⟩
abbrev cL_setSpan : ByteArray := method_4_code
def yL_setSpan : MethodName := ⟨RL, "setSpan", "(LMeridianSeries;I[J)I"⟩
abbrev cL_setWidths : ByteArray := method_5_code
def yL_setWidths : MethodName := ⟨RL, "setWidths", "(LMeridianSeries;II[J)I"⟩
abbrev cL_setKeep : ByteArray := method_6_code
def yL_setKeep : MethodName := ⟨RL, "setKeep", "(LMeridianSeries;II[J)I"⟩
abbrev cL_setQuery : ByteArray := method_7_code
def yL_setQuery : MethodName := ⟨RL, "setQuery", "(LMeridianSeries;IIII[J)I"⟩
abbrev cL_put : ByteArray := method_8_code
def yL_put : MethodName := ⟨RL, "put", "(LMeridianSeries;III[J)I"⟩
abbrev cL_putRow : ByteArray := method_9_code
def yL_putRow : MethodName := ⟨RL, "putRow", "(LMeridianSeries;IIIIII[J)I"⟩
abbrev cL_goOn : ByteArray := method_10_code
def yL_goOn : MethodName := ⟨RL, "goOn", "(LMeridianSeries;I[J)I"⟩
abbrev cL_blocks : ByteArray := method_11_code
def yL_blocks : MethodName := ⟨RL, "blocks", "(LMeridianSeries;I[J)I"⟩
abbrev cL_size : ByteArray := method_12_code
def yL_size : MethodName := ⟨RL, "size", "(LMeridianSeries;II[J)I"⟩
abbrev cL_point : ByteArray := method_13_code
def yL_point : MethodName := ⟨RL, "point", "(LMeridianSeries;IIIZ[J)I"⟩
abbrev cL_bits : ByteArray := method_14_code
def yL_bits : MethodName := ⟨RL, "bits", "(LMeridianSeries;II[J)I"⟩
abbrev cL_word : ByteArray := method_15_code
def yL_word : MethodName := ⟨RL, "word", "(LMeridianSeries;III[J)I"⟩
abbrev cL_buckets : ByteArray := method_16_code
def yL_buckets : MethodName := ⟨RL, "buckets", "(LMeridianSeries;IZ[J)I"⟩
abbrev cL_ofBucket : ByteArray := method_17_code
def yL_ofBucket : MethodName := ⟨RL, "ofBucket", "(LMeridianSeries;IZII[J)I"⟩
abbrev cL_items : ByteArray := method_18_code
def yL_items : MethodName := ⟨RL, "items", "(LMeridianSeries;I[J)I"⟩
abbrev cL_ask : ByteArray := method_19_code
def yL_ask : MethodName := ⟨RL, "ask", "(LMeridianSeries;II[J)I"⟩
abbrev cL_over : ByteArray := method_20_code
def yL_over : MethodName := ⟨RL, "over", "(LMeridianSeries;ZIII[J)I"⟩
abbrev cL_gaps : ByteArray := method_21_code
def yL_gaps : MethodName := ⟨RL, "gaps", "(LMeridianSeries;II[J)I"⟩
abbrev cL_lastAt : ByteArray := method_22_code
def yL_lastAt : MethodName := ⟨RL, "lastAt", "(LMeridianSeries;II[J)I"⟩
abbrev cL_addRule : ByteArray := method_23_code
def yL_addRule : MethodName := ⟨RL, "addRule", "(LMeridianSeries;IIIIZII[J)I"⟩
abbrev cL_stateOf : ByteArray := method_24_code
def yL_stateOf : MethodName := ⟨RL, "stateOf", "(LMeridianSeries;I[J)I"⟩
abbrev cL_inRow : ByteArray := method_25_code
def yL_inRow : MethodName := ⟨RL, "inRow", "(LMeridianSeries;I[J)I"⟩
abbrev cL_seenBy : ByteArray := method_26_code
def yL_seenBy : MethodName := ⟨RL, "seenBy", "(LMeridianSeries;I[J)I"⟩
abbrev cL_event : ByteArray := method_27_code
def yL_event : MethodName := ⟨RL, "event", "(LMeridianSeries;II[J)I"⟩
abbrev cL_bitsWith : ByteArray := method_28_code
def yL_bitsWith : MethodName := ⟨RL, "bitsWith", "(LMeridianSeries;III[J)I"⟩
abbrev cL_firesIn : ByteArray := method_29_code
def yL_firesIn : MethodName := ⟨RL, "firesIn", "(LMeridianSeries;I[J)I"⟩
abbrev cL_wouldRoll : ByteArray := method_30_code
def yL_wouldRoll : MethodName := ⟨RL, "wouldRoll", "(LMeridianSeries;I[J)I"⟩
abbrev cL_law : ByteArray := code
theorem dX0_init_0 : decode cX0_init 0 = .ok (.aload_n 0, 1) := by decide +kernel
theorem dX0_init_1 : decode cX0_init 1 = .ok (.invokespecial 3, 3) := by decide +kernel
theorem dX0_init_4 : decode cX0_init 4 = .ok (.aload_n 0, 1) := by decide +kernel
theorem dX0_init_5 : decode cX0_init 5 = .ok (.sipush 175, 3) := by decide +kernel
theorem dX0_init_8 : decode cX0_init 8 = .ok (.newarray .int, 2) := by decide +kernel
theorem dX0_init_10 : decode cX0_init 10 = .ok (.putfield 11, 3) := by decide +kernel
theorem dX0_init_13 : decode cX0_init 13 = .ok (.return_, 1) := by decide +kernel
theorem dX1_init_0 : decode cX1_init 0 = .ok (.aload_n 0, 1) := by decide +kernel
theorem dX1_init_1 : decode cX1_init 1 = .ok (.invokespecial 3, 3) := by decide +kernel
theorem dX1_init_4 : decode cX1_init 4 = .ok (.aload_n 0, 1) := by decide +kernel
theorem dX1_init_5 : decode cX1_init 5 = .ok (.bipush 60, 2) := by decide +kernel
theorem dX1_init_7 : decode cX1_init 7 = .ok (.newarray .int, 2) := by decide +kernel
theorem dX1_init_9 : decode cX1_init 9 = .ok (.putfield 9, 3) := by decide +kernel
theorem dX1_init_12 : decode cX1_init 12 = .ok (.aload_n 0, 1) := by decide +kernel
theorem dX1_init_13 : decode cX1_init 13 = .ok (.iconst 0, 1) := by decide +kernel
theorem dX1_init_14 : decode cX1_init 14 = .ok (.putfield 15, 3) := by decide +kernel
theorem dX1_init_17 : decode cX1_init 17 = .ok (.aload_n 0, 1) := by decide +kernel
theorem dX1_init_18 : decode cX1_init 18 = .ok (.iconst 0, 1) := by decide +kernel
theorem dX1_init_19 : decode cX1_init 19 = .ok (.putfield 19, 3) := by decide +kernel
theorem dX1_init_22 : decode cX1_init 22 = .ok (.return_, 1) := by decide +kernel
theorem dX2_init_0 : decode cX2_init 0 = .ok (.aload_n 0, 1) := by decide +kernel
theorem dX2_init_1 : decode cX2_init 1 = .ok (.invokespecial 1, 3) := by decide +kernel
theorem dX2_init_4 : decode cX2_init 4 = .ok (.aload_n 0, 1) := by decide +kernel
theorem dX2_init_5 : decode cX2_init 5 = .ok (.iconst 0, 1) := by decide +kernel
theorem dX2_init_6 : decode cX2_init 6 = .ok (.putfield 7, 3) := by decide +kernel
theorem dX2_init_9 : decode cX2_init 9 = .ok (.return_, 1) := by decide +kernel
theorem dX3_init_0 : decode cX3_init 0 = .ok (.aload_n 0, 1) := by decide +kernel
theorem dX3_init_1 : decode cX3_init 1 = .ok (.invokespecial 3, 3) := by decide +kernel
theorem dX3_init_4 : decode cX3_init 4 = .ok (.aload_n 0, 1) := by decide +kernel
theorem dX3_init_5 : decode cX3_init 5 = .ok (.bipush 48, 2) := by decide +kernel
theorem dX3_init_7 : decode cX3_init 7 = .ok (.newarray .int, 2) := by decide +kernel
theorem dX3_init_9 : decode cX3_init 9 = .ok (.putfield 11, 3) := by decide +kernel
theorem dX3_init_12 : decode cX3_init 12 = .ok (.aload_n 0, 1) := by decide +kernel
theorem dX3_init_13 : decode cX3_init 13 = .ok (.iconst 0, 1) := by decide +kernel
theorem dX3_init_14 : decode cX3_init 14 = .ok (.putfield 15, 3) := by decide +kernel
theorem dX3_init_17 : decode cX3_init 17 = .ok (.aload_n 0, 1) := by decide +kernel
theorem dX3_init_18 : decode cX3_init 18 = .ok (.iconst 0, 1) := by decide +kernel
theorem dX3_init_19 : decode cX3_init 19 = .ok (.putfield 19, 3) := by decide +kernel
theorem dX3_init_22 : decode cX3_init 22 = .ok (.aload_n 0, 1) := by decide +kernel
theorem dX3_init_23 : decode cX3_init 23 = .ok (.iconst 0, 1) := by decide +kernel
theorem dX3_init_24 : decode cX3_init 24 = .ok (.putfield 22, 3) := by decide +kernel
theorem dX3_init_27 : decode cX3_init 27 = .ok (.aload_n 0, 1) := by decide +kernel
theorem dX3_init_28 : decode cX3_init 28 = .ok (.iconst 0, 1) := by decide +kernel
theorem dX3_init_29 : decode cX3_init 29 = .ok (.putfield 25, 3) := by decide +kernel
theorem dX3_init_32 : decode cX3_init 32 = .ok (.aload_n 0, 1) := by decide +kernel
theorem dX3_init_33 : decode cX3_init 33 = .ok (.iconst 0, 1) := by decide +kernel
theorem dX3_init_34 : decode cX3_init 34 = .ok (.putfield 28, 3) := by decide +kernel
theorem dX3_init_37 : decode cX3_init 37 = .ok (.return_, 1) := by decide +kernel
theorem dX4_init_0 : decode cX4_init 0 = .ok (.aload_n 0, 1) := by decide +kernel
theorem dX4_init_1 : decode cX4_init 1 = .ok (.invokespecial 5, 3) := by decide +kernel
theorem dX4_init_4 : decode cX4_init 4 = .ok (.aload_n 0, 1) := by decide +kernel
theorem dX4_init_5 : decode cX4_init 5 = .ok (.sipush 160, 3) := by decide +kernel
theorem dX4_init_8 : decode cX4_init 8 = .ok (.newarray .int, 2) := by decide +kernel
theorem dX4_init_10 : decode cX4_init 10 = .ok (.putfield 11, 3) := by decide +kernel
theorem dX4_init_13 : decode cX4_init 13 = .ok (.aload_n 0, 1) := by decide +kernel
theorem dX4_init_14 : decode cX4_init 14 = .ok (.sipush 160, 3) := by decide +kernel
theorem dX4_init_17 : decode cX4_init 17 = .ok (.newarray .int, 2) := by decide +kernel
theorem dX4_init_19 : decode cX4_init 19 = .ok (.putfield 15, 3) := by decide +kernel
theorem dX4_init_22 : decode cX4_init 22 = .ok (.aload_n 0, 1) := by decide +kernel
theorem dX4_init_23 : decode cX4_init 23 = .ok (.bipush 9, 2) := by decide +kernel
theorem dX4_init_25 : decode cX4_init 25 = .ok (.newarray .int, 2) := by decide +kernel
theorem dX4_init_27 : decode cX4_init 27 = .ok (.putfield 18, 3) := by decide +kernel
theorem dX4_init_30 : decode cX4_init 30 = .ok (.aload_n 0, 1) := by decide +kernel
theorem dX4_init_31 : decode cX4_init 31 = .ok (.iconst 0, 1) := by decide +kernel
theorem dX4_init_32 : decode cX4_init 32 = .ok (.putfield 21, 3) := by decide +kernel
theorem dX4_init_35 : decode cX4_init 35 = .ok (.aload_n 0, 1) := by decide +kernel
theorem dX4_init_36 : decode cX4_init 36 = .ok (.iconst 0, 1) := by decide +kernel
theorem dX4_init_37 : decode cX4_init 37 = .ok (.putfield 25, 3) := by decide +kernel
theorem dX4_init_40 : decode cX4_init 40 = .ok (.aload_n 0, 1) := by decide +kernel
theorem dX4_init_41 : decode cX4_init 41 = .ok (.iconst (-1), 1) := by decide +kernel
theorem dX4_init_42 : decode cX4_init 42 = .ok (.putfield 28, 3) := by decide +kernel
theorem dX4_init_45 : decode cX4_init 45 = .ok (.return_, 1) := by decide +kernel
theorem dX6_init_0 : decode cX6_init 0 = .ok (.aload_n 0, 1) := by decide +kernel
theorem dX6_init_1 : decode cX6_init 1 = .ok (.invokespecial 3, 3) := by decide +kernel
theorem dX6_init_4 : decode cX6_init 4 = .ok (.aload_n 0, 1) := by decide +kernel
theorem dX6_init_5 : decode cX6_init 5 = .ok (.new 9, 3) := by decide +kernel
theorem dX6_init_8 : decode cX6_init 8 = .ok (.dup, 1) := by decide +kernel
theorem dX6_init_9 : decode cX6_init 9 = .ok (.invokespecial 11, 3) := by decide +kernel
theorem dX6_init_12 : decode cX6_init 12 = .ok (.putfield 12, 3) := by decide +kernel
theorem dX6_init_15 : decode cX6_init 15 = .ok (.aload_n 0, 1) := by decide +kernel
theorem dX6_init_16 : decode cX6_init 16 = .ok (.new 18, 3) := by decide +kernel
theorem dX6_init_19 : decode cX6_init 19 = .ok (.dup, 1) := by decide +kernel
theorem dX6_init_20 : decode cX6_init 20 = .ok (.invokespecial 20, 3) := by decide +kernel
theorem dX6_init_23 : decode cX6_init 23 = .ok (.putfield 21, 3) := by decide +kernel
theorem dX6_init_26 : decode cX6_init 26 = .ok (.aload_n 0, 1) := by decide +kernel
theorem dX6_init_27 : decode cX6_init 27 = .ok (.new 18, 3) := by decide +kernel
theorem dX6_init_30 : decode cX6_init 30 = .ok (.dup, 1) := by decide +kernel
theorem dX6_init_31 : decode cX6_init 31 = .ok (.invokespecial 20, 3) := by decide +kernel
theorem dX6_init_34 : decode cX6_init 34 = .ok (.putfield 25, 3) := by decide +kernel
theorem dX6_init_37 : decode cX6_init 37 = .ok (.aload_n 0, 1) := by decide +kernel
theorem dX6_init_38 : decode cX6_init 38 = .ok (.iload_n 1, 1) := by decide +kernel
theorem dX6_init_39 : decode cX6_init 39 = .ok (.putfield 28, 3) := by decide +kernel
theorem dX6_init_42 : decode cX6_init 42 = .ok (.aload_n 0, 1) := by decide +kernel
theorem dX6_init_43 : decode cX6_init 43 = .ok (.iload_n 2, 1) := by decide +kernel
theorem dX6_init_44 : decode cX6_init 44 = .ok (.putfield 32, 3) := by decide +kernel
theorem dX6_init_47 : decode cX6_init 47 = .ok (.return_, 1) := by decide +kernel
theorem dX7_init_0 : decode cX7_init 0 = .ok (.aload_n 0, 1) := by decide +kernel
theorem dX7_init_1 : decode cX7_init 1 = .ok (.invokespecial 1, 3) := by decide +kernel
theorem dX7_init_4 : decode cX7_init 4 = .ok (.aload_n 0, 1) := by decide +kernel
theorem dX7_init_5 : decode cX7_init 5 = .ok (.bipush 8, 2) := by decide +kernel
theorem dX7_init_7 : decode cX7_init 7 = .ok (.putfield 7, 3) := by decide +kernel
theorem dX7_init_10 : decode cX7_init 10 = .ok (.aload_n 0, 1) := by decide +kernel
theorem dX7_init_11 : decode cX7_init 11 = .ok (.bipush 10, 2) := by decide +kernel
theorem dX7_init_13 : decode cX7_init 13 = .ok (.putfield 13, 3) := by decide +kernel
theorem dX7_init_16 : decode cX7_init 16 = .ok (.aload_n 0, 1) := by decide +kernel
theorem dX7_init_17 : decode cX7_init 17 = .ok (.bipush 6, 2) := by decide +kernel
theorem dX7_init_19 : decode cX7_init 19 = .ok (.putfield 16, 3) := by decide +kernel
theorem dX7_init_22 : decode cX7_init 22 = .ok (.aload_n 0, 1) := by decide +kernel
theorem dX7_init_23 : decode cX7_init 23 = .ok (.iconst 0, 1) := by decide +kernel
theorem dX7_init_24 : decode cX7_init 24 = .ok (.putfield 19, 3) := by decide +kernel
theorem dX7_init_27 : decode cX7_init 27 = .ok (.aload_n 0, 1) := by decide +kernel
theorem dX7_init_28 : decode cX7_init 28 = .ok (.iconst 0, 1) := by decide +kernel
theorem dX7_init_29 : decode cX7_init 29 = .ok (.putfield 22, 3) := by decide +kernel
theorem dX7_init_32 : decode cX7_init 32 = .ok (.return_, 1) := by decide +kernel
theorem dX8_init_0 : decode cX8_init 0 = .ok (.aload_n 0, 1) := by decide +kernel
theorem dX8_init_1 : decode cX8_init 1 = .ok (.invokespecial 1, 3) := by decide +kernel
theorem dX8_init_4 : decode cX8_init 4 = .ok (.aload_n 0, 1) := by decide +kernel
theorem dX8_init_5 : decode cX8_init 5 = .ok (.new 7, 3) := by decide +kernel
theorem dX8_init_8 : decode cX8_init 8 = .ok (.dup, 1) := by decide +kernel
theorem dX8_init_9 : decode cX8_init 9 = .ok (.invokespecial 9, 3) := by decide +kernel
theorem dX8_init_12 : decode cX8_init 12 = .ok (.putfield 10, 3) := by decide +kernel
theorem dX8_init_15 : decode cX8_init 15 = .ok (.aload_n 0, 1) := by decide +kernel
theorem dX8_init_16 : decode cX8_init 16 = .ok (.new 7, 3) := by decide +kernel
theorem dX8_init_19 : decode cX8_init 19 = .ok (.dup, 1) := by decide +kernel
theorem dX8_init_20 : decode cX8_init 20 = .ok (.invokespecial 9, 3) := by decide +kernel
theorem dX8_init_23 : decode cX8_init 23 = .ok (.putfield 16, 3) := by decide +kernel
theorem dX8_init_26 : decode cX8_init 26 = .ok (.aload_n 0, 1) := by decide +kernel
theorem dX8_init_27 : decode cX8_init 27 = .ok (.new 19, 3) := by decide +kernel
theorem dX8_init_30 : decode cX8_init 30 = .ok (.dup, 1) := by decide +kernel
theorem dX8_init_31 : decode cX8_init 31 = .ok (.invokespecial 21, 3) := by decide +kernel
theorem dX8_init_34 : decode cX8_init 34 = .ok (.putfield 22, 3) := by decide +kernel
theorem dX8_init_37 : decode cX8_init 37 = .ok (.aload_n 0, 1) := by decide +kernel
theorem dX8_init_38 : decode cX8_init 38 = .ok (.iconst 0, 1) := by decide +kernel
theorem dX8_init_39 : decode cX8_init 39 = .ok (.putfield 26, 3) := by decide +kernel
theorem dX8_init_42 : decode cX8_init 42 = .ok (.aload_n 0, 1) := by decide +kernel
theorem dX8_init_43 : decode cX8_init 43 = .ok (.aload_n 1, 1) := by decide +kernel
theorem dX8_init_44 : decode cX8_init 44 = .ok (.putfield 30, 3) := by decide +kernel
theorem dX8_init_47 : decode cX8_init 47 = .ok (.return_, 1) := by decide +kernel
theorem dX8_hasBucket_0 : decode cX8_hasBucket 0 = .ok (.iconst 0, 1) := by decide +kernel
theorem dX8_hasBucket_1 : decode cX8_hasBucket 1 = .ok (.istore_n 1, 1) := by decide +kernel
theorem dX8_hasBucket_2 : decode cX8_hasBucket 2 = .ok (.iload_n 1, 1) := by decide +kernel
theorem dX8_hasBucket_3 : decode cX8_hasBucket 3 = .ok (.aload_n 0, 1) := by decide +kernel
theorem dX8_hasBucket_4 : decode cX8_hasBucket 4 = .ok (.getfield 10, 3) := by decide +kernel
theorem dX8_hasBucket_7 : decode cX8_hasBucket 7 = .ok (.invokevirtual 34, 3) := by decide +kernel
theorem dX8_hasBucket_10 : decode cX8_hasBucket 10 = .ok (.if_icmp .ge 49, 3) := by decide +kernel
theorem dX8_hasBucket_59 : decode cX8_hasBucket 59 = .ok (.iconst 0, 1) := by decide +kernel
theorem dX8_hasBucket_60 : decode cX8_hasBucket 60 = .ok (.ireturn, 1) := by decide +kernel
theorem dX8_goOnByOne_0 : decode cX8_goOnByOne 0 = .ok (.aload_n 0, 1) := by decide +kernel
theorem dX8_goOnByOne_1 : decode cX8_goOnByOne 1 = .ok (.dup, 1) := by decide +kernel
theorem dX8_goOnByOne_2 : decode cX8_goOnByOne 2 = .ok (.getfield 26, 3) := by decide +kernel
theorem dX8_goOnByOne_5 : decode cX8_goOnByOne 5 = .ok (.iconst 1, 1) := by decide +kernel
theorem dX8_goOnByOne_6 : decode cX8_goOnByOne 6 = .ok (.iadd, 1) := by decide +kernel
theorem dX8_goOnByOne_7 : decode cX8_goOnByOne 7 = .ok (.putfield 26, 3) := by decide +kernel
theorem dX8_goOnByOne_10 : decode cX8_goOnByOne 10 = .ok (.iconst 0, 1) := by decide +kernel
theorem dX8_goOnByOne_11 : decode cX8_goOnByOne 11 = .ok (.istore_n 1, 1) := by decide +kernel
theorem dX8_goOnByOne_12 : decode cX8_goOnByOne 12 = .ok (.iload_n 1, 1) := by decide +kernel
theorem dX8_goOnByOne_13 : decode cX8_goOnByOne 13 = .ok (.aload_n 0, 1) := by decide +kernel
theorem dX8_goOnByOne_14 : decode cX8_goOnByOne 14 = .ok (.getfield 10, 3) := by decide +kernel
theorem dX8_goOnByOne_17 : decode cX8_goOnByOne 17 = .ok (.invokevirtual 34, 3) := by decide +kernel
theorem dX8_goOnByOne_20 : decode cX8_goOnByOne 20 = .ok (.if_icmp .ge 31, 3) := by decide +kernel
theorem dX8_goOnByOne_51 : decode cX8_goOnByOne 51 = .ok (.iconst 0, 1) := by decide +kernel
theorem dX8_goOnByOne_52 : decode cX8_goOnByOne 52 = .ok (.istore_n 1, 1) := by decide +kernel
theorem dX8_goOnByOne_53 : decode cX8_goOnByOne 53 = .ok (.iload_n 1, 1) := by decide +kernel
theorem dX8_goOnByOne_54 : decode cX8_goOnByOne 54 = .ok (.aload_n 0, 1) := by decide +kernel
theorem dX8_goOnByOne_55 : decode cX8_goOnByOne 55 = .ok (.getfield 16, 3) := by decide +kernel
theorem dX8_goOnByOne_58 : decode cX8_goOnByOne 58 = .ok (.invokevirtual 34, 3) := by decide +kernel
theorem dX8_goOnByOne_61 : decode cX8_goOnByOne 61 = .ok (.if_icmp .ge 63, 3) := by decide +kernel
theorem dX8_goOnByOne_124 : decode cX8_goOnByOne 124 = .ok (.return_, 1) := by decide +kernel
theorem dX8_copyFrom_0 : decode cX8_copyFrom 0 = .ok (.aload_n 0, 1) := by decide +kernel
theorem dX8_copyFrom_1 : decode cX8_copyFrom 1 = .ok (.aload_n 1, 1) := by decide +kernel
theorem dX8_copyFrom_2 : decode cX8_copyFrom 2 = .ok (.getfield 26, 3) := by decide +kernel
theorem dX8_copyFrom_5 : decode cX8_copyFrom 5 = .ok (.putfield 26, 3) := by decide +kernel
theorem dX8_copyFrom_8 : decode cX8_copyFrom 8 = .ok (.iconst 0, 1) := by decide +kernel
theorem dX8_copyFrom_9 : decode cX8_copyFrom 9 = .ok (.istore_n 2, 1) := by decide +kernel
theorem dX8_copyFrom_10 : decode cX8_copyFrom 10 = .ok (.iload_n 2, 1) := by decide +kernel
theorem dX8_copyFrom_11 : decode cX8_copyFrom 11 = .ok (.aload_n 0, 1) := by decide +kernel
theorem dX8_copyFrom_12 : decode cX8_copyFrom 12 = .ok (.getfield 10, 3) := by decide +kernel
theorem dX8_copyFrom_15 : decode cX8_copyFrom 15 = .ok (.invokevirtual 34, 3) := by decide +kernel
theorem dX8_copyFrom_18 : decode cX8_copyFrom 18 = .ok (.if_icmp .ge 45, 3) := by decide +kernel
theorem dX8_copyFrom_63 : decode cX8_copyFrom 63 = .ok (.iconst 0, 1) := by decide +kernel
theorem dX8_copyFrom_64 : decode cX8_copyFrom 64 = .ok (.istore_n 2, 1) := by decide +kernel
theorem dX8_copyFrom_65 : decode cX8_copyFrom 65 = .ok (.iload_n 2, 1) := by decide +kernel
theorem dX8_copyFrom_66 : decode cX8_copyFrom 66 = .ok (.aload_n 0, 1) := by decide +kernel
theorem dX8_copyFrom_67 : decode cX8_copyFrom 67 = .ok (.getfield 16, 3) := by decide +kernel
theorem dX8_copyFrom_70 : decode cX8_copyFrom 70 = .ok (.invokevirtual 34, 3) := by decide +kernel
theorem dX8_copyFrom_73 : decode cX8_copyFrom 73 = .ok (.if_icmp .ge 45, 3) := by decide +kernel
theorem dX8_copyFrom_118 : decode cX8_copyFrom 118 = .ok (.return_, 1) := by decide +kernel
theorem dX9_init_0 : decode cX9_init 0 = .ok (.aload_n 0, 1) := by decide +kernel
theorem dX9_init_1 : decode cX9_init 1 = .ok (.invokespecial 1, 3) := by decide +kernel
theorem dX9_init_4 : decode cX9_init 4 = .ok (.aload_n 0, 1) := by decide +kernel
theorem dX9_init_5 : decode cX9_init 5 = .ok (.new 7, 3) := by decide +kernel
theorem dX9_init_8 : decode cX9_init 8 = .ok (.dup, 1) := by decide +kernel
theorem dX9_init_9 : decode cX9_init 9 = .ok (.invokespecial 9, 3) := by decide +kernel
theorem dX9_init_12 : decode cX9_init 12 = .ok (.putfield 10, 3) := by decide +kernel
theorem dX9_init_15 : decode cX9_init 15 = .ok (.aload_n 0, 1) := by decide +kernel
theorem dX9_init_16 : decode cX9_init 16 = .ok (.new 16, 3) := by decide +kernel
theorem dX9_init_19 : decode cX9_init 19 = .ok (.dup, 1) := by decide +kernel
theorem dX9_init_20 : decode cX9_init 20 = .ok (.aload_n 0, 1) := by decide +kernel
theorem dX9_init_21 : decode cX9_init 21 = .ok (.getfield 10, 3) := by decide +kernel
theorem dX9_init_24 : decode cX9_init 24 = .ok (.invokespecial 18, 3) := by decide +kernel
theorem dX9_init_27 : decode cX9_init 27 = .ok (.putfield 21, 3) := by decide +kernel
theorem dX9_init_30 : decode cX9_init 30 = .ok (.aload_n 0, 1) := by decide +kernel
theorem dX9_init_31 : decode cX9_init 31 = .ok (.new 16, 3) := by decide +kernel
theorem dX9_init_34 : decode cX9_init 34 = .ok (.dup, 1) := by decide +kernel
theorem dX9_init_35 : decode cX9_init 35 = .ok (.aload_n 0, 1) := by decide +kernel
theorem dX9_init_36 : decode cX9_init 36 = .ok (.getfield 10, 3) := by decide +kernel
theorem dX9_init_39 : decode cX9_init 39 = .ok (.invokespecial 18, 3) := by decide +kernel
theorem dX9_init_42 : decode cX9_init 42 = .ok (.putfield 25, 3) := by decide +kernel
theorem dX9_init_45 : decode cX9_init 45 = .ok (.aload_n 0, 1) := by decide +kernel
theorem dX9_init_46 : decode cX9_init 46 = .ok (.new 28, 3) := by decide +kernel
theorem dX9_init_49 : decode cX9_init 49 = .ok (.dup, 1) := by decide +kernel
theorem dX9_init_50 : decode cX9_init 50 = .ok (.invokespecial 30, 3) := by decide +kernel
theorem dX9_init_53 : decode cX9_init 53 = .ok (.putfield 31, 3) := by decide +kernel
theorem dX9_init_56 : decode cX9_init 56 = .ok (.aload_n 0, 1) := by decide +kernel
theorem dX9_init_57 : decode cX9_init 57 = .ok (.iconst 0, 1) := by decide +kernel
theorem dX9_init_58 : decode cX9_init 58 = .ok (.putfield 35, 3) := by decide +kernel
theorem dX9_init_61 : decode cX9_init 61 = .ok (.aload_n 0, 1) := by decide +kernel
theorem dX9_init_62 : decode cX9_init 62 = .ok (.bipush 10, 2) := by decide +kernel
theorem dX9_init_64 : decode cX9_init 64 = .ok (.putfield 39, 3) := by decide +kernel
theorem dX9_init_67 : decode cX9_init 67 = .ok (.aload_n 0, 1) := by decide +kernel
theorem dX9_init_68 : decode cX9_init 68 = .ok (.iconst 1, 1) := by decide +kernel
theorem dX9_init_69 : decode cX9_init 69 = .ok (.putfield 42, 3) := by decide +kernel
theorem dX9_init_72 : decode cX9_init 72 = .ok (.aload_n 0, 1) := by decide +kernel
theorem dX9_init_73 : decode cX9_init 73 = .ok (.iconst 0, 1) := by decide +kernel
theorem dX9_init_74 : decode cX9_init 74 = .ok (.putfield 45, 3) := by decide +kernel
theorem dX9_init_77 : decode cX9_init 77 = .ok (.aload_n 0, 1) := by decide +kernel
theorem dX9_init_78 : decode cX9_init 78 = .ok (.iconst 0, 1) := by decide +kernel
theorem dX9_init_79 : decode cX9_init 79 = .ok (.putfield 48, 3) := by decide +kernel
theorem dX9_init_82 : decode cX9_init 82 = .ok (.return_, 1) := by decide +kernel
theorem dX9_addSeries_0 : decode cX9_addSeries 0 = .ok (.iload_n 1, 1) := by decide +kernel
theorem dX9_addSeries_1 : decode cX9_addSeries 1 = .ok (.i2l, 1) := by decide +kernel
theorem dX9_addSeries_2 : decode cX9_addSeries 2 = .ok (.iconst 0, 1) := by decide +kernel
theorem dX9_addSeries_3 : decode cX9_addSeries 3 = .ok (.bipush 9, 2) := by decide +kernel
theorem dX9_addSeries_5 : decode cX9_addSeries 5 = .ok (.invokestatic 51, 3) := by decide +kernel
theorem dX9_addSeries_8 : decode cX9_addSeries 8 = .ok (.ifCond .eq 18, 3) := by decide +kernel
theorem dX9_addSeries_11 : decode cX9_addSeries 11 = .ok (.iload_n 2, 1) := by decide +kernel
theorem dX9_addSeries_12 : decode cX9_addSeries 12 = .ok (.i2l, 1) := by decide +kernel
theorem dX9_addSeries_13 : decode cX9_addSeries 13 = .ok (.iconst 0, 1) := by decide +kernel
theorem dX9_addSeries_14 : decode cX9_addSeries 14 = .ok (.bipush 9, 2) := by decide +kernel
theorem dX9_addSeries_16 : decode cX9_addSeries 16 = .ok (.invokestatic 51, 3) := by decide +kernel
theorem dX9_addSeries_19 : decode cX9_addSeries 19 = .ok (.ifCond .eq 7, 3) := by decide +kernel
theorem dX9_addSeries_22 : decode cX9_addSeries 22 = .ok (.iconst 1, 1) := by decide +kernel
theorem dX9_addSeries_23 : decode cX9_addSeries 23 = .ok (.goto 4, 3) := by decide +kernel
theorem dX9_addSeries_26 : decode cX9_addSeries 26 = .ok (.iconst 0, 1) := by decide +kernel
theorem dX9_addSeries_27 : decode cX9_addSeries 27 = .ok (.invokestatic 55, 3) := by decide +kernel
theorem dX9_addSeries_30 : decode cX9_addSeries 30 = .ok (.aload_n 0, 1) := by decide +kernel
theorem dX9_addSeries_31 : decode cX9_addSeries 31 = .ok (.getfield 21, 3) := by decide +kernel
theorem dX9_addSeries_34 : decode cX9_addSeries 34 = .ok (.getfield 59, 3) := by decide +kernel
theorem dX9_addSeries_37 : decode cX9_addSeries 37 = .ok (.invokevirtual 63, 3) := by decide +kernel
theorem dX9_addSeries_40 : decode cX9_addSeries 40 = .ok (.istore_n 3, 1) := by decide +kernel
theorem dX9_addSeries_41 : decode cX9_addSeries 41 = .ok (.iload_n 3, 1) := by decide +kernel
theorem dX9_addSeries_42 : decode cX9_addSeries 42 = .ok (.bipush 6, 2) := by decide +kernel
theorem dX9_addSeries_44 : decode cX9_addSeries 44 = .ok (.if_icmp .ge 7, 3) := by decide +kernel
theorem dX9_addSeries_47 : decode cX9_addSeries 47 = .ok (.iconst 1, 1) := by decide +kernel
theorem dX9_addSeries_48 : decode cX9_addSeries 48 = .ok (.goto 4, 3) := by decide +kernel
theorem dX9_addSeries_52 : decode cX9_addSeries 52 = .ok (.invokestatic 69, 3) := by decide +kernel
theorem dX9_addSeries_55 : decode cX9_addSeries 55 = .ok (.aload_n 0, 1) := by decide +kernel
theorem dX9_addSeries_56 : decode cX9_addSeries 56 = .ok (.getfield 21, 3) := by decide +kernel
theorem dX9_addSeries_59 : decode cX9_addSeries 59 = .ok (.getfield 59, 3) := by decide +kernel
theorem dX9_addSeries_62 : decode cX9_addSeries 62 = .ok (.new 72, 3) := by decide +kernel
theorem dX9_addSeries_65 : decode cX9_addSeries 65 = .ok (.dup, 1) := by decide +kernel
theorem dX9_addSeries_66 : decode cX9_addSeries 66 = .ok (.iload_n 1, 1) := by decide +kernel
theorem dX9_addSeries_67 : decode cX9_addSeries 67 = .ok (.iload_n 2, 1) := by decide +kernel
theorem dX9_addSeries_68 : decode cX9_addSeries 68 = .ok (.invokespecial 74, 3) := by decide +kernel
theorem dX9_addSeries_71 : decode cX9_addSeries 71 = .ok (.invokevirtual 77, 3) := by decide +kernel
theorem dX9_addSeries_74 : decode cX9_addSeries 74 = .ok (.pop, 1) := by decide +kernel
theorem dX9_addSeries_75 : decode cX9_addSeries 75 = .ok (.aload_n 0, 1) := by decide +kernel
theorem dX9_addSeries_76 : decode cX9_addSeries 76 = .ok (.getfield 25, 3) := by decide +kernel
theorem dX9_addSeries_79 : decode cX9_addSeries 79 = .ok (.getfield 59, 3) := by decide +kernel
theorem dX9_addSeries_82 : decode cX9_addSeries 82 = .ok (.new 72, 3) := by decide +kernel
theorem dX9_addSeries_85 : decode cX9_addSeries 85 = .ok (.dup, 1) := by decide +kernel
theorem dX9_addSeries_86 : decode cX9_addSeries 86 = .ok (.iload_n 1, 1) := by decide +kernel
theorem dX9_addSeries_87 : decode cX9_addSeries 87 = .ok (.iload_n 2, 1) := by decide +kernel
theorem dX9_addSeries_88 : decode cX9_addSeries 88 = .ok (.invokespecial 74, 3) := by decide +kernel
theorem dX9_addSeries_91 : decode cX9_addSeries 91 = .ok (.invokevirtual 77, 3) := by decide +kernel
theorem dX9_addSeries_94 : decode cX9_addSeries 94 = .ok (.pop, 1) := by decide +kernel
theorem dX9_addSeries_95 : decode cX9_addSeries 95 = .ok (.iload_n 3, 1) := by decide +kernel
theorem dX9_addSeries_96 : decode cX9_addSeries 96 = .ok (.ireturn, 1) := by decide +kernel
theorem dX9_setSpan_0 : decode cX9_setSpan 0 = .ok (.iload_n 1, 1) := by decide +kernel
theorem dX9_setSpan_1 : decode cX9_setSpan 1 = .ok (.i2l, 1) := by decide +kernel
theorem dX9_setSpan_2 : decode cX9_setSpan 2 = .ok (.iconst 2, 1) := by decide +kernel
theorem dX9_setSpan_3 : decode cX9_setSpan 3 = .ok (.bipush 16, 2) := by decide +kernel
theorem dX9_setSpan_5 : decode cX9_setSpan 5 = .ok (.invokestatic 51, 3) := by decide +kernel
theorem dX9_setSpan_8 : decode cX9_setSpan 8 = .ok (.invokestatic 55, 3) := by decide +kernel
theorem dX9_setSpan_11 : decode cX9_setSpan 11 = .ok (.aload_n 0, 1) := by decide +kernel
theorem dX9_setSpan_12 : decode cX9_setSpan 12 = .ok (.getfield 10, 3) := by decide +kernel
theorem dX9_setSpan_15 : decode cX9_setSpan 15 = .ok (.getfield 81, 3) := by decide +kernel
theorem dX9_setSpan_18 : decode cX9_setSpan 18 = .ok (.istore_n 2, 1) := by decide +kernel
theorem dX9_setSpan_19 : decode cX9_setSpan 19 = .ok (.aload_n 0, 1) := by decide +kernel
theorem dX9_setSpan_20 : decode cX9_setSpan 20 = .ok (.getfield 10, 3) := by decide +kernel
theorem dX9_setSpan_23 : decode cX9_setSpan 23 = .ok (.iload_n 1, 1) := by decide +kernel
theorem dX9_setSpan_24 : decode cX9_setSpan 24 = .ok (.putfield 81, 3) := by decide +kernel
theorem dX9_setSpan_27 : decode cX9_setSpan 27 = .ok (.iload_n 2, 1) := by decide +kernel
theorem dX9_setSpan_28 : decode cX9_setSpan 28 = .ok (.ireturn, 1) := by decide +kernel
theorem dX9_setWidths_0 : decode cX9_setWidths 0 = .ok (.iload_n 1, 1) := by decide +kernel
theorem dX9_setWidths_1 : decode cX9_setWidths 1 = .ok (.i2l, 1) := by decide +kernel
theorem dX9_setWidths_2 : decode cX9_setWidths 2 = .ok (.iconst 2, 1) := by decide +kernel
theorem dX9_setWidths_3 : decode cX9_setWidths 3 = .ok (.bipush 100, 2) := by decide +kernel
theorem dX9_setWidths_5 : decode cX9_setWidths 5 = .ok (.invokestatic 51, 3) := by decide +kernel
theorem dX9_setWidths_8 : decode cX9_setWidths 8 = .ok (.ifCond .eq 18, 3) := by decide +kernel
theorem dX9_setWidths_11 : decode cX9_setWidths 11 = .ok (.iload_n 2, 1) := by decide +kernel
theorem dX9_setWidths_12 : decode cX9_setWidths 12 = .ok (.i2l, 1) := by decide +kernel
theorem dX9_setWidths_13 : decode cX9_setWidths 13 = .ok (.iconst 2, 1) := by decide +kernel
theorem dX9_setWidths_14 : decode cX9_setWidths 14 = .ok (.bipush 20, 2) := by decide +kernel
theorem dX9_setWidths_16 : decode cX9_setWidths 16 = .ok (.invokestatic 51, 3) := by decide +kernel
theorem dX9_setWidths_19 : decode cX9_setWidths 19 = .ok (.ifCond .eq 7, 3) := by decide +kernel
theorem dX9_setWidths_22 : decode cX9_setWidths 22 = .ok (.iconst 1, 1) := by decide +kernel
theorem dX9_setWidths_23 : decode cX9_setWidths 23 = .ok (.goto 4, 3) := by decide +kernel
theorem dX9_setWidths_26 : decode cX9_setWidths 26 = .ok (.iconst 0, 1) := by decide +kernel
theorem dX9_setWidths_27 : decode cX9_setWidths 27 = .ok (.invokestatic 55, 3) := by decide +kernel
theorem dX9_setWidths_30 : decode cX9_setWidths 30 = .ok (.aload_n 0, 1) := by decide +kernel
theorem dX9_setWidths_31 : decode cX9_setWidths 31 = .ok (.getfield 21, 3) := by decide +kernel
theorem dX9_setWidths_34 : decode cX9_setWidths 34 = .ok (.invokevirtual 84, 3) := by decide +kernel
theorem dX9_setWidths_37 : decode cX9_setWidths 37 = .ok (.ifCond .ne 7, 3) := by decide +kernel
theorem dX9_setWidths_40 : decode cX9_setWidths 40 = .ok (.iconst 1, 1) := by decide +kernel
theorem dX9_setWidths_41 : decode cX9_setWidths 41 = .ok (.goto 4, 3) := by decide +kernel
theorem dX9_setWidths_45 : decode cX9_setWidths 45 = .ok (.invokestatic 69, 3) := by decide +kernel
theorem dX9_setWidths_48 : decode cX9_setWidths 48 = .ok (.aload_n 0, 1) := by decide +kernel
theorem dX9_setWidths_49 : decode cX9_setWidths 49 = .ok (.getfield 10, 3) := by decide +kernel
theorem dX9_setWidths_52 : decode cX9_setWidths 52 = .ok (.getfield 88, 3) := by decide +kernel
theorem dX9_setWidths_55 : decode cX9_setWidths 55 = .ok (.istore_n 3, 1) := by decide +kernel
theorem dX9_setWidths_56 : decode cX9_setWidths 56 = .ok (.aload_n 0, 1) := by decide +kernel
theorem dX9_setWidths_57 : decode cX9_setWidths 57 = .ok (.getfield 10, 3) := by decide +kernel
theorem dX9_setWidths_60 : decode cX9_setWidths 60 = .ok (.iload_n 1, 1) := by decide +kernel
theorem dX9_setWidths_61 : decode cX9_setWidths 61 = .ok (.putfield 88, 3) := by decide +kernel
theorem dX9_setWidths_64 : decode cX9_setWidths 64 = .ok (.aload_n 0, 1) := by decide +kernel
theorem dX9_setWidths_65 : decode cX9_setWidths 65 = .ok (.getfield 10, 3) := by decide +kernel
theorem dX9_setWidths_68 : decode cX9_setWidths 68 = .ok (.iload_n 2, 1) := by decide +kernel
theorem dX9_setWidths_69 : decode cX9_setWidths 69 = .ok (.putfield 91, 3) := by decide +kernel
theorem dX9_setWidths_72 : decode cX9_setWidths 72 = .ok (.iload_n 3, 1) := by decide +kernel
theorem dX9_setWidths_73 : decode cX9_setWidths 73 = .ok (.ireturn, 1) := by decide +kernel
theorem dX9_setKeep_0 : decode cX9_setKeep 0 = .ok (.iload_n 1, 1) := by decide +kernel
theorem dX9_setKeep_1 : decode cX9_setKeep 1 = .ok (.i2l, 1) := by decide +kernel
theorem dX9_setKeep_2 : decode cX9_setKeep 2 = .ok (.iconst 0, 1) := by decide +kernel
theorem dX9_setKeep_3 : decode cX9_setKeep 3 = .ok (.sipush 10000, 3) := by decide +kernel
theorem dX9_setKeep_6 : decode cX9_setKeep 6 = .ok (.invokestatic 51, 3) := by decide +kernel
theorem dX9_setKeep_9 : decode cX9_setKeep 9 = .ok (.ifCond .eq 19, 3) := by decide +kernel
theorem dX9_setKeep_12 : decode cX9_setKeep 12 = .ok (.iload_n 2, 1) := by decide +kernel
theorem dX9_setKeep_13 : decode cX9_setKeep 13 = .ok (.i2l, 1) := by decide +kernel
theorem dX9_setKeep_14 : decode cX9_setKeep 14 = .ok (.iconst 0, 1) := by decide +kernel
theorem dX9_setKeep_15 : decode cX9_setKeep 15 = .ok (.sipush 10000, 3) := by decide +kernel
theorem dX9_setKeep_18 : decode cX9_setKeep 18 = .ok (.invokestatic 51, 3) := by decide +kernel
theorem dX9_setKeep_21 : decode cX9_setKeep 21 = .ok (.ifCond .eq 7, 3) := by decide +kernel
theorem dX9_setKeep_24 : decode cX9_setKeep 24 = .ok (.iconst 1, 1) := by decide +kernel
theorem dX9_setKeep_25 : decode cX9_setKeep 25 = .ok (.goto 4, 3) := by decide +kernel
theorem dX9_setKeep_28 : decode cX9_setKeep 28 = .ok (.iconst 0, 1) := by decide +kernel
theorem dX9_setKeep_29 : decode cX9_setKeep 29 = .ok (.invokestatic 55, 3) := by decide +kernel
theorem dX9_setKeep_32 : decode cX9_setKeep 32 = .ok (.aload_n 0, 1) := by decide +kernel
theorem dX9_setKeep_33 : decode cX9_setKeep 33 = .ok (.getfield 10, 3) := by decide +kernel
theorem dX9_setKeep_36 : decode cX9_setKeep 36 = .ok (.getfield 94, 3) := by decide +kernel
theorem dX9_setKeep_39 : decode cX9_setKeep 39 = .ok (.istore_n 3, 1) := by decide +kernel
theorem dX9_setKeep_40 : decode cX9_setKeep 40 = .ok (.aload_n 0, 1) := by decide +kernel
theorem dX9_setKeep_41 : decode cX9_setKeep 41 = .ok (.getfield 10, 3) := by decide +kernel
theorem dX9_setKeep_44 : decode cX9_setKeep 44 = .ok (.iload_n 1, 1) := by decide +kernel
theorem dX9_setKeep_45 : decode cX9_setKeep 45 = .ok (.putfield 94, 3) := by decide +kernel
theorem dX9_setKeep_48 : decode cX9_setKeep 48 = .ok (.aload_n 0, 1) := by decide +kernel
theorem dX9_setKeep_49 : decode cX9_setKeep 49 = .ok (.getfield 10, 3) := by decide +kernel
theorem dX9_setKeep_52 : decode cX9_setKeep 52 = .ok (.iload_n 2, 1) := by decide +kernel
theorem dX9_setKeep_53 : decode cX9_setKeep 53 = .ok (.putfield 97, 3) := by decide +kernel
theorem dX9_setKeep_56 : decode cX9_setKeep 56 = .ok (.iload_n 3, 1) := by decide +kernel
theorem dX9_setKeep_57 : decode cX9_setKeep 57 = .ok (.ireturn, 1) := by decide +kernel
theorem dX9_setQuery_0 : decode cX9_setQuery 0 = .ok (.iload_n 1, 1) := by decide +kernel
theorem dX9_setQuery_1 : decode cX9_setQuery 1 = .ok (.i2l, 1) := by decide +kernel
theorem dX9_setQuery_2 : decode cX9_setQuery 2 = .ok (.iconst 0, 1) := by decide +kernel
theorem dX9_setQuery_3 : decode cX9_setQuery 3 = .ok (.ldc 100, 2) := by decide +kernel
theorem dX9_setQuery_5 : decode cX9_setQuery 5 = .ok (.invokestatic 51, 3) := by decide +kernel
theorem dX9_setQuery_8 : decode cX9_setQuery 8 = .ok (.ifCond .eq 19, 3) := by decide +kernel
theorem dX9_setQuery_11 : decode cX9_setQuery 11 = .ok (.iload_n 2, 1) := by decide +kernel
theorem dX9_setQuery_12 : decode cX9_setQuery 12 = .ok (.i2l, 1) := by decide +kernel
theorem dX9_setQuery_13 : decode cX9_setQuery 13 = .ok (.iconst 1, 1) := by decide +kernel
theorem dX9_setQuery_14 : decode cX9_setQuery 14 = .ok (.sipush 10000, 3) := by decide +kernel
theorem dX9_setQuery_17 : decode cX9_setQuery 17 = .ok (.invokestatic 51, 3) := by decide +kernel
theorem dX9_setQuery_20 : decode cX9_setQuery 20 = .ok (.ifCond .eq 7, 3) := by decide +kernel
theorem dX9_setQuery_23 : decode cX9_setQuery 23 = .ok (.iconst 1, 1) := by decide +kernel
theorem dX9_setQuery_24 : decode cX9_setQuery 24 = .ok (.goto 4, 3) := by decide +kernel
theorem dX9_setQuery_27 : decode cX9_setQuery 27 = .ok (.iconst 0, 1) := by decide +kernel
theorem dX9_setQuery_28 : decode cX9_setQuery 28 = .ok (.invokestatic 55, 3) := by decide +kernel
theorem dX9_setQuery_31 : decode cX9_setQuery 31 = .ok (.iload_n 3, 1) := by decide +kernel
theorem dX9_setQuery_32 : decode cX9_setQuery 32 = .ok (.i2l, 1) := by decide +kernel
theorem dX9_setQuery_33 : decode cX9_setQuery 33 = .ok (.iconst 0, 1) := by decide +kernel
theorem dX9_setQuery_34 : decode cX9_setQuery 34 = .ok (.bipush 7, 2) := by decide +kernel
theorem dX9_setQuery_36 : decode cX9_setQuery 36 = .ok (.invokestatic 51, 3) := by decide +kernel
theorem dX9_setQuery_39 : decode cX9_setQuery 39 = .ok (.ifCond .eq 18, 3) := by decide +kernel
theorem dX9_setQuery_42 : decode cX9_setQuery 42 = .ok (.iload 4, 2) := by decide +kernel
theorem dX9_setQuery_44 : decode cX9_setQuery 44 = .ok (.i2l, 1) := by decide +kernel
theorem dX9_setQuery_45 : decode cX9_setQuery 45 = .ok (.iconst 0, 1) := by decide +kernel
theorem dX9_setQuery_46 : decode cX9_setQuery 46 = .ok (.iconst 3, 1) := by decide +kernel
theorem dX9_setQuery_47 : decode cX9_setQuery 47 = .ok (.invokestatic 51, 3) := by decide +kernel
theorem dX9_setQuery_50 : decode cX9_setQuery 50 = .ok (.ifCond .eq 7, 3) := by decide +kernel
theorem dX9_setQuery_53 : decode cX9_setQuery 53 = .ok (.iconst 1, 1) := by decide +kernel
theorem dX9_setQuery_54 : decode cX9_setQuery 54 = .ok (.goto 4, 3) := by decide +kernel
theorem dX9_setQuery_57 : decode cX9_setQuery 57 = .ok (.iconst 0, 1) := by decide +kernel
theorem dX9_setQuery_58 : decode cX9_setQuery 58 = .ok (.invokestatic 55, 3) := by decide +kernel
theorem dX9_setQuery_61 : decode cX9_setQuery 61 = .ok (.aload_n 0, 1) := by decide +kernel
theorem dX9_setQuery_62 : decode cX9_setQuery 62 = .ok (.getfield 39, 3) := by decide +kernel
theorem dX9_setQuery_65 : decode cX9_setQuery 65 = .ok (.istore 5, 2) := by decide +kernel
theorem dX9_setQuery_67 : decode cX9_setQuery 67 = .ok (.aload_n 0, 1) := by decide +kernel
theorem dX9_setQuery_68 : decode cX9_setQuery 68 = .ok (.iload_n 1, 1) := by decide +kernel
theorem dX9_setQuery_69 : decode cX9_setQuery 69 = .ok (.putfield 35, 3) := by decide +kernel
theorem dX9_setQuery_72 : decode cX9_setQuery 72 = .ok (.aload_n 0, 1) := by decide +kernel
theorem dX9_setQuery_73 : decode cX9_setQuery 73 = .ok (.iload_n 2, 1) := by decide +kernel
theorem dX9_setQuery_74 : decode cX9_setQuery 74 = .ok (.putfield 39, 3) := by decide +kernel
theorem dX9_setQuery_77 : decode cX9_setQuery 77 = .ok (.aload_n 0, 1) := by decide +kernel
theorem dX9_setQuery_78 : decode cX9_setQuery 78 = .ok (.iload_n 3, 1) := by decide +kernel
theorem dX9_setQuery_79 : decode cX9_setQuery 79 = .ok (.putfield 42, 3) := by decide +kernel
theorem dX9_setQuery_82 : decode cX9_setQuery 82 = .ok (.aload_n 0, 1) := by decide +kernel
theorem dX9_setQuery_83 : decode cX9_setQuery 83 = .ok (.iload 4, 2) := by decide +kernel
theorem dX9_setQuery_85 : decode cX9_setQuery 85 = .ok (.putfield 45, 3) := by decide +kernel
theorem dX9_setQuery_88 : decode cX9_setQuery 88 = .ok (.iload 5, 2) := by decide +kernel
theorem dX9_setQuery_90 : decode cX9_setQuery 90 = .ok (.ireturn, 1) := by decide +kernel
theorem dX9_put_0 : decode cX9_put 0 = .ok (.aload_n 0, 1) := by decide +kernel
theorem dX9_put_1 : decode cX9_put 1 = .ok (.iload_n 1, 1) := by decide +kernel
theorem dX9_put_2 : decode cX9_put 2 = .ok (.invokevirtual 101, 3) := by decide +kernel
theorem dX9_putRow_0 : decode cX9_putRow 0 = .ok (.aload_n 0, 1) := by decide +kernel
theorem dX9_putRow_1 : decode cX9_putRow 1 = .ok (.iload_n 1, 1) := by decide +kernel
theorem dX9_putRow_2 : decode cX9_putRow 2 = .ok (.invokevirtual 101, 3) := by decide +kernel
theorem dX9_goOn_0 : decode cX9_goOn 0 = .ok (.aload_n 0, 1) := by decide +kernel
theorem dX9_goOn_1 : decode cX9_goOn 1 = .ok (.iload_n 1, 1) := by decide +kernel
theorem dX9_goOn_2 : decode cX9_goOn 2 = .ok (.invokevirtual 125, 3) := by decide +kernel
theorem dX9_goOn_5 : decode cX9_goOn 5 = .ok (.invokestatic 55, 3) := by decide +kernel
theorem dX9_goOn_8 : decode cX9_goOn 8 = .ok (.aload_n 0, 1) := by decide +kernel
theorem dX9_goOn_9 : decode cX9_goOn 9 = .ok (.getfield 21, 3) := by decide +kernel
theorem dX9_goOn_12 : decode cX9_goOn 12 = .ok (.getfield 129, 3) := by decide +kernel
theorem dX9_goOn_15 : decode cX9_goOn 15 = .ok (.getfield 133, 3) := by decide +kernel
theorem dX9_goOn_18 : decode cX9_goOn 18 = .ok (.istore_n 2, 1) := by decide +kernel
theorem dX9_goOn_19 : decode cX9_goOn 19 = .ok (.iconst 0, 1) := by decide +kernel
theorem dX9_goOn_20 : decode cX9_goOn 20 = .ok (.istore_n 3, 1) := by decide +kernel
theorem dX9_goOn_21 : decode cX9_goOn 21 = .ok (.iload_n 3, 1) := by decide +kernel
theorem dX9_goOn_22 : decode cX9_goOn 22 = .ok (.iload_n 1, 1) := by decide +kernel
theorem dX9_goOn_23 : decode cX9_goOn 23 = .ok (.if_icmp .ge 16, 3) := by decide +kernel
theorem dX9_goOn_26 : decode cX9_goOn 26 = .ok (.aload_n 0, 1) := by decide +kernel
theorem dX9_goOn_27 : decode cX9_goOn 27 = .ok (.getfield 21, 3) := by decide +kernel
theorem dX9_goOn_30 : decode cX9_goOn 30 = .ok (.invokevirtual 138, 3) := by decide +kernel
theorem dX9_goOn_33 : decode cX9_goOn 33 = .ok (.iinc 3 1, 3) := by decide +kernel
theorem dX9_goOn_36 : decode cX9_goOn 36 = .ok (.goto (-15), 3) := by decide +kernel
theorem dX9_goOn_39 : decode cX9_goOn 39 = .ok (.aload_n 0, 1) := by decide +kernel
theorem dX9_goOn_40 : decode cX9_goOn 40 = .ok (.getfield 21, 3) := by decide +kernel
theorem dX9_goOn_43 : decode cX9_goOn 43 = .ok (.getfield 129, 3) := by decide +kernel
theorem dX9_goOn_46 : decode cX9_goOn 46 = .ok (.getfield 133, 3) := by decide +kernel
theorem dX9_goOn_49 : decode cX9_goOn 49 = .ok (.iload_n 2, 1) := by decide +kernel
theorem dX9_goOn_50 : decode cX9_goOn 50 = .ok (.isub, 1) := by decide +kernel
theorem dX9_goOn_51 : decode cX9_goOn 51 = .ok (.ireturn, 1) := by decide +kernel
theorem dX9_now_0 : decode cX9_now 0 = .ok (.aload_n 0, 1) := by decide +kernel
theorem dX9_now_1 : decode cX9_now 1 = .ok (.getfield 21, 3) := by decide +kernel
theorem dX9_now_4 : decode cX9_now 4 = .ok (.getfield 141, 3) := by decide +kernel
theorem dX9_now_7 : decode cX9_now 7 = .ok (.ireturn, 1) := by decide +kernel
theorem dX9_series_0 : decode cX9_series 0 = .ok (.aload_n 0, 1) := by decide +kernel
theorem dX9_series_1 : decode cX9_series 1 = .ok (.getfield 21, 3) := by decide +kernel
theorem dX9_series_4 : decode cX9_series 4 = .ok (.getfield 59, 3) := by decide +kernel
theorem dX9_series_7 : decode cX9_series 7 = .ok (.invokevirtual 63, 3) := by decide +kernel
theorem dX9_series_10 : decode cX9_series 10 = .ok (.ireturn, 1) := by decide +kernel
theorem dX9_late_0 : decode cX9_late 0 = .ok (.aload_n 0, 1) := by decide +kernel
theorem dX9_late_1 : decode cX9_late 1 = .ok (.getfield 48, 3) := by decide +kernel
theorem dX9_late_4 : decode cX9_late 4 = .ok (.ireturn, 1) := by decide +kernel
theorem dX9_blocks_0 : decode cX9_blocks 0 = .ok (.aload_n 0, 1) := by decide +kernel
theorem dX9_blocks_1 : decode cX9_blocks 1 = .ok (.iload_n 1, 1) := by decide +kernel
theorem dX9_blocks_2 : decode cX9_blocks 2 = .ok (.invokevirtual 101, 3) := by decide +kernel
theorem dX9_size_0 : decode cX9_size 0 = .ok (.aload_n 0, 1) := by decide +kernel
theorem dX9_size_1 : decode cX9_size 1 = .ok (.iload_n 1, 1) := by decide +kernel
theorem dX9_size_2 : decode cX9_size 2 = .ok (.invokevirtual 101, 3) := by decide +kernel
theorem dX9_point_0 : decode cX9_point 0 = .ok (.aload_n 0, 1) := by decide +kernel
theorem dX9_point_1 : decode cX9_point 1 = .ok (.iload_n 1, 1) := by decide +kernel
theorem dX9_point_2 : decode cX9_point 2 = .ok (.invokevirtual 101, 3) := by decide +kernel
theorem dX9_bits_0 : decode cX9_bits 0 = .ok (.aload_n 0, 1) := by decide +kernel
theorem dX9_bits_1 : decode cX9_bits 1 = .ok (.iload_n 1, 1) := by decide +kernel
theorem dX9_bits_2 : decode cX9_bits 2 = .ok (.invokevirtual 101, 3) := by decide +kernel
theorem dX9_word_0 : decode cX9_word 0 = .ok (.aload_n 0, 1) := by decide +kernel
theorem dX9_word_1 : decode cX9_word 1 = .ok (.iload_n 1, 1) := by decide +kernel
theorem dX9_word_2 : decode cX9_word 2 = .ok (.invokevirtual 101, 3) := by decide +kernel
theorem dX9_buckets_0 : decode cX9_buckets 0 = .ok (.aload_n 0, 1) := by decide +kernel
theorem dX9_buckets_1 : decode cX9_buckets 1 = .ok (.iload_n 1, 1) := by decide +kernel
theorem dX9_buckets_2 : decode cX9_buckets 2 = .ok (.invokevirtual 101, 3) := by decide +kernel
theorem dX9_ofBucket_0 : decode cX9_ofBucket 0 = .ok (.aload_n 0, 1) := by decide +kernel
theorem dX9_ofBucket_1 : decode cX9_ofBucket 1 = .ok (.iload_n 1, 1) := by decide +kernel
theorem dX9_ofBucket_2 : decode cX9_ofBucket 2 = .ok (.invokevirtual 101, 3) := by decide +kernel
theorem dX9_items_0 : decode cX9_items 0 = .ok (.aload_n 0, 1) := by decide +kernel
theorem dX9_items_1 : decode cX9_items 1 = .ok (.iload_n 1, 1) := by decide +kernel
theorem dX9_items_2 : decode cX9_items 2 = .ok (.invokevirtual 101, 3) := by decide +kernel
theorem dX9_ratio_0 : decode cX9_ratio 0 = .ok (.iconst 0, 1) := by decide +kernel
theorem dX9_ratio_1 : decode cX9_ratio 1 = .ok (.istore_n 1, 1) := by decide +kernel
theorem dX9_ratio_2 : decode cX9_ratio 2 = .ok (.iconst 0, 1) := by decide +kernel
theorem dX9_ratio_3 : decode cX9_ratio 3 = .ok (.istore_n 2, 1) := by decide +kernel
theorem dX9_ratio_4 : decode cX9_ratio 4 = .ok (.iconst 0, 1) := by decide +kernel
theorem dX9_ratio_5 : decode cX9_ratio 5 = .ok (.istore_n 3, 1) := by decide +kernel
theorem dX9_ratio_6 : decode cX9_ratio 6 = .ok (.iload_n 3, 1) := by decide +kernel
theorem dX9_ratio_7 : decode cX9_ratio 7 = .ok (.aload_n 0, 1) := by decide +kernel
theorem dX9_ratio_8 : decode cX9_ratio 8 = .ok (.getfield 21, 3) := by decide +kernel
theorem dX9_ratio_11 : decode cX9_ratio 11 = .ok (.getfield 59, 3) := by decide +kernel
theorem dX9_ratio_14 : decode cX9_ratio 14 = .ok (.invokevirtual 63, 3) := by decide +kernel
theorem dX9_ratio_17 : decode cX9_ratio 17 = .ok (.if_icmp .ge 69, 3) := by decide +kernel
theorem dX9_ratio_86 : decode cX9_ratio 86 = .ok (.iload_n 2, 1) := by decide +kernel
theorem dX9_ratio_87 : decode cX9_ratio 87 = .ok (.ifCond .le 15, 3) := by decide +kernel
theorem dX9_ratio_102 : decode cX9_ratio 102 = .ok (.dconst 0, 1) := by decide +kernel
theorem dX9_ratio_103 : decode cX9_ratio 103 = .ok (.dreturn, 1) := by decide +kernel
theorem dX9_ask_0 : decode cX9_ask 0 = .ok (.aload_n 0, 1) := by decide +kernel
theorem dX9_ask_1 : decode cX9_ask 1 = .ok (.iload_n 1, 1) := by decide +kernel
theorem dX9_ask_2 : decode cX9_ask 2 = .ok (.invokevirtual 101, 3) := by decide +kernel
theorem dX9_over_0 : decode cX9_over 0 = .ok (.iload_n 2, 1) := by decide +kernel
theorem dX9_over_1 : decode cX9_over 1 = .ok (.i2l, 1) := by decide +kernel
theorem dX9_over_2 : decode cX9_over 2 = .ok (.iconst 0, 1) := by decide +kernel
theorem dX9_over_3 : decode cX9_over 3 = .ok (.bipush 9, 2) := by decide +kernel
theorem dX9_over_5 : decode cX9_over 5 = .ok (.invokestatic 51, 3) := by decide +kernel
theorem dX9_over_8 : decode cX9_over 8 = .ok (.ifCond .eq 17, 3) := by decide +kernel
theorem dX9_over_11 : decode cX9_over 11 = .ok (.iload_n 3, 1) := by decide +kernel
theorem dX9_over_12 : decode cX9_over 12 = .ok (.i2l, 1) := by decide +kernel
theorem dX9_over_13 : decode cX9_over 13 = .ok (.iconst 0, 1) := by decide +kernel
theorem dX9_over_14 : decode cX9_over 14 = .ok (.iconst 3, 1) := by decide +kernel
theorem dX9_over_15 : decode cX9_over 15 = .ok (.invokestatic 51, 3) := by decide +kernel
theorem dX9_over_18 : decode cX9_over 18 = .ok (.ifCond .eq 7, 3) := by decide +kernel
theorem dX9_over_21 : decode cX9_over 21 = .ok (.iconst 1, 1) := by decide +kernel
theorem dX9_over_22 : decode cX9_over 22 = .ok (.goto 4, 3) := by decide +kernel
theorem dX9_over_25 : decode cX9_over 25 = .ok (.iconst 0, 1) := by decide +kernel
theorem dX9_over_26 : decode cX9_over 26 = .ok (.invokestatic 55, 3) := by decide +kernel
theorem dX9_over_29 : decode cX9_over 29 = .ok (.iload 4, 2) := by decide +kernel
theorem dX9_over_31 : decode cX9_over 31 = .ok (.i2l, 1) := by decide +kernel
theorem dX9_over_32 : decode cX9_over 32 = .ok (.iconst 0, 1) := by decide +kernel
theorem dX9_over_33 : decode cX9_over 33 = .ok (.sipush 1000, 3) := by decide +kernel
theorem dX9_over_36 : decode cX9_over 36 = .ok (.invokestatic 51, 3) := by decide +kernel
theorem dX9_over_39 : decode cX9_over 39 = .ok (.invokestatic 55, 3) := by decide +kernel
theorem dX9_over_42 : decode cX9_over 42 = .ok (.iconst 0, 1) := by decide +kernel
theorem dX9_over_43 : decode cX9_over 43 = .ok (.istore 5, 2) := by decide +kernel
theorem dX9_over_45 : decode cX9_over 45 = .ok (.ldc 200, 2) := by decide +kernel
theorem dX9_over_47 : decode cX9_over 47 = .ok (.istore 6, 2) := by decide +kernel
theorem dX9_over_49 : decode cX9_over 49 = .ok (.iconst 0, 1) := by decide +kernel
theorem dX9_over_50 : decode cX9_over 50 = .ok (.istore 7, 2) := by decide +kernel
theorem dX9_over_52 : decode cX9_over 52 = .ok (.iload 7, 2) := by decide +kernel
theorem dX9_over_54 : decode cX9_over 54 = .ok (.aload_n 0, 1) := by decide +kernel
theorem dX9_over_55 : decode cX9_over 55 = .ok (.getfield 21, 3) := by decide +kernel
theorem dX9_over_58 : decode cX9_over 58 = .ok (.getfield 59, 3) := by decide +kernel
theorem dX9_over_61 : decode cX9_over 61 = .ok (.invokevirtual 63, 3) := by decide +kernel
theorem dX9_over_64 : decode cX9_over 64 = .ok (.if_icmp .ge 81, 3) := by decide +kernel
theorem dX9_over_145 : decode cX9_over 145 = .ok (.iload_n 3, 1) := by decide +kernel
theorem dX9_over_146 : decode cX9_over 146 = .ok (.iconst 3, 1) := by decide +kernel
theorem dX9_over_147 : decode cX9_over 147 = .ok (.if_icmp .ne 8, 3) := by decide +kernel
theorem dX9_over_150 : decode cX9_over 150 = .ok (.iload 5, 2) := by decide +kernel
theorem dX9_over_152 : decode cX9_over 152 = .ok (.goto 5, 3) := by decide +kernel
theorem dX9_over_155 : decode cX9_over 155 = .ok (.iload 6, 2) := by decide +kernel
theorem dX9_over_157 : decode cX9_over 157 = .ok (.ireturn, 1) := by decide +kernel
theorem dX9_gaps_0 : decode cX9_gaps 0 = .ok (.aload_n 0, 1) := by decide +kernel
theorem dX9_gaps_1 : decode cX9_gaps 1 = .ok (.iload_n 1, 1) := by decide +kernel
theorem dX9_gaps_2 : decode cX9_gaps 2 = .ok (.invokevirtual 101, 3) := by decide +kernel
theorem dX9_lastAt_0 : decode cX9_lastAt 0 = .ok (.aload_n 0, 1) := by decide +kernel
theorem dX9_lastAt_1 : decode cX9_lastAt 1 = .ok (.iload_n 1, 1) := by decide +kernel
theorem dX9_lastAt_2 : decode cX9_lastAt 2 = .ok (.invokevirtual 101, 3) := by decide +kernel
theorem dX9_addRule_0 : decode cX9_addRule 0 = .ok (.aload_n 0, 1) := by decide +kernel
theorem dX9_addRule_1 : decode cX9_addRule 1 = .ok (.iload_n 1, 1) := by decide +kernel
theorem dX9_addRule_2 : decode cX9_addRule 2 = .ok (.invokevirtual 101, 3) := by decide +kernel
theorem dX9_stateOf_0 : decode cX9_stateOf 0 = .ok (.aload_n 0, 1) := by decide +kernel
theorem dX9_stateOf_1 : decode cX9_stateOf 1 = .ok (.iload_n 1, 1) := by decide +kernel
theorem dX9_stateOf_2 : decode cX9_stateOf 2 = .ok (.invokevirtual 224, 3) := by decide +kernel
theorem dX9_inRow_0 : decode cX9_inRow 0 = .ok (.aload_n 0, 1) := by decide +kernel
theorem dX9_inRow_1 : decode cX9_inRow 1 = .ok (.iload_n 1, 1) := by decide +kernel
theorem dX9_inRow_2 : decode cX9_inRow 2 = .ok (.invokevirtual 224, 3) := by decide +kernel
theorem dX9_seenBy_0 : decode cX9_seenBy 0 = .ok (.aload_n 0, 1) := by decide +kernel
theorem dX9_seenBy_1 : decode cX9_seenBy 1 = .ok (.iload_n 1, 1) := by decide +kernel
theorem dX9_seenBy_2 : decode cX9_seenBy 2 = .ok (.invokevirtual 224, 3) := by decide +kernel
theorem dX9_events_0 : decode cX9_events 0 = .ok (.aload_n 0, 1) := by decide +kernel
theorem dX9_events_1 : decode cX9_events 1 = .ok (.getfield 21, 3) := by decide +kernel
theorem dX9_events_4 : decode cX9_events 4 = .ok (.getfield 129, 3) := by decide +kernel
theorem dX9_events_7 : decode cX9_events 7 = .ok (.getfield 133, 3) := by decide +kernel
theorem dX9_events_10 : decode cX9_events 10 = .ok (.ireturn, 1) := by decide +kernel
theorem dX9_event_0 : decode cX9_event 0 = .ok (.iload_n 1, 1) := by decide +kernel
theorem dX9_event_1 : decode cX9_event 1 = .ok (.i2l, 1) := by decide +kernel
theorem dX9_event_2 : decode cX9_event 2 = .ok (.iconst 0, 1) := by decide +kernel
theorem dX9_event_3 : decode cX9_event 3 = .ok (.bipush 19, 2) := by decide +kernel
theorem dX9_event_5 : decode cX9_event 5 = .ok (.invokestatic 51, 3) := by decide +kernel
theorem dX9_event_8 : decode cX9_event 8 = .ok (.ifCond .eq 21, 3) := by decide +kernel
theorem dX9_event_11 : decode cX9_event 11 = .ok (.iload_n 1, 1) := by decide +kernel
theorem dX9_event_12 : decode cX9_event 12 = .ok (.aload_n 0, 1) := by decide +kernel
theorem dX9_event_13 : decode cX9_event 13 = .ok (.getfield 21, 3) := by decide +kernel
theorem dX9_event_16 : decode cX9_event 16 = .ok (.getfield 129, 3) := by decide +kernel
theorem dX9_event_19 : decode cX9_event 19 = .ok (.getfield 133, 3) := by decide +kernel
theorem dX9_event_22 : decode cX9_event 22 = .ok (.if_icmp .ge 7, 3) := by decide +kernel
theorem dX9_event_25 : decode cX9_event 25 = .ok (.iconst 1, 1) := by decide +kernel
theorem dX9_event_26 : decode cX9_event 26 = .ok (.goto 4, 3) := by decide +kernel
theorem dX9_event_29 : decode cX9_event 29 = .ok (.iconst 0, 1) := by decide +kernel
theorem dX9_event_30 : decode cX9_event 30 = .ok (.invokestatic 150, 3) := by decide +kernel
theorem dX9_bitsWith_0 : decode cX9_bitsWith 0 = .ok (.aload_n 0, 1) := by decide +kernel
theorem dX9_bitsWith_1 : decode cX9_bitsWith 1 = .ok (.iload_n 1, 1) := by decide +kernel
theorem dX9_bitsWith_2 : decode cX9_bitsWith 2 = .ok (.invokevirtual 101, 3) := by decide +kernel
theorem dX9_firesIn_0 : decode cX9_firesIn 0 = .ok (.aload_n 0, 1) := by decide +kernel
theorem dX9_firesIn_1 : decode cX9_firesIn 1 = .ok (.iload_n 1, 1) := by decide +kernel
theorem dX9_firesIn_2 : decode cX9_firesIn 2 = .ok (.invokevirtual 125, 3) := by decide +kernel
theorem dX9_firesIn_5 : decode cX9_firesIn 5 = .ok (.invokestatic 55, 3) := by decide +kernel
theorem dX9_firesIn_8 : decode cX9_firesIn 8 = .ok (.aload_n 0, 1) := by decide +kernel
theorem dX9_firesIn_9 : decode cX9_firesIn 9 = .ok (.getfield 25, 3) := by decide +kernel
theorem dX9_firesIn_12 : decode cX9_firesIn 12 = .ok (.aload_n 0, 1) := by decide +kernel
theorem dX9_firesIn_13 : decode cX9_firesIn 13 = .ok (.getfield 21, 3) := by decide +kernel
theorem dX9_firesIn_16 : decode cX9_firesIn 16 = .ok (.invokevirtual 245, 3) := by decide +kernel
theorem dX9_firesIn_19 : decode cX9_firesIn 19 = .ok (.aload_n 0, 1) := by decide +kernel
theorem dX9_firesIn_20 : decode cX9_firesIn 20 = .ok (.getfield 25, 3) := by decide +kernel
theorem dX9_firesIn_23 : decode cX9_firesIn 23 = .ok (.getfield 129, 3) := by decide +kernel
theorem dX9_firesIn_26 : decode cX9_firesIn 26 = .ok (.getfield 249, 3) := by decide +kernel
theorem dX9_firesIn_29 : decode cX9_firesIn 29 = .ok (.istore_n 2, 1) := by decide +kernel
theorem dX9_firesIn_30 : decode cX9_firesIn 30 = .ok (.iconst 1, 1) := by decide +kernel
theorem dX9_firesIn_31 : decode cX9_firesIn 31 = .ok (.istore_n 3, 1) := by decide +kernel
theorem dX9_firesIn_32 : decode cX9_firesIn 32 = .ok (.iload_n 3, 1) := by decide +kernel
theorem dX9_firesIn_33 : decode cX9_firesIn 33 = .ok (.iload_n 1, 1) := by decide +kernel
theorem dX9_firesIn_34 : decode cX9_firesIn 34 = .ok (.if_icmp .gt 32, 3) := by decide +kernel
theorem dX9_firesIn_37 : decode cX9_firesIn 37 = .ok (.aload_n 0, 1) := by decide +kernel
theorem dX9_firesIn_38 : decode cX9_firesIn 38 = .ok (.getfield 25, 3) := by decide +kernel
theorem dX9_firesIn_41 : decode cX9_firesIn 41 = .ok (.invokevirtual 138, 3) := by decide +kernel
theorem dX9_firesIn_44 : decode cX9_firesIn 44 = .ok (.aload_n 0, 1) := by decide +kernel
theorem dX9_firesIn_45 : decode cX9_firesIn 45 = .ok (.getfield 25, 3) := by decide +kernel
theorem dX9_firesIn_48 : decode cX9_firesIn 48 = .ok (.getfield 129, 3) := by decide +kernel
theorem dX9_firesIn_51 : decode cX9_firesIn 51 = .ok (.getfield 249, 3) := by decide +kernel
theorem dX9_firesIn_54 : decode cX9_firesIn 54 = .ok (.iload_n 2, 1) := by decide +kernel
theorem dX9_firesIn_55 : decode cX9_firesIn 55 = .ok (.if_icmp .le 5, 3) := by decide +kernel
theorem dX9_firesIn_60 : decode cX9_firesIn 60 = .ok (.iinc 3 1, 3) := by decide +kernel
theorem dX9_firesIn_63 : decode cX9_firesIn 63 = .ok (.goto (-31), 3) := by decide +kernel
theorem dX9_firesIn_66 : decode cX9_firesIn 66 = .ok (.iconst (-1), 1) := by decide +kernel
theorem dX9_firesIn_67 : decode cX9_firesIn 67 = .ok (.ireturn, 1) := by decide +kernel
theorem dX9_wouldRoll_0 : decode cX9_wouldRoll 0 = .ok (.iload_n 1, 1) := by decide +kernel
theorem dX9_wouldRoll_1 : decode cX9_wouldRoll 1 = .ok (.i2l, 1) := by decide +kernel
theorem dX9_wouldRoll_2 : decode cX9_wouldRoll 2 = .ok (.iconst 0, 1) := by decide +kernel
theorem dX9_wouldRoll_3 : decode cX9_wouldRoll 3 = .ok (.sipush 10000, 3) := by decide +kernel
theorem dX9_wouldRoll_6 : decode cX9_wouldRoll 6 = .ok (.invokestatic 51, 3) := by decide +kernel
theorem dX9_wouldRoll_9 : decode cX9_wouldRoll 9 = .ok (.invokestatic 55, 3) := by decide +kernel
theorem dX9_wouldRoll_12 : decode cX9_wouldRoll 12 = .ok (.iload_n 1, 1) := by decide +kernel
theorem dX9_wouldRoll_13 : decode cX9_wouldRoll 13 = .ok (.ifCond .eq 15, 3) := by decide +kernel
theorem dX9_wouldRoll_16 : decode cX9_wouldRoll 16 = .ok (.aload_n 0, 1) := by decide +kernel
theorem dX9_wouldRoll_17 : decode cX9_wouldRoll 17 = .ok (.getfield 21, 3) := by decide +kernel
theorem dX9_wouldRoll_20 : decode cX9_wouldRoll 20 = .ok (.getfield 141, 3) := by decide +kernel
theorem dX9_wouldRoll_23 : decode cX9_wouldRoll 23 = .ok (.ldc 100, 2) := by decide +kernel
theorem dX9_wouldRoll_25 : decode cX9_wouldRoll 25 = .ok (.if_icmp .lt 5, 3) := by decide +kernel
theorem dX9_wouldRoll_28 : decode cX9_wouldRoll 28 = .ok (.iconst 0, 1) := by decide +kernel
theorem dX9_wouldRoll_29 : decode cX9_wouldRoll 29 = .ok (.ireturn, 1) := by decide +kernel
theorem dX9_wouldRoll_30 : decode cX9_wouldRoll 30 = .ok (.iconst 0, 1) := by decide +kernel
theorem dX9_wouldRoll_31 : decode cX9_wouldRoll 31 = .ok (.istore_n 2, 1) := by decide +kernel
theorem dX9_wouldRoll_32 : decode cX9_wouldRoll 32 = .ok (.iconst 0, 1) := by decide +kernel
theorem dX9_wouldRoll_33 : decode cX9_wouldRoll 33 = .ok (.istore_n 3, 1) := by decide +kernel
theorem dX9_wouldRoll_34 : decode cX9_wouldRoll 34 = .ok (.iload_n 3, 1) := by decide +kernel
theorem dX9_wouldRoll_35 : decode cX9_wouldRoll 35 = .ok (.aload_n 0, 1) := by decide +kernel
theorem dX9_wouldRoll_36 : decode cX9_wouldRoll 36 = .ok (.getfield 21, 3) := by decide +kernel
theorem dX9_wouldRoll_39 : decode cX9_wouldRoll 39 = .ok (.getfield 59, 3) := by decide +kernel
theorem dX9_wouldRoll_42 : decode cX9_wouldRoll 42 = .ok (.invokevirtual 63, 3) := by decide +kernel
theorem dX9_wouldRoll_45 : decode cX9_wouldRoll 45 = .ok (.if_icmp .ge 43, 3) := by decide +kernel
theorem dX9_wouldRoll_88 : decode cX9_wouldRoll 88 = .ok (.iload_n 2, 1) := by decide +kernel
theorem dX9_wouldRoll_89 : decode cX9_wouldRoll 89 = .ok (.ireturn, 1) := by decide +kernel
theorem dX9_digest_0 : decode cX9_digest 0 = .ok (.ldc2_w 255, 3) := by decide +kernel
theorem dX9_digest_3 : decode cX9_digest 3 = .ok (.lstore_n 1, 1) := by decide +kernel
theorem dX9_digest_4 : decode cX9_digest 4 = .ok (.lload_n 1, 1) := by decide +kernel
theorem dX9_digest_5 : decode cX9_digest 5 = .ok (.ldc2_w 257, 3) := by decide +kernel
theorem dX9_digest_8 : decode cX9_digest 8 = .ok (.lmul, 1) := by decide +kernel
theorem dX9_digest_9 : decode cX9_digest 9 = .ok (.aload_n 0, 1) := by decide +kernel
theorem dX9_digest_10 : decode cX9_digest 10 = .ok (.getfield 21, 3) := by decide +kernel
theorem dX9_digest_13 : decode cX9_digest 13 = .ok (.getfield 141, 3) := by decide +kernel
theorem dX9_digest_16 : decode cX9_digest 16 = .ok (.i2l, 1) := by decide +kernel
theorem dX9_digest_17 : decode cX9_digest 17 = .ok (.ladd, 1) := by decide +kernel
theorem dX9_digest_18 : decode cX9_digest 18 = .ok (.lstore_n 1, 1) := by decide +kernel
theorem dX9_digest_19 : decode cX9_digest 19 = .ok (.lload_n 1, 1) := by decide +kernel
theorem dX9_digest_20 : decode cX9_digest 20 = .ok (.ldc2_w 257, 3) := by decide +kernel
theorem dX9_digest_23 : decode cX9_digest 23 = .ok (.lmul, 1) := by decide +kernel
theorem dX9_digest_24 : decode cX9_digest 24 = .ok (.aload_n 0, 1) := by decide +kernel
theorem dX9_digest_25 : decode cX9_digest 25 = .ok (.getfield 21, 3) := by decide +kernel
theorem dX9_digest_28 : decode cX9_digest 28 = .ok (.getfield 59, 3) := by decide +kernel
theorem dX9_digest_31 : decode cX9_digest 31 = .ok (.invokevirtual 63, 3) := by decide +kernel
theorem dX9_digest_34 : decode cX9_digest 34 = .ok (.i2l, 1) := by decide +kernel
theorem dX9_digest_35 : decode cX9_digest 35 = .ok (.ladd, 1) := by decide +kernel
theorem dX9_digest_36 : decode cX9_digest 36 = .ok (.lstore_n 1, 1) := by decide +kernel
theorem dX9_digest_37 : decode cX9_digest 37 = .ok (.lload_n 1, 1) := by decide +kernel
theorem dX9_digest_38 : decode cX9_digest 38 = .ok (.ldc2_w 257, 3) := by decide +kernel
theorem dX9_digest_41 : decode cX9_digest 41 = .ok (.lmul, 1) := by decide +kernel
theorem dX9_digest_42 : decode cX9_digest 42 = .ok (.aload_n 0, 1) := by decide +kernel
theorem dX9_digest_43 : decode cX9_digest 43 = .ok (.getfield 48, 3) := by decide +kernel
theorem dX9_digest_46 : decode cX9_digest 46 = .ok (.i2l, 1) := by decide +kernel
theorem dX9_digest_47 : decode cX9_digest 47 = .ok (.ladd, 1) := by decide +kernel
theorem dX9_digest_48 : decode cX9_digest 48 = .ok (.lstore_n 1, 1) := by decide +kernel
theorem dX9_digest_49 : decode cX9_digest 49 = .ok (.lload_n 1, 1) := by decide +kernel
theorem dX9_digest_50 : decode cX9_digest 50 = .ok (.ldc2_w 257, 3) := by decide +kernel
theorem dX9_digest_53 : decode cX9_digest 53 = .ok (.lmul, 1) := by decide +kernel
theorem dX9_digest_54 : decode cX9_digest 54 = .ok (.aload_n 0, 1) := by decide +kernel
theorem dX9_digest_55 : decode cX9_digest 55 = .ok (.getfield 21, 3) := by decide +kernel
theorem dX9_digest_58 : decode cX9_digest 58 = .ok (.getfield 129, 3) := by decide +kernel
theorem dX9_digest_61 : decode cX9_digest 61 = .ok (.getfield 133, 3) := by decide +kernel
theorem dX9_digest_64 : decode cX9_digest 64 = .ok (.i2l, 1) := by decide +kernel
theorem dX9_digest_65 : decode cX9_digest 65 = .ok (.ladd, 1) := by decide +kernel
theorem dX9_digest_66 : decode cX9_digest 66 = .ok (.lstore_n 1, 1) := by decide +kernel
theorem dX9_digest_67 : decode cX9_digest 67 = .ok (.iconst 0, 1) := by decide +kernel
theorem dX9_digest_68 : decode cX9_digest 68 = .ok (.istore_n 3, 1) := by decide +kernel
theorem dX9_digest_69 : decode cX9_digest 69 = .ok (.iload_n 3, 1) := by decide +kernel
theorem dX9_digest_70 : decode cX9_digest 70 = .ok (.aload_n 0, 1) := by decide +kernel
theorem dX9_digest_71 : decode cX9_digest 71 = .ok (.getfield 21, 3) := by decide +kernel
theorem dX9_digest_74 : decode cX9_digest 74 = .ok (.getfield 59, 3) := by decide +kernel
theorem dX9_digest_77 : decode cX9_digest 77 = .ok (.invokevirtual 63, 3) := by decide +kernel
theorem dX9_digest_80 : decode cX9_digest 80 = .ok (.if_icmp .ge 64, 3) := by decide +kernel
theorem dX9_digest_144 : decode cX9_digest 144 = .ok (.iconst 0, 1) := by decide +kernel
theorem dX9_digest_145 : decode cX9_digest 145 = .ok (.istore_n 3, 1) := by decide +kernel
theorem dX9_digest_146 : decode cX9_digest 146 = .ok (.iload_n 3, 1) := by decide +kernel
theorem dX9_digest_147 : decode cX9_digest 147 = .ok (.aload_n 0, 1) := by decide +kernel
theorem dX9_digest_148 : decode cX9_digest 148 = .ok (.getfield 21, 3) := by decide +kernel
theorem dX9_digest_151 : decode cX9_digest 151 = .ok (.getfield 216, 3) := by decide +kernel
theorem dX9_digest_154 : decode cX9_digest 154 = .ok (.invokevirtual 63, 3) := by decide +kernel
theorem dX9_digest_157 : decode cX9_digest 157 = .ok (.if_icmp .ge 71, 3) := by decide +kernel
theorem dX9_digest_228 : decode cX9_digest 228 = .ok (.iconst 0, 1) := by decide +kernel
theorem dX9_digest_229 : decode cX9_digest 229 = .ok (.istore_n 3, 1) := by decide +kernel
theorem dX9_digest_230 : decode cX9_digest 230 = .ok (.iload_n 3, 1) := by decide +kernel
theorem dX9_digest_231 : decode cX9_digest 231 = .ok (.iconst 5, 1) := by decide +kernel
theorem dX9_digest_232 : decode cX9_digest 232 = .ok (.if_icmp .ge 59, 3) := by decide +kernel
theorem dX9_digest_235 : decode cX9_digest 235 = .ok (.iload_n 3, 1) := by decide +kernel
theorem dX9_digest_236 : decode cX9_digest 236 = .ok (.aload_n 0, 1) := by decide +kernel
theorem dX9_digest_237 : decode cX9_digest 237 = .ok (.getfield 21, 3) := by decide +kernel
theorem dX9_digest_240 : decode cX9_digest 240 = .ok (.getfield 129, 3) := by decide +kernel
theorem dX9_digest_243 : decode cX9_digest 243 = .ok (.getfield 133, 3) := by decide +kernel
theorem dX9_digest_246 : decode cX9_digest 246 = .ok (.if_icmp .ge 45, 3) := by decide +kernel
theorem dX9_digest_291 : decode cX9_digest 291 = .ok (.lload_n 1, 1) := by decide +kernel
theorem dX9_digest_292 : decode cX9_digest 292 = .ok (.lreturn, 1) := by decide +kernel
theorem dX9_isIn_0 : decode cX9_isIn 0 = .ok (.lload_n 0, 1) := by decide +kernel
theorem dX9_isIn_1 : decode cX9_isIn 1 = .ok (.iload_n 2, 1) := by decide +kernel
theorem dX9_isIn_2 : decode cX9_isIn 2 = .ok (.i2l, 1) := by decide +kernel
theorem dX9_isIn_3 : decode cX9_isIn 3 = .ok (.lcmp, 1) := by decide +kernel
theorem dX9_isIn_4 : decode cX9_isIn 4 = .ok (.ifCond .lt 14, 3) := by decide +kernel
theorem dX9_isIn_7 : decode cX9_isIn 7 = .ok (.lload_n 0, 1) := by decide +kernel
theorem dX9_isIn_8 : decode cX9_isIn 8 = .ok (.iload_n 3, 1) := by decide +kernel
theorem dX9_isIn_9 : decode cX9_isIn 9 = .ok (.i2l, 1) := by decide +kernel
theorem dX9_isIn_10 : decode cX9_isIn 10 = .ok (.lcmp, 1) := by decide +kernel
theorem dX9_isIn_11 : decode cX9_isIn 11 = .ok (.ifCond .gt 7, 3) := by decide +kernel
theorem dX9_isIn_14 : decode cX9_isIn 14 = .ok (.iconst 1, 1) := by decide +kernel
theorem dX9_isIn_15 : decode cX9_isIn 15 = .ok (.goto 4, 3) := by decide +kernel
theorem dX9_isIn_18 : decode cX9_isIn 18 = .ok (.iconst 0, 1) := by decide +kernel
theorem dX9_isIn_19 : decode cX9_isIn 19 = .ok (.ireturn, 1) := by decide +kernel
theorem dX9_canGoOn_0 : decode cX9_canGoOn 0 = .ok (.iload_n 1, 1) := by decide +kernel
theorem dX9_canGoOn_1 : decode cX9_canGoOn 1 = .ok (.i2l, 1) := by decide +kernel
theorem dX9_canGoOn_2 : decode cX9_canGoOn 2 = .ok (.iconst 1, 1) := by decide +kernel
theorem dX9_canGoOn_3 : decode cX9_canGoOn 3 = .ok (.bipush 100, 2) := by decide +kernel
theorem dX9_canGoOn_5 : decode cX9_canGoOn 5 = .ok (.invokestatic 51, 3) := by decide +kernel
theorem dX9_canGoOn_8 : decode cX9_canGoOn 8 = .ok (.ifCond .eq 21, 3) := by decide +kernel
theorem dX9_canGoOn_11 : decode cX9_canGoOn 11 = .ok (.aload_n 0, 1) := by decide +kernel
theorem dX9_canGoOn_12 : decode cX9_canGoOn 12 = .ok (.getfield 21, 3) := by decide +kernel
theorem dX9_canGoOn_15 : decode cX9_canGoOn 15 = .ok (.getfield 141, 3) := by decide +kernel
theorem dX9_canGoOn_18 : decode cX9_canGoOn 18 = .ok (.iload_n 1, 1) := by decide +kernel
theorem dX9_canGoOn_19 : decode cX9_canGoOn 19 = .ok (.iadd, 1) := by decide +kernel
theorem dX9_canGoOn_20 : decode cX9_canGoOn 20 = .ok (.ldc 100, 2) := by decide +kernel
theorem dX9_canGoOn_22 : decode cX9_canGoOn 22 = .ok (.if_icmp .gt 7, 3) := by decide +kernel
theorem dX9_canGoOn_25 : decode cX9_canGoOn 25 = .ok (.iconst 1, 1) := by decide +kernel
theorem dX9_canGoOn_26 : decode cX9_canGoOn 26 = .ok (.goto 4, 3) := by decide +kernel
theorem dX9_canGoOn_29 : decode cX9_canGoOn 29 = .ok (.iconst 0, 1) := by decide +kernel
theorem dX9_canGoOn_30 : decode cX9_canGoOn 30 = .ok (.ireturn, 1) := by decide +kernel
theorem dX9_needArgument_0 : decode cX9_needArgument 0 = .ok (.iload_n 0, 1) := by decide +kernel
theorem dX9_needArgument_1 : decode cX9_needArgument 1 = .ok (.ifCond .ne 14, 3) := by decide +kernel
theorem dX9_needArgument_4 : decode cX9_needArgument 4 = .ok (.new 280, 3) := by decide +kernel
theorem dX9_needArgument_7 : decode cX9_needArgument 7 = .ok (.dup, 1) := by decide +kernel
theorem dX9_needArgument_8 : decode cX9_needArgument 8 = .ok (.ldc_w 282, 3) := by decide +kernel
theorem dX9_needArgument_11 : decode cX9_needArgument 11 = .ok (.invokespecial 284, 3) := by decide +kernel
theorem dX9_needArgument_14 : decode cX9_needArgument 14 = .ok (.athrow, 1) := by decide +kernel
theorem dX9_needArgument_15 : decode cX9_needArgument 15 = .ok (.return_, 1) := by decide +kernel
theorem dX9_needIndex_0 : decode cX9_needIndex 0 = .ok (.iload_n 0, 1) := by decide +kernel
theorem dX9_needIndex_1 : decode cX9_needIndex 1 = .ok (.ifCond .ne 14, 3) := by decide +kernel
theorem dX9_needIndex_4 : decode cX9_needIndex 4 = .ok (.new 287, 3) := by decide +kernel
theorem dX9_needIndex_7 : decode cX9_needIndex 7 = .ok (.dup, 1) := by decide +kernel
theorem dX9_needIndex_8 : decode cX9_needIndex 8 = .ok (.ldc_w 289, 3) := by decide +kernel
theorem dX9_needIndex_11 : decode cX9_needIndex 11 = .ok (.invokespecial 291, 3) := by decide +kernel
theorem dX9_needIndex_14 : decode cX9_needIndex 14 = .ok (.athrow, 1) := by decide +kernel
theorem dX9_needState_0 : decode cX9_needState 0 = .ok (.iload_n 0, 1) := by decide +kernel
theorem dX9_needState_1 : decode cX9_needState 1 = .ok (.ifCond .ne 14, 3) := by decide +kernel
theorem dX9_needState_15 : decode cX9_needState 15 = .ok (.return_, 1) := by decide +kernel
theorem dX9_chainAt_0 : decode cX9_chainAt 0 = .ok (.iload_n 1, 1) := by decide +kernel
theorem dX9_chainAt_1 : decode cX9_chainAt 1 = .ok (.ifCond .lt 17, 3) := by decide +kernel
theorem dX9_chainAt_4 : decode cX9_chainAt 4 = .ok (.iload_n 1, 1) := by decide +kernel
theorem dX9_chainAt_5 : decode cX9_chainAt 5 = .ok (.aload_n 0, 1) := by decide +kernel
theorem dX9_chainAt_6 : decode cX9_chainAt 6 = .ok (.getfield 21, 3) := by decide +kernel
theorem dX9_chainAt_9 : decode cX9_chainAt 9 = .ok (.getfield 59, 3) := by decide +kernel
theorem dX9_chainAt_12 : decode cX9_chainAt 12 = .ok (.invokevirtual 63, 3) := by decide +kernel
theorem dX9_chainAt_15 : decode cX9_chainAt 15 = .ok (.if_icmp .lt 14, 3) := by decide +kernel
theorem dX9_chainAt_18 : decode cX9_chainAt 18 = .ok (.new 287, 3) := by decide +kernel
theorem dX9_chainAt_21 : decode cX9_chainAt 21 = .ok (.dup, 1) := by decide +kernel
theorem dX9_chainAt_22 : decode cX9_chainAt 22 = .ok (.ldc_w 297, 3) := by decide +kernel
theorem dX9_chainAt_25 : decode cX9_chainAt 25 = .ok (.invokespecial 291, 3) := by decide +kernel
theorem dX9_chainAt_28 : decode cX9_chainAt 28 = .ok (.athrow, 1) := by decide +kernel
theorem dX9_ruleAt_0 : decode cX9_ruleAt 0 = .ok (.iload_n 1, 1) := by decide +kernel
theorem dX9_ruleAt_1 : decode cX9_ruleAt 1 = .ok (.ifCond .lt 17, 3) := by decide +kernel
theorem dX9_ruleAt_4 : decode cX9_ruleAt 4 = .ok (.iload_n 1, 1) := by decide +kernel
theorem dX9_ruleAt_5 : decode cX9_ruleAt 5 = .ok (.aload_n 0, 1) := by decide +kernel
theorem dX9_ruleAt_6 : decode cX9_ruleAt 6 = .ok (.getfield 21, 3) := by decide +kernel
theorem dX9_ruleAt_9 : decode cX9_ruleAt 9 = .ok (.getfield 216, 3) := by decide +kernel
theorem dX9_ruleAt_12 : decode cX9_ruleAt 12 = .ok (.invokevirtual 63, 3) := by decide +kernel
theorem dX9_ruleAt_15 : decode cX9_ruleAt 15 = .ok (.if_icmp .lt 14, 3) := by decide +kernel
theorem dX9_ruleAt_18 : decode cX9_ruleAt 18 = .ok (.new 287, 3) := by decide +kernel
theorem dX9_ruleAt_21 : decode cX9_ruleAt 21 = .ok (.dup, 1) := by decide +kernel
theorem dX9_ruleAt_22 : decode cX9_ruleAt 22 = .ok (.ldc_w 299, 3) := by decide +kernel
theorem dX9_ruleAt_25 : decode cX9_ruleAt 25 = .ok (.invokespecial 291, 3) := by decide +kernel
theorem dX9_ruleAt_28 : decode cX9_ruleAt 28 = .ok (.athrow, 1) := by decide +kernel
theorem dX13_init_0 : decode cX13_init 0 = .ok (.aload_n 0, 1) := by decide +kernel
theorem dX13_init_1 : decode cX13_init 1 = .ok (.invokespecial 3, 3) := by decide +kernel
theorem dX13_init_4 : decode cX13_init 4 = .ok (.aload_n 0, 1) := by decide +kernel
theorem dX13_init_5 : decode cX13_init 5 = .ok (.new 9, 3) := by decide +kernel
theorem dX13_init_8 : decode cX13_init 8 = .ok (.dup, 1) := by decide +kernel
theorem dX13_init_9 : decode cX13_init 9 = .ok (.invokespecial 11, 3) := by decide +kernel
theorem dX13_init_12 : decode cX13_init 12 = .ok (.putfield 12, 3) := by decide +kernel
theorem dX13_init_15 : decode cX13_init 15 = .ok (.aload_n 0, 1) := by decide +kernel
theorem dX13_init_16 : decode cX13_init 16 = .ok (.new 9, 3) := by decide +kernel
theorem dX13_init_19 : decode cX13_init 19 = .ok (.dup, 1) := by decide +kernel
theorem dX13_init_20 : decode cX13_init 20 = .ok (.invokespecial 11, 3) := by decide +kernel
theorem dX13_init_23 : decode cX13_init 23 = .ok (.putfield 18, 3) := by decide +kernel
theorem dX13_init_26 : decode cX13_init 26 = .ok (.aload_n 0, 1) := by decide +kernel
theorem dX13_init_27 : decode cX13_init 27 = .ok (.new 9, 3) := by decide +kernel
theorem dX13_init_30 : decode cX13_init 30 = .ok (.dup, 1) := by decide +kernel
theorem dX13_init_31 : decode cX13_init 31 = .ok (.invokespecial 11, 3) := by decide +kernel
theorem dX13_init_34 : decode cX13_init 34 = .ok (.putfield 21, 3) := by decide +kernel
theorem dX13_init_37 : decode cX13_init 37 = .ok (.aload_n 0, 1) := by decide +kernel
theorem dX13_init_38 : decode cX13_init 38 = .ok (.iconst (-1), 1) := by decide +kernel
theorem dX13_init_39 : decode cX13_init 39 = .ok (.putfield 24, 3) := by decide +kernel
theorem dX13_init_42 : decode cX13_init 42 = .ok (.aload_n 0, 1) := by decide +kernel
theorem dX13_init_43 : decode cX13_init 43 = .ok (.iconst 2, 1) := by decide +kernel
theorem dX13_init_44 : decode cX13_init 44 = .ok (.newarray .int, 2) := by decide +kernel
theorem dX13_init_46 : decode cX13_init 46 = .ok (.dup, 1) := by decide +kernel
theorem dX13_init_47 : decode cX13_init 47 = .ok (.iconst 0, 1) := by decide +kernel
theorem dX13_init_48 : decode cX13_init 48 = .ok (.iload_n 1, 1) := by decide +kernel
theorem dX13_init_49 : decode cX13_init 49 = .ok (.iastore, 1) := by decide +kernel
theorem dX13_init_50 : decode cX13_init 50 = .ok (.dup, 1) := by decide +kernel
theorem dX13_init_51 : decode cX13_init 51 = .ok (.iconst 1, 1) := by decide +kernel
theorem dX13_init_52 : decode cX13_init 52 = .ok (.iload_n 2, 1) := by decide +kernel
theorem dX13_init_53 : decode cX13_init 53 = .ok (.iastore, 1) := by decide +kernel
theorem dX13_init_54 : decode cX13_init 54 = .ok (.putfield 28, 3) := by decide +kernel
theorem dX13_init_57 : decode cX13_init 57 = .ok (.aload_n 0, 1) := by decide +kernel
theorem dX13_init_58 : decode cX13_init 58 = .ok (.getfield 12, 3) := by decide +kernel
theorem dX13_init_61 : decode cX13_init 61 = .ok (.new 9, 3) := by decide +kernel
theorem dX13_init_64 : decode cX13_init 64 = .ok (.dup, 1) := by decide +kernel
theorem dX13_init_65 : decode cX13_init 65 = .ok (.invokespecial 11, 3) := by decide +kernel
theorem dX13_init_68 : decode cX13_init 68 = .ok (.invokevirtual 32, 3) := by decide +kernel
theorem dX13_init_71 : decode cX13_init 71 = .ok (.pop, 1) := by decide +kernel
theorem dX13_init_72 : decode cX13_init 72 = .ok (.return_, 1) := by decide +kernel
theorem dX14_init_0 : decode cX14_init 0 = .ok (.aload_n 0, 1) := by decide +kernel
theorem dX14_init_1 : decode cX14_init 1 = .ok (.invokespecial 1, 3) := by decide +kernel
theorem dX14_init_4 : decode cX14_init 4 = .ok (.aload_n 0, 1) := by decide +kernel
theorem dX14_init_5 : decode cX14_init 5 = .ok (.new 7, 3) := by decide +kernel
theorem dX14_init_8 : decode cX14_init 8 = .ok (.dup, 1) := by decide +kernel
theorem dX14_init_9 : decode cX14_init 9 = .ok (.invokespecial 9, 3) := by decide +kernel
theorem dX14_init_12 : decode cX14_init 12 = .ok (.putfield 10, 3) := by decide +kernel
theorem dX14_init_15 : decode cX14_init 15 = .ok (.aload_n 0, 1) := by decide +kernel
theorem dX14_init_16 : decode cX14_init 16 = .ok (.new 7, 3) := by decide +kernel
theorem dX14_init_19 : decode cX14_init 19 = .ok (.dup, 1) := by decide +kernel
theorem dX14_init_20 : decode cX14_init 20 = .ok (.invokespecial 9, 3) := by decide +kernel
theorem dX14_init_23 : decode cX14_init 23 = .ok (.putfield 16, 3) := by decide +kernel
theorem dX14_init_26 : decode cX14_init 26 = .ok (.aload_n 0, 1) := by decide +kernel
theorem dX14_init_27 : decode cX14_init 27 = .ok (.new 7, 3) := by decide +kernel
theorem dX14_init_30 : decode cX14_init 30 = .ok (.dup, 1) := by decide +kernel
theorem dX14_init_31 : decode cX14_init 31 = .ok (.invokespecial 9, 3) := by decide +kernel
theorem dX14_init_34 : decode cX14_init 34 = .ok (.putfield 19, 3) := by decide +kernel
theorem dX14_init_37 : decode cX14_init 37 = .ok (.aload_n 0, 1) := by decide +kernel
theorem dX14_init_38 : decode cX14_init 38 = .ok (.bipush 8, 2) := by decide +kernel
theorem dX14_init_40 : decode cX14_init 40 = .ok (.putfield 22, 3) := by decide +kernel
theorem dX14_init_43 : decode cX14_init 43 = .ok (.aload_n 0, 1) := by decide +kernel
theorem dX14_init_44 : decode cX14_init 44 = .ok (.bipush 10, 2) := by decide +kernel
theorem dX14_init_46 : decode cX14_init 46 = .ok (.putfield 26, 3) := by decide +kernel
theorem dX14_init_49 : decode cX14_init 49 = .ok (.aload_n 0, 1) := by decide +kernel
theorem dX14_init_50 : decode cX14_init 50 = .ok (.bipush 6, 2) := by decide +kernel
theorem dX14_init_52 : decode cX14_init 52 = .ok (.putfield 29, 3) := by decide +kernel
theorem dX14_init_55 : decode cX14_init 55 = .ok (.return_, 1) := by decide +kernel
theorem dX14_copy_0 : decode cX14_copy 0 = .ok (.new 11, 3) := by decide +kernel
theorem dX14_copy_3 : decode cX14_copy 3 = .ok (.dup, 1) := by decide +kernel
theorem dX14_copy_4 : decode cX14_copy 4 = .ok (.invokespecial 32, 3) := by decide +kernel
theorem dX14_copy_7 : decode cX14_copy 7 = .ok (.astore_n 1, 1) := by decide +kernel
theorem dX14_copy_8 : decode cX14_copy 8 = .ok (.iconst 0, 1) := by decide +kernel
theorem dX14_copy_9 : decode cX14_copy 9 = .ok (.istore_n 2, 1) := by decide +kernel
theorem dX14_copy_10 : decode cX14_copy 10 = .ok (.iload_n 2, 1) := by decide +kernel
theorem dX14_copy_11 : decode cX14_copy 11 = .ok (.aload_n 0, 1) := by decide +kernel
theorem dX14_copy_12 : decode cX14_copy 12 = .ok (.getfield 10, 3) := by decide +kernel
theorem dX14_copy_15 : decode cX14_copy 15 = .ok (.invokevirtual 33, 3) := by decide +kernel
theorem dX14_copy_18 : decode cX14_copy 18 = .ok (.if_icmp .ge 31, 3) := by decide +kernel
theorem dX14_copy_49 : decode cX14_copy 49 = .ok (.iconst 0, 1) := by decide +kernel
theorem dX14_copy_50 : decode cX14_copy 50 = .ok (.istore_n 2, 1) := by decide +kernel
theorem dX14_copy_51 : decode cX14_copy 51 = .ok (.iload_n 2, 1) := by decide +kernel
theorem dX14_copy_52 : decode cX14_copy 52 = .ok (.aload_n 0, 1) := by decide +kernel
theorem dX14_copy_53 : decode cX14_copy 53 = .ok (.getfield 16, 3) := by decide +kernel
theorem dX14_copy_56 : decode cX14_copy 56 = .ok (.invokevirtual 33, 3) := by decide +kernel
theorem dX14_copy_59 : decode cX14_copy 59 = .ok (.if_icmp .ge 31, 3) := by decide +kernel
theorem dX14_copy_90 : decode cX14_copy 90 = .ok (.aload_n 1, 1) := by decide +kernel
theorem dX14_copy_91 : decode cX14_copy 91 = .ok (.getfield 19, 3) := by decide +kernel
theorem dX14_copy_94 : decode cX14_copy 94 = .ok (.aload_n 0, 1) := by decide +kernel
theorem dX14_copy_95 : decode cX14_copy 95 = .ok (.getfield 19, 3) := by decide +kernel
theorem dX14_copy_98 : decode cX14_copy 98 = .ok (.invokevirtual 56, 3) := by decide +kernel
theorem dX14_copy_101 : decode cX14_copy 101 = .ok (.pop, 1) := by decide +kernel
theorem dX14_copy_102 : decode cX14_copy 102 = .ok (.aload_n 1, 1) := by decide +kernel
theorem dX14_copy_103 : decode cX14_copy 103 = .ok (.aload_n 0, 1) := by decide +kernel
theorem dX14_copy_104 : decode cX14_copy 104 = .ok (.getfield 60, 3) := by decide +kernel
theorem dX14_copy_107 : decode cX14_copy 107 = .ok (.putfield 60, 3) := by decide +kernel
theorem dX14_copy_110 : decode cX14_copy 110 = .ok (.aload_n 1, 1) := by decide +kernel
theorem dX14_copy_111 : decode cX14_copy 111 = .ok (.aload_n 0, 1) := by decide +kernel
theorem dX14_copy_112 : decode cX14_copy 112 = .ok (.getfield 22, 3) := by decide +kernel
theorem dX14_copy_115 : decode cX14_copy 115 = .ok (.putfield 22, 3) := by decide +kernel
theorem dX14_copy_118 : decode cX14_copy 118 = .ok (.aload_n 1, 1) := by decide +kernel
theorem dX14_copy_119 : decode cX14_copy 119 = .ok (.aload_n 0, 1) := by decide +kernel
theorem dX14_copy_120 : decode cX14_copy 120 = .ok (.getfield 26, 3) := by decide +kernel
theorem dX14_copy_123 : decode cX14_copy 123 = .ok (.putfield 26, 3) := by decide +kernel
theorem dX14_copy_126 : decode cX14_copy 126 = .ok (.aload_n 1, 1) := by decide +kernel
theorem dX14_copy_127 : decode cX14_copy 127 = .ok (.aload_n 0, 1) := by decide +kernel
theorem dX14_copy_128 : decode cX14_copy 128 = .ok (.getfield 29, 3) := by decide +kernel
theorem dX14_copy_131 : decode cX14_copy 131 = .ok (.putfield 29, 3) := by decide +kernel
theorem dX14_copy_134 : decode cX14_copy 134 = .ok (.aload_n 1, 1) := by decide +kernel
theorem dX14_copy_135 : decode cX14_copy 135 = .ok (.aload_n 0, 1) := by decide +kernel
theorem dX14_copy_136 : decode cX14_copy 136 = .ok (.getfield 63, 3) := by decide +kernel
theorem dX14_copy_139 : decode cX14_copy 139 = .ok (.putfield 63, 3) := by decide +kernel
theorem dX14_copy_142 : decode cX14_copy 142 = .ok (.aload_n 1, 1) := by decide +kernel
theorem dX14_copy_143 : decode cX14_copy 143 = .ok (.aload_n 0, 1) := by decide +kernel
theorem dX14_copy_144 : decode cX14_copy 144 = .ok (.getfield 66, 3) := by decide +kernel
theorem dX14_copy_147 : decode cX14_copy 147 = .ok (.putfield 66, 3) := by decide +kernel
theorem dX14_copy_150 : decode cX14_copy 150 = .ok (.aload_n 1, 1) := by decide +kernel
theorem dX14_copy_151 : decode cX14_copy 151 = .ok (.areturn, 1) := by decide +kernel
theorem dX14_tick_0 : decode cX14_tick 0 = .ok (.aload_n 0, 1) := by decide +kernel
theorem dX14_tick_1 : decode cX14_tick 1 = .ok (.dup, 1) := by decide +kernel
theorem dX14_tick_2 : decode cX14_tick 2 = .ok (.getfield 60, 3) := by decide +kernel
theorem dX14_tick_5 : decode cX14_tick 5 = .ok (.iconst 1, 1) := by decide +kernel
theorem dX14_tick_6 : decode cX14_tick 6 = .ok (.iadd, 1) := by decide +kernel
theorem dX14_tick_7 : decode cX14_tick 7 = .ok (.putfield 60, 3) := by decide +kernel
theorem dX14_tick_10 : decode cX14_tick 10 = .ok (.iconst 0, 1) := by decide +kernel
theorem dX14_tick_11 : decode cX14_tick 11 = .ok (.istore_n 1, 1) := by decide +kernel
theorem dX14_tick_12 : decode cX14_tick 12 = .ok (.iload_n 1, 1) := by decide +kernel
theorem dX14_tick_13 : decode cX14_tick 13 = .ok (.aload_n 0, 1) := by decide +kernel
theorem dX14_tick_14 : decode cX14_tick 14 = .ok (.getfield 10, 3) := by decide +kernel
theorem dX14_tick_17 : decode cX14_tick 17 = .ok (.invokevirtual 33, 3) := by decide +kernel
theorem dX14_tick_20 : decode cX14_tick 20 = .ok (.if_icmp .ge 43, 3) := by decide +kernel
theorem dX14_tick_63 : decode cX14_tick 63 = .ok (.iconst 0, 1) := by decide +kernel
theorem dX14_tick_64 : decode cX14_tick 64 = .ok (.istore_n 1, 1) := by decide +kernel
theorem dX14_tick_65 : decode cX14_tick 65 = .ok (.iload_n 1, 1) := by decide +kernel
theorem dX14_tick_66 : decode cX14_tick 66 = .ok (.aload_n 0, 1) := by decide +kernel
theorem dX14_tick_67 : decode cX14_tick 67 = .ok (.getfield 16, 3) := by decide +kernel
theorem dX14_tick_70 : decode cX14_tick 70 = .ok (.invokevirtual 33, 3) := by decide +kernel
theorem dX14_tick_73 : decode cX14_tick 73 = .ok (.if_icmp .ge 77, 3) := by decide +kernel
theorem dX14_tick_150 : decode cX14_tick 150 = .ok (.return_, 1) := by decide +kernel
theorem dX15_init_0 : decode cX15_init 0 = .ok (.aload_n 0, 1) := by decide +kernel
theorem dX15_init_1 : decode cX15_init 1 = .ok (.invokespecial 54, 3) := by decide +kernel
theorem dX15_init_4 : decode cX15_init 4 = .ok (.aload_n 0, 1) := by decide +kernel
theorem dX15_init_5 : decode cX15_init 5 = .ok (.bipush 10, 2) := by decide +kernel
theorem dX15_init_7 : decode cX15_init 7 = .ok (.putfield 57, 3) := by decide +kernel
theorem dX15_init_10 : decode cX15_init 10 = .ok (.aload_n 0, 1) := by decide +kernel
theorem dX15_init_11 : decode cX15_init 11 = .ok (.iconst 1, 1) := by decide +kernel
theorem dX15_init_12 : decode cX15_init 12 = .ok (.putfield 62, 3) := by decide +kernel
theorem dX15_init_15 : decode cX15_init 15 = .ok (.aload_n 0, 1) := by decide +kernel
theorem dX15_init_16 : decode cX15_init 16 = .ok (.new 65, 3) := by decide +kernel
theorem dX15_init_19 : decode cX15_init 19 = .ok (.dup, 1) := by decide +kernel
theorem dX15_init_20 : decode cX15_init 20 = .ok (.invokespecial 67, 3) := by decide +kernel
theorem dX15_init_23 : decode cX15_init 23 = .ok (.putfield 68, 3) := by decide +kernel
theorem dX15_init_26 : decode cX15_init 26 = .ok (.return_, 1) := by decide +kernel
theorem dX15_thrown_0 : decode cX15_thrown 0 = .ok (.aload_n 0, 1) := by decide +kernel
theorem dX15_thrown_1 : decode cX15_thrown 1 = .ok (.getfield 72, 3) := by decide +kernel
theorem dX15_thrown_4 : decode cX15_thrown 4 = .ok (.ireturn, 1) := by decide +kernel
theorem dX15_isIn_0 : decode cX15_isIn 0 = .ok (.iload_n 0, 1) := by decide +kernel
theorem dX15_isIn_1 : decode cX15_isIn 1 = .ok (.iload_n 1, 1) := by decide +kernel
theorem dX15_isIn_2 : decode cX15_isIn 2 = .ok (.if_icmp .lt 12, 3) := by decide +kernel
theorem dX15_isIn_5 : decode cX15_isIn 5 = .ok (.iload_n 0, 1) := by decide +kernel
theorem dX15_isIn_6 : decode cX15_isIn 6 = .ok (.iload_n 2, 1) := by decide +kernel
theorem dX15_isIn_7 : decode cX15_isIn 7 = .ok (.if_icmp .gt 7, 3) := by decide +kernel
theorem dX15_isIn_10 : decode cX15_isIn 10 = .ok (.iconst 1, 1) := by decide +kernel
theorem dX15_isIn_11 : decode cX15_isIn 11 = .ok (.goto 4, 3) := by decide +kernel
theorem dX15_isIn_14 : decode cX15_isIn 14 = .ok (.iconst 0, 1) := by decide +kernel
theorem dX15_isIn_15 : decode cX15_isIn 15 = .ok (.ireturn, 1) := by decide +kernel
theorem dX15_refuse_0 : decode cX15_refuse 0 = .ok (.iload_n 1, 1) := by decide +kernel
theorem dX15_refuse_1 : decode cX15_refuse 1 = .ok (.ifCond .eq 15, 3) := by decide +kernel
theorem dX15_refuse_4 : decode cX15_refuse 4 = .ok (.aload_n 0, 1) := by decide +kernel
theorem dX15_refuse_5 : decode cX15_refuse 5 = .ok (.getfield 72, 3) := by decide +kernel
theorem dX15_refuse_8 : decode cX15_refuse 8 = .ok (.ifCond .ne 8, 3) := by decide +kernel
theorem dX15_refuse_11 : decode cX15_refuse 11 = .ok (.aload_n 0, 1) := by decide +kernel
theorem dX15_refuse_12 : decode cX15_refuse 12 = .ok (.iload_n 2, 1) := by decide +kernel
theorem dX15_refuse_13 : decode cX15_refuse 13 = .ok (.putfield 72, 3) := by decide +kernel
theorem dX15_refuse_16 : decode cX15_refuse 16 = .ok (.aload_n 0, 1) := by decide +kernel
theorem dX15_refuse_17 : decode cX15_refuse 17 = .ok (.getfield 72, 3) := by decide +kernel
theorem dX15_refuse_20 : decode cX15_refuse 20 = .ok (.ifCond .le 7, 3) := by decide +kernel
theorem dX15_refuse_23 : decode cX15_refuse 23 = .ok (.iconst 1, 1) := by decide +kernel
theorem dX15_refuse_24 : decode cX15_refuse 24 = .ok (.goto 4, 3) := by decide +kernel
theorem dX15_refuse_27 : decode cX15_refuse 27 = .ok (.iconst 0, 1) := by decide +kernel
theorem dX15_refuse_28 : decode cX15_refuse 28 = .ok (.ireturn, 1) := by decide +kernel
theorem dX15_start_0 : decode cX15_start 0 = .ok (.aload_n 0, 1) := by decide +kernel
theorem dX15_start_1 : decode cX15_start 1 = .ok (.iconst 0, 1) := by decide +kernel
theorem dX15_start_2 : decode cX15_start 2 = .ok (.putfield 72, 3) := by decide +kernel
theorem dX15_start_5 : decode cX15_start 5 = .ok (.aload_n 0, 1) := by decide +kernel
theorem dX15_start_6 : decode cX15_start 6 = .ok (.iload_n 1, 1) := by decide +kernel
theorem dX15_start_7 : decode cX15_start 7 = .ok (.iload_n 2, 1) := by decide +kernel
theorem dX15_start_8 : decode cX15_start 8 = .ok (.invokevirtual 75, 3) := by decide +kernel
theorem dX15_start_11 : decode cX15_start 11 = .ok (.ireturn, 1) := by decide +kernel
theorem dX15_plain_0 : decode cX15_plain 0 = .ok (.aload_n 0, 1) := by decide +kernel
theorem dX15_plain_1 : decode cX15_plain 1 = .ok (.iconst 0, 1) := by decide +kernel
theorem dX15_plain_2 : decode cX15_plain 2 = .ok (.putfield 72, 3) := by decide +kernel
theorem dX15_plain_5 : decode cX15_plain 5 = .ok (.iload_n 1, 1) := by decide +kernel
theorem dX15_plain_6 : decode cX15_plain 6 = .ok (.ireturn, 1) := by decide +kernel
theorem dX15_addSeries_0 : decode cX15_addSeries 0 = .ok (.aload_n 0, 1) := by decide +kernel
theorem dX15_addSeries_1 : decode cX15_addSeries 1 = .ok (.iload_n 1, 1) := by decide +kernel
theorem dX15_addSeries_2 : decode cX15_addSeries 2 = .ok (.iconst 0, 1) := by decide +kernel
theorem dX15_addSeries_3 : decode cX15_addSeries 3 = .ok (.bipush 9, 2) := by decide +kernel
theorem dX15_addSeries_5 : decode cX15_addSeries 5 = .ok (.invokestatic 79, 3) := by decide +kernel
theorem dX15_addSeries_8 : decode cX15_addSeries 8 = .ok (.ifCond .eq 13, 3) := by decide +kernel
theorem dX15_addSeries_11 : decode cX15_addSeries 11 = .ok (.iload_n 2, 1) := by decide +kernel
theorem dX15_addSeries_12 : decode cX15_addSeries 12 = .ok (.iconst 0, 1) := by decide +kernel
theorem dX15_addSeries_13 : decode cX15_addSeries 13 = .ok (.bipush 9, 2) := by decide +kernel
theorem dX15_addSeries_15 : decode cX15_addSeries 15 = .ok (.invokestatic 79, 3) := by decide +kernel
theorem dX15_addSeries_18 : decode cX15_addSeries 18 = .ok (.ifCond .ne 7, 3) := by decide +kernel
theorem dX15_addSeries_21 : decode cX15_addSeries 21 = .ok (.iconst 1, 1) := by decide +kernel
theorem dX15_addSeries_22 : decode cX15_addSeries 22 = .ok (.goto 4, 3) := by decide +kernel
theorem dX15_addSeries_25 : decode cX15_addSeries 25 = .ok (.iconst 0, 1) := by decide +kernel
theorem dX15_addSeries_26 : decode cX15_addSeries 26 = .ok (.iconst 1, 1) := by decide +kernel
theorem dX15_addSeries_27 : decode cX15_addSeries 27 = .ok (.invokevirtual 83, 3) := by decide +kernel
theorem dX15_addSeries_30 : decode cX15_addSeries 30 = .ok (.ifCond .ne 31, 3) := by decide +kernel
theorem dX15_addSeries_33 : decode cX15_addSeries 33 = .ok (.aload_n 0, 1) := by decide +kernel
theorem dX15_addSeries_34 : decode cX15_addSeries 34 = .ok (.aload_n 0, 1) := by decide +kernel
theorem dX15_addSeries_35 : decode cX15_addSeries 35 = .ok (.getfield 68, 3) := by decide +kernel
theorem dX15_addSeries_38 : decode cX15_addSeries 38 = .ok (.getfield 86, 3) := by decide +kernel
theorem dX15_addSeries_41 : decode cX15_addSeries 41 = .ok (.invokevirtual 7, 3) := by decide +kernel
theorem dX15_addSeries_44 : decode cX15_addSeries 44 = .ok (.bipush 6, 2) := by decide +kernel
theorem dX15_addSeries_46 : decode cX15_addSeries 46 = .ok (.if_icmp .ne 7, 3) := by decide +kernel
theorem dX15_addSeries_53 : decode cX15_addSeries 53 = .ok (.iconst 0, 1) := by decide +kernel
theorem dX15_addSeries_54 : decode cX15_addSeries 54 = .ok (.iconst 2, 1) := by decide +kernel
theorem dX15_addSeries_55 : decode cX15_addSeries 55 = .ok (.invokevirtual 75, 3) := by decide +kernel
theorem dX15_addSeries_58 : decode cX15_addSeries 58 = .ok (.ifCond .eq 5, 3) := by decide +kernel
theorem dX15_addSeries_61 : decode cX15_addSeries 61 = .ok (.iconst 0, 1) := by decide +kernel
theorem dX15_addSeries_62 : decode cX15_addSeries 62 = .ok (.ireturn, 1) := by decide +kernel
theorem dX15_addSeries_63 : decode cX15_addSeries 63 = .ok (.aload_n 0, 1) := by decide +kernel
theorem dX15_addSeries_64 : decode cX15_addSeries 64 = .ok (.getfield 68, 3) := by decide +kernel
theorem dX15_addSeries_67 : decode cX15_addSeries 67 = .ok (.getfield 86, 3) := by decide +kernel
theorem dX15_addSeries_70 : decode cX15_addSeries 70 = .ok (.new 90, 3) := by decide +kernel
theorem dX15_addSeries_73 : decode cX15_addSeries 73 = .ok (.dup, 1) := by decide +kernel
theorem dX15_addSeries_74 : decode cX15_addSeries 74 = .ok (.iload_n 1, 1) := by decide +kernel
theorem dX15_addSeries_75 : decode cX15_addSeries 75 = .ok (.iload_n 2, 1) := by decide +kernel
theorem dX15_addSeries_76 : decode cX15_addSeries 76 = .ok (.invokespecial 92, 3) := by decide +kernel
theorem dX15_addSeries_79 : decode cX15_addSeries 79 = .ok (.invokevirtual 42, 3) := by decide +kernel
theorem dX15_addSeries_82 : decode cX15_addSeries 82 = .ok (.pop, 1) := by decide +kernel
theorem dX15_addSeries_83 : decode cX15_addSeries 83 = .ok (.aload_n 0, 1) := by decide +kernel
theorem dX15_addSeries_84 : decode cX15_addSeries 84 = .ok (.getfield 68, 3) := by decide +kernel
theorem dX15_addSeries_87 : decode cX15_addSeries 87 = .ok (.getfield 86, 3) := by decide +kernel
theorem dX15_addSeries_90 : decode cX15_addSeries 90 = .ok (.invokevirtual 7, 3) := by decide +kernel
theorem dX15_addSeries_93 : decode cX15_addSeries 93 = .ok (.iconst 1, 1) := by decide +kernel
theorem dX15_addSeries_94 : decode cX15_addSeries 94 = .ok (.isub, 1) := by decide +kernel
theorem dX15_addSeries_95 : decode cX15_addSeries 95 = .ok (.ireturn, 1) := by decide +kernel
theorem dX15_setSpan_0 : decode cX15_setSpan 0 = .ok (.aload_n 0, 1) := by decide +kernel
theorem dX15_setSpan_1 : decode cX15_setSpan 1 = .ok (.iload_n 1, 1) := by decide +kernel
theorem dX15_setSpan_2 : decode cX15_setSpan 2 = .ok (.iconst 2, 1) := by decide +kernel
theorem dX15_setSpan_3 : decode cX15_setSpan 3 = .ok (.bipush 16, 2) := by decide +kernel
theorem dX15_setSpan_5 : decode cX15_setSpan 5 = .ok (.invokestatic 79, 3) := by decide +kernel
theorem dX15_setSpan_8 : decode cX15_setSpan 8 = .ok (.ifCond .ne 7, 3) := by decide +kernel
theorem dX15_setSpan_11 : decode cX15_setSpan 11 = .ok (.iconst 1, 1) := by decide +kernel
theorem dX15_setSpan_12 : decode cX15_setSpan 12 = .ok (.goto 4, 3) := by decide +kernel
theorem dX15_setSpan_15 : decode cX15_setSpan 15 = .ok (.iconst 0, 1) := by decide +kernel
theorem dX15_setSpan_16 : decode cX15_setSpan 16 = .ok (.iconst 1, 1) := by decide +kernel
theorem dX15_setSpan_17 : decode cX15_setSpan 17 = .ok (.invokevirtual 83, 3) := by decide +kernel
theorem dX15_setSpan_20 : decode cX15_setSpan 20 = .ok (.ifCond .eq 5, 3) := by decide +kernel
theorem dX15_setSpan_23 : decode cX15_setSpan 23 = .ok (.iconst 0, 1) := by decide +kernel
theorem dX15_setSpan_24 : decode cX15_setSpan 24 = .ok (.ireturn, 1) := by decide +kernel
theorem dX15_setSpan_25 : decode cX15_setSpan 25 = .ok (.aload_n 0, 1) := by decide +kernel
theorem dX15_setSpan_26 : decode cX15_setSpan 26 = .ok (.getfield 68, 3) := by decide +kernel
theorem dX15_setSpan_29 : decode cX15_setSpan 29 = .ok (.getfield 94, 3) := by decide +kernel
theorem dX15_setSpan_32 : decode cX15_setSpan 32 = .ok (.istore_n 2, 1) := by decide +kernel
theorem dX15_setSpan_33 : decode cX15_setSpan 33 = .ok (.aload_n 0, 1) := by decide +kernel
theorem dX15_setSpan_34 : decode cX15_setSpan 34 = .ok (.getfield 68, 3) := by decide +kernel
theorem dX15_setSpan_37 : decode cX15_setSpan 37 = .ok (.iload_n 1, 1) := by decide +kernel
theorem dX15_setSpan_38 : decode cX15_setSpan 38 = .ok (.putfield 94, 3) := by decide +kernel
theorem dX15_setSpan_41 : decode cX15_setSpan 41 = .ok (.iload_n 2, 1) := by decide +kernel
theorem dX15_setSpan_42 : decode cX15_setSpan 42 = .ok (.ireturn, 1) := by decide +kernel
theorem dX15_hasBuckets_0 : decode cX15_hasBuckets 0 = .ok (.iconst 0, 1) := by decide +kernel
theorem dX15_hasBuckets_1 : decode cX15_hasBuckets 1 = .ok (.istore_n 1, 1) := by decide +kernel
theorem dX15_hasBuckets_2 : decode cX15_hasBuckets 2 = .ok (.iload_n 1, 1) := by decide +kernel
theorem dX15_hasBuckets_3 : decode cX15_hasBuckets 3 = .ok (.aload_n 0, 1) := by decide +kernel
theorem dX15_hasBuckets_4 : decode cX15_hasBuckets 4 = .ok (.getfield 68, 3) := by decide +kernel
theorem dX15_hasBuckets_7 : decode cX15_hasBuckets 7 = .ok (.getfield 86, 3) := by decide +kernel
theorem dX15_hasBuckets_10 : decode cX15_hasBuckets 10 = .ok (.invokevirtual 7, 3) := by decide +kernel
theorem dX15_hasBuckets_13 : decode cX15_hasBuckets 13 = .ok (.if_icmp .ge 57, 3) := by decide +kernel
theorem dX15_hasBuckets_70 : decode cX15_hasBuckets 70 = .ok (.iconst 0, 1) := by decide +kernel
theorem dX15_hasBuckets_71 : decode cX15_hasBuckets 71 = .ok (.ireturn, 1) := by decide +kernel
theorem dX15_setWidths_0 : decode cX15_setWidths 0 = .ok (.aload_n 0, 1) := by decide +kernel
theorem dX15_setWidths_1 : decode cX15_setWidths 1 = .ok (.iload_n 1, 1) := by decide +kernel
theorem dX15_setWidths_2 : decode cX15_setWidths 2 = .ok (.iconst 2, 1) := by decide +kernel
theorem dX15_setWidths_3 : decode cX15_setWidths 3 = .ok (.bipush 100, 2) := by decide +kernel
theorem dX15_setWidths_5 : decode cX15_setWidths 5 = .ok (.invokestatic 79, 3) := by decide +kernel
theorem dX15_setWidths_8 : decode cX15_setWidths 8 = .ok (.ifCond .eq 13, 3) := by decide +kernel
theorem dX15_setWidths_11 : decode cX15_setWidths 11 = .ok (.iload_n 2, 1) := by decide +kernel
theorem dX15_setWidths_12 : decode cX15_setWidths 12 = .ok (.iconst 2, 1) := by decide +kernel
theorem dX15_setWidths_13 : decode cX15_setWidths 13 = .ok (.bipush 20, 2) := by decide +kernel
theorem dX15_setWidths_15 : decode cX15_setWidths 15 = .ok (.invokestatic 79, 3) := by decide +kernel
theorem dX15_setWidths_18 : decode cX15_setWidths 18 = .ok (.ifCond .ne 7, 3) := by decide +kernel
theorem dX15_setWidths_21 : decode cX15_setWidths 21 = .ok (.iconst 1, 1) := by decide +kernel
theorem dX15_setWidths_22 : decode cX15_setWidths 22 = .ok (.goto 4, 3) := by decide +kernel
theorem dX15_setWidths_25 : decode cX15_setWidths 25 = .ok (.iconst 0, 1) := by decide +kernel
theorem dX15_setWidths_26 : decode cX15_setWidths 26 = .ok (.iconst 1, 1) := by decide +kernel
theorem dX15_setWidths_27 : decode cX15_setWidths 27 = .ok (.invokevirtual 83, 3) := by decide +kernel
theorem dX15_setWidths_30 : decode cX15_setWidths 30 = .ok (.ifCond .ne 15, 3) := by decide +kernel
theorem dX15_setWidths_33 : decode cX15_setWidths 33 = .ok (.aload_n 0, 1) := by decide +kernel
theorem dX15_setWidths_34 : decode cX15_setWidths 34 = .ok (.aload_n 0, 1) := by decide +kernel
theorem dX15_setWidths_35 : decode cX15_setWidths 35 = .ok (.invokevirtual 103, 3) := by decide +kernel
theorem dX15_setWidths_38 : decode cX15_setWidths 38 = .ok (.iconst 2, 1) := by decide +kernel
theorem dX15_setWidths_39 : decode cX15_setWidths 39 = .ok (.invokevirtual 75, 3) := by decide +kernel
theorem dX15_setWidths_42 : decode cX15_setWidths 42 = .ok (.ifCond .eq 5, 3) := by decide +kernel
theorem dX15_setWidths_45 : decode cX15_setWidths 45 = .ok (.iconst 0, 1) := by decide +kernel
theorem dX15_setWidths_46 : decode cX15_setWidths 46 = .ok (.ireturn, 1) := by decide +kernel
theorem dX15_setWidths_47 : decode cX15_setWidths 47 = .ok (.aload_n 0, 1) := by decide +kernel
theorem dX15_setWidths_48 : decode cX15_setWidths 48 = .ok (.getfield 68, 3) := by decide +kernel
theorem dX15_setWidths_51 : decode cX15_setWidths 51 = .ok (.getfield 106, 3) := by decide +kernel
theorem dX15_setWidths_54 : decode cX15_setWidths 54 = .ok (.istore_n 3, 1) := by decide +kernel
theorem dX15_setWidths_55 : decode cX15_setWidths 55 = .ok (.aload_n 0, 1) := by decide +kernel
theorem dX15_setWidths_56 : decode cX15_setWidths 56 = .ok (.getfield 68, 3) := by decide +kernel
theorem dX15_setWidths_59 : decode cX15_setWidths 59 = .ok (.iload_n 1, 1) := by decide +kernel
theorem dX15_setWidths_60 : decode cX15_setWidths 60 = .ok (.putfield 106, 3) := by decide +kernel
theorem dX15_setWidths_63 : decode cX15_setWidths 63 = .ok (.aload_n 0, 1) := by decide +kernel
theorem dX15_setWidths_64 : decode cX15_setWidths 64 = .ok (.getfield 68, 3) := by decide +kernel
theorem dX15_setWidths_67 : decode cX15_setWidths 67 = .ok (.iload_n 2, 1) := by decide +kernel
theorem dX15_setWidths_68 : decode cX15_setWidths 68 = .ok (.putfield 109, 3) := by decide +kernel
theorem dX15_setWidths_71 : decode cX15_setWidths 71 = .ok (.iload_n 3, 1) := by decide +kernel
theorem dX15_setWidths_72 : decode cX15_setWidths 72 = .ok (.ireturn, 1) := by decide +kernel
theorem dX15_setKeep_0 : decode cX15_setKeep 0 = .ok (.aload_n 0, 1) := by decide +kernel
theorem dX15_setKeep_1 : decode cX15_setKeep 1 = .ok (.iload_n 1, 1) := by decide +kernel
theorem dX15_setKeep_2 : decode cX15_setKeep 2 = .ok (.iconst 0, 1) := by decide +kernel
theorem dX15_setKeep_3 : decode cX15_setKeep 3 = .ok (.sipush 10000, 3) := by decide +kernel
theorem dX15_setKeep_6 : decode cX15_setKeep 6 = .ok (.invokestatic 79, 3) := by decide +kernel
theorem dX15_setKeep_9 : decode cX15_setKeep 9 = .ok (.ifCond .eq 14, 3) := by decide +kernel
theorem dX15_setKeep_12 : decode cX15_setKeep 12 = .ok (.iload_n 2, 1) := by decide +kernel
theorem dX15_setKeep_13 : decode cX15_setKeep 13 = .ok (.iconst 0, 1) := by decide +kernel
theorem dX15_setKeep_14 : decode cX15_setKeep 14 = .ok (.sipush 10000, 3) := by decide +kernel
theorem dX15_setKeep_17 : decode cX15_setKeep 17 = .ok (.invokestatic 79, 3) := by decide +kernel
theorem dX15_setKeep_20 : decode cX15_setKeep 20 = .ok (.ifCond .ne 7, 3) := by decide +kernel
theorem dX15_setKeep_23 : decode cX15_setKeep 23 = .ok (.iconst 1, 1) := by decide +kernel
theorem dX15_setKeep_24 : decode cX15_setKeep 24 = .ok (.goto 4, 3) := by decide +kernel
theorem dX15_setKeep_27 : decode cX15_setKeep 27 = .ok (.iconst 0, 1) := by decide +kernel
theorem dX15_setKeep_28 : decode cX15_setKeep 28 = .ok (.iconst 1, 1) := by decide +kernel
theorem dX15_setKeep_29 : decode cX15_setKeep 29 = .ok (.invokevirtual 83, 3) := by decide +kernel
theorem dX15_setKeep_32 : decode cX15_setKeep 32 = .ok (.ifCond .eq 5, 3) := by decide +kernel
theorem dX15_setKeep_35 : decode cX15_setKeep 35 = .ok (.iconst 0, 1) := by decide +kernel
theorem dX15_setKeep_36 : decode cX15_setKeep 36 = .ok (.ireturn, 1) := by decide +kernel
theorem dX15_setKeep_37 : decode cX15_setKeep 37 = .ok (.aload_n 0, 1) := by decide +kernel
theorem dX15_setKeep_38 : decode cX15_setKeep 38 = .ok (.getfield 68, 3) := by decide +kernel
theorem dX15_setKeep_41 : decode cX15_setKeep 41 = .ok (.getfield 112, 3) := by decide +kernel
theorem dX15_setKeep_44 : decode cX15_setKeep 44 = .ok (.istore_n 3, 1) := by decide +kernel
theorem dX15_setKeep_45 : decode cX15_setKeep 45 = .ok (.aload_n 0, 1) := by decide +kernel
theorem dX15_setKeep_46 : decode cX15_setKeep 46 = .ok (.getfield 68, 3) := by decide +kernel
theorem dX15_setKeep_49 : decode cX15_setKeep 49 = .ok (.iload_n 1, 1) := by decide +kernel
theorem dX15_setKeep_50 : decode cX15_setKeep 50 = .ok (.putfield 112, 3) := by decide +kernel
theorem dX15_setKeep_53 : decode cX15_setKeep 53 = .ok (.aload_n 0, 1) := by decide +kernel
theorem dX15_setKeep_54 : decode cX15_setKeep 54 = .ok (.getfield 68, 3) := by decide +kernel
theorem dX15_setKeep_57 : decode cX15_setKeep 57 = .ok (.iload_n 2, 1) := by decide +kernel
theorem dX15_setKeep_58 : decode cX15_setKeep 58 = .ok (.putfield 115, 3) := by decide +kernel
theorem dX15_setKeep_61 : decode cX15_setKeep 61 = .ok (.iload_n 3, 1) := by decide +kernel
theorem dX15_setKeep_62 : decode cX15_setKeep 62 = .ok (.ireturn, 1) := by decide +kernel
theorem dX15_setQuery_0 : decode cX15_setQuery 0 = .ok (.aload_n 0, 1) := by decide +kernel
theorem dX15_setQuery_1 : decode cX15_setQuery 1 = .ok (.iload_n 1, 1) := by decide +kernel
theorem dX15_setQuery_2 : decode cX15_setQuery 2 = .ok (.iconst 0, 1) := by decide +kernel
theorem dX15_setQuery_3 : decode cX15_setQuery 3 = .ok (.ldc 118, 2) := by decide +kernel
theorem dX15_setQuery_5 : decode cX15_setQuery 5 = .ok (.invokestatic 79, 3) := by decide +kernel
theorem dX15_setQuery_8 : decode cX15_setQuery 8 = .ok (.ifCond .eq 34, 3) := by decide +kernel
theorem dX15_setQuery_11 : decode cX15_setQuery 11 = .ok (.iload_n 2, 1) := by decide +kernel
theorem dX15_setQuery_12 : decode cX15_setQuery 12 = .ok (.iconst 1, 1) := by decide +kernel
theorem dX15_setQuery_13 : decode cX15_setQuery 13 = .ok (.sipush 10000, 3) := by decide +kernel
theorem dX15_setQuery_16 : decode cX15_setQuery 16 = .ok (.invokestatic 79, 3) := by decide +kernel
theorem dX15_setQuery_19 : decode cX15_setQuery 19 = .ok (.ifCond .eq 23, 3) := by decide +kernel
theorem dX15_setQuery_22 : decode cX15_setQuery 22 = .ok (.iload_n 3, 1) := by decide +kernel
theorem dX15_setQuery_23 : decode cX15_setQuery 23 = .ok (.iconst 0, 1) := by decide +kernel
theorem dX15_setQuery_24 : decode cX15_setQuery 24 = .ok (.bipush 7, 2) := by decide +kernel
theorem dX15_setQuery_26 : decode cX15_setQuery 26 = .ok (.invokestatic 79, 3) := by decide +kernel
theorem dX15_setQuery_29 : decode cX15_setQuery 29 = .ok (.ifCond .eq 13, 3) := by decide +kernel
theorem dX15_setQuery_32 : decode cX15_setQuery 32 = .ok (.iload 4, 2) := by decide +kernel
theorem dX15_setQuery_34 : decode cX15_setQuery 34 = .ok (.iconst 0, 1) := by decide +kernel
theorem dX15_setQuery_35 : decode cX15_setQuery 35 = .ok (.iconst 3, 1) := by decide +kernel
theorem dX15_setQuery_36 : decode cX15_setQuery 36 = .ok (.invokestatic 79, 3) := by decide +kernel
theorem dX15_setQuery_39 : decode cX15_setQuery 39 = .ok (.ifCond .ne 7, 3) := by decide +kernel
theorem dX15_setQuery_42 : decode cX15_setQuery 42 = .ok (.iconst 1, 1) := by decide +kernel
theorem dX15_setQuery_43 : decode cX15_setQuery 43 = .ok (.goto 4, 3) := by decide +kernel
theorem dX15_setQuery_46 : decode cX15_setQuery 46 = .ok (.iconst 0, 1) := by decide +kernel
theorem dX15_setQuery_47 : decode cX15_setQuery 47 = .ok (.iconst 1, 1) := by decide +kernel
theorem dX15_setQuery_48 : decode cX15_setQuery 48 = .ok (.invokevirtual 83, 3) := by decide +kernel
theorem dX15_setQuery_51 : decode cX15_setQuery 51 = .ok (.ifCond .eq 5, 3) := by decide +kernel
theorem dX15_setQuery_54 : decode cX15_setQuery 54 = .ok (.iconst 0, 1) := by decide +kernel
theorem dX15_setQuery_55 : decode cX15_setQuery 55 = .ok (.ireturn, 1) := by decide +kernel
theorem dX15_setQuery_56 : decode cX15_setQuery 56 = .ok (.aload_n 0, 1) := by decide +kernel
theorem dX15_setQuery_57 : decode cX15_setQuery 57 = .ok (.getfield 57, 3) := by decide +kernel
theorem dX15_setQuery_60 : decode cX15_setQuery 60 = .ok (.istore 5, 2) := by decide +kernel
theorem dX15_setQuery_62 : decode cX15_setQuery 62 = .ok (.aload_n 0, 1) := by decide +kernel
theorem dX15_setQuery_63 : decode cX15_setQuery 63 = .ok (.iload_n 1, 1) := by decide +kernel
theorem dX15_setQuery_64 : decode cX15_setQuery 64 = .ok (.putfield 119, 3) := by decide +kernel
theorem dX15_setQuery_67 : decode cX15_setQuery 67 = .ok (.aload_n 0, 1) := by decide +kernel
theorem dX15_setQuery_68 : decode cX15_setQuery 68 = .ok (.iload_n 2, 1) := by decide +kernel
theorem dX15_setQuery_69 : decode cX15_setQuery 69 = .ok (.putfield 57, 3) := by decide +kernel
theorem dX15_setQuery_72 : decode cX15_setQuery 72 = .ok (.aload_n 0, 1) := by decide +kernel
theorem dX15_setQuery_73 : decode cX15_setQuery 73 = .ok (.iload_n 3, 1) := by decide +kernel
theorem dX15_setQuery_74 : decode cX15_setQuery 74 = .ok (.putfield 62, 3) := by decide +kernel
theorem dX15_setQuery_77 : decode cX15_setQuery 77 = .ok (.aload_n 0, 1) := by decide +kernel
theorem dX15_setQuery_78 : decode cX15_setQuery 78 = .ok (.iload 4, 2) := by decide +kernel
theorem dX15_setQuery_80 : decode cX15_setQuery 80 = .ok (.putfield 122, 3) := by decide +kernel
theorem dX15_setQuery_83 : decode cX15_setQuery 83 = .ok (.iload 5, 2) := by decide +kernel
theorem dX15_setQuery_85 : decode cX15_setQuery 85 = .ok (.ireturn, 1) := by decide +kernel
theorem dX15_isNoSeries_0 : decode cX15_isNoSeries 0 = .ok (.aload_n 0, 1) := by decide +kernel
theorem dX15_isNoSeries_1 : decode cX15_isNoSeries 1 = .ok (.iload_n 1, 1) := by decide +kernel
theorem dX15_isNoSeries_2 : decode cX15_isNoSeries 2 = .ok (.iconst 0, 1) := by decide +kernel
theorem dX15_isNoSeries_3 : decode cX15_isNoSeries 3 = .ok (.aload_n 0, 1) := by decide +kernel
theorem dX15_isNoSeries_4 : decode cX15_isNoSeries 4 = .ok (.getfield 68, 3) := by decide +kernel
theorem dX15_isNoSeries_7 : decode cX15_isNoSeries 7 = .ok (.getfield 86, 3) := by decide +kernel
theorem dX15_isNoSeries_10 : decode cX15_isNoSeries 10 = .ok (.invokevirtual 7, 3) := by decide +kernel
theorem dX15_isNoSeries_13 : decode cX15_isNoSeries 13 = .ok (.iconst 1, 1) := by decide +kernel
theorem dX15_isNoSeries_14 : decode cX15_isNoSeries 14 = .ok (.isub, 1) := by decide +kernel
theorem dX15_isNoSeries_15 : decode cX15_isNoSeries 15 = .ok (.invokestatic 79, 3) := by decide +kernel
theorem dX15_isNoSeries_18 : decode cX15_isNoSeries 18 = .ok (.ifCond .ne 7, 3) := by decide +kernel
theorem dX15_isNoSeries_21 : decode cX15_isNoSeries 21 = .ok (.iconst 1, 1) := by decide +kernel
theorem dX15_isNoSeries_22 : decode cX15_isNoSeries 22 = .ok (.goto 4, 3) := by decide +kernel
theorem dX15_isNoSeries_25 : decode cX15_isNoSeries 25 = .ok (.iconst 0, 1) := by decide +kernel
theorem dX15_isNoSeries_26 : decode cX15_isNoSeries 26 = .ok (.iconst 1, 1) := by decide +kernel
theorem dX15_isNoSeries_27 : decode cX15_isNoSeries 27 = .ok (.invokevirtual 83, 3) := by decide +kernel
theorem dX15_isNoSeries_30 : decode cX15_isNoSeries 30 = .ok (.ireturn, 1) := by decide +kernel
theorem dX15_put_0 : decode cX15_put 0 = .ok (.aload_n 0, 1) := by decide +kernel
theorem dX15_put_1 : decode cX15_put 1 = .ok (.iload_n 1, 1) := by decide +kernel
theorem dX15_put_2 : decode cX15_put 2 = .ok (.invokevirtual 152, 3) := by decide +kernel
theorem dX15_put_5 : decode cX15_put 5 = .ok (.ifCond .ne 19, 3) := by decide +kernel
theorem dX15_put_24 : decode cX15_put 24 = .ok (.iconst 0, 1) := by decide +kernel
theorem dX15_put_25 : decode cX15_put 25 = .ok (.goto 14, 3) := by decide +kernel
theorem dX15_put_39 : decode cX15_put 39 = .ok (.ireturn, 1) := by decide +kernel
theorem dX15_putRow_0 : decode cX15_putRow 0 = .ok (.aload_n 0, 1) := by decide +kernel
theorem dX15_putRow_1 : decode cX15_putRow 1 = .ok (.iload_n 1, 1) := by decide +kernel
theorem dX15_putRow_2 : decode cX15_putRow 2 = .ok (.invokevirtual 152, 3) := by decide +kernel
theorem dX15_putRow_5 : decode cX15_putRow 5 = .ok (.ifCond .ne 39, 3) := by decide +kernel
theorem dX15_putRow_44 : decode cX15_putRow 44 = .ok (.iconst 0, 1) := by decide +kernel
theorem dX15_putRow_45 : decode cX15_putRow 45 = .ok (.ireturn, 1) := by decide +kernel
theorem dX15_goOn_0 : decode cX15_goOn 0 = .ok (.aload_n 0, 1) := by decide +kernel
theorem dX15_goOn_1 : decode cX15_goOn 1 = .ok (.iload_n 1, 1) := by decide +kernel
theorem dX15_goOn_2 : decode cX15_goOn 2 = .ok (.iconst 1, 1) := by decide +kernel
theorem dX15_goOn_3 : decode cX15_goOn 3 = .ok (.bipush 100, 2) := by decide +kernel
theorem dX15_goOn_5 : decode cX15_goOn 5 = .ok (.invokestatic 79, 3) := by decide +kernel
theorem dX15_goOn_8 : decode cX15_goOn 8 = .ok (.ifCond .eq 17, 3) := by decide +kernel
theorem dX15_goOn_11 : decode cX15_goOn 11 = .ok (.aload_n 0, 1) := by decide +kernel
theorem dX15_goOn_12 : decode cX15_goOn 12 = .ok (.getfield 68, 3) := by decide +kernel
theorem dX15_goOn_15 : decode cX15_goOn 15 = .ok (.getfield 125, 3) := by decide +kernel
theorem dX15_goOn_18 : decode cX15_goOn 18 = .ok (.iload_n 1, 1) := by decide +kernel
theorem dX15_goOn_19 : decode cX15_goOn 19 = .ok (.iadd, 1) := by decide +kernel
theorem dX15_goOn_20 : decode cX15_goOn 20 = .ok (.ldc 118, 2) := by decide +kernel
theorem dX15_goOn_22 : decode cX15_goOn 22 = .ok (.if_icmp .le 7, 3) := by decide +kernel
theorem dX15_goOn_25 : decode cX15_goOn 25 = .ok (.iconst 1, 1) := by decide +kernel
theorem dX15_goOn_26 : decode cX15_goOn 26 = .ok (.goto 4, 3) := by decide +kernel
theorem dX15_goOn_29 : decode cX15_goOn 29 = .ok (.iconst 0, 1) := by decide +kernel
theorem dX15_goOn_30 : decode cX15_goOn 30 = .ok (.iconst 1, 1) := by decide +kernel
theorem dX15_goOn_31 : decode cX15_goOn 31 = .ok (.invokevirtual 83, 3) := by decide +kernel
theorem dX15_goOn_34 : decode cX15_goOn 34 = .ok (.ifCond .eq 5, 3) := by decide +kernel
theorem dX15_goOn_37 : decode cX15_goOn 37 = .ok (.iconst 0, 1) := by decide +kernel
theorem dX15_goOn_38 : decode cX15_goOn 38 = .ok (.ireturn, 1) := by decide +kernel
theorem dX15_goOn_39 : decode cX15_goOn 39 = .ok (.aload_n 0, 1) := by decide +kernel
theorem dX15_goOn_40 : decode cX15_goOn 40 = .ok (.getfield 68, 3) := by decide +kernel
theorem dX15_goOn_43 : decode cX15_goOn 43 = .ok (.getfield 167, 3) := by decide +kernel
theorem dX15_goOn_46 : decode cX15_goOn 46 = .ok (.invokevirtual 7, 3) := by decide +kernel
theorem dX15_goOn_49 : decode cX15_goOn 49 = .ok (.istore_n 2, 1) := by decide +kernel
theorem dX15_goOn_50 : decode cX15_goOn 50 = .ok (.iconst 0, 1) := by decide +kernel
theorem dX15_goOn_51 : decode cX15_goOn 51 = .ok (.istore_n 3, 1) := by decide +kernel
theorem dX15_goOn_52 : decode cX15_goOn 52 = .ok (.iload_n 3, 1) := by decide +kernel
theorem dX15_goOn_53 : decode cX15_goOn 53 = .ok (.iload_n 1, 1) := by decide +kernel
theorem dX15_goOn_54 : decode cX15_goOn 54 = .ok (.if_icmp .ge 16, 3) := by decide +kernel
theorem dX15_goOn_57 : decode cX15_goOn 57 = .ok (.aload_n 0, 1) := by decide +kernel
theorem dX15_goOn_58 : decode cX15_goOn 58 = .ok (.getfield 68, 3) := by decide +kernel
theorem dX15_goOn_61 : decode cX15_goOn 61 = .ok (.invokevirtual 170, 3) := by decide +kernel
theorem dX15_goOn_64 : decode cX15_goOn 64 = .ok (.iinc 3 1, 3) := by decide +kernel
theorem dX15_goOn_67 : decode cX15_goOn 67 = .ok (.goto (-15), 3) := by decide +kernel
theorem dX15_goOn_70 : decode cX15_goOn 70 = .ok (.aload_n 0, 1) := by decide +kernel
theorem dX15_goOn_71 : decode cX15_goOn 71 = .ok (.getfield 68, 3) := by decide +kernel
theorem dX15_goOn_74 : decode cX15_goOn 74 = .ok (.getfield 167, 3) := by decide +kernel
theorem dX15_goOn_77 : decode cX15_goOn 77 = .ok (.invokevirtual 7, 3) := by decide +kernel
theorem dX15_goOn_80 : decode cX15_goOn 80 = .ok (.iload_n 2, 1) := by decide +kernel
theorem dX15_goOn_81 : decode cX15_goOn 81 = .ok (.isub, 1) := by decide +kernel
theorem dX15_goOn_82 : decode cX15_goOn 82 = .ok (.ireturn, 1) := by decide +kernel
theorem dX15_now_0 : decode cX15_now 0 = .ok (.aload_n 0, 1) := by decide +kernel
theorem dX15_now_1 : decode cX15_now 1 = .ok (.aload_n 0, 1) := by decide +kernel
theorem dX15_now_2 : decode cX15_now 2 = .ok (.getfield 68, 3) := by decide +kernel
theorem dX15_now_5 : decode cX15_now 5 = .ok (.getfield 125, 3) := by decide +kernel
theorem dX15_now_8 : decode cX15_now 8 = .ok (.invokevirtual 173, 3) := by decide +kernel
theorem dX15_now_11 : decode cX15_now 11 = .ok (.ireturn, 1) := by decide +kernel
theorem dX15_series__0 : decode cX15_series_ 0 = .ok (.aload_n 0, 1) := by decide +kernel
theorem dX15_series__1 : decode cX15_series_ 1 = .ok (.aload_n 0, 1) := by decide +kernel
theorem dX15_series__2 : decode cX15_series_ 2 = .ok (.getfield 68, 3) := by decide +kernel
theorem dX15_series__5 : decode cX15_series_ 5 = .ok (.getfield 86, 3) := by decide +kernel
theorem dX15_series__8 : decode cX15_series_ 8 = .ok (.invokevirtual 7, 3) := by decide +kernel
theorem dX15_series__11 : decode cX15_series_ 11 = .ok (.invokevirtual 173, 3) := by decide +kernel
theorem dX15_series__14 : decode cX15_series_ 14 = .ok (.ireturn, 1) := by decide +kernel
theorem dX15_late_0 : decode cX15_late 0 = .ok (.aload_n 0, 1) := by decide +kernel
theorem dX15_late_1 : decode cX15_late 1 = .ok (.aload_n 0, 1) := by decide +kernel
theorem dX15_late_2 : decode cX15_late 2 = .ok (.getfield 135, 3) := by decide +kernel
theorem dX15_late_5 : decode cX15_late 5 = .ok (.invokevirtual 173, 3) := by decide +kernel
theorem dX15_late_8 : decode cX15_late 8 = .ok (.ireturn, 1) := by decide +kernel
theorem dX15_blocks_0 : decode cX15_blocks 0 = .ok (.aload_n 0, 1) := by decide +kernel
theorem dX15_blocks_1 : decode cX15_blocks 1 = .ok (.iload_n 1, 1) := by decide +kernel
theorem dX15_blocks_2 : decode cX15_blocks 2 = .ok (.invokevirtual 152, 3) := by decide +kernel
theorem dX15_blocks_5 : decode cX15_blocks 5 = .ok (.ifCond .eq 7, 3) := by decide +kernel
theorem dX15_blocks_8 : decode cX15_blocks 8 = .ok (.iconst 0, 1) := by decide +kernel
theorem dX15_blocks_9 : decode cX15_blocks 9 = .ok (.goto 14, 3) := by decide +kernel
theorem dX15_blocks_23 : decode cX15_blocks 23 = .ok (.ireturn, 1) := by decide +kernel
theorem dX15_isNoBlock_0 : decode cX15_isNoBlock 0 = .ok (.aload_n 0, 1) := by decide +kernel
theorem dX15_isNoBlock_1 : decode cX15_isNoBlock 1 = .ok (.iload_n 1, 1) := by decide +kernel
theorem dX15_isNoBlock_2 : decode cX15_isNoBlock 2 = .ok (.invokevirtual 152, 3) := by decide +kernel
theorem dX15_isNoBlock_5 : decode cX15_isNoBlock 5 = .ok (.ifCond .ne 37, 3) := by decide +kernel
theorem dX15_isNoBlock_42 : decode cX15_isNoBlock 42 = .ok (.iconst 1, 1) := by decide +kernel
theorem dX15_isNoBlock_43 : decode cX15_isNoBlock 43 = .ok (.goto 4, 3) := by decide +kernel
theorem dX15_isNoBlock_47 : decode cX15_isNoBlock 47 = .ok (.ireturn, 1) := by decide +kernel
theorem dX15_size_0 : decode cX15_size 0 = .ok (.aload_n 0, 1) := by decide +kernel
theorem dX15_size_1 : decode cX15_size 1 = .ok (.iload_n 1, 1) := by decide +kernel
theorem dX15_size_2 : decode cX15_size 2 = .ok (.iload_n 2, 1) := by decide +kernel
theorem dX15_size_3 : decode cX15_size 3 = .ok (.invokevirtual 177, 3) := by decide +kernel
theorem dX15_size_6 : decode cX15_size 6 = .ok (.ifCond .eq 7, 3) := by decide +kernel
theorem dX15_size_9 : decode cX15_size 9 = .ok (.iconst 0, 1) := by decide +kernel
theorem dX15_size_10 : decode cX15_size 10 = .ok (.goto 12, 3) := by decide +kernel
theorem dX15_size_22 : decode cX15_size 22 = .ok (.ireturn, 1) := by decide +kernel
theorem dX15_point_0 : decode cX15_point 0 = .ok (.aload_n 0, 1) := by decide +kernel
theorem dX15_point_1 : decode cX15_point 1 = .ok (.iload_n 1, 1) := by decide +kernel
theorem dX15_point_2 : decode cX15_point 2 = .ok (.iload_n 2, 1) := by decide +kernel
theorem dX15_point_3 : decode cX15_point 3 = .ok (.invokevirtual 177, 3) := by decide +kernel
theorem dX15_point_6 : decode cX15_point 6 = .ok (.ifCond .ne 35, 3) := by decide +kernel
theorem dX15_point_41 : decode cX15_point 41 = .ok (.iconst 0, 1) := by decide +kernel
theorem dX15_point_42 : decode cX15_point 42 = .ok (.ireturn, 1) := by decide +kernel
theorem dX15_bits_0 : decode cX15_bits 0 = .ok (.aload_n 0, 1) := by decide +kernel
theorem dX15_bits_1 : decode cX15_bits 1 = .ok (.iload_n 1, 1) := by decide +kernel
theorem dX15_bits_2 : decode cX15_bits 2 = .ok (.iload_n 2, 1) := by decide +kernel
theorem dX15_bits_3 : decode cX15_bits 3 = .ok (.invokevirtual 177, 3) := by decide +kernel
theorem dX15_bits_6 : decode cX15_bits 6 = .ok (.ifCond .eq 7, 3) := by decide +kernel
theorem dX15_bits_9 : decode cX15_bits 9 = .ok (.iconst 0, 1) := by decide +kernel
theorem dX15_bits_10 : decode cX15_bits 10 = .ok (.goto 16, 3) := by decide +kernel
theorem dX15_bits_26 : decode cX15_bits 26 = .ok (.ireturn, 1) := by decide +kernel
theorem dX15_word_0 : decode cX15_word 0 = .ok (.aload_n 0, 1) := by decide +kernel
theorem dX15_word_1 : decode cX15_word 1 = .ok (.iload_n 1, 1) := by decide +kernel
theorem dX15_word_2 : decode cX15_word 2 = .ok (.iload_n 2, 1) := by decide +kernel
theorem dX15_word_3 : decode cX15_word 3 = .ok (.invokevirtual 177, 3) := by decide +kernel
theorem dX15_word_6 : decode cX15_word 6 = .ok (.ifCond .eq 5, 3) := by decide +kernel
theorem dX15_word_9 : decode cX15_word 9 = .ok (.iconst 0, 1) := by decide +kernel
theorem dX15_word_10 : decode cX15_word 10 = .ok (.ireturn, 1) := by decide +kernel
theorem dX15_buckets__0 : decode cX15_buckets_ 0 = .ok (.aload_n 0, 1) := by decide +kernel
theorem dX15_buckets__1 : decode cX15_buckets_ 1 = .ok (.iload_n 1, 1) := by decide +kernel
theorem dX15_buckets__2 : decode cX15_buckets_ 2 = .ok (.invokevirtual 152, 3) := by decide +kernel
theorem dX15_buckets__5 : decode cX15_buckets_ 5 = .ok (.ifCond .eq 7, 3) := by decide +kernel
theorem dX15_buckets__8 : decode cX15_buckets_ 8 = .ok (.iconst 0, 1) := by decide +kernel
theorem dX15_buckets__9 : decode cX15_buckets_ 9 = .ok (.goto 15, 3) := by decide +kernel
theorem dX15_buckets__24 : decode cX15_buckets_ 24 = .ok (.ireturn, 1) := by decide +kernel
theorem dX15_ofBucket_0 : decode cX15_ofBucket 0 = .ok (.aload_n 0, 1) := by decide +kernel
theorem dX15_ofBucket_1 : decode cX15_ofBucket 1 = .ok (.iload_n 1, 1) := by decide +kernel
theorem dX15_ofBucket_2 : decode cX15_ofBucket 2 = .ok (.invokevirtual 152, 3) := by decide +kernel
theorem dX15_ofBucket_5 : decode cX15_ofBucket 5 = .ok (.ifCond .ne 62, 3) := by decide +kernel
theorem dX15_ofBucket_67 : decode cX15_ofBucket 67 = .ok (.iconst 0, 1) := by decide +kernel
theorem dX15_ofBucket_68 : decode cX15_ofBucket 68 = .ok (.goto 24, 3) := by decide +kernel
theorem dX15_ofBucket_92 : decode cX15_ofBucket 92 = .ok (.ireturn, 1) := by decide +kernel
theorem dX15_items_0 : decode cX15_items 0 = .ok (.aload_n 0, 1) := by decide +kernel
theorem dX15_items_1 : decode cX15_items 1 = .ok (.iload_n 1, 1) := by decide +kernel
theorem dX15_items_2 : decode cX15_items 2 = .ok (.invokevirtual 152, 3) := by decide +kernel
theorem dX15_items_5 : decode cX15_items 5 = .ok (.ifCond .eq 7, 3) := by decide +kernel
theorem dX15_items_8 : decode cX15_items 8 = .ok (.iconst 0, 1) := by decide +kernel
theorem dX15_items_9 : decode cX15_items 9 = .ok (.goto 14, 3) := by decide +kernel
theorem dX15_items_23 : decode cX15_items 23 = .ok (.ireturn, 1) := by decide +kernel
theorem dX15_ratio_0 : decode cX15_ratio 0 = .ok (.aload_n 0, 1) := by decide +kernel
theorem dX15_ratio_1 : decode cX15_ratio 1 = .ok (.iconst 0, 1) := by decide +kernel
theorem dX15_ratio_2 : decode cX15_ratio 2 = .ok (.putfield 72, 3) := by decide +kernel
theorem dX15_ratio_5 : decode cX15_ratio 5 = .ok (.iconst 0, 1) := by decide +kernel
theorem dX15_ratio_6 : decode cX15_ratio 6 = .ok (.istore_n 1, 1) := by decide +kernel
theorem dX15_ratio_7 : decode cX15_ratio 7 = .ok (.iconst 0, 1) := by decide +kernel
theorem dX15_ratio_8 : decode cX15_ratio 8 = .ok (.istore_n 2, 1) := by decide +kernel
theorem dX15_ratio_9 : decode cX15_ratio 9 = .ok (.iconst 0, 1) := by decide +kernel
theorem dX15_ratio_10 : decode cX15_ratio 10 = .ok (.istore_n 3, 1) := by decide +kernel
theorem dX15_ratio_11 : decode cX15_ratio 11 = .ok (.iload_n 3, 1) := by decide +kernel
theorem dX15_ratio_12 : decode cX15_ratio 12 = .ok (.aload_n 0, 1) := by decide +kernel
theorem dX15_ratio_13 : decode cX15_ratio 13 = .ok (.getfield 68, 3) := by decide +kernel
theorem dX15_ratio_16 : decode cX15_ratio 16 = .ok (.getfield 86, 3) := by decide +kernel
theorem dX15_ratio_19 : decode cX15_ratio 19 = .ok (.invokevirtual 7, 3) := by decide +kernel
theorem dX15_ratio_22 : decode cX15_ratio 22 = .ok (.if_icmp .ge 75, 3) := by decide +kernel
theorem dX15_ratio_97 : decode cX15_ratio 97 = .ok (.iload_n 2, 1) := by decide +kernel
theorem dX15_ratio_98 : decode cX15_ratio 98 = .ok (.ifCond .ne 7, 3) := by decide +kernel
theorem dX15_ratio_101 : decode cX15_ratio 101 = .ok (.dconst 0, 1) := by decide +kernel
theorem dX15_ratio_102 : decode cX15_ratio 102 = .ok (.goto 11, 3) := by decide +kernel
theorem dX15_ratio_113 : decode cX15_ratio 113 = .ok (.dreturn, 1) := by decide +kernel
theorem dX15_ask_0 : decode cX15_ask 0 = .ok (.aload_n 0, 1) := by decide +kernel
theorem dX15_ask_1 : decode cX15_ask 1 = .ok (.iload_n 1, 1) := by decide +kernel
theorem dX15_ask_2 : decode cX15_ask 2 = .ok (.invokevirtual 152, 3) := by decide +kernel
theorem dX15_ask_5 : decode cX15_ask 5 = .ok (.ifCond .ne 27, 3) := by decide +kernel
theorem dX15_ask_32 : decode cX15_ask 32 = .ok (.iconst 0, 1) := by decide +kernel
theorem dX15_ask_33 : decode cX15_ask 33 = .ok (.goto 13, 3) := by decide +kernel
theorem dX15_ask_46 : decode cX15_ask 46 = .ok (.ireturn, 1) := by decide +kernel
theorem dX15_over_0 : decode cX15_over 0 = .ok (.aload_n 0, 1) := by decide +kernel
theorem dX15_over_1 : decode cX15_over 1 = .ok (.iload_n 2, 1) := by decide +kernel
theorem dX15_over_2 : decode cX15_over 2 = .ok (.iconst 0, 1) := by decide +kernel
theorem dX15_over_3 : decode cX15_over 3 = .ok (.bipush 9, 2) := by decide +kernel
theorem dX15_over_5 : decode cX15_over 5 = .ok (.invokestatic 79, 3) := by decide +kernel
theorem dX15_over_8 : decode cX15_over 8 = .ok (.ifCond .eq 24, 3) := by decide +kernel
theorem dX15_over_11 : decode cX15_over 11 = .ok (.iload_n 3, 1) := by decide +kernel
theorem dX15_over_12 : decode cX15_over 12 = .ok (.iconst 0, 1) := by decide +kernel
theorem dX15_over_13 : decode cX15_over 13 = .ok (.iconst 3, 1) := by decide +kernel
theorem dX15_over_14 : decode cX15_over 14 = .ok (.invokestatic 79, 3) := by decide +kernel
theorem dX15_over_17 : decode cX15_over 17 = .ok (.ifCond .eq 15, 3) := by decide +kernel
theorem dX15_over_20 : decode cX15_over 20 = .ok (.iload 4, 2) := by decide +kernel
theorem dX15_over_22 : decode cX15_over 22 = .ok (.iconst 0, 1) := by decide +kernel
theorem dX15_over_23 : decode cX15_over 23 = .ok (.sipush 1000, 3) := by decide +kernel
theorem dX15_over_26 : decode cX15_over 26 = .ok (.invokestatic 79, 3) := by decide +kernel
theorem dX15_over_29 : decode cX15_over 29 = .ok (.ifCond .ne 7, 3) := by decide +kernel
theorem dX15_over_32 : decode cX15_over 32 = .ok (.iconst 1, 1) := by decide +kernel
theorem dX15_over_33 : decode cX15_over 33 = .ok (.goto 4, 3) := by decide +kernel
theorem dX15_over_36 : decode cX15_over 36 = .ok (.iconst 0, 1) := by decide +kernel
theorem dX15_over_37 : decode cX15_over 37 = .ok (.iconst 1, 1) := by decide +kernel
theorem dX15_over_38 : decode cX15_over 38 = .ok (.invokevirtual 83, 3) := by decide +kernel
theorem dX15_over_41 : decode cX15_over 41 = .ok (.ifCond .eq 5, 3) := by decide +kernel
theorem dX15_over_44 : decode cX15_over 44 = .ok (.iconst 0, 1) := by decide +kernel
theorem dX15_over_45 : decode cX15_over 45 = .ok (.ireturn, 1) := by decide +kernel
theorem dX15_over_46 : decode cX15_over 46 = .ok (.iconst 0, 1) := by decide +kernel
theorem dX15_over_47 : decode cX15_over 47 = .ok (.istore 5, 2) := by decide +kernel
theorem dX15_over_49 : decode cX15_over 49 = .ok (.iconst 0, 1) := by decide +kernel
theorem dX15_over_50 : decode cX15_over 50 = .ok (.istore 6, 2) := by decide +kernel
theorem dX15_over_52 : decode cX15_over 52 = .ok (.ldc 220, 2) := by decide +kernel
theorem dX15_over_54 : decode cX15_over 54 = .ok (.istore 7, 2) := by decide +kernel
theorem dX15_over_56 : decode cX15_over 56 = .ok (.ldc 221, 2) := by decide +kernel
theorem dX15_over_58 : decode cX15_over 58 = .ok (.istore 8, 2) := by decide +kernel
theorem dX15_over_60 : decode cX15_over 60 = .ok (.iconst 0, 1) := by decide +kernel
theorem dX15_over_61 : decode cX15_over 61 = .ok (.istore 9, 2) := by decide +kernel
theorem dX15_over_63 : decode cX15_over 63 = .ok (.iload 9, 2) := by decide +kernel
theorem dX15_over_65 : decode cX15_over 65 = .ok (.aload_n 0, 1) := by decide +kernel
theorem dX15_over_66 : decode cX15_over 66 = .ok (.getfield 68, 3) := by decide +kernel
theorem dX15_over_69 : decode cX15_over 69 = .ok (.getfield 86, 3) := by decide +kernel
theorem dX15_over_72 : decode cX15_over 72 = .ok (.invokevirtual 7, 3) := by decide +kernel
theorem dX15_over_75 : decode cX15_over 75 = .ok (.if_icmp .ge 84, 3) := by decide +kernel
theorem dX15_over_159 : decode cX15_over 159 = .ok (.iload_n 3, 1) := by decide +kernel
theorem dX15_over_160 : decode cX15_over 160 = .ok (.iconst 3, 1) := by decide +kernel
theorem dX15_over_161 : decode cX15_over 161 = .ok (.if_icmp .ne 6, 3) := by decide +kernel
theorem dX15_over_164 : decode cX15_over 164 = .ok (.iload 5, 2) := by decide +kernel
theorem dX15_over_166 : decode cX15_over 166 = .ok (.ireturn, 1) := by decide +kernel
theorem dX15_over_167 : decode cX15_over 167 = .ok (.iload 5, 2) := by decide +kernel
theorem dX15_over_169 : decode cX15_over 169 = .ok (.ifCond .ne 8, 3) := by decide +kernel
theorem dX15_over_172 : decode cX15_over 172 = .ok (.ldc 226, 2) := by decide +kernel
theorem dX15_over_174 : decode cX15_over 174 = .ok (.goto 24, 3) := by decide +kernel
theorem dX15_over_198 : decode cX15_over 198 = .ok (.ireturn, 1) := by decide +kernel
theorem dX15_gaps_0 : decode cX15_gaps 0 = .ok (.aload_n 0, 1) := by decide +kernel
theorem dX15_gaps_1 : decode cX15_gaps 1 = .ok (.iload_n 1, 1) := by decide +kernel
theorem dX15_gaps_2 : decode cX15_gaps 2 = .ok (.invokevirtual 152, 3) := by decide +kernel
theorem dX15_gaps_5 : decode cX15_gaps 5 = .ok (.ifCond .ne 26, 3) := by decide +kernel
theorem dX15_gaps_31 : decode cX15_gaps 31 = .ok (.iconst 0, 1) := by decide +kernel
theorem dX15_gaps_32 : decode cX15_gaps 32 = .ok (.ireturn, 1) := by decide +kernel
theorem dX15_lastAt_0 : decode cX15_lastAt 0 = .ok (.aload_n 0, 1) := by decide +kernel
theorem dX15_lastAt_1 : decode cX15_lastAt 1 = .ok (.iload_n 1, 1) := by decide +kernel
theorem dX15_lastAt_2 : decode cX15_lastAt 2 = .ok (.invokevirtual 152, 3) := by decide +kernel
theorem dX15_lastAt_5 : decode cX15_lastAt 5 = .ok (.ifCond .ne 26, 3) := by decide +kernel
theorem dX15_lastAt_31 : decode cX15_lastAt 31 = .ok (.iconst 0, 1) := by decide +kernel
theorem dX15_lastAt_32 : decode cX15_lastAt 32 = .ok (.ireturn, 1) := by decide +kernel
theorem dX15_addRule_0 : decode cX15_addRule 0 = .ok (.aload_n 0, 1) := by decide +kernel
theorem dX15_addRule_1 : decode cX15_addRule 1 = .ok (.iload_n 1, 1) := by decide +kernel
theorem dX15_addRule_2 : decode cX15_addRule 2 = .ok (.invokevirtual 152, 3) := by decide +kernel
theorem dX15_addRule_5 : decode cX15_addRule 5 = .ok (.ifCond .ne 98, 3) := by decide +kernel
theorem dX15_addRule_103 : decode cX15_addRule 103 = .ok (.iconst 0, 1) := by decide +kernel
theorem dX15_addRule_104 : decode cX15_addRule 104 = .ok (.ireturn, 1) := by decide +kernel
theorem dX15_isNoRule_0 : decode cX15_isNoRule 0 = .ok (.aload_n 0, 1) := by decide +kernel
theorem dX15_isNoRule_1 : decode cX15_isNoRule 1 = .ok (.iload_n 1, 1) := by decide +kernel
theorem dX15_isNoRule_2 : decode cX15_isNoRule 2 = .ok (.iconst 0, 1) := by decide +kernel
theorem dX15_isNoRule_3 : decode cX15_isNoRule 3 = .ok (.aload_n 0, 1) := by decide +kernel
theorem dX15_isNoRule_4 : decode cX15_isNoRule 4 = .ok (.getfield 68, 3) := by decide +kernel
theorem dX15_isNoRule_7 : decode cX15_isNoRule 7 = .ok (.getfield 244, 3) := by decide +kernel
theorem dX15_isNoRule_10 : decode cX15_isNoRule 10 = .ok (.invokevirtual 7, 3) := by decide +kernel
theorem dX15_isNoRule_13 : decode cX15_isNoRule 13 = .ok (.iconst 1, 1) := by decide +kernel
theorem dX15_isNoRule_14 : decode cX15_isNoRule 14 = .ok (.isub, 1) := by decide +kernel
theorem dX15_isNoRule_15 : decode cX15_isNoRule 15 = .ok (.invokestatic 79, 3) := by decide +kernel
theorem dX15_isNoRule_18 : decode cX15_isNoRule 18 = .ok (.ifCond .ne 7, 3) := by decide +kernel
theorem dX15_isNoRule_21 : decode cX15_isNoRule 21 = .ok (.iconst 1, 1) := by decide +kernel
theorem dX15_isNoRule_22 : decode cX15_isNoRule 22 = .ok (.goto 4, 3) := by decide +kernel
theorem dX15_isNoRule_25 : decode cX15_isNoRule 25 = .ok (.iconst 0, 1) := by decide +kernel
theorem dX15_isNoRule_26 : decode cX15_isNoRule 26 = .ok (.iconst 1, 1) := by decide +kernel
theorem dX15_isNoRule_27 : decode cX15_isNoRule 27 = .ok (.invokevirtual 83, 3) := by decide +kernel
theorem dX15_isNoRule_30 : decode cX15_isNoRule 30 = .ok (.ireturn, 1) := by decide +kernel
theorem dX15_stateOf_0 : decode cX15_stateOf 0 = .ok (.aload_n 0, 1) := by decide +kernel
theorem dX15_stateOf_1 : decode cX15_stateOf 1 = .ok (.iload_n 1, 1) := by decide +kernel
theorem dX15_stateOf_2 : decode cX15_stateOf 2 = .ok (.invokevirtual 252, 3) := by decide +kernel
theorem dX15_stateOf_5 : decode cX15_stateOf 5 = .ok (.ifCond .eq 7, 3) := by decide +kernel
theorem dX15_stateOf_8 : decode cX15_stateOf 8 = .ok (.iconst 0, 1) := by decide +kernel
theorem dX15_stateOf_9 : decode cX15_stateOf 9 = .ok (.goto 20, 3) := by decide +kernel
theorem dX15_stateOf_29 : decode cX15_stateOf 29 = .ok (.ireturn, 1) := by decide +kernel
theorem dX15_inRow_0 : decode cX15_inRow 0 = .ok (.aload_n 0, 1) := by decide +kernel
theorem dX15_inRow_1 : decode cX15_inRow 1 = .ok (.iload_n 1, 1) := by decide +kernel
theorem dX15_inRow_2 : decode cX15_inRow 2 = .ok (.invokevirtual 252, 3) := by decide +kernel
theorem dX15_inRow_5 : decode cX15_inRow 5 = .ok (.ifCond .eq 7, 3) := by decide +kernel
theorem dX15_inRow_8 : decode cX15_inRow 8 = .ok (.iconst 0, 1) := by decide +kernel
theorem dX15_inRow_9 : decode cX15_inRow 9 = .ok (.goto 20, 3) := by decide +kernel
theorem dX15_inRow_29 : decode cX15_inRow 29 = .ok (.ireturn, 1) := by decide +kernel
theorem dX15_seenBy_0 : decode cX15_seenBy 0 = .ok (.aload_n 0, 1) := by decide +kernel
theorem dX15_seenBy_1 : decode cX15_seenBy 1 = .ok (.iload_n 1, 1) := by decide +kernel
theorem dX15_seenBy_2 : decode cX15_seenBy 2 = .ok (.invokevirtual 252, 3) := by decide +kernel
theorem dX15_seenBy_5 : decode cX15_seenBy 5 = .ok (.ifCond .eq 7, 3) := by decide +kernel
theorem dX15_seenBy_8 : decode cX15_seenBy 8 = .ok (.iconst 0, 1) := by decide +kernel
theorem dX15_seenBy_9 : decode cX15_seenBy 9 = .ok (.goto 24, 3) := by decide +kernel
theorem dX15_seenBy_33 : decode cX15_seenBy 33 = .ok (.ireturn, 1) := by decide +kernel
theorem dX15_events_0 : decode cX15_events 0 = .ok (.aload_n 0, 1) := by decide +kernel
theorem dX15_events_1 : decode cX15_events 1 = .ok (.aload_n 0, 1) := by decide +kernel
theorem dX15_events_2 : decode cX15_events 2 = .ok (.getfield 68, 3) := by decide +kernel
theorem dX15_events_5 : decode cX15_events 5 = .ok (.getfield 167, 3) := by decide +kernel
theorem dX15_events_8 : decode cX15_events 8 = .ok (.invokevirtual 7, 3) := by decide +kernel
theorem dX15_events_11 : decode cX15_events 11 = .ok (.invokevirtual 173, 3) := by decide +kernel
theorem dX15_events_14 : decode cX15_events 14 = .ok (.ireturn, 1) := by decide +kernel
theorem dX15_event_0 : decode cX15_event 0 = .ok (.aload_n 0, 1) := by decide +kernel
theorem dX15_event_1 : decode cX15_event 1 = .ok (.iload_n 1, 1) := by decide +kernel
theorem dX15_event_2 : decode cX15_event 2 = .ok (.iconst 0, 1) := by decide +kernel
theorem dX15_event_3 : decode cX15_event 3 = .ok (.bipush 20, 2) := by decide +kernel
theorem dX15_event_5 : decode cX15_event 5 = .ok (.aload_n 0, 1) := by decide +kernel
theorem dX15_event_6 : decode cX15_event 6 = .ok (.getfield 68, 3) := by decide +kernel
theorem dX15_event_9 : decode cX15_event 9 = .ok (.getfield 167, 3) := by decide +kernel
theorem dX15_event_12 : decode cX15_event 12 = .ok (.invokevirtual 7, 3) := by decide +kernel
theorem dX15_event_15 : decode cX15_event 15 = .ok (.invokestatic 227, 3) := by decide +kernel
theorem dX15_event_18 : decode cX15_event 18 = .ok (.iconst 1, 1) := by decide +kernel
theorem dX15_event_19 : decode cX15_event 19 = .ok (.isub, 1) := by decide +kernel
theorem dX15_event_20 : decode cX15_event 20 = .ok (.invokestatic 79, 3) := by decide +kernel
theorem dX15_event_23 : decode cX15_event 23 = .ok (.ifCond .ne 7, 3) := by decide +kernel
theorem dX15_event_26 : decode cX15_event 26 = .ok (.iconst 1, 1) := by decide +kernel
theorem dX15_event_27 : decode cX15_event 27 = .ok (.goto 4, 3) := by decide +kernel
theorem dX15_event_30 : decode cX15_event 30 = .ok (.iconst 0, 1) := by decide +kernel
theorem dX15_event_31 : decode cX15_event 31 = .ok (.iconst 1, 1) := by decide +kernel
theorem dX15_event_32 : decode cX15_event 32 = .ok (.invokevirtual 83, 3) := by decide +kernel
theorem dX15_event_35 : decode cX15_event 35 = .ok (.ifCond .ne 25, 3) := by decide +kernel
theorem dX15_event_60 : decode cX15_event 60 = .ok (.iconst 0, 1) := by decide +kernel
theorem dX15_event_61 : decode cX15_event 61 = .ok (.goto 32, 3) := by decide +kernel
theorem dX15_event_93 : decode cX15_event 93 = .ok (.ireturn, 1) := by decide +kernel
theorem dX15_bitsWith_0 : decode cX15_bitsWith 0 = .ok (.aload_n 0, 1) := by decide +kernel
theorem dX15_bitsWith_1 : decode cX15_bitsWith 1 = .ok (.iload_n 1, 1) := by decide +kernel
theorem dX15_bitsWith_2 : decode cX15_bitsWith 2 = .ok (.invokevirtual 152, 3) := by decide +kernel
theorem dX15_bitsWith_5 : decode cX15_bitsWith 5 = .ok (.ifCond .ne 19, 3) := by decide +kernel
theorem dX15_bitsWith_24 : decode cX15_bitsWith 24 = .ok (.iconst 0, 1) := by decide +kernel
theorem dX15_bitsWith_25 : decode cX15_bitsWith 25 = .ok (.ireturn, 1) := by decide +kernel
theorem dX15_firesIn_0 : decode cX15_firesIn 0 = .ok (.aload_n 0, 1) := by decide +kernel
theorem dX15_firesIn_1 : decode cX15_firesIn 1 = .ok (.iload_n 1, 1) := by decide +kernel
theorem dX15_firesIn_2 : decode cX15_firesIn 2 = .ok (.iconst 1, 1) := by decide +kernel
theorem dX15_firesIn_3 : decode cX15_firesIn 3 = .ok (.bipush 100, 2) := by decide +kernel
theorem dX15_firesIn_5 : decode cX15_firesIn 5 = .ok (.invokestatic 79, 3) := by decide +kernel
theorem dX15_firesIn_8 : decode cX15_firesIn 8 = .ok (.ifCond .eq 17, 3) := by decide +kernel
theorem dX15_firesIn_11 : decode cX15_firesIn 11 = .ok (.aload_n 0, 1) := by decide +kernel
theorem dX15_firesIn_12 : decode cX15_firesIn 12 = .ok (.getfield 68, 3) := by decide +kernel
theorem dX15_firesIn_15 : decode cX15_firesIn 15 = .ok (.getfield 125, 3) := by decide +kernel
theorem dX15_firesIn_18 : decode cX15_firesIn 18 = .ok (.iload_n 1, 1) := by decide +kernel
theorem dX15_firesIn_19 : decode cX15_firesIn 19 = .ok (.iadd, 1) := by decide +kernel
theorem dX15_firesIn_20 : decode cX15_firesIn 20 = .ok (.ldc 118, 2) := by decide +kernel
theorem dX15_firesIn_22 : decode cX15_firesIn 22 = .ok (.if_icmp .le 7, 3) := by decide +kernel
theorem dX15_firesIn_25 : decode cX15_firesIn 25 = .ok (.iconst 1, 1) := by decide +kernel
theorem dX15_firesIn_26 : decode cX15_firesIn 26 = .ok (.goto 4, 3) := by decide +kernel
theorem dX15_firesIn_29 : decode cX15_firesIn 29 = .ok (.iconst 0, 1) := by decide +kernel
theorem dX15_firesIn_30 : decode cX15_firesIn 30 = .ok (.iconst 1, 1) := by decide +kernel
theorem dX15_firesIn_31 : decode cX15_firesIn 31 = .ok (.invokevirtual 83, 3) := by decide +kernel
theorem dX15_firesIn_34 : decode cX15_firesIn 34 = .ok (.ifCond .eq 5, 3) := by decide +kernel
theorem dX15_firesIn_37 : decode cX15_firesIn 37 = .ok (.iconst 0, 1) := by decide +kernel
theorem dX15_firesIn_38 : decode cX15_firesIn 38 = .ok (.ireturn, 1) := by decide +kernel
theorem dX15_firesIn_39 : decode cX15_firesIn 39 = .ok (.aload_n 0, 1) := by decide +kernel
theorem dX15_firesIn_40 : decode cX15_firesIn 40 = .ok (.getfield 68, 3) := by decide +kernel
theorem dX15_firesIn_43 : decode cX15_firesIn 43 = .ok (.invokevirtual 268, 3) := by decide +kernel
theorem dX15_firesIn_46 : decode cX15_firesIn 46 = .ok (.astore_n 2, 1) := by decide +kernel
theorem dX15_firesIn_47 : decode cX15_firesIn 47 = .ok (.iconst 1, 1) := by decide +kernel
theorem dX15_firesIn_48 : decode cX15_firesIn 48 = .ok (.istore_n 3, 1) := by decide +kernel
theorem dX15_firesIn_49 : decode cX15_firesIn 49 = .ok (.iload_n 3, 1) := by decide +kernel
theorem dX15_firesIn_50 : decode cX15_firesIn 50 = .ok (.iload_n 1, 1) := by decide +kernel
theorem dX15_firesIn_51 : decode cX15_firesIn 51 = .ok (.if_icmp .gt 64, 3) := by decide +kernel
theorem dX15_firesIn_54 : decode cX15_firesIn 54 = .ok (.aload_n 2, 1) := by decide +kernel
theorem dX15_firesIn_55 : decode cX15_firesIn 55 = .ok (.getfield 167, 3) := by decide +kernel
theorem dX15_firesIn_58 : decode cX15_firesIn 58 = .ok (.invokevirtual 7, 3) := by decide +kernel
theorem dX15_firesIn_61 : decode cX15_firesIn 61 = .ok (.istore 4, 2) := by decide +kernel
theorem dX15_firesIn_63 : decode cX15_firesIn 63 = .ok (.aload_n 2, 1) := by decide +kernel
theorem dX15_firesIn_64 : decode cX15_firesIn 64 = .ok (.invokevirtual 170, 3) := by decide +kernel
theorem dX15_firesIn_67 : decode cX15_firesIn 67 = .ok (.iload 4, 2) := by decide +kernel
theorem dX15_firesIn_69 : decode cX15_firesIn 69 = .ok (.istore 5, 2) := by decide +kernel
theorem dX15_firesIn_71 : decode cX15_firesIn 71 = .ok (.iload 5, 2) := by decide +kernel
theorem dX15_firesIn_73 : decode cX15_firesIn 73 = .ok (.aload_n 2, 1) := by decide +kernel
theorem dX15_firesIn_74 : decode cX15_firesIn 74 = .ok (.getfield 167, 3) := by decide +kernel
theorem dX15_firesIn_77 : decode cX15_firesIn 77 = .ok (.invokevirtual 7, 3) := by decide +kernel
theorem dX15_firesIn_80 : decode cX15_firesIn 80 = .ok (.if_icmp .ge 29, 3) := by decide +kernel
theorem dX15_firesIn_109 : decode cX15_firesIn 109 = .ok (.iinc 3 1, 3) := by decide +kernel
theorem dX15_firesIn_112 : decode cX15_firesIn 112 = .ok (.goto (-63), 3) := by decide +kernel
theorem dX15_firesIn_115 : decode cX15_firesIn 115 = .ok (.iconst (-1), 1) := by decide +kernel
theorem dX15_firesIn_116 : decode cX15_firesIn 116 = .ok (.ireturn, 1) := by decide +kernel
theorem dX15_wouldRoll_0 : decode cX15_wouldRoll 0 = .ok (.aload_n 0, 1) := by decide +kernel
theorem dX15_wouldRoll_1 : decode cX15_wouldRoll 1 = .ok (.iload_n 1, 1) := by decide +kernel
theorem dX15_wouldRoll_2 : decode cX15_wouldRoll 2 = .ok (.iconst 0, 1) := by decide +kernel
theorem dX15_wouldRoll_3 : decode cX15_wouldRoll 3 = .ok (.sipush 10000, 3) := by decide +kernel
theorem dX15_wouldRoll_6 : decode cX15_wouldRoll 6 = .ok (.invokestatic 79, 3) := by decide +kernel
theorem dX15_wouldRoll_9 : decode cX15_wouldRoll 9 = .ok (.ifCond .ne 7, 3) := by decide +kernel
theorem dX15_wouldRoll_12 : decode cX15_wouldRoll 12 = .ok (.iconst 1, 1) := by decide +kernel
theorem dX15_wouldRoll_13 : decode cX15_wouldRoll 13 = .ok (.goto 4, 3) := by decide +kernel
theorem dX15_wouldRoll_16 : decode cX15_wouldRoll 16 = .ok (.iconst 0, 1) := by decide +kernel
theorem dX15_wouldRoll_17 : decode cX15_wouldRoll 17 = .ok (.iconst 1, 1) := by decide +kernel
theorem dX15_wouldRoll_18 : decode cX15_wouldRoll 18 = .ok (.invokevirtual 83, 3) := by decide +kernel
theorem dX15_wouldRoll_21 : decode cX15_wouldRoll 21 = .ok (.ifCond .ne 15, 3) := by decide +kernel
theorem dX15_wouldRoll_24 : decode cX15_wouldRoll 24 = .ok (.aload_n 0, 1) := by decide +kernel
theorem dX15_wouldRoll_25 : decode cX15_wouldRoll 25 = .ok (.getfield 68, 3) := by decide +kernel
theorem dX15_wouldRoll_28 : decode cX15_wouldRoll 28 = .ok (.getfield 125, 3) := by decide +kernel
theorem dX15_wouldRoll_31 : decode cX15_wouldRoll 31 = .ok (.ldc 118, 2) := by decide +kernel
theorem dX15_wouldRoll_33 : decode cX15_wouldRoll 33 = .ok (.if_icmp .ne 5, 3) := by decide +kernel
theorem dX15_wouldRoll_36 : decode cX15_wouldRoll 36 = .ok (.iconst 0, 1) := by decide +kernel
theorem dX15_wouldRoll_37 : decode cX15_wouldRoll 37 = .ok (.ireturn, 1) := by decide +kernel
theorem dX15_wouldRoll_38 : decode cX15_wouldRoll 38 = .ok (.aload_n 0, 1) := by decide +kernel
theorem dX15_wouldRoll_39 : decode cX15_wouldRoll 39 = .ok (.getfield 68, 3) := by decide +kernel
theorem dX15_wouldRoll_42 : decode cX15_wouldRoll 42 = .ok (.invokevirtual 268, 3) := by decide +kernel
theorem dX15_wouldRoll_45 : decode cX15_wouldRoll 45 = .ok (.astore_n 2, 1) := by decide +kernel
theorem dX15_wouldRoll_46 : decode cX15_wouldRoll 46 = .ok (.iconst 0, 1) := by decide +kernel
theorem dX15_wouldRoll_47 : decode cX15_wouldRoll 47 = .ok (.istore_n 3, 1) := by decide +kernel
theorem dX15_wouldRoll_48 : decode cX15_wouldRoll 48 = .ok (.iconst 0, 1) := by decide +kernel
theorem dX15_wouldRoll_49 : decode cX15_wouldRoll 49 = .ok (.istore 4, 2) := by decide +kernel
theorem dX15_wouldRoll_51 : decode cX15_wouldRoll 51 = .ok (.iload 4, 2) := by decide +kernel
theorem dX15_wouldRoll_53 : decode cX15_wouldRoll 53 = .ok (.aload_n 2, 1) := by decide +kernel
theorem dX15_wouldRoll_54 : decode cX15_wouldRoll 54 = .ok (.getfield 86, 3) := by decide +kernel
theorem dX15_wouldRoll_57 : decode cX15_wouldRoll 57 = .ok (.invokevirtual 7, 3) := by decide +kernel
theorem dX15_wouldRoll_60 : decode cX15_wouldRoll 60 = .ok (.if_icmp .ge 57, 3) := by decide +kernel
theorem dX15_wouldRoll_117 : decode cX15_wouldRoll 117 = .ok (.iload_n 3, 1) := by decide +kernel
theorem dX15_wouldRoll_118 : decode cX15_wouldRoll 118 = .ok (.ireturn, 1) := by decide +kernel
theorem dX15_add_0 : decode cX15_add 0 = .ok (.lload_n 0, 1) := by decide +kernel
theorem dX15_add_1 : decode cX15_add 1 = .ok (.ldc2_w 277, 3) := by decide +kernel
theorem dX15_add_4 : decode cX15_add 4 = .ok (.lmul, 1) := by decide +kernel
theorem dX15_add_5 : decode cX15_add 5 = .ok (.lload_n 2, 1) := by decide +kernel
theorem dX15_add_6 : decode cX15_add 6 = .ok (.ladd, 1) := by decide +kernel
theorem dX15_add_7 : decode cX15_add 7 = .ok (.lreturn, 1) := by decide +kernel
theorem dX15_digest_0 : decode cX15_digest 0 = .ok (.aload_n 0, 1) := by decide +kernel
theorem dX15_digest_1 : decode cX15_digest 1 = .ok (.iconst 0, 1) := by decide +kernel
theorem dX15_digest_2 : decode cX15_digest 2 = .ok (.putfield 72, 3) := by decide +kernel
theorem dX15_digest_5 : decode cX15_digest 5 = .ok (.ldc2_w 282, 3) := by decide +kernel
theorem dX15_digest_8 : decode cX15_digest 8 = .ok (.aload_n 0, 1) := by decide +kernel
theorem dX15_digest_9 : decode cX15_digest 9 = .ok (.getfield 68, 3) := by decide +kernel
theorem dX15_digest_12 : decode cX15_digest 12 = .ok (.getfield 125, 3) := by decide +kernel
theorem dX15_digest_15 : decode cX15_digest 15 = .ok (.i2l, 1) := by decide +kernel
theorem dX15_digest_16 : decode cX15_digest 16 = .ok (.invokestatic 279, 3) := by decide +kernel
theorem dX15_digest_19 : decode cX15_digest 19 = .ok (.aload_n 0, 1) := by decide +kernel
theorem dX15_digest_20 : decode cX15_digest 20 = .ok (.getfield 68, 3) := by decide +kernel
theorem dX15_digest_23 : decode cX15_digest 23 = .ok (.getfield 86, 3) := by decide +kernel
theorem dX15_digest_26 : decode cX15_digest 26 = .ok (.invokevirtual 7, 3) := by decide +kernel
theorem dX15_digest_29 : decode cX15_digest 29 = .ok (.i2l, 1) := by decide +kernel
theorem dX15_digest_30 : decode cX15_digest 30 = .ok (.invokestatic 279, 3) := by decide +kernel
theorem dX15_digest_33 : decode cX15_digest 33 = .ok (.aload_n 0, 1) := by decide +kernel
theorem dX15_digest_34 : decode cX15_digest 34 = .ok (.getfield 135, 3) := by decide +kernel
theorem dX15_digest_37 : decode cX15_digest 37 = .ok (.i2l, 1) := by decide +kernel
theorem dX15_digest_38 : decode cX15_digest 38 = .ok (.invokestatic 279, 3) := by decide +kernel
theorem dX15_digest_41 : decode cX15_digest 41 = .ok (.aload_n 0, 1) := by decide +kernel
theorem dX15_digest_42 : decode cX15_digest 42 = .ok (.getfield 68, 3) := by decide +kernel
theorem dX15_digest_45 : decode cX15_digest 45 = .ok (.getfield 167, 3) := by decide +kernel
theorem dX15_digest_48 : decode cX15_digest 48 = .ok (.invokevirtual 7, 3) := by decide +kernel
theorem dX15_digest_51 : decode cX15_digest 51 = .ok (.i2l, 1) := by decide +kernel
theorem dX15_digest_52 : decode cX15_digest 52 = .ok (.invokestatic 279, 3) := by decide +kernel
theorem dX15_digest_55 : decode cX15_digest 55 = .ok (.lstore_n 1, 1) := by decide +kernel
theorem dX15_digest_56 : decode cX15_digest 56 = .ok (.iconst 0, 1) := by decide +kernel
theorem dX15_digest_57 : decode cX15_digest 57 = .ok (.istore_n 3, 1) := by decide +kernel
theorem dX15_digest_58 : decode cX15_digest 58 = .ok (.iload_n 3, 1) := by decide +kernel
theorem dX15_digest_59 : decode cX15_digest 59 = .ok (.aload_n 0, 1) := by decide +kernel
theorem dX15_digest_60 : decode cX15_digest 60 = .ok (.getfield 68, 3) := by decide +kernel
theorem dX15_digest_63 : decode cX15_digest 63 = .ok (.getfield 86, 3) := by decide +kernel
theorem dX15_digest_66 : decode cX15_digest 66 = .ok (.invokevirtual 7, 3) := by decide +kernel
theorem dX15_digest_69 : decode cX15_digest 69 = .ok (.if_icmp .ge 225, 3) := by decide +kernel
theorem dX15_digest_294 : decode cX15_digest 294 = .ok (.iconst 0, 1) := by decide +kernel
theorem dX15_digest_295 : decode cX15_digest 295 = .ok (.istore_n 3, 1) := by decide +kernel
theorem dX15_digest_296 : decode cX15_digest 296 = .ok (.iload_n 3, 1) := by decide +kernel
theorem dX15_digest_297 : decode cX15_digest 297 = .ok (.aload_n 0, 1) := by decide +kernel
theorem dX15_digest_298 : decode cX15_digest 298 = .ok (.getfield 68, 3) := by decide +kernel
theorem dX15_digest_301 : decode cX15_digest 301 = .ok (.getfield 244, 3) := by decide +kernel
theorem dX15_digest_304 : decode cX15_digest 304 = .ok (.invokevirtual 7, 3) := by decide +kernel
theorem dX15_digest_307 : decode cX15_digest 307 = .ok (.if_icmp .ge 78, 3) := by decide +kernel
theorem dX15_digest_385 : decode cX15_digest 385 = .ok (.iconst 0, 1) := by decide +kernel
theorem dX15_digest_386 : decode cX15_digest 386 = .ok (.istore_n 3, 1) := by decide +kernel
theorem dX15_digest_387 : decode cX15_digest 387 = .ok (.iload_n 3, 1) := by decide +kernel
theorem dX15_digest_388 : decode cX15_digest 388 = .ok (.iconst 5, 1) := by decide +kernel
theorem dX15_digest_389 : decode cX15_digest 389 = .ok (.if_icmp .ge 74, 3) := by decide +kernel
theorem dX15_digest_392 : decode cX15_digest 392 = .ok (.iload_n 3, 1) := by decide +kernel
theorem dX15_digest_393 : decode cX15_digest 393 = .ok (.aload_n 0, 1) := by decide +kernel
theorem dX15_digest_394 : decode cX15_digest 394 = .ok (.getfield 68, 3) := by decide +kernel
theorem dX15_digest_397 : decode cX15_digest 397 = .ok (.getfield 167, 3) := by decide +kernel
theorem dX15_digest_400 : decode cX15_digest 400 = .ok (.invokevirtual 7, 3) := by decide +kernel
theorem dX15_digest_403 : decode cX15_digest 403 = .ok (.if_icmp .ge 60, 3) := by decide +kernel
theorem dX15_digest_463 : decode cX15_digest 463 = .ok (.lload_n 1, 1) := by decide +kernel
theorem dX15_digest_464 : decode cX15_digest 464 = .ok (.lreturn, 1) := by decide +kernel
theorem dJxa1e45_init_da8c8_0 : decode cJxa1e45_init_da8c8 0 = .ok (.aload_n 0, 1) := by decide +kernel
theorem dJxa1e45_init_da8c8_1 : decode cJxa1e45_init_da8c8 1 = .ok (.invokespecial 1, 3) := by decide +kernel
theorem dJxa1e45_init_da8c8_4 : decode cJxa1e45_init_da8c8 4 = .ok (.return_, 1) := by decide +kernel
theorem dJxc12de_init_da8c8_0 : decode cJxc12de_init_da8c8 0 = .ok (.aload_n 0, 1) := by decide +kernel
theorem dJxc12de_init_da8c8_1 : decode cJxc12de_init_da8c8 1 = .ok (.invokespecial 1, 3) := by decide +kernel
theorem dJxc12de_init_da8c8_4 : decode cJxc12de_init_da8c8 4 = .ok (.aload_n 0, 1) := by decide +kernel
theorem dJxc12de_init_da8c8_5 : decode cJxc12de_init_da8c8 5 = .ok (.iconst 0, 1) := by decide +kernel
theorem dJxc12de_init_da8c8_6 : decode cJxc12de_init_da8c8 6 = .ok (.putfield 7, 3) := by decide +kernel
theorem dJxc12de_init_da8c8_9 : decode cJxc12de_init_da8c8 9 = .ok (.return_, 1) := by decide +kernel
theorem dJx4a65c_init_da8c8_0 : decode cJx4a65c_init_da8c8 0 = .ok (.aload_n 0, 1) := by decide +kernel
theorem dJx4a65c_init_da8c8_1 : decode cJx4a65c_init_da8c8 1 = .ok (.invokespecial 1, 3) := by decide +kernel
theorem dJx4a65c_init_da8c8_4 : decode cJx4a65c_init_da8c8 4 = .ok (.aload_n 0, 1) := by decide +kernel
theorem dJx4a65c_init_da8c8_5 : decode cJx4a65c_init_da8c8 5 = .ok (.getstatic 39, 3) := by decide +kernel
theorem dJx4a65c_init_da8c8_8 : decode cJx4a65c_init_da8c8 8 = .ok (.putfield 9, 3) := by decide +kernel
theorem dJx4a65c_init_da8c8_11 : decode cJx4a65c_init_da8c8 11 = .ok (.return_, 1) := by decide +kernel
theorem dJx4a65c_grow_92f84_0 : decode cJx4a65c_grow_92f84 0 = .ok (.aload_n 0, 1) := by decide +kernel
theorem dJx4a65c_grow_92f84_1 : decode cJx4a65c_grow_92f84 1 = .ok (.getfield 9, 3) := by decide +kernel
theorem dJx4a65c_grow_92f84_4 : decode cJx4a65c_grow_92f84 4 = .ok (.arraylength, 1) := by decide +kernel
theorem dJx4a65c_grow_92f84_5 : decode cJx4a65c_grow_92f84 5 = .ok (.istore_n 2, 1) := by decide +kernel
theorem dJx4a65c_grow_92f84_6 : decode cJx4a65c_grow_92f84 6 = .ok (.iload_n 2, 1) := by decide +kernel
theorem dJx4a65c_grow_92f84_7 : decode cJx4a65c_grow_92f84 7 = .ok (.ifCond .gt 13, 3) := by decide +kernel
theorem dJx4a65c_grow_92f84_10 : decode cJx4a65c_grow_92f84 10 = .ok (.aload_n 0, 1) := by decide +kernel
theorem dJx4a65c_grow_92f84_11 : decode cJx4a65c_grow_92f84 11 = .ok (.getfield 9, 3) := by decide +kernel
theorem dJx4a65c_grow_92f84_14 : decode cJx4a65c_grow_92f84 14 = .ok (.getstatic 39, 3) := by decide +kernel
theorem dJx4a65c_grow_92f84_17 : decode cJx4a65c_grow_92f84 17 = .ok (.if_acmp .eq 28, 3) := by decide +kernel
theorem dJx4a65c_grow_92f84_45 : decode cJx4a65c_grow_92f84 45 = .ok (.aload_n 0, 1) := by decide +kernel
theorem dJx4a65c_grow_92f84_46 : decode cJx4a65c_grow_92f84 46 = .ok (.bipush 10, 2) := by decide +kernel
theorem dJx4a65c_grow_92f84_48 : decode cJx4a65c_grow_92f84 48 = .ok (.iload_n 1, 1) := by decide +kernel
theorem dJx4a65c_grow_92f84_49 : decode cJx4a65c_grow_92f84 49 = .ok (.invokestatic 79, 3) := by decide +kernel
theorem dJx4a65c_grow_92f84_52 : decode cJx4a65c_grow_92f84 52 = .ok (.anewarray 7, 3) := by decide +kernel
theorem dJx4a65c_grow_92f84_55 : decode cJx4a65c_grow_92f84 55 = .ok (.dup_x1, 1) := by decide +kernel
theorem dJx4a65c_grow_92f84_56 : decode cJx4a65c_grow_92f84 56 = .ok (.putfield 9, 3) := by decide +kernel
theorem dJx4a65c_grow_92f84_59 : decode cJx4a65c_grow_92f84 59 = .ok (.areturn, 1) := by decide +kernel
theorem dJx4a65c_grow_d5877_0 : decode cJx4a65c_grow_d5877 0 = .ok (.aload_n 0, 1) := by decide +kernel
theorem dJx4a65c_grow_d5877_1 : decode cJx4a65c_grow_d5877 1 = .ok (.aload_n 0, 1) := by decide +kernel
theorem dJx4a65c_grow_d5877_2 : decode cJx4a65c_grow_d5877 2 = .ok (.getfield 48, 3) := by decide +kernel
theorem dJx4a65c_grow_d5877_5 : decode cJx4a65c_grow_d5877 5 = .ok (.iconst 1, 1) := by decide +kernel
theorem dJx4a65c_grow_d5877_6 : decode cJx4a65c_grow_d5877 6 = .ok (.iadd, 1) := by decide +kernel
theorem dJx4a65c_grow_d5877_7 : decode cJx4a65c_grow_d5877 7 = .ok (.invokevirtual 69, 3) := by decide +kernel
theorem dJx4a65c_grow_d5877_10 : decode cJx4a65c_grow_d5877 10 = .ok (.areturn, 1) := by decide +kernel
theorem dJx4a65c_size_8abf5_0 : decode cJx4a65c_size_8abf5 0 = .ok (.aload_n 0, 1) := by decide +kernel
theorem dJx4a65c_size_8abf5_1 : decode cJx4a65c_size_8abf5 1 = .ok (.getfield 48, 3) := by decide +kernel
theorem dJx4a65c_size_8abf5_4 : decode cJx4a65c_size_8abf5 4 = .ok (.ireturn, 1) := by decide +kernel
theorem dJx4a65c_toArray_d5877_0 : decode cJx4a65c_toArray_d5877 0 = .ok (.aload_n 0, 1) := by decide +kernel
theorem dJx4a65c_toArray_d5877_1 : decode cJx4a65c_toArray_d5877 1 = .ok (.getfield 9, 3) := by decide +kernel
theorem dJx4a65c_toArray_d5877_4 : decode cJx4a65c_toArray_d5877 4 = .ok (.aload_n 0, 1) := by decide +kernel
theorem dJx4a65c_toArray_d5877_5 : decode cJx4a65c_toArray_d5877 5 = .ok (.getfield 48, 3) := by decide +kernel
theorem dJx4a65c_toArray_d5877_8 : decode cJx4a65c_toArray_d5877 8 = .ok (.invokestatic 66, 3) := by decide +kernel
theorem dJx4a65c_toArray_d5877_11 : decode cJx4a65c_toArray_d5877 11 = .ok (.areturn, 1) := by decide +kernel
theorem dJx4a65c_add_72be8_0 : decode cJx4a65c_add_72be8 0 = .ok (.iload_n 3, 1) := by decide +kernel
theorem dJx4a65c_add_72be8_1 : decode cJx4a65c_add_72be8 1 = .ok (.aload_n 2, 1) := by decide +kernel
theorem dJx4a65c_add_72be8_2 : decode cJx4a65c_add_72be8 2 = .ok (.arraylength, 1) := by decide +kernel
theorem dJx4a65c_add_72be8_3 : decode cJx4a65c_add_72be8 3 = .ok (.if_icmp .ne 8, 3) := by decide +kernel
theorem dJx4a65c_add_72be8_6 : decode cJx4a65c_add_72be8 6 = .ok (.aload_n 0, 1) := by decide +kernel
theorem dJx4a65c_add_72be8_7 : decode cJx4a65c_add_72be8 7 = .ok (.invokevirtual 129, 3) := by decide +kernel
theorem dJx4a65c_add_72be8_10 : decode cJx4a65c_add_72be8 10 = .ok (.astore_n 2, 1) := by decide +kernel
theorem dJx4a65c_add_72be8_11 : decode cJx4a65c_add_72be8 11 = .ok (.aload_n 2, 1) := by decide +kernel
theorem dJx4a65c_add_72be8_12 : decode cJx4a65c_add_72be8 12 = .ok (.iload_n 3, 1) := by decide +kernel
theorem dJx4a65c_add_72be8_13 : decode cJx4a65c_add_72be8 13 = .ok (.aload_n 1, 1) := by decide +kernel
theorem dJx4a65c_add_72be8_14 : decode cJx4a65c_add_72be8 14 = .ok (.aastore, 1) := by decide +kernel
theorem dJx4a65c_add_72be8_15 : decode cJx4a65c_add_72be8 15 = .ok (.aload_n 0, 1) := by decide +kernel
theorem dJx4a65c_add_72be8_16 : decode cJx4a65c_add_72be8 16 = .ok (.iload_n 3, 1) := by decide +kernel
theorem dJx4a65c_add_72be8_17 : decode cJx4a65c_add_72be8 17 = .ok (.iconst 1, 1) := by decide +kernel
theorem dJx4a65c_add_72be8_18 : decode cJx4a65c_add_72be8 18 = .ok (.iadd, 1) := by decide +kernel
theorem dJx4a65c_add_72be8_19 : decode cJx4a65c_add_72be8 19 = .ok (.putfield 48, 3) := by decide +kernel
theorem dJx4a65c_add_72be8_22 : decode cJx4a65c_add_72be8 22 = .ok (.return_, 1) := by decide +kernel
theorem dJx4a65c_add_9ea2d_0 : decode cJx4a65c_add_9ea2d 0 = .ok (.aload_n 0, 1) := by decide +kernel
theorem dJx4a65c_add_9ea2d_1 : decode cJx4a65c_add_9ea2d 1 = .ok (.dup, 1) := by decide +kernel
theorem dJx4a65c_add_9ea2d_2 : decode cJx4a65c_add_9ea2d 2 = .ok (.getfield 63, 3) := by decide +kernel
theorem dJx4a65c_add_9ea2d_5 : decode cJx4a65c_add_9ea2d 5 = .ok (.iconst 1, 1) := by decide +kernel
theorem dJx4a65c_add_9ea2d_6 : decode cJx4a65c_add_9ea2d 6 = .ok (.iadd, 1) := by decide +kernel
theorem dJx4a65c_add_9ea2d_7 : decode cJx4a65c_add_9ea2d 7 = .ok (.putfield 63, 3) := by decide +kernel
theorem dJx4a65c_add_9ea2d_10 : decode cJx4a65c_add_9ea2d 10 = .ok (.aload_n 0, 1) := by decide +kernel
theorem dJx4a65c_add_9ea2d_11 : decode cJx4a65c_add_9ea2d 11 = .ok (.aload_n 1, 1) := by decide +kernel
theorem dJx4a65c_add_9ea2d_12 : decode cJx4a65c_add_9ea2d 12 = .ok (.aload_n 0, 1) := by decide +kernel
theorem dJx4a65c_add_9ea2d_13 : decode cJx4a65c_add_9ea2d 13 = .ok (.getfield 9, 3) := by decide +kernel
theorem dJx4a65c_add_9ea2d_16 : decode cJx4a65c_add_9ea2d 16 = .ok (.aload_n 0, 1) := by decide +kernel
theorem dJx4a65c_add_9ea2d_17 : decode cJx4a65c_add_9ea2d 17 = .ok (.getfield 48, 3) := by decide +kernel
theorem dJx4a65c_add_9ea2d_20 : decode cJx4a65c_add_9ea2d 20 = .ok (.invokevirtual 131, 3) := by decide +kernel
theorem dJx4a65c_add_9ea2d_23 : decode cJx4a65c_add_9ea2d 23 = .ok (.iconst 1, 1) := by decide +kernel
theorem dJx4a65c_add_9ea2d_24 : decode cJx4a65c_add_9ea2d 24 = .ok (.ireturn, 1) := by decide +kernel
theorem dJx4a65c_addAll_f0b43_0 : decode cJx4a65c_addAll_f0b43 0 = .ok (.aload_n 1, 1) := by decide +kernel
theorem dJx4a65c_addAll_f0b43_1 : decode cJx4a65c_addAll_f0b43 1 = .ok (.invokeinterface 42 1, 5) := by decide +kernel
theorem dJx4a65c_addAll_f0b43_6 : decode cJx4a65c_addAll_f0b43 6 = .ok (.astore_n 2, 1) := by decide +kernel
theorem dJx4a65c_addAll_f0b43_7 : decode cJx4a65c_addAll_f0b43 7 = .ok (.aload_n 0, 1) := by decide +kernel
theorem dJx4a65c_addAll_f0b43_8 : decode cJx4a65c_addAll_f0b43 8 = .ok (.dup, 1) := by decide +kernel
theorem dJx4a65c_addAll_f0b43_9 : decode cJx4a65c_addAll_f0b43 9 = .ok (.getfield 63, 3) := by decide +kernel
theorem dJx4a65c_addAll_f0b43_12 : decode cJx4a65c_addAll_f0b43 12 = .ok (.iconst 1, 1) := by decide +kernel
theorem dJx4a65c_addAll_f0b43_13 : decode cJx4a65c_addAll_f0b43 13 = .ok (.iadd, 1) := by decide +kernel
theorem dJx4a65c_addAll_f0b43_14 : decode cJx4a65c_addAll_f0b43 14 = .ok (.putfield 63, 3) := by decide +kernel
theorem dJx4a65c_addAll_f0b43_17 : decode cJx4a65c_addAll_f0b43 17 = .ok (.aload_n 2, 1) := by decide +kernel
theorem dJx4a65c_addAll_f0b43_18 : decode cJx4a65c_addAll_f0b43 18 = .ok (.arraylength, 1) := by decide +kernel
theorem dJx4a65c_addAll_f0b43_19 : decode cJx4a65c_addAll_f0b43 19 = .ok (.istore_n 3, 1) := by decide +kernel
theorem dJx4a65c_addAll_f0b43_20 : decode cJx4a65c_addAll_f0b43 20 = .ok (.iload_n 3, 1) := by decide +kernel
theorem dJx4a65c_addAll_f0b43_21 : decode cJx4a65c_addAll_f0b43 21 = .ok (.ifCond .ne 5, 3) := by decide +kernel
theorem dJx4a65c_addAll_f0b43_24 : decode cJx4a65c_addAll_f0b43 24 = .ok (.iconst 0, 1) := by decide +kernel
theorem dJx4a65c_addAll_f0b43_25 : decode cJx4a65c_addAll_f0b43 25 = .ok (.ireturn, 1) := by decide +kernel
theorem dJ7_copyOf_1904c_0 : decode cJ7_copyOf_1904c 0 = .ok (.aload_n 0, 1) := by decide +kernel
theorem dJ7_copyOf_1904c_1 : decode cJ7_copyOf_1904c 1 = .ok (.iload_n 1, 1) := by decide +kernel
theorem dJ7_copyOf_1904c_2 : decode cJ7_copyOf_1904c 2 = .ok (.aload_n 0, 1) := by decide +kernel
theorem dJ7_copyOf_1904c_3 : decode cJ7_copyOf_1904c 3 = .ok (.invokevirtual 86, 3) := by decide +kernel
theorem dJ7_copyOf_1904c_6 : decode cJ7_copyOf_1904c 6 = .ok (.invokestatic 300, 3) := by decide +kernel
theorem dJ7_copyOf_1904c_9 : decode cJ7_copyOf_1904c 9 = .ok (.areturn, 1) := by decide +kernel
theorem dJ7_copyOf_6403c_0 : decode cJ7_copyOf_6403c 0 = .ok (.aload_n 2, 1) := by decide +kernel
theorem dJ7_copyOf_6403c_1 : decode cJ7_copyOf_6403c 1 = .ok (.ldc 110, 2) := by decide +kernel
theorem dJ7_copyOf_6403c_3 : decode cJ7_copyOf_6403c 3 = .ok (.if_acmp .ne 10, 3) := by decide +kernel
theorem dJ7_copyOf_6403c_6 : decode cJ7_copyOf_6403c 6 = .ok (.iload_n 1, 1) := by decide +kernel
theorem dJ7_copyOf_6403c_7 : decode cJ7_copyOf_6403c 7 = .ok (.anewarray 2, 3) := by decide +kernel
theorem dJ7_copyOf_6403c_10 : decode cJ7_copyOf_6403c 10 = .ok (.goto 14, 3) := by decide +kernel
theorem dJ7_copyOf_6403c_24 : decode cJ7_copyOf_6403c 24 = .ok (.astore_n 3, 1) := by decide +kernel
theorem dJ7_copyOf_6403c_25 : decode cJ7_copyOf_6403c 25 = .ok (.aload_n 0, 1) := by decide +kernel
theorem dJ7_copyOf_6403c_26 : decode cJ7_copyOf_6403c 26 = .ok (.iconst 0, 1) := by decide +kernel
theorem dJ7_copyOf_6403c_27 : decode cJ7_copyOf_6403c 27 = .ok (.aload_n 3, 1) := by decide +kernel
theorem dJ7_copyOf_6403c_28 : decode cJ7_copyOf_6403c 28 = .ok (.iconst 0, 1) := by decide +kernel
theorem dJ7_copyOf_6403c_29 : decode cJ7_copyOf_6403c 29 = .ok (.aload_n 0, 1) := by decide +kernel
theorem dJ7_copyOf_6403c_30 : decode cJ7_copyOf_6403c 30 = .ok (.arraylength, 1) := by decide +kernel
theorem dJ7_copyOf_6403c_31 : decode cJ7_copyOf_6403c 31 = .ok (.iload_n 1, 1) := by decide +kernel
theorem dJ7_copyOf_6403c_32 : decode cJ7_copyOf_6403c 32 = .ok (.invokestatic 304, 3) := by decide +kernel
theorem dJ7_copyOf_6403c_35 : decode cJ7_copyOf_6403c 35 = .ok (.invokestatic 150, 3) := by decide +kernel
theorem dJ7_copyOf_6403c_38 : decode cJ7_copyOf_6403c 38 = .ok (.aload_n 3, 1) := by decide +kernel
theorem dJ7_copyOf_6403c_39 : decode cJ7_copyOf_6403c 39 = .ok (.areturn, 1) := by decide +kernel
theorem dL_addSeries_0 : decode cL_addSeries 0 = .ok (.aload_n 3, 1) := by decide +kernel
theorem dL_addSeries_1 : decode cL_addSeries 1 = .ok (.iconst 0, 1) := by decide +kernel
theorem dL_addSeries_2 : decode cL_addSeries 2 = .ok (.aload_n 0, 1) := by decide +kernel
theorem dL_addSeries_3 : decode cL_addSeries 3 = .ok (.iload_n 1, 1) := by decide +kernel
theorem dL_addSeries_4 : decode cL_addSeries 4 = .ok (.iload_n 2, 1) := by decide +kernel
theorem dL_addSeries_5 : decode cL_addSeries 5 = .ok (.invokevirtual 7, 3) := by decide +kernel
theorem dL_addSeries_8 : decode cL_addSeries 8 = .ok (.i2l, 1) := by decide +kernel
theorem dL_addSeries_9 : decode cL_addSeries 9 = .ok (.lastore, 1) := by decide +kernel
theorem dL_addSeries_10 : decode cL_addSeries 10 = .ok (.goto 11, 3) := by decide +kernel
theorem dL_addSeries_13 : decode cL_addSeries 13 = .ok (.astore 4, 2) := by decide +kernel
theorem dL_addSeries_15 : decode cL_addSeries 15 = .ok (.iconst 1, 1) := by decide +kernel
theorem dL_addSeries_16 : decode cL_addSeries 16 = .ok (.ireturn, 1) := by decide +kernel
theorem dL_addSeries_21 : decode cL_addSeries 21 = .ok (.iconst 0, 1) := by decide +kernel
theorem dL_addSeries_22 : decode cL_addSeries 22 = .ok (.ireturn, 1) := by decide +kernel
theorem dL_setSpan_0 : decode cL_setSpan 0 = .ok (.aload_n 2, 1) := by decide +kernel
theorem dL_setSpan_1 : decode cL_setSpan 1 = .ok (.iconst 0, 1) := by decide +kernel
theorem dL_setSpan_2 : decode cL_setSpan 2 = .ok (.aload_n 0, 1) := by decide +kernel
theorem dL_setSpan_3 : decode cL_setSpan 3 = .ok (.iload_n 1, 1) := by decide +kernel
theorem dL_setSpan_4 : decode cL_setSpan 4 = .ok (.invokevirtual 17, 3) := by decide +kernel
theorem dL_setSpan_7 : decode cL_setSpan 7 = .ok (.i2l, 1) := by decide +kernel
theorem dL_setSpan_8 : decode cL_setSpan 8 = .ok (.lastore, 1) := by decide +kernel
theorem dL_setSpan_9 : decode cL_setSpan 9 = .ok (.goto 6, 3) := by decide +kernel
theorem dL_setSpan_12 : decode cL_setSpan 12 = .ok (.astore_n 3, 1) := by decide +kernel
theorem dL_setSpan_13 : decode cL_setSpan 13 = .ok (.iconst 1, 1) := by decide +kernel
theorem dL_setSpan_14 : decode cL_setSpan 14 = .ok (.ireturn, 1) := by decide +kernel
theorem dL_setSpan_15 : decode cL_setSpan 15 = .ok (.iconst 0, 1) := by decide +kernel
theorem dL_setSpan_16 : decode cL_setSpan 16 = .ok (.ireturn, 1) := by decide +kernel
theorem dL_setWidths_0 : decode cL_setWidths 0 = .ok (.aload_n 3, 1) := by decide +kernel
theorem dL_setWidths_1 : decode cL_setWidths 1 = .ok (.iconst 0, 1) := by decide +kernel
theorem dL_setWidths_2 : decode cL_setWidths 2 = .ok (.aload_n 0, 1) := by decide +kernel
theorem dL_setWidths_3 : decode cL_setWidths 3 = .ok (.iload_n 1, 1) := by decide +kernel
theorem dL_setWidths_4 : decode cL_setWidths 4 = .ok (.iload_n 2, 1) := by decide +kernel
theorem dL_setWidths_5 : decode cL_setWidths 5 = .ok (.invokevirtual 21, 3) := by decide +kernel
theorem dL_setWidths_8 : decode cL_setWidths 8 = .ok (.i2l, 1) := by decide +kernel
theorem dL_setWidths_9 : decode cL_setWidths 9 = .ok (.lastore, 1) := by decide +kernel
theorem dL_setWidths_10 : decode cL_setWidths 10 = .ok (.goto 11, 3) := by decide +kernel
theorem dL_setWidths_13 : decode cL_setWidths 13 = .ok (.astore 4, 2) := by decide +kernel
theorem dL_setWidths_15 : decode cL_setWidths 15 = .ok (.iconst 1, 1) := by decide +kernel
theorem dL_setWidths_16 : decode cL_setWidths 16 = .ok (.ireturn, 1) := by decide +kernel
theorem dL_setWidths_21 : decode cL_setWidths 21 = .ok (.iconst 0, 1) := by decide +kernel
theorem dL_setWidths_22 : decode cL_setWidths 22 = .ok (.ireturn, 1) := by decide +kernel
theorem dL_setKeep_0 : decode cL_setKeep 0 = .ok (.aload_n 3, 1) := by decide +kernel
theorem dL_setKeep_1 : decode cL_setKeep 1 = .ok (.iconst 0, 1) := by decide +kernel
theorem dL_setKeep_2 : decode cL_setKeep 2 = .ok (.aload_n 0, 1) := by decide +kernel
theorem dL_setKeep_3 : decode cL_setKeep 3 = .ok (.iload_n 1, 1) := by decide +kernel
theorem dL_setKeep_4 : decode cL_setKeep 4 = .ok (.iload_n 2, 1) := by decide +kernel
theorem dL_setKeep_5 : decode cL_setKeep 5 = .ok (.invokevirtual 24, 3) := by decide +kernel
theorem dL_setKeep_8 : decode cL_setKeep 8 = .ok (.i2l, 1) := by decide +kernel
theorem dL_setKeep_9 : decode cL_setKeep 9 = .ok (.lastore, 1) := by decide +kernel
theorem dL_setKeep_10 : decode cL_setKeep 10 = .ok (.goto 7, 3) := by decide +kernel
theorem dL_setKeep_13 : decode cL_setKeep 13 = .ok (.astore 4, 2) := by decide +kernel
theorem dL_setKeep_15 : decode cL_setKeep 15 = .ok (.iconst 1, 1) := by decide +kernel
theorem dL_setKeep_16 : decode cL_setKeep 16 = .ok (.ireturn, 1) := by decide +kernel
theorem dL_setKeep_17 : decode cL_setKeep 17 = .ok (.iconst 0, 1) := by decide +kernel
theorem dL_setKeep_18 : decode cL_setKeep 18 = .ok (.ireturn, 1) := by decide +kernel
theorem dL_setQuery_0 : decode cL_setQuery 0 = .ok (.aload 5, 2) := by decide +kernel
theorem dL_setQuery_2 : decode cL_setQuery 2 = .ok (.iconst 0, 1) := by decide +kernel
theorem dL_setQuery_3 : decode cL_setQuery 3 = .ok (.aload_n 0, 1) := by decide +kernel
theorem dL_setQuery_4 : decode cL_setQuery 4 = .ok (.iload_n 1, 1) := by decide +kernel
theorem dL_setQuery_5 : decode cL_setQuery 5 = .ok (.iload_n 2, 1) := by decide +kernel
theorem dL_setQuery_6 : decode cL_setQuery 6 = .ok (.iload_n 3, 1) := by decide +kernel
theorem dL_setQuery_7 : decode cL_setQuery 7 = .ok (.iload 4, 2) := by decide +kernel
theorem dL_setQuery_9 : decode cL_setQuery 9 = .ok (.invokevirtual 27, 3) := by decide +kernel
theorem dL_setQuery_12 : decode cL_setQuery 12 = .ok (.i2l, 1) := by decide +kernel
theorem dL_setQuery_13 : decode cL_setQuery 13 = .ok (.lastore, 1) := by decide +kernel
theorem dL_setQuery_14 : decode cL_setQuery 14 = .ok (.goto 7, 3) := by decide +kernel
theorem dL_setQuery_17 : decode cL_setQuery 17 = .ok (.astore 6, 2) := by decide +kernel
theorem dL_setQuery_19 : decode cL_setQuery 19 = .ok (.iconst 1, 1) := by decide +kernel
theorem dL_setQuery_20 : decode cL_setQuery 20 = .ok (.ireturn, 1) := by decide +kernel
theorem dL_setQuery_21 : decode cL_setQuery 21 = .ok (.iconst 0, 1) := by decide +kernel
theorem dL_setQuery_22 : decode cL_setQuery 22 = .ok (.ireturn, 1) := by decide +kernel
theorem dL_put_0 : decode cL_put 0 = .ok (.aload 4, 2) := by decide +kernel
theorem dL_put_2 : decode cL_put 2 = .ok (.iconst 0, 1) := by decide +kernel
theorem dL_put_3 : decode cL_put 3 = .ok (.aload_n 0, 1) := by decide +kernel
theorem dL_put_4 : decode cL_put 4 = .ok (.iload_n 1, 1) := by decide +kernel
theorem dL_put_5 : decode cL_put 5 = .ok (.iload_n 2, 1) := by decide +kernel
theorem dL_put_6 : decode cL_put 6 = .ok (.iload_n 3, 1) := by decide +kernel
theorem dL_put_7 : decode cL_put 7 = .ok (.invokevirtual 31, 3) := by decide +kernel
theorem dL_put_15 : decode cL_put 15 = .ok (.astore 5, 2) := by decide +kernel
theorem dL_put_17 : decode cL_put 17 = .ok (.iconst 1, 1) := by decide +kernel
theorem dL_put_18 : decode cL_put 18 = .ok (.ireturn, 1) := by decide +kernel
theorem dL_putRow_0 : decode cL_putRow 0 = .ok (.aload 7, 2) := by decide +kernel
theorem dL_putRow_2 : decode cL_putRow 2 = .ok (.iconst 0, 1) := by decide +kernel
theorem dL_putRow_3 : decode cL_putRow 3 = .ok (.aload_n 0, 1) := by decide +kernel
theorem dL_putRow_4 : decode cL_putRow 4 = .ok (.iload_n 1, 1) := by decide +kernel
theorem dL_putRow_5 : decode cL_putRow 5 = .ok (.iload_n 2, 1) := by decide +kernel
theorem dL_putRow_6 : decode cL_putRow 6 = .ok (.iload_n 3, 1) := by decide +kernel
theorem dL_putRow_7 : decode cL_putRow 7 = .ok (.iload 4, 2) := by decide +kernel
theorem dL_putRow_9 : decode cL_putRow 9 = .ok (.iload 5, 2) := by decide +kernel
theorem dL_putRow_11 : decode cL_putRow 11 = .ok (.iload 6, 2) := by decide +kernel
theorem dL_putRow_13 : decode cL_putRow 13 = .ok (.invokevirtual 37, 3) := by decide +kernel
theorem dL_putRow_21 : decode cL_putRow 21 = .ok (.astore 8, 2) := by decide +kernel
theorem dL_putRow_23 : decode cL_putRow 23 = .ok (.iconst 1, 1) := by decide +kernel
theorem dL_putRow_24 : decode cL_putRow 24 = .ok (.ireturn, 1) := by decide +kernel
theorem dL_goOn_0 : decode cL_goOn 0 = .ok (.aload_n 2, 1) := by decide +kernel
theorem dL_goOn_1 : decode cL_goOn 1 = .ok (.iconst 0, 1) := by decide +kernel
theorem dL_goOn_2 : decode cL_goOn 2 = .ok (.aload_n 0, 1) := by decide +kernel
theorem dL_goOn_3 : decode cL_goOn 3 = .ok (.iload_n 1, 1) := by decide +kernel
theorem dL_goOn_4 : decode cL_goOn 4 = .ok (.invokevirtual 41, 3) := by decide +kernel
theorem dL_goOn_7 : decode cL_goOn 7 = .ok (.i2l, 1) := by decide +kernel
theorem dL_goOn_8 : decode cL_goOn 8 = .ok (.lastore, 1) := by decide +kernel
theorem dL_goOn_9 : decode cL_goOn 9 = .ok (.goto 6, 3) := by decide +kernel
theorem dL_goOn_12 : decode cL_goOn 12 = .ok (.astore_n 3, 1) := by decide +kernel
theorem dL_goOn_13 : decode cL_goOn 13 = .ok (.iconst 1, 1) := by decide +kernel
theorem dL_goOn_14 : decode cL_goOn 14 = .ok (.ireturn, 1) := by decide +kernel
theorem dL_goOn_15 : decode cL_goOn 15 = .ok (.iconst 0, 1) := by decide +kernel
theorem dL_goOn_16 : decode cL_goOn 16 = .ok (.ireturn, 1) := by decide +kernel
theorem dL_blocks_0 : decode cL_blocks 0 = .ok (.aload_n 2, 1) := by decide +kernel
theorem dL_blocks_1 : decode cL_blocks 1 = .ok (.iconst 0, 1) := by decide +kernel
theorem dL_blocks_2 : decode cL_blocks 2 = .ok (.aload_n 0, 1) := by decide +kernel
theorem dL_blocks_3 : decode cL_blocks 3 = .ok (.iload_n 1, 1) := by decide +kernel
theorem dL_blocks_4 : decode cL_blocks 4 = .ok (.invokevirtual 44, 3) := by decide +kernel
theorem dL_blocks_12 : decode cL_blocks 12 = .ok (.astore_n 3, 1) := by decide +kernel
theorem dL_blocks_13 : decode cL_blocks 13 = .ok (.iconst 1, 1) := by decide +kernel
theorem dL_blocks_14 : decode cL_blocks 14 = .ok (.ireturn, 1) := by decide +kernel
theorem dL_size_0 : decode cL_size 0 = .ok (.aload_n 3, 1) := by decide +kernel
theorem dL_size_1 : decode cL_size 1 = .ok (.iconst 0, 1) := by decide +kernel
theorem dL_size_2 : decode cL_size 2 = .ok (.aload_n 0, 1) := by decide +kernel
theorem dL_size_3 : decode cL_size 3 = .ok (.iload_n 1, 1) := by decide +kernel
theorem dL_size_4 : decode cL_size 4 = .ok (.iload_n 2, 1) := by decide +kernel
theorem dL_size_5 : decode cL_size 5 = .ok (.invokevirtual 47, 3) := by decide +kernel
theorem dL_size_13 : decode cL_size 13 = .ok (.astore 4, 2) := by decide +kernel
theorem dL_size_15 : decode cL_size 15 = .ok (.iconst 1, 1) := by decide +kernel
theorem dL_size_16 : decode cL_size 16 = .ok (.ireturn, 1) := by decide +kernel
theorem dL_point_0 : decode cL_point 0 = .ok (.aload 5, 2) := by decide +kernel
theorem dL_point_2 : decode cL_point 2 = .ok (.iconst 0, 1) := by decide +kernel
theorem dL_point_3 : decode cL_point 3 = .ok (.aload_n 0, 1) := by decide +kernel
theorem dL_point_4 : decode cL_point 4 = .ok (.iload_n 1, 1) := by decide +kernel
theorem dL_point_5 : decode cL_point 5 = .ok (.iload_n 2, 1) := by decide +kernel
theorem dL_point_6 : decode cL_point 6 = .ok (.iload_n 3, 1) := by decide +kernel
theorem dL_point_7 : decode cL_point 7 = .ok (.iload 4, 2) := by decide +kernel
theorem dL_point_9 : decode cL_point 9 = .ok (.invokevirtual 50, 3) := by decide +kernel
theorem dL_point_17 : decode cL_point 17 = .ok (.astore 6, 2) := by decide +kernel
theorem dL_point_19 : decode cL_point 19 = .ok (.iconst 1, 1) := by decide +kernel
theorem dL_point_20 : decode cL_point 20 = .ok (.ireturn, 1) := by decide +kernel
theorem dL_bits_0 : decode cL_bits 0 = .ok (.aload_n 3, 1) := by decide +kernel
theorem dL_bits_1 : decode cL_bits 1 = .ok (.iconst 0, 1) := by decide +kernel
theorem dL_bits_2 : decode cL_bits 2 = .ok (.aload_n 0, 1) := by decide +kernel
theorem dL_bits_3 : decode cL_bits 3 = .ok (.iload_n 1, 1) := by decide +kernel
theorem dL_bits_4 : decode cL_bits 4 = .ok (.iload_n 2, 1) := by decide +kernel
theorem dL_bits_5 : decode cL_bits 5 = .ok (.invokevirtual 54, 3) := by decide +kernel
theorem dL_bits_13 : decode cL_bits 13 = .ok (.astore 4, 2) := by decide +kernel
theorem dL_bits_15 : decode cL_bits 15 = .ok (.iconst 1, 1) := by decide +kernel
theorem dL_bits_16 : decode cL_bits 16 = .ok (.ireturn, 1) := by decide +kernel
theorem dL_word_0 : decode cL_word 0 = .ok (.aload 4, 2) := by decide +kernel
theorem dL_word_2 : decode cL_word 2 = .ok (.iconst 0, 1) := by decide +kernel
theorem dL_word_3 : decode cL_word 3 = .ok (.aload_n 0, 1) := by decide +kernel
theorem dL_word_4 : decode cL_word 4 = .ok (.iload_n 1, 1) := by decide +kernel
theorem dL_word_5 : decode cL_word 5 = .ok (.iload_n 2, 1) := by decide +kernel
theorem dL_word_6 : decode cL_word 6 = .ok (.iload_n 3, 1) := by decide +kernel
theorem dL_word_7 : decode cL_word 7 = .ok (.invokevirtual 57, 3) := by decide +kernel
theorem dL_word_15 : decode cL_word 15 = .ok (.astore 5, 2) := by decide +kernel
theorem dL_word_17 : decode cL_word 17 = .ok (.iconst 1, 1) := by decide +kernel
theorem dL_word_18 : decode cL_word 18 = .ok (.ireturn, 1) := by decide +kernel
theorem dL_buckets_0 : decode cL_buckets 0 = .ok (.aload_n 3, 1) := by decide +kernel
theorem dL_buckets_1 : decode cL_buckets 1 = .ok (.iconst 0, 1) := by decide +kernel
theorem dL_buckets_2 : decode cL_buckets 2 = .ok (.aload_n 0, 1) := by decide +kernel
theorem dL_buckets_3 : decode cL_buckets 3 = .ok (.iload_n 1, 1) := by decide +kernel
theorem dL_buckets_4 : decode cL_buckets 4 = .ok (.iload_n 2, 1) := by decide +kernel
theorem dL_buckets_5 : decode cL_buckets 5 = .ok (.invokevirtual 60, 3) := by decide +kernel
theorem dL_buckets_13 : decode cL_buckets 13 = .ok (.astore 4, 2) := by decide +kernel
theorem dL_buckets_15 : decode cL_buckets 15 = .ok (.iconst 1, 1) := by decide +kernel
theorem dL_buckets_16 : decode cL_buckets 16 = .ok (.ireturn, 1) := by decide +kernel
theorem dL_ofBucket_0 : decode cL_ofBucket 0 = .ok (.aload 5, 2) := by decide +kernel
theorem dL_ofBucket_2 : decode cL_ofBucket 2 = .ok (.iconst 0, 1) := by decide +kernel
theorem dL_ofBucket_3 : decode cL_ofBucket 3 = .ok (.aload_n 0, 1) := by decide +kernel
theorem dL_ofBucket_4 : decode cL_ofBucket 4 = .ok (.iload_n 1, 1) := by decide +kernel
theorem dL_ofBucket_5 : decode cL_ofBucket 5 = .ok (.iload_n 2, 1) := by decide +kernel
theorem dL_ofBucket_6 : decode cL_ofBucket 6 = .ok (.iload_n 3, 1) := by decide +kernel
theorem dL_ofBucket_7 : decode cL_ofBucket 7 = .ok (.iload 4, 2) := by decide +kernel
theorem dL_ofBucket_9 : decode cL_ofBucket 9 = .ok (.invokevirtual 64, 3) := by decide +kernel
theorem dL_ofBucket_17 : decode cL_ofBucket 17 = .ok (.astore 6, 2) := by decide +kernel
theorem dL_ofBucket_19 : decode cL_ofBucket 19 = .ok (.iconst 1, 1) := by decide +kernel
theorem dL_ofBucket_20 : decode cL_ofBucket 20 = .ok (.ireturn, 1) := by decide +kernel
theorem dL_items_0 : decode cL_items 0 = .ok (.aload_n 2, 1) := by decide +kernel
theorem dL_items_1 : decode cL_items 1 = .ok (.iconst 0, 1) := by decide +kernel
theorem dL_items_2 : decode cL_items 2 = .ok (.aload_n 0, 1) := by decide +kernel
theorem dL_items_3 : decode cL_items 3 = .ok (.iload_n 1, 1) := by decide +kernel
theorem dL_items_4 : decode cL_items 4 = .ok (.invokevirtual 68, 3) := by decide +kernel
theorem dL_items_12 : decode cL_items 12 = .ok (.astore_n 3, 1) := by decide +kernel
theorem dL_items_13 : decode cL_items 13 = .ok (.iconst 1, 1) := by decide +kernel
theorem dL_items_14 : decode cL_items 14 = .ok (.ireturn, 1) := by decide +kernel
theorem dL_ask_0 : decode cL_ask 0 = .ok (.aload_n 3, 1) := by decide +kernel
theorem dL_ask_1 : decode cL_ask 1 = .ok (.iconst 0, 1) := by decide +kernel
theorem dL_ask_2 : decode cL_ask 2 = .ok (.aload_n 0, 1) := by decide +kernel
theorem dL_ask_3 : decode cL_ask 3 = .ok (.iload_n 1, 1) := by decide +kernel
theorem dL_ask_4 : decode cL_ask 4 = .ok (.iload_n 2, 1) := by decide +kernel
theorem dL_ask_5 : decode cL_ask 5 = .ok (.invokevirtual 71, 3) := by decide +kernel
theorem dL_ask_13 : decode cL_ask 13 = .ok (.astore 4, 2) := by decide +kernel
theorem dL_ask_15 : decode cL_ask 15 = .ok (.iconst 1, 1) := by decide +kernel
theorem dL_ask_16 : decode cL_ask 16 = .ok (.ireturn, 1) := by decide +kernel
theorem dL_over_0 : decode cL_over 0 = .ok (.aload 5, 2) := by decide +kernel
theorem dL_over_2 : decode cL_over 2 = .ok (.iconst 0, 1) := by decide +kernel
theorem dL_over_3 : decode cL_over 3 = .ok (.aload_n 0, 1) := by decide +kernel
theorem dL_over_4 : decode cL_over 4 = .ok (.iload_n 1, 1) := by decide +kernel
theorem dL_over_5 : decode cL_over 5 = .ok (.iload_n 2, 1) := by decide +kernel
theorem dL_over_6 : decode cL_over 6 = .ok (.iload_n 3, 1) := by decide +kernel
theorem dL_over_7 : decode cL_over 7 = .ok (.iload 4, 2) := by decide +kernel
theorem dL_over_9 : decode cL_over 9 = .ok (.invokevirtual 74, 3) := by decide +kernel
theorem dL_over_12 : decode cL_over 12 = .ok (.i2l, 1) := by decide +kernel
theorem dL_over_13 : decode cL_over 13 = .ok (.lastore, 1) := by decide +kernel
theorem dL_over_14 : decode cL_over 14 = .ok (.goto 7, 3) := by decide +kernel
theorem dL_over_17 : decode cL_over 17 = .ok (.astore 6, 2) := by decide +kernel
theorem dL_over_19 : decode cL_over 19 = .ok (.iconst 1, 1) := by decide +kernel
theorem dL_over_20 : decode cL_over 20 = .ok (.ireturn, 1) := by decide +kernel
theorem dL_over_21 : decode cL_over 21 = .ok (.iconst 0, 1) := by decide +kernel
theorem dL_over_22 : decode cL_over 22 = .ok (.ireturn, 1) := by decide +kernel
theorem dL_gaps_0 : decode cL_gaps 0 = .ok (.aload_n 3, 1) := by decide +kernel
theorem dL_gaps_1 : decode cL_gaps 1 = .ok (.iconst 0, 1) := by decide +kernel
theorem dL_gaps_2 : decode cL_gaps 2 = .ok (.aload_n 0, 1) := by decide +kernel
theorem dL_gaps_3 : decode cL_gaps 3 = .ok (.iload_n 1, 1) := by decide +kernel
theorem dL_gaps_4 : decode cL_gaps 4 = .ok (.iload_n 2, 1) := by decide +kernel
theorem dL_gaps_5 : decode cL_gaps 5 = .ok (.invokevirtual 78, 3) := by decide +kernel
theorem dL_gaps_13 : decode cL_gaps 13 = .ok (.astore 4, 2) := by decide +kernel
theorem dL_gaps_15 : decode cL_gaps 15 = .ok (.iconst 1, 1) := by decide +kernel
theorem dL_gaps_16 : decode cL_gaps 16 = .ok (.ireturn, 1) := by decide +kernel
theorem dL_lastAt_0 : decode cL_lastAt 0 = .ok (.aload_n 3, 1) := by decide +kernel
theorem dL_lastAt_1 : decode cL_lastAt 1 = .ok (.iconst 0, 1) := by decide +kernel
theorem dL_lastAt_2 : decode cL_lastAt 2 = .ok (.aload_n 0, 1) := by decide +kernel
theorem dL_lastAt_3 : decode cL_lastAt 3 = .ok (.iload_n 1, 1) := by decide +kernel
theorem dL_lastAt_4 : decode cL_lastAt 4 = .ok (.iload_n 2, 1) := by decide +kernel
theorem dL_lastAt_5 : decode cL_lastAt 5 = .ok (.invokevirtual 81, 3) := by decide +kernel
theorem dL_lastAt_13 : decode cL_lastAt 13 = .ok (.astore 4, 2) := by decide +kernel
theorem dL_lastAt_15 : decode cL_lastAt 15 = .ok (.iconst 1, 1) := by decide +kernel
theorem dL_lastAt_16 : decode cL_lastAt 16 = .ok (.ireturn, 1) := by decide +kernel
theorem dL_addRule_0 : decode cL_addRule 0 = .ok (.aload 8, 2) := by decide +kernel
theorem dL_addRule_2 : decode cL_addRule 2 = .ok (.iconst 0, 1) := by decide +kernel
theorem dL_addRule_3 : decode cL_addRule 3 = .ok (.aload_n 0, 1) := by decide +kernel
theorem dL_addRule_4 : decode cL_addRule 4 = .ok (.iload_n 1, 1) := by decide +kernel
theorem dL_addRule_5 : decode cL_addRule 5 = .ok (.iload_n 2, 1) := by decide +kernel
theorem dL_addRule_6 : decode cL_addRule 6 = .ok (.iload_n 3, 1) := by decide +kernel
theorem dL_addRule_7 : decode cL_addRule 7 = .ok (.iload 4, 2) := by decide +kernel
theorem dL_addRule_9 : decode cL_addRule 9 = .ok (.iload 5, 2) := by decide +kernel
theorem dL_addRule_11 : decode cL_addRule 11 = .ok (.iload 6, 2) := by decide +kernel
theorem dL_addRule_13 : decode cL_addRule 13 = .ok (.iload 7, 2) := by decide +kernel
theorem dL_addRule_15 : decode cL_addRule 15 = .ok (.invokevirtual 84, 3) := by decide +kernel
theorem dL_addRule_23 : decode cL_addRule 23 = .ok (.astore 9, 2) := by decide +kernel
theorem dL_addRule_25 : decode cL_addRule 25 = .ok (.iconst 1, 1) := by decide +kernel
theorem dL_addRule_26 : decode cL_addRule 26 = .ok (.ireturn, 1) := by decide +kernel
theorem dL_stateOf_0 : decode cL_stateOf 0 = .ok (.aload_n 2, 1) := by decide +kernel
theorem dL_stateOf_1 : decode cL_stateOf 1 = .ok (.iconst 0, 1) := by decide +kernel
theorem dL_stateOf_2 : decode cL_stateOf 2 = .ok (.aload_n 0, 1) := by decide +kernel
theorem dL_stateOf_3 : decode cL_stateOf 3 = .ok (.iload_n 1, 1) := by decide +kernel
theorem dL_stateOf_4 : decode cL_stateOf 4 = .ok (.invokevirtual 88, 3) := by decide +kernel
theorem dL_stateOf_12 : decode cL_stateOf 12 = .ok (.astore_n 3, 1) := by decide +kernel
theorem dL_stateOf_13 : decode cL_stateOf 13 = .ok (.iconst 1, 1) := by decide +kernel
theorem dL_stateOf_14 : decode cL_stateOf 14 = .ok (.ireturn, 1) := by decide +kernel
theorem dL_inRow_0 : decode cL_inRow 0 = .ok (.aload_n 2, 1) := by decide +kernel
theorem dL_inRow_1 : decode cL_inRow 1 = .ok (.iconst 0, 1) := by decide +kernel
theorem dL_inRow_2 : decode cL_inRow 2 = .ok (.aload_n 0, 1) := by decide +kernel
theorem dL_inRow_3 : decode cL_inRow 3 = .ok (.iload_n 1, 1) := by decide +kernel
theorem dL_inRow_4 : decode cL_inRow 4 = .ok (.invokevirtual 91, 3) := by decide +kernel
theorem dL_inRow_12 : decode cL_inRow 12 = .ok (.astore_n 3, 1) := by decide +kernel
theorem dL_inRow_13 : decode cL_inRow 13 = .ok (.iconst 1, 1) := by decide +kernel
theorem dL_inRow_14 : decode cL_inRow 14 = .ok (.ireturn, 1) := by decide +kernel
theorem dL_seenBy_0 : decode cL_seenBy 0 = .ok (.aload_n 2, 1) := by decide +kernel
theorem dL_seenBy_1 : decode cL_seenBy 1 = .ok (.iconst 0, 1) := by decide +kernel
theorem dL_seenBy_2 : decode cL_seenBy 2 = .ok (.aload_n 0, 1) := by decide +kernel
theorem dL_seenBy_3 : decode cL_seenBy 3 = .ok (.iload_n 1, 1) := by decide +kernel
theorem dL_seenBy_4 : decode cL_seenBy 4 = .ok (.invokevirtual 94, 3) := by decide +kernel
theorem dL_seenBy_12 : decode cL_seenBy 12 = .ok (.astore_n 3, 1) := by decide +kernel
theorem dL_seenBy_13 : decode cL_seenBy 13 = .ok (.iconst 1, 1) := by decide +kernel
theorem dL_seenBy_14 : decode cL_seenBy 14 = .ok (.ireturn, 1) := by decide +kernel
theorem dL_event_0 : decode cL_event 0 = .ok (.aload_n 3, 1) := by decide +kernel
theorem dL_event_1 : decode cL_event 1 = .ok (.iconst 0, 1) := by decide +kernel
theorem dL_event_2 : decode cL_event 2 = .ok (.aload_n 0, 1) := by decide +kernel
theorem dL_event_3 : decode cL_event 3 = .ok (.iload_n 1, 1) := by decide +kernel
theorem dL_event_4 : decode cL_event 4 = .ok (.iload_n 2, 1) := by decide +kernel
theorem dL_event_5 : decode cL_event 5 = .ok (.invokevirtual 97, 3) := by decide +kernel
theorem dL_event_13 : decode cL_event 13 = .ok (.astore 4, 2) := by decide +kernel
theorem dL_event_15 : decode cL_event 15 = .ok (.iconst 1, 1) := by decide +kernel
theorem dL_event_16 : decode cL_event 16 = .ok (.ireturn, 1) := by decide +kernel
theorem dL_bitsWith_0 : decode cL_bitsWith 0 = .ok (.aload 4, 2) := by decide +kernel
theorem dL_bitsWith_2 : decode cL_bitsWith 2 = .ok (.iconst 0, 1) := by decide +kernel
theorem dL_bitsWith_3 : decode cL_bitsWith 3 = .ok (.aload_n 0, 1) := by decide +kernel
theorem dL_bitsWith_4 : decode cL_bitsWith 4 = .ok (.iload_n 1, 1) := by decide +kernel
theorem dL_bitsWith_5 : decode cL_bitsWith 5 = .ok (.iload_n 2, 1) := by decide +kernel
theorem dL_bitsWith_6 : decode cL_bitsWith 6 = .ok (.iload_n 3, 1) := by decide +kernel
theorem dL_bitsWith_7 : decode cL_bitsWith 7 = .ok (.invokevirtual 100, 3) := by decide +kernel
theorem dL_bitsWith_15 : decode cL_bitsWith 15 = .ok (.astore 5, 2) := by decide +kernel
theorem dL_bitsWith_17 : decode cL_bitsWith 17 = .ok (.iconst 1, 1) := by decide +kernel
theorem dL_bitsWith_18 : decode cL_bitsWith 18 = .ok (.ireturn, 1) := by decide +kernel
theorem dL_firesIn_0 : decode cL_firesIn 0 = .ok (.aload_n 2, 1) := by decide +kernel
theorem dL_firesIn_1 : decode cL_firesIn 1 = .ok (.iconst 0, 1) := by decide +kernel
theorem dL_firesIn_2 : decode cL_firesIn 2 = .ok (.aload_n 0, 1) := by decide +kernel
theorem dL_firesIn_3 : decode cL_firesIn 3 = .ok (.iload_n 1, 1) := by decide +kernel
theorem dL_firesIn_4 : decode cL_firesIn 4 = .ok (.invokevirtual 103, 3) := by decide +kernel
theorem dL_firesIn_7 : decode cL_firesIn 7 = .ok (.i2l, 1) := by decide +kernel
theorem dL_firesIn_8 : decode cL_firesIn 8 = .ok (.lastore, 1) := by decide +kernel
theorem dL_firesIn_9 : decode cL_firesIn 9 = .ok (.goto 6, 3) := by decide +kernel
theorem dL_firesIn_12 : decode cL_firesIn 12 = .ok (.astore_n 3, 1) := by decide +kernel
theorem dL_firesIn_13 : decode cL_firesIn 13 = .ok (.iconst 1, 1) := by decide +kernel
theorem dL_firesIn_14 : decode cL_firesIn 14 = .ok (.ireturn, 1) := by decide +kernel
theorem dL_firesIn_15 : decode cL_firesIn 15 = .ok (.iconst 0, 1) := by decide +kernel
theorem dL_firesIn_16 : decode cL_firesIn 16 = .ok (.ireturn, 1) := by decide +kernel
theorem dL_wouldRoll_0 : decode cL_wouldRoll 0 = .ok (.aload_n 2, 1) := by decide +kernel
theorem dL_wouldRoll_1 : decode cL_wouldRoll 1 = .ok (.iconst 0, 1) := by decide +kernel
theorem dL_wouldRoll_2 : decode cL_wouldRoll 2 = .ok (.aload_n 0, 1) := by decide +kernel
theorem dL_wouldRoll_3 : decode cL_wouldRoll 3 = .ok (.iload_n 1, 1) := by decide +kernel
theorem dL_wouldRoll_4 : decode cL_wouldRoll 4 = .ok (.invokevirtual 106, 3) := by decide +kernel
theorem dL_wouldRoll_7 : decode cL_wouldRoll 7 = .ok (.i2l, 1) := by decide +kernel
theorem dL_wouldRoll_8 : decode cL_wouldRoll 8 = .ok (.lastore, 1) := by decide +kernel
theorem dL_wouldRoll_9 : decode cL_wouldRoll 9 = .ok (.goto 6, 3) := by decide +kernel
theorem dL_wouldRoll_12 : decode cL_wouldRoll 12 = .ok (.astore_n 3, 1) := by decide +kernel
theorem dL_wouldRoll_13 : decode cL_wouldRoll 13 = .ok (.iconst 1, 1) := by decide +kernel
theorem dL_wouldRoll_14 : decode cL_wouldRoll 14 = .ok (.ireturn, 1) := by decide +kernel
theorem dL_wouldRoll_15 : decode cL_wouldRoll 15 = .ok (.iconst 0, 1) := by decide +kernel
theorem dL_wouldRoll_16 : decode cL_wouldRoll 16 = .ok (.ireturn, 1) := by decide +kernel
theorem dL_law_0 : decode cL_law 0 = .ok (.new 8, 3) := by decide +kernel
theorem dL_law_3 : decode cL_law 3 = .ok (.dup, 1) := by decide +kernel
theorem dL_law_4 : decode cL_law 4 = .ok (.invokespecial 109, 3) := by decide +kernel
theorem dL_law_7 : decode cL_law 7 = .ok (.astore_n 1, 1) := by decide +kernel
theorem dL_law_8 : decode cL_law 8 = .ok (.new 110, 3) := by decide +kernel
theorem dL_law_11 : decode cL_law 11 = .ok (.dup, 1) := by decide +kernel
theorem dL_law_12 : decode cL_law 12 = .ok (.invokespecial 112, 3) := by decide +kernel
theorem dL_law_15 : decode cL_law 15 = .ok (.astore_n 2, 1) := by decide +kernel
theorem dL_law_16 : decode cL_law 16 = .ok (.iconst 1, 1) := by decide +kernel
theorem dL_law_17 : decode cL_law 17 = .ok (.newarray .long, 2) := by decide +kernel
theorem dL_law_19 : decode cL_law 19 = .ok (.astore_n 3, 1) := by decide +kernel
theorem dL_law_20 : decode cL_law 20 = .ok (.iconst 0, 1) := by decide +kernel
theorem dL_law_21 : decode cL_law 21 = .ok (.istore 4, 2) := by decide +kernel
theorem dL_law_23 : decode cL_law 23 = .ok (.iload 4, 2) := by decide +kernel
theorem dL_law_25 : decode cL_law 25 = .ok (.aload_n 0, 1) := by decide +kernel
theorem dL_law_26 : decode cL_law 26 = .ok (.arraylength, 1) := by decide +kernel
theorem dL_law_27 : decode cL_law 27 = .ok (.bipush 8, 2) := by decide +kernel
theorem dL_law_29 : decode cL_law 29 = .ok (.isub, 1) := by decide +kernel
theorem dL_law_30 : decode cL_law 30 = .ok (.if_icmp .gt 2397, 3) := by decide +kernel
theorem dL_law_33 : decode cL_law 33 = .ok (.aload_n 0, 1) := by decide +kernel
theorem dL_law_34 : decode cL_law 34 = .ok (.iload 4, 2) := by decide +kernel
theorem dL_law_36 : decode cL_law 36 = .ok (.iaload, 1) := by decide +kernel
theorem dL_law_37 : decode cL_law 37 = .ok (.bipush 63, 2) := by decide +kernel
theorem dL_law_39 : decode cL_law 39 = .ok (.iand, 1) := by decide +kernel
theorem dL_law_40 : decode cL_law 40 = .ok (.tableswitch 2381 0 33 #[152, 220, 276, 344, 412, 504, 584, 702, 758, 771, 784, 797, 853, 921, 1029, 1097, 1177, 1261, 1369, 1425, 1466, 1534, 1642, 1710, 1778, 1926, 1982, 2038, 2094, 2107, 2175, 2255, 2311, 2367], 152) := by decide +kernel
theorem dL_law_192 : decode cL_law 192 = .ok (.aload_n 1, 1) := by decide +kernel
theorem dL_law_193 : decode cL_law 193 = .ok (.aload_n 0, 1) := by decide +kernel
theorem dL_law_194 : decode cL_law 194 = .ok (.iload 4, 2) := by decide +kernel
theorem dL_law_196 : decode cL_law 196 = .ok (.iconst 1, 1) := by decide +kernel
theorem dL_law_197 : decode cL_law 197 = .ok (.iadd, 1) := by decide +kernel
theorem dL_law_198 : decode cL_law 198 = .ok (.iaload, 1) := by decide +kernel
theorem dL_law_199 : decode cL_law 199 = .ok (.aload_n 0, 1) := by decide +kernel
theorem dL_law_200 : decode cL_law 200 = .ok (.iload 4, 2) := by decide +kernel
theorem dL_law_202 : decode cL_law 202 = .ok (.iconst 2, 1) := by decide +kernel
theorem dL_law_203 : decode cL_law 203 = .ok (.iadd, 1) := by decide +kernel
theorem dL_law_204 : decode cL_law 204 = .ok (.iaload, 1) := by decide +kernel
theorem dL_law_205 : decode cL_law 205 = .ok (.aload_n 3, 1) := by decide +kernel
theorem dL_law_206 : decode cL_law 206 = .ok (.invokestatic 113, 3) := by decide +kernel
theorem dL_law_209 : decode cL_law 209 = .ok (.istore 5, 2) := by decide +kernel
theorem dL_law_211 : decode cL_law 211 = .ok (.aload_n 2, 1) := by decide +kernel
theorem dL_law_212 : decode cL_law 212 = .ok (.aload_n 0, 1) := by decide +kernel
theorem dL_law_213 : decode cL_law 213 = .ok (.iload 4, 2) := by decide +kernel
theorem dL_law_215 : decode cL_law 215 = .ok (.iconst 1, 1) := by decide +kernel
theorem dL_law_216 : decode cL_law 216 = .ok (.iadd, 1) := by decide +kernel
theorem dL_law_217 : decode cL_law 217 = .ok (.iaload, 1) := by decide +kernel
theorem dL_law_218 : decode cL_law 218 = .ok (.aload_n 0, 1) := by decide +kernel
theorem dL_law_219 : decode cL_law 219 = .ok (.iload 4, 2) := by decide +kernel
theorem dL_law_221 : decode cL_law 221 = .ok (.iconst 2, 1) := by decide +kernel
theorem dL_law_222 : decode cL_law 222 = .ok (.iadd, 1) := by decide +kernel
theorem dL_law_223 : decode cL_law 223 = .ok (.iaload, 1) := by decide +kernel
theorem dL_law_224 : decode cL_law 224 = .ok (.invokevirtual 118, 3) := by decide +kernel
theorem dL_law_227 : decode cL_law 227 = .ok (.istore 6, 2) := by decide +kernel
theorem dL_law_229 : decode cL_law 229 = .ok (.aload_n 2, 1) := by decide +kernel
theorem dL_law_230 : decode cL_law 230 = .ok (.invokevirtual 119, 3) := by decide +kernel
theorem dL_law_233 : decode cL_law 233 = .ok (.iload 5, 2) := by decide +kernel
theorem dL_law_235 : decode cL_law 235 = .ok (.if_icmp .eq 5, 3) := by decide +kernel
theorem dL_law_240 : decode cL_law 240 = .ok (.iload 5, 2) := by decide +kernel
theorem dL_law_242 : decode cL_law 242 = .ok (.ifCond .ne 15, 3) := by decide +kernel
theorem dL_law_245 : decode cL_law 245 = .ok (.aload_n 3, 1) := by decide +kernel
theorem dL_law_246 : decode cL_law 246 = .ok (.iconst 0, 1) := by decide +kernel
theorem dL_law_247 : decode cL_law 247 = .ok (.laload, 1) := by decide +kernel
theorem dL_law_248 : decode cL_law 248 = .ok (.iload 6, 2) := by decide +kernel
theorem dL_law_250 : decode cL_law 250 = .ok (.i2l, 1) := by decide +kernel
theorem dL_law_251 : decode cL_law 251 = .ok (.lcmp, 1) := by decide +kernel
theorem dL_law_252 : decode cL_law 252 = .ok (.ifCond .eq 5, 3) := by decide +kernel
theorem dL_law_255 : decode cL_law 255 = .ok (.iconst 0, 1) := by decide +kernel
theorem dL_law_256 : decode cL_law 256 = .ok (.ireturn, 1) := by decide +kernel
theorem dL_law_257 : decode cL_law 257 = .ok (.goto 2164, 3) := by decide +kernel
theorem dL_law_260 : decode cL_law 260 = .ok (.aload_n 1, 1) := by decide +kernel
theorem dL_law_261 : decode cL_law 261 = .ok (.aload_n 0, 1) := by decide +kernel
theorem dL_law_262 : decode cL_law 262 = .ok (.iload 4, 2) := by decide +kernel
theorem dL_law_264 : decode cL_law 264 = .ok (.iconst 1, 1) := by decide +kernel
theorem dL_law_265 : decode cL_law 265 = .ok (.iadd, 1) := by decide +kernel
theorem dL_law_266 : decode cL_law 266 = .ok (.iaload, 1) := by decide +kernel
theorem dL_law_267 : decode cL_law 267 = .ok (.aload_n 3, 1) := by decide +kernel
theorem dL_law_268 : decode cL_law 268 = .ok (.invokestatic 123, 3) := by decide +kernel
theorem dL_law_271 : decode cL_law 271 = .ok (.istore 5, 2) := by decide +kernel
theorem dL_law_273 : decode cL_law 273 = .ok (.aload_n 2, 1) := by decide +kernel
theorem dL_law_274 : decode cL_law 274 = .ok (.aload_n 0, 1) := by decide +kernel
theorem dL_law_275 : decode cL_law 275 = .ok (.iload 4, 2) := by decide +kernel
theorem dL_law_277 : decode cL_law 277 = .ok (.iconst 1, 1) := by decide +kernel
theorem dL_law_278 : decode cL_law 278 = .ok (.iadd, 1) := by decide +kernel
theorem dL_law_279 : decode cL_law 279 = .ok (.iaload, 1) := by decide +kernel
theorem dL_law_280 : decode cL_law 280 = .ok (.invokevirtual 126, 3) := by decide +kernel
theorem dL_law_283 : decode cL_law 283 = .ok (.istore 6, 2) := by decide +kernel
theorem dL_law_285 : decode cL_law 285 = .ok (.aload_n 2, 1) := by decide +kernel
theorem dL_law_286 : decode cL_law 286 = .ok (.invokevirtual 119, 3) := by decide +kernel
theorem dL_law_289 : decode cL_law 289 = .ok (.iload 5, 2) := by decide +kernel
theorem dL_law_291 : decode cL_law 291 = .ok (.if_icmp .eq 5, 3) := by decide +kernel
theorem dL_law_296 : decode cL_law 296 = .ok (.iload 5, 2) := by decide +kernel
theorem dL_law_298 : decode cL_law 298 = .ok (.ifCond .ne 15, 3) := by decide +kernel
theorem dL_law_301 : decode cL_law 301 = .ok (.aload_n 3, 1) := by decide +kernel
theorem dL_law_302 : decode cL_law 302 = .ok (.iconst 0, 1) := by decide +kernel
theorem dL_law_303 : decode cL_law 303 = .ok (.laload, 1) := by decide +kernel
theorem dL_law_304 : decode cL_law 304 = .ok (.iload 6, 2) := by decide +kernel
theorem dL_law_306 : decode cL_law 306 = .ok (.i2l, 1) := by decide +kernel
theorem dL_law_307 : decode cL_law 307 = .ok (.lcmp, 1) := by decide +kernel
theorem dL_law_308 : decode cL_law 308 = .ok (.ifCond .eq 5, 3) := by decide +kernel
theorem dL_law_313 : decode cL_law 313 = .ok (.goto 2108, 3) := by decide +kernel
theorem dL_law_316 : decode cL_law 316 = .ok (.aload_n 1, 1) := by decide +kernel
theorem dL_law_317 : decode cL_law 317 = .ok (.aload_n 0, 1) := by decide +kernel
theorem dL_law_318 : decode cL_law 318 = .ok (.iload 4, 2) := by decide +kernel
theorem dL_law_320 : decode cL_law 320 = .ok (.iconst 1, 1) := by decide +kernel
theorem dL_law_321 : decode cL_law 321 = .ok (.iadd, 1) := by decide +kernel
theorem dL_law_322 : decode cL_law 322 = .ok (.iaload, 1) := by decide +kernel
theorem dL_law_323 : decode cL_law 323 = .ok (.aload_n 0, 1) := by decide +kernel
theorem dL_law_324 : decode cL_law 324 = .ok (.iload 4, 2) := by decide +kernel
theorem dL_law_326 : decode cL_law 326 = .ok (.iconst 2, 1) := by decide +kernel
theorem dL_law_327 : decode cL_law 327 = .ok (.iadd, 1) := by decide +kernel
theorem dL_law_328 : decode cL_law 328 = .ok (.iaload, 1) := by decide +kernel
theorem dL_law_329 : decode cL_law 329 = .ok (.aload_n 3, 1) := by decide +kernel
theorem dL_law_330 : decode cL_law 330 = .ok (.invokestatic 127, 3) := by decide +kernel
theorem dL_law_333 : decode cL_law 333 = .ok (.istore 5, 2) := by decide +kernel
theorem dL_law_335 : decode cL_law 335 = .ok (.aload_n 2, 1) := by decide +kernel
theorem dL_law_336 : decode cL_law 336 = .ok (.aload_n 0, 1) := by decide +kernel
theorem dL_law_337 : decode cL_law 337 = .ok (.iload 4, 2) := by decide +kernel
theorem dL_law_339 : decode cL_law 339 = .ok (.iconst 1, 1) := by decide +kernel
theorem dL_law_340 : decode cL_law 340 = .ok (.iadd, 1) := by decide +kernel
theorem dL_law_341 : decode cL_law 341 = .ok (.iaload, 1) := by decide +kernel
theorem dL_law_342 : decode cL_law 342 = .ok (.aload_n 0, 1) := by decide +kernel
theorem dL_law_343 : decode cL_law 343 = .ok (.iload 4, 2) := by decide +kernel
theorem dL_law_345 : decode cL_law 345 = .ok (.iconst 2, 1) := by decide +kernel
theorem dL_law_346 : decode cL_law 346 = .ok (.iadd, 1) := by decide +kernel
theorem dL_law_347 : decode cL_law 347 = .ok (.iaload, 1) := by decide +kernel
theorem dL_law_348 : decode cL_law 348 = .ok (.invokevirtual 129, 3) := by decide +kernel
theorem dL_law_351 : decode cL_law 351 = .ok (.istore 6, 2) := by decide +kernel
theorem dL_law_353 : decode cL_law 353 = .ok (.aload_n 2, 1) := by decide +kernel
theorem dL_law_354 : decode cL_law 354 = .ok (.invokevirtual 119, 3) := by decide +kernel
theorem dL_law_357 : decode cL_law 357 = .ok (.iload 5, 2) := by decide +kernel
theorem dL_law_359 : decode cL_law 359 = .ok (.if_icmp .eq 5, 3) := by decide +kernel
theorem dL_law_364 : decode cL_law 364 = .ok (.iload 5, 2) := by decide +kernel
theorem dL_law_366 : decode cL_law 366 = .ok (.ifCond .ne 15, 3) := by decide +kernel
theorem dL_law_369 : decode cL_law 369 = .ok (.aload_n 3, 1) := by decide +kernel
theorem dL_law_370 : decode cL_law 370 = .ok (.iconst 0, 1) := by decide +kernel
theorem dL_law_371 : decode cL_law 371 = .ok (.laload, 1) := by decide +kernel
theorem dL_law_372 : decode cL_law 372 = .ok (.iload 6, 2) := by decide +kernel
theorem dL_law_374 : decode cL_law 374 = .ok (.i2l, 1) := by decide +kernel
theorem dL_law_375 : decode cL_law 375 = .ok (.lcmp, 1) := by decide +kernel
theorem dL_law_376 : decode cL_law 376 = .ok (.ifCond .eq 5, 3) := by decide +kernel
theorem dL_law_381 : decode cL_law 381 = .ok (.goto 2040, 3) := by decide +kernel
theorem dL_law_384 : decode cL_law 384 = .ok (.aload_n 1, 1) := by decide +kernel
theorem dL_law_385 : decode cL_law 385 = .ok (.aload_n 0, 1) := by decide +kernel
theorem dL_law_386 : decode cL_law 386 = .ok (.iload 4, 2) := by decide +kernel
theorem dL_law_388 : decode cL_law 388 = .ok (.iconst 1, 1) := by decide +kernel
theorem dL_law_389 : decode cL_law 389 = .ok (.iadd, 1) := by decide +kernel
theorem dL_law_390 : decode cL_law 390 = .ok (.iaload, 1) := by decide +kernel
theorem dL_law_391 : decode cL_law 391 = .ok (.aload_n 0, 1) := by decide +kernel
theorem dL_law_392 : decode cL_law 392 = .ok (.iload 4, 2) := by decide +kernel
theorem dL_law_394 : decode cL_law 394 = .ok (.iconst 2, 1) := by decide +kernel
theorem dL_law_395 : decode cL_law 395 = .ok (.iadd, 1) := by decide +kernel
theorem dL_law_396 : decode cL_law 396 = .ok (.iaload, 1) := by decide +kernel
theorem dL_law_397 : decode cL_law 397 = .ok (.aload_n 3, 1) := by decide +kernel
theorem dL_law_398 : decode cL_law 398 = .ok (.invokestatic 130, 3) := by decide +kernel
theorem dL_law_401 : decode cL_law 401 = .ok (.istore 5, 2) := by decide +kernel
theorem dL_law_403 : decode cL_law 403 = .ok (.aload_n 2, 1) := by decide +kernel
theorem dL_law_404 : decode cL_law 404 = .ok (.aload_n 0, 1) := by decide +kernel
theorem dL_law_405 : decode cL_law 405 = .ok (.iload 4, 2) := by decide +kernel
theorem dL_law_407 : decode cL_law 407 = .ok (.iconst 1, 1) := by decide +kernel
theorem dL_law_408 : decode cL_law 408 = .ok (.iadd, 1) := by decide +kernel
theorem dL_law_409 : decode cL_law 409 = .ok (.iaload, 1) := by decide +kernel
theorem dL_law_410 : decode cL_law 410 = .ok (.aload_n 0, 1) := by decide +kernel
theorem dL_law_411 : decode cL_law 411 = .ok (.iload 4, 2) := by decide +kernel
theorem dL_law_413 : decode cL_law 413 = .ok (.iconst 2, 1) := by decide +kernel
theorem dL_law_414 : decode cL_law 414 = .ok (.iadd, 1) := by decide +kernel
theorem dL_law_415 : decode cL_law 415 = .ok (.iaload, 1) := by decide +kernel
theorem dL_law_416 : decode cL_law 416 = .ok (.invokevirtual 132, 3) := by decide +kernel
theorem dL_law_419 : decode cL_law 419 = .ok (.istore 6, 2) := by decide +kernel
theorem dL_law_421 : decode cL_law 421 = .ok (.aload_n 2, 1) := by decide +kernel
theorem dL_law_422 : decode cL_law 422 = .ok (.invokevirtual 119, 3) := by decide +kernel
theorem dL_law_425 : decode cL_law 425 = .ok (.iload 5, 2) := by decide +kernel
theorem dL_law_427 : decode cL_law 427 = .ok (.if_icmp .eq 5, 3) := by decide +kernel
theorem dL_law_432 : decode cL_law 432 = .ok (.iload 5, 2) := by decide +kernel
theorem dL_law_434 : decode cL_law 434 = .ok (.ifCond .ne 15, 3) := by decide +kernel
theorem dL_law_437 : decode cL_law 437 = .ok (.aload_n 3, 1) := by decide +kernel
theorem dL_law_438 : decode cL_law 438 = .ok (.iconst 0, 1) := by decide +kernel
theorem dL_law_439 : decode cL_law 439 = .ok (.laload, 1) := by decide +kernel
theorem dL_law_440 : decode cL_law 440 = .ok (.iload 6, 2) := by decide +kernel
theorem dL_law_442 : decode cL_law 442 = .ok (.i2l, 1) := by decide +kernel
theorem dL_law_443 : decode cL_law 443 = .ok (.lcmp, 1) := by decide +kernel
theorem dL_law_444 : decode cL_law 444 = .ok (.ifCond .eq 5, 3) := by decide +kernel
theorem dL_law_449 : decode cL_law 449 = .ok (.goto 1972, 3) := by decide +kernel
theorem dL_law_452 : decode cL_law 452 = .ok (.aload_n 1, 1) := by decide +kernel
theorem dL_law_453 : decode cL_law 453 = .ok (.aload_n 0, 1) := by decide +kernel
theorem dL_law_454 : decode cL_law 454 = .ok (.iload 4, 2) := by decide +kernel
theorem dL_law_456 : decode cL_law 456 = .ok (.iconst 1, 1) := by decide +kernel
theorem dL_law_457 : decode cL_law 457 = .ok (.iadd, 1) := by decide +kernel
theorem dL_law_458 : decode cL_law 458 = .ok (.iaload, 1) := by decide +kernel
theorem dL_law_459 : decode cL_law 459 = .ok (.aload_n 0, 1) := by decide +kernel
theorem dL_law_460 : decode cL_law 460 = .ok (.iload 4, 2) := by decide +kernel
theorem dL_law_462 : decode cL_law 462 = .ok (.iconst 2, 1) := by decide +kernel
theorem dL_law_463 : decode cL_law 463 = .ok (.iadd, 1) := by decide +kernel
theorem dL_law_464 : decode cL_law 464 = .ok (.iaload, 1) := by decide +kernel
theorem dL_law_465 : decode cL_law 465 = .ok (.aload_n 0, 1) := by decide +kernel
theorem dL_law_466 : decode cL_law 466 = .ok (.iload 4, 2) := by decide +kernel
theorem dL_law_468 : decode cL_law 468 = .ok (.iconst 3, 1) := by decide +kernel
theorem dL_law_469 : decode cL_law 469 = .ok (.iadd, 1) := by decide +kernel
theorem dL_law_470 : decode cL_law 470 = .ok (.iaload, 1) := by decide +kernel
theorem dL_law_471 : decode cL_law 471 = .ok (.aload_n 0, 1) := by decide +kernel
theorem dL_law_472 : decode cL_law 472 = .ok (.iload 4, 2) := by decide +kernel
theorem dL_law_474 : decode cL_law 474 = .ok (.iconst 4, 1) := by decide +kernel
theorem dL_law_475 : decode cL_law 475 = .ok (.iadd, 1) := by decide +kernel
theorem dL_law_476 : decode cL_law 476 = .ok (.iaload, 1) := by decide +kernel
theorem dL_law_477 : decode cL_law 477 = .ok (.aload_n 3, 1) := by decide +kernel
theorem dL_law_478 : decode cL_law 478 = .ok (.invokestatic 133, 3) := by decide +kernel
theorem dL_law_481 : decode cL_law 481 = .ok (.istore 5, 2) := by decide +kernel
theorem dL_law_483 : decode cL_law 483 = .ok (.aload_n 2, 1) := by decide +kernel
theorem dL_law_484 : decode cL_law 484 = .ok (.aload_n 0, 1) := by decide +kernel
theorem dL_law_485 : decode cL_law 485 = .ok (.iload 4, 2) := by decide +kernel
theorem dL_law_487 : decode cL_law 487 = .ok (.iconst 1, 1) := by decide +kernel
theorem dL_law_488 : decode cL_law 488 = .ok (.iadd, 1) := by decide +kernel
theorem dL_law_489 : decode cL_law 489 = .ok (.iaload, 1) := by decide +kernel
theorem dL_law_490 : decode cL_law 490 = .ok (.aload_n 0, 1) := by decide +kernel
theorem dL_law_491 : decode cL_law 491 = .ok (.iload 4, 2) := by decide +kernel
theorem dL_law_493 : decode cL_law 493 = .ok (.iconst 2, 1) := by decide +kernel
theorem dL_law_494 : decode cL_law 494 = .ok (.iadd, 1) := by decide +kernel
theorem dL_law_495 : decode cL_law 495 = .ok (.iaload, 1) := by decide +kernel
theorem dL_law_496 : decode cL_law 496 = .ok (.aload_n 0, 1) := by decide +kernel
theorem dL_law_497 : decode cL_law 497 = .ok (.iload 4, 2) := by decide +kernel
theorem dL_law_499 : decode cL_law 499 = .ok (.iconst 3, 1) := by decide +kernel
theorem dL_law_500 : decode cL_law 500 = .ok (.iadd, 1) := by decide +kernel
theorem dL_law_501 : decode cL_law 501 = .ok (.iaload, 1) := by decide +kernel
theorem dL_law_502 : decode cL_law 502 = .ok (.aload_n 0, 1) := by decide +kernel
theorem dL_law_503 : decode cL_law 503 = .ok (.iload 4, 2) := by decide +kernel
theorem dL_law_505 : decode cL_law 505 = .ok (.iconst 4, 1) := by decide +kernel
theorem dL_law_506 : decode cL_law 506 = .ok (.iadd, 1) := by decide +kernel
theorem dL_law_507 : decode cL_law 507 = .ok (.iaload, 1) := by decide +kernel
theorem dL_law_508 : decode cL_law 508 = .ok (.invokevirtual 136, 3) := by decide +kernel
theorem dL_law_511 : decode cL_law 511 = .ok (.istore 6, 2) := by decide +kernel
theorem dL_law_513 : decode cL_law 513 = .ok (.aload_n 2, 1) := by decide +kernel
theorem dL_law_514 : decode cL_law 514 = .ok (.invokevirtual 119, 3) := by decide +kernel
theorem dL_law_517 : decode cL_law 517 = .ok (.iload 5, 2) := by decide +kernel
theorem dL_law_519 : decode cL_law 519 = .ok (.if_icmp .eq 5, 3) := by decide +kernel
theorem dL_law_524 : decode cL_law 524 = .ok (.iload 5, 2) := by decide +kernel
theorem dL_law_526 : decode cL_law 526 = .ok (.ifCond .ne 15, 3) := by decide +kernel
theorem dL_law_529 : decode cL_law 529 = .ok (.aload_n 3, 1) := by decide +kernel
theorem dL_law_530 : decode cL_law 530 = .ok (.iconst 0, 1) := by decide +kernel
theorem dL_law_531 : decode cL_law 531 = .ok (.laload, 1) := by decide +kernel
theorem dL_law_532 : decode cL_law 532 = .ok (.iload 6, 2) := by decide +kernel
theorem dL_law_534 : decode cL_law 534 = .ok (.i2l, 1) := by decide +kernel
theorem dL_law_535 : decode cL_law 535 = .ok (.lcmp, 1) := by decide +kernel
theorem dL_law_536 : decode cL_law 536 = .ok (.ifCond .eq 5, 3) := by decide +kernel
theorem dL_law_541 : decode cL_law 541 = .ok (.goto 1880, 3) := by decide +kernel
theorem dL_law_544 : decode cL_law 544 = .ok (.aload_n 1, 1) := by decide +kernel
theorem dL_law_545 : decode cL_law 545 = .ok (.aload_n 0, 1) := by decide +kernel
theorem dL_law_546 : decode cL_law 546 = .ok (.iload 4, 2) := by decide +kernel
theorem dL_law_548 : decode cL_law 548 = .ok (.iconst 1, 1) := by decide +kernel
theorem dL_law_549 : decode cL_law 549 = .ok (.iadd, 1) := by decide +kernel
theorem dL_law_550 : decode cL_law 550 = .ok (.iaload, 1) := by decide +kernel
theorem dL_law_551 : decode cL_law 551 = .ok (.aload_n 0, 1) := by decide +kernel
theorem dL_law_552 : decode cL_law 552 = .ok (.iload 4, 2) := by decide +kernel
theorem dL_law_554 : decode cL_law 554 = .ok (.iconst 2, 1) := by decide +kernel
theorem dL_law_555 : decode cL_law 555 = .ok (.iadd, 1) := by decide +kernel
theorem dL_law_556 : decode cL_law 556 = .ok (.iaload, 1) := by decide +kernel
theorem dL_law_557 : decode cL_law 557 = .ok (.aload_n 0, 1) := by decide +kernel
theorem dL_law_558 : decode cL_law 558 = .ok (.iload 4, 2) := by decide +kernel
theorem dL_law_560 : decode cL_law 560 = .ok (.iconst 3, 1) := by decide +kernel
theorem dL_law_561 : decode cL_law 561 = .ok (.iadd, 1) := by decide +kernel
theorem dL_law_562 : decode cL_law 562 = .ok (.iaload, 1) := by decide +kernel
theorem dL_law_563 : decode cL_law 563 = .ok (.aload_n 3, 1) := by decide +kernel
theorem dL_law_564 : decode cL_law 564 = .ok (.invokestatic 137, 3) := by decide +kernel
theorem dL_law_567 : decode cL_law 567 = .ok (.istore 5, 2) := by decide +kernel
theorem dL_law_569 : decode cL_law 569 = .ok (.aload_n 2, 1) := by decide +kernel
theorem dL_law_570 : decode cL_law 570 = .ok (.aload_n 0, 1) := by decide +kernel
theorem dL_law_571 : decode cL_law 571 = .ok (.iload 4, 2) := by decide +kernel
theorem dL_law_573 : decode cL_law 573 = .ok (.iconst 1, 1) := by decide +kernel
theorem dL_law_574 : decode cL_law 574 = .ok (.iadd, 1) := by decide +kernel
theorem dL_law_575 : decode cL_law 575 = .ok (.iaload, 1) := by decide +kernel
theorem dL_law_576 : decode cL_law 576 = .ok (.aload_n 0, 1) := by decide +kernel
theorem dL_law_577 : decode cL_law 577 = .ok (.iload 4, 2) := by decide +kernel
theorem dL_law_579 : decode cL_law 579 = .ok (.iconst 2, 1) := by decide +kernel
theorem dL_law_580 : decode cL_law 580 = .ok (.iadd, 1) := by decide +kernel
theorem dL_law_581 : decode cL_law 581 = .ok (.iaload, 1) := by decide +kernel
theorem dL_law_582 : decode cL_law 582 = .ok (.aload_n 0, 1) := by decide +kernel
theorem dL_law_583 : decode cL_law 583 = .ok (.iload 4, 2) := by decide +kernel
theorem dL_law_585 : decode cL_law 585 = .ok (.iconst 3, 1) := by decide +kernel
theorem dL_law_586 : decode cL_law 586 = .ok (.iadd, 1) := by decide +kernel
theorem dL_law_587 : decode cL_law 587 = .ok (.iaload, 1) := by decide +kernel
theorem dL_law_588 : decode cL_law 588 = .ok (.invokevirtual 140, 3) := by decide +kernel
theorem dL_law_591 : decode cL_law 591 = .ok (.istore 6, 2) := by decide +kernel
theorem dL_law_593 : decode cL_law 593 = .ok (.aload_n 2, 1) := by decide +kernel
theorem dL_law_594 : decode cL_law 594 = .ok (.invokevirtual 119, 3) := by decide +kernel
theorem dL_law_597 : decode cL_law 597 = .ok (.iload 5, 2) := by decide +kernel
theorem dL_law_599 : decode cL_law 599 = .ok (.if_icmp .eq 5, 3) := by decide +kernel
theorem dL_law_604 : decode cL_law 604 = .ok (.iload 5, 2) := by decide +kernel
theorem dL_law_606 : decode cL_law 606 = .ok (.ifCond .ne 15, 3) := by decide +kernel
theorem dL_law_621 : decode cL_law 621 = .ok (.goto 1800, 3) := by decide +kernel
theorem dL_law_624 : decode cL_law 624 = .ok (.aload_n 1, 1) := by decide +kernel
theorem dL_law_625 : decode cL_law 625 = .ok (.aload_n 0, 1) := by decide +kernel
theorem dL_law_626 : decode cL_law 626 = .ok (.iload 4, 2) := by decide +kernel
theorem dL_law_628 : decode cL_law 628 = .ok (.iconst 1, 1) := by decide +kernel
theorem dL_law_629 : decode cL_law 629 = .ok (.iadd, 1) := by decide +kernel
theorem dL_law_630 : decode cL_law 630 = .ok (.iaload, 1) := by decide +kernel
theorem dL_law_631 : decode cL_law 631 = .ok (.aload_n 0, 1) := by decide +kernel
theorem dL_law_632 : decode cL_law 632 = .ok (.iload 4, 2) := by decide +kernel
theorem dL_law_634 : decode cL_law 634 = .ok (.iconst 2, 1) := by decide +kernel
theorem dL_law_635 : decode cL_law 635 = .ok (.iadd, 1) := by decide +kernel
theorem dL_law_636 : decode cL_law 636 = .ok (.iaload, 1) := by decide +kernel
theorem dL_law_637 : decode cL_law 637 = .ok (.aload_n 0, 1) := by decide +kernel
theorem dL_law_638 : decode cL_law 638 = .ok (.iload 4, 2) := by decide +kernel
theorem dL_law_640 : decode cL_law 640 = .ok (.iconst 3, 1) := by decide +kernel
theorem dL_law_641 : decode cL_law 641 = .ok (.iadd, 1) := by decide +kernel
theorem dL_law_642 : decode cL_law 642 = .ok (.iaload, 1) := by decide +kernel
theorem dL_law_643 : decode cL_law 643 = .ok (.aload_n 0, 1) := by decide +kernel
theorem dL_law_644 : decode cL_law 644 = .ok (.iload 4, 2) := by decide +kernel
theorem dL_law_646 : decode cL_law 646 = .ok (.iconst 4, 1) := by decide +kernel
theorem dL_law_647 : decode cL_law 647 = .ok (.iadd, 1) := by decide +kernel
theorem dL_law_648 : decode cL_law 648 = .ok (.iaload, 1) := by decide +kernel
theorem dL_law_649 : decode cL_law 649 = .ok (.aload_n 0, 1) := by decide +kernel
theorem dL_law_650 : decode cL_law 650 = .ok (.iload 4, 2) := by decide +kernel
theorem dL_law_652 : decode cL_law 652 = .ok (.iconst 5, 1) := by decide +kernel
theorem dL_law_653 : decode cL_law 653 = .ok (.iadd, 1) := by decide +kernel
theorem dL_law_654 : decode cL_law 654 = .ok (.iaload, 1) := by decide +kernel
theorem dL_law_655 : decode cL_law 655 = .ok (.aload_n 0, 1) := by decide +kernel
theorem dL_law_656 : decode cL_law 656 = .ok (.iload 4, 2) := by decide +kernel
theorem dL_law_658 : decode cL_law 658 = .ok (.bipush 6, 2) := by decide +kernel
theorem dL_law_660 : decode cL_law 660 = .ok (.iadd, 1) := by decide +kernel
theorem dL_law_661 : decode cL_law 661 = .ok (.iaload, 1) := by decide +kernel
theorem dL_law_662 : decode cL_law 662 = .ok (.aload_n 3, 1) := by decide +kernel
theorem dL_law_663 : decode cL_law 663 = .ok (.invokestatic 141, 3) := by decide +kernel
theorem dL_law_666 : decode cL_law 666 = .ok (.istore 5, 2) := by decide +kernel
theorem dL_law_668 : decode cL_law 668 = .ok (.aload_n 2, 1) := by decide +kernel
theorem dL_law_669 : decode cL_law 669 = .ok (.aload_n 0, 1) := by decide +kernel
theorem dL_law_670 : decode cL_law 670 = .ok (.iload 4, 2) := by decide +kernel
theorem dL_law_672 : decode cL_law 672 = .ok (.iconst 1, 1) := by decide +kernel
theorem dL_law_673 : decode cL_law 673 = .ok (.iadd, 1) := by decide +kernel
theorem dL_law_674 : decode cL_law 674 = .ok (.iaload, 1) := by decide +kernel
theorem dL_law_675 : decode cL_law 675 = .ok (.aload_n 0, 1) := by decide +kernel
theorem dL_law_676 : decode cL_law 676 = .ok (.iload 4, 2) := by decide +kernel
theorem dL_law_678 : decode cL_law 678 = .ok (.iconst 2, 1) := by decide +kernel
theorem dL_law_679 : decode cL_law 679 = .ok (.iadd, 1) := by decide +kernel
theorem dL_law_680 : decode cL_law 680 = .ok (.iaload, 1) := by decide +kernel
theorem dL_law_681 : decode cL_law 681 = .ok (.aload_n 0, 1) := by decide +kernel
theorem dL_law_682 : decode cL_law 682 = .ok (.iload 4, 2) := by decide +kernel
theorem dL_law_684 : decode cL_law 684 = .ok (.iconst 3, 1) := by decide +kernel
theorem dL_law_685 : decode cL_law 685 = .ok (.iadd, 1) := by decide +kernel
theorem dL_law_686 : decode cL_law 686 = .ok (.iaload, 1) := by decide +kernel
theorem dL_law_687 : decode cL_law 687 = .ok (.aload_n 0, 1) := by decide +kernel
theorem dL_law_688 : decode cL_law 688 = .ok (.iload 4, 2) := by decide +kernel
theorem dL_law_690 : decode cL_law 690 = .ok (.iconst 4, 1) := by decide +kernel
theorem dL_law_691 : decode cL_law 691 = .ok (.iadd, 1) := by decide +kernel
theorem dL_law_692 : decode cL_law 692 = .ok (.iaload, 1) := by decide +kernel
theorem dL_law_693 : decode cL_law 693 = .ok (.aload_n 0, 1) := by decide +kernel
theorem dL_law_694 : decode cL_law 694 = .ok (.iload 4, 2) := by decide +kernel
theorem dL_law_696 : decode cL_law 696 = .ok (.iconst 5, 1) := by decide +kernel
theorem dL_law_697 : decode cL_law 697 = .ok (.iadd, 1) := by decide +kernel
theorem dL_law_698 : decode cL_law 698 = .ok (.iaload, 1) := by decide +kernel
theorem dL_law_699 : decode cL_law 699 = .ok (.aload_n 0, 1) := by decide +kernel
theorem dL_law_700 : decode cL_law 700 = .ok (.iload 4, 2) := by decide +kernel
theorem dL_law_702 : decode cL_law 702 = .ok (.bipush 6, 2) := by decide +kernel
theorem dL_law_704 : decode cL_law 704 = .ok (.iadd, 1) := by decide +kernel
theorem dL_law_705 : decode cL_law 705 = .ok (.iaload, 1) := by decide +kernel
theorem dL_law_706 : decode cL_law 706 = .ok (.invokevirtual 144, 3) := by decide +kernel
theorem dL_law_709 : decode cL_law 709 = .ok (.istore 6, 2) := by decide +kernel
theorem dL_law_711 : decode cL_law 711 = .ok (.aload_n 2, 1) := by decide +kernel
theorem dL_law_712 : decode cL_law 712 = .ok (.invokevirtual 119, 3) := by decide +kernel
theorem dL_law_715 : decode cL_law 715 = .ok (.iload 5, 2) := by decide +kernel
theorem dL_law_717 : decode cL_law 717 = .ok (.if_icmp .eq 5, 3) := by decide +kernel
theorem dL_law_722 : decode cL_law 722 = .ok (.iload 5, 2) := by decide +kernel
theorem dL_law_724 : decode cL_law 724 = .ok (.ifCond .ne 15, 3) := by decide +kernel
theorem dL_law_739 : decode cL_law 739 = .ok (.goto 1682, 3) := by decide +kernel
theorem dL_law_742 : decode cL_law 742 = .ok (.aload_n 1, 1) := by decide +kernel
theorem dL_law_743 : decode cL_law 743 = .ok (.aload_n 0, 1) := by decide +kernel
theorem dL_law_744 : decode cL_law 744 = .ok (.iload 4, 2) := by decide +kernel
theorem dL_law_746 : decode cL_law 746 = .ok (.iconst 1, 1) := by decide +kernel
theorem dL_law_747 : decode cL_law 747 = .ok (.iadd, 1) := by decide +kernel
theorem dL_law_748 : decode cL_law 748 = .ok (.iaload, 1) := by decide +kernel
theorem dL_law_749 : decode cL_law 749 = .ok (.aload_n 3, 1) := by decide +kernel
theorem dL_law_750 : decode cL_law 750 = .ok (.invokestatic 145, 3) := by decide +kernel
theorem dL_law_753 : decode cL_law 753 = .ok (.istore 5, 2) := by decide +kernel
theorem dL_law_755 : decode cL_law 755 = .ok (.aload_n 2, 1) := by decide +kernel
theorem dL_law_756 : decode cL_law 756 = .ok (.aload_n 0, 1) := by decide +kernel
theorem dL_law_757 : decode cL_law 757 = .ok (.iload 4, 2) := by decide +kernel
theorem dL_law_759 : decode cL_law 759 = .ok (.iconst 1, 1) := by decide +kernel
theorem dL_law_760 : decode cL_law 760 = .ok (.iadd, 1) := by decide +kernel
theorem dL_law_761 : decode cL_law 761 = .ok (.iaload, 1) := by decide +kernel
theorem dL_law_762 : decode cL_law 762 = .ok (.invokevirtual 147, 3) := by decide +kernel
theorem dL_law_765 : decode cL_law 765 = .ok (.istore 6, 2) := by decide +kernel
theorem dL_law_767 : decode cL_law 767 = .ok (.aload_n 2, 1) := by decide +kernel
theorem dL_law_768 : decode cL_law 768 = .ok (.invokevirtual 119, 3) := by decide +kernel
theorem dL_law_771 : decode cL_law 771 = .ok (.iload 5, 2) := by decide +kernel
theorem dL_law_773 : decode cL_law 773 = .ok (.if_icmp .eq 5, 3) := by decide +kernel
theorem dL_law_778 : decode cL_law 778 = .ok (.iload 5, 2) := by decide +kernel
theorem dL_law_780 : decode cL_law 780 = .ok (.ifCond .ne 15, 3) := by decide +kernel
theorem dL_law_783 : decode cL_law 783 = .ok (.aload_n 3, 1) := by decide +kernel
theorem dL_law_784 : decode cL_law 784 = .ok (.iconst 0, 1) := by decide +kernel
theorem dL_law_785 : decode cL_law 785 = .ok (.laload, 1) := by decide +kernel
theorem dL_law_786 : decode cL_law 786 = .ok (.iload 6, 2) := by decide +kernel
theorem dL_law_788 : decode cL_law 788 = .ok (.i2l, 1) := by decide +kernel
theorem dL_law_789 : decode cL_law 789 = .ok (.lcmp, 1) := by decide +kernel
theorem dL_law_790 : decode cL_law 790 = .ok (.ifCond .eq 5, 3) := by decide +kernel
theorem dL_law_793 : decode cL_law 793 = .ok (.iconst 0, 1) := by decide +kernel
theorem dL_law_794 : decode cL_law 794 = .ok (.ireturn, 1) := by decide +kernel
theorem dL_law_795 : decode cL_law 795 = .ok (.goto 1626, 3) := by decide +kernel
theorem dL_law_798 : decode cL_law 798 = .ok (.aload_n 1, 1) := by decide +kernel
theorem dL_law_799 : decode cL_law 799 = .ok (.invokevirtual 148, 3) := by decide +kernel
theorem dL_law_802 : decode cL_law 802 = .ok (.aload_n 2, 1) := by decide +kernel
theorem dL_law_803 : decode cL_law 803 = .ok (.invokevirtual 151, 3) := by decide +kernel
theorem dL_law_806 : decode cL_law 806 = .ok (.if_icmp .eq 1615, 3) := by decide +kernel
theorem dL_law_811 : decode cL_law 811 = .ok (.aload_n 1, 1) := by decide +kernel
theorem dL_law_812 : decode cL_law 812 = .ok (.invokevirtual 152, 3) := by decide +kernel
theorem dL_law_815 : decode cL_law 815 = .ok (.aload_n 2, 1) := by decide +kernel
theorem dL_law_816 : decode cL_law 816 = .ok (.invokevirtual 155, 3) := by decide +kernel
theorem dL_law_819 : decode cL_law 819 = .ok (.if_icmp .eq 1602, 3) := by decide +kernel
theorem dL_law_824 : decode cL_law 824 = .ok (.aload_n 1, 1) := by decide +kernel
theorem dL_law_825 : decode cL_law 825 = .ok (.invokevirtual 156, 3) := by decide +kernel
theorem dL_law_828 : decode cL_law 828 = .ok (.aload_n 2, 1) := by decide +kernel
theorem dL_law_829 : decode cL_law 829 = .ok (.invokevirtual 159, 3) := by decide +kernel
theorem dL_law_832 : decode cL_law 832 = .ok (.if_icmp .eq 1589, 3) := by decide +kernel
theorem dL_law_837 : decode cL_law 837 = .ok (.aload_n 1, 1) := by decide +kernel
theorem dL_law_838 : decode cL_law 838 = .ok (.aload_n 0, 1) := by decide +kernel
theorem dL_law_839 : decode cL_law 839 = .ok (.iload 4, 2) := by decide +kernel
theorem dL_law_841 : decode cL_law 841 = .ok (.iconst 1, 1) := by decide +kernel
theorem dL_law_842 : decode cL_law 842 = .ok (.iadd, 1) := by decide +kernel
theorem dL_law_843 : decode cL_law 843 = .ok (.iaload, 1) := by decide +kernel
theorem dL_law_844 : decode cL_law 844 = .ok (.aload_n 3, 1) := by decide +kernel
theorem dL_law_845 : decode cL_law 845 = .ok (.invokestatic 160, 3) := by decide +kernel
theorem dL_law_848 : decode cL_law 848 = .ok (.istore 5, 2) := by decide +kernel
theorem dL_law_850 : decode cL_law 850 = .ok (.aload_n 2, 1) := by decide +kernel
theorem dL_law_851 : decode cL_law 851 = .ok (.aload_n 0, 1) := by decide +kernel
theorem dL_law_852 : decode cL_law 852 = .ok (.iload 4, 2) := by decide +kernel
theorem dL_law_854 : decode cL_law 854 = .ok (.iconst 1, 1) := by decide +kernel
theorem dL_law_855 : decode cL_law 855 = .ok (.iadd, 1) := by decide +kernel
theorem dL_law_856 : decode cL_law 856 = .ok (.iaload, 1) := by decide +kernel
theorem dL_law_857 : decode cL_law 857 = .ok (.invokevirtual 162, 3) := by decide +kernel
theorem dL_law_860 : decode cL_law 860 = .ok (.istore 6, 2) := by decide +kernel
theorem dL_law_862 : decode cL_law 862 = .ok (.aload_n 2, 1) := by decide +kernel
theorem dL_law_863 : decode cL_law 863 = .ok (.invokevirtual 119, 3) := by decide +kernel
theorem dL_law_866 : decode cL_law 866 = .ok (.iload 5, 2) := by decide +kernel
theorem dL_law_868 : decode cL_law 868 = .ok (.if_icmp .eq 5, 3) := by decide +kernel
theorem dL_law_873 : decode cL_law 873 = .ok (.iload 5, 2) := by decide +kernel
theorem dL_law_875 : decode cL_law 875 = .ok (.ifCond .ne 15, 3) := by decide +kernel
theorem dL_law_890 : decode cL_law 890 = .ok (.goto 1531, 3) := by decide +kernel
theorem dL_law_893 : decode cL_law 893 = .ok (.aload_n 1, 1) := by decide +kernel
theorem dL_law_894 : decode cL_law 894 = .ok (.aload_n 0, 1) := by decide +kernel
theorem dL_law_895 : decode cL_law 895 = .ok (.iload 4, 2) := by decide +kernel
theorem dL_law_897 : decode cL_law 897 = .ok (.iconst 1, 1) := by decide +kernel
theorem dL_law_898 : decode cL_law 898 = .ok (.iadd, 1) := by decide +kernel
theorem dL_law_899 : decode cL_law 899 = .ok (.iaload, 1) := by decide +kernel
theorem dL_law_900 : decode cL_law 900 = .ok (.aload_n 0, 1) := by decide +kernel
theorem dL_law_901 : decode cL_law 901 = .ok (.iload 4, 2) := by decide +kernel
theorem dL_law_903 : decode cL_law 903 = .ok (.iconst 2, 1) := by decide +kernel
theorem dL_law_904 : decode cL_law 904 = .ok (.iadd, 1) := by decide +kernel
theorem dL_law_905 : decode cL_law 905 = .ok (.iaload, 1) := by decide +kernel
theorem dL_law_906 : decode cL_law 906 = .ok (.aload_n 3, 1) := by decide +kernel
theorem dL_law_907 : decode cL_law 907 = .ok (.invokestatic 163, 3) := by decide +kernel
theorem dL_law_910 : decode cL_law 910 = .ok (.istore 5, 2) := by decide +kernel
theorem dL_law_912 : decode cL_law 912 = .ok (.aload_n 2, 1) := by decide +kernel
theorem dL_law_913 : decode cL_law 913 = .ok (.aload_n 0, 1) := by decide +kernel
theorem dL_law_914 : decode cL_law 914 = .ok (.iload 4, 2) := by decide +kernel
theorem dL_law_916 : decode cL_law 916 = .ok (.iconst 1, 1) := by decide +kernel
theorem dL_law_917 : decode cL_law 917 = .ok (.iadd, 1) := by decide +kernel
theorem dL_law_918 : decode cL_law 918 = .ok (.iaload, 1) := by decide +kernel
theorem dL_law_919 : decode cL_law 919 = .ok (.aload_n 0, 1) := by decide +kernel
theorem dL_law_920 : decode cL_law 920 = .ok (.iload 4, 2) := by decide +kernel
theorem dL_law_922 : decode cL_law 922 = .ok (.iconst 2, 1) := by decide +kernel
theorem dL_law_923 : decode cL_law 923 = .ok (.iadd, 1) := by decide +kernel
theorem dL_law_924 : decode cL_law 924 = .ok (.iaload, 1) := by decide +kernel
theorem dL_law_925 : decode cL_law 925 = .ok (.invokevirtual 165, 3) := by decide +kernel
theorem dL_law_928 : decode cL_law 928 = .ok (.istore 6, 2) := by decide +kernel
theorem dL_law_930 : decode cL_law 930 = .ok (.aload_n 2, 1) := by decide +kernel
theorem dL_law_931 : decode cL_law 931 = .ok (.invokevirtual 119, 3) := by decide +kernel
theorem dL_law_934 : decode cL_law 934 = .ok (.iload 5, 2) := by decide +kernel
theorem dL_law_936 : decode cL_law 936 = .ok (.if_icmp .eq 5, 3) := by decide +kernel
theorem dL_law_941 : decode cL_law 941 = .ok (.iload 5, 2) := by decide +kernel
theorem dL_law_943 : decode cL_law 943 = .ok (.ifCond .ne 15, 3) := by decide +kernel
theorem dL_law_958 : decode cL_law 958 = .ok (.goto 1463, 3) := by decide +kernel
theorem dL_law_961 : decode cL_law 961 = .ok (.aload_n 1, 1) := by decide +kernel
theorem dL_law_962 : decode cL_law 962 = .ok (.aload_n 0, 1) := by decide +kernel
theorem dL_law_963 : decode cL_law 963 = .ok (.iload 4, 2) := by decide +kernel
theorem dL_law_965 : decode cL_law 965 = .ok (.iconst 1, 1) := by decide +kernel
theorem dL_law_966 : decode cL_law 966 = .ok (.iadd, 1) := by decide +kernel
theorem dL_law_967 : decode cL_law 967 = .ok (.iaload, 1) := by decide +kernel
theorem dL_law_968 : decode cL_law 968 = .ok (.aload_n 0, 1) := by decide +kernel
theorem dL_law_969 : decode cL_law 969 = .ok (.iload 4, 2) := by decide +kernel
theorem dL_law_971 : decode cL_law 971 = .ok (.iconst 2, 1) := by decide +kernel
theorem dL_law_972 : decode cL_law 972 = .ok (.iadd, 1) := by decide +kernel
theorem dL_law_973 : decode cL_law 973 = .ok (.iaload, 1) := by decide +kernel
theorem dL_law_974 : decode cL_law 974 = .ok (.aload_n 0, 1) := by decide +kernel
theorem dL_law_975 : decode cL_law 975 = .ok (.iload 4, 2) := by decide +kernel
theorem dL_law_977 : decode cL_law 977 = .ok (.iconst 3, 1) := by decide +kernel
theorem dL_law_978 : decode cL_law 978 = .ok (.iadd, 1) := by decide +kernel
theorem dL_law_979 : decode cL_law 979 = .ok (.iaload, 1) := by decide +kernel
theorem dL_law_980 : decode cL_law 980 = .ok (.aload_n 0, 1) := by decide +kernel
theorem dL_law_981 : decode cL_law 981 = .ok (.iload 4, 2) := by decide +kernel
theorem dL_law_983 : decode cL_law 983 = .ok (.iconst 4, 1) := by decide +kernel
theorem dL_law_984 : decode cL_law 984 = .ok (.iadd, 1) := by decide +kernel
theorem dL_law_985 : decode cL_law 985 = .ok (.iaload, 1) := by decide +kernel
theorem dL_law_986 : decode cL_law 986 = .ok (.ifCond .eq 7, 3) := by decide +kernel
theorem dL_law_989 : decode cL_law 989 = .ok (.iconst 1, 1) := by decide +kernel
theorem dL_law_990 : decode cL_law 990 = .ok (.goto 4, 3) := by decide +kernel
theorem dL_law_993 : decode cL_law 993 = .ok (.iconst 0, 1) := by decide +kernel
theorem dL_law_994 : decode cL_law 994 = .ok (.aload_n 3, 1) := by decide +kernel
theorem dL_law_995 : decode cL_law 995 = .ok (.invokestatic 166, 3) := by decide +kernel
theorem dL_law_998 : decode cL_law 998 = .ok (.istore 5, 2) := by decide +kernel
theorem dL_law_1000 : decode cL_law 1000 = .ok (.aload_n 2, 1) := by decide +kernel
theorem dL_law_1001 : decode cL_law 1001 = .ok (.aload_n 0, 1) := by decide +kernel
theorem dL_law_1002 : decode cL_law 1002 = .ok (.iload 4, 2) := by decide +kernel
theorem dL_law_1004 : decode cL_law 1004 = .ok (.iconst 1, 1) := by decide +kernel
theorem dL_law_1005 : decode cL_law 1005 = .ok (.iadd, 1) := by decide +kernel
theorem dL_law_1006 : decode cL_law 1006 = .ok (.iaload, 1) := by decide +kernel
theorem dL_law_1007 : decode cL_law 1007 = .ok (.aload_n 0, 1) := by decide +kernel
theorem dL_law_1008 : decode cL_law 1008 = .ok (.iload 4, 2) := by decide +kernel
theorem dL_law_1010 : decode cL_law 1010 = .ok (.iconst 2, 1) := by decide +kernel
theorem dL_law_1011 : decode cL_law 1011 = .ok (.iadd, 1) := by decide +kernel
theorem dL_law_1012 : decode cL_law 1012 = .ok (.iaload, 1) := by decide +kernel
theorem dL_law_1013 : decode cL_law 1013 = .ok (.aload_n 0, 1) := by decide +kernel
theorem dL_law_1014 : decode cL_law 1014 = .ok (.iload 4, 2) := by decide +kernel
theorem dL_law_1016 : decode cL_law 1016 = .ok (.iconst 3, 1) := by decide +kernel
theorem dL_law_1017 : decode cL_law 1017 = .ok (.iadd, 1) := by decide +kernel
theorem dL_law_1018 : decode cL_law 1018 = .ok (.iaload, 1) := by decide +kernel
theorem dL_law_1019 : decode cL_law 1019 = .ok (.aload_n 0, 1) := by decide +kernel
theorem dL_law_1020 : decode cL_law 1020 = .ok (.iload 4, 2) := by decide +kernel
theorem dL_law_1022 : decode cL_law 1022 = .ok (.iconst 4, 1) := by decide +kernel
theorem dL_law_1023 : decode cL_law 1023 = .ok (.iadd, 1) := by decide +kernel
theorem dL_law_1024 : decode cL_law 1024 = .ok (.iaload, 1) := by decide +kernel
theorem dL_law_1025 : decode cL_law 1025 = .ok (.ifCond .eq 7, 3) := by decide +kernel
theorem dL_law_1028 : decode cL_law 1028 = .ok (.iconst 1, 1) := by decide +kernel
theorem dL_law_1029 : decode cL_law 1029 = .ok (.goto 4, 3) := by decide +kernel
theorem dL_law_1032 : decode cL_law 1032 = .ok (.iconst 0, 1) := by decide +kernel
theorem dL_law_1033 : decode cL_law 1033 = .ok (.invokevirtual 169, 3) := by decide +kernel
theorem dL_law_1036 : decode cL_law 1036 = .ok (.istore 6, 2) := by decide +kernel
theorem dL_law_1038 : decode cL_law 1038 = .ok (.aload_n 2, 1) := by decide +kernel
theorem dL_law_1039 : decode cL_law 1039 = .ok (.invokevirtual 119, 3) := by decide +kernel
theorem dL_law_1042 : decode cL_law 1042 = .ok (.iload 5, 2) := by decide +kernel
theorem dL_law_1044 : decode cL_law 1044 = .ok (.if_icmp .eq 5, 3) := by decide +kernel
theorem dL_law_1049 : decode cL_law 1049 = .ok (.iload 5, 2) := by decide +kernel
theorem dL_law_1051 : decode cL_law 1051 = .ok (.ifCond .ne 15, 3) := by decide +kernel
theorem dL_law_1066 : decode cL_law 1066 = .ok (.goto 1355, 3) := by decide +kernel
theorem dL_law_1069 : decode cL_law 1069 = .ok (.aload_n 1, 1) := by decide +kernel
theorem dL_law_1070 : decode cL_law 1070 = .ok (.aload_n 0, 1) := by decide +kernel
theorem dL_law_1071 : decode cL_law 1071 = .ok (.iload 4, 2) := by decide +kernel
theorem dL_law_1073 : decode cL_law 1073 = .ok (.iconst 1, 1) := by decide +kernel
theorem dL_law_1074 : decode cL_law 1074 = .ok (.iadd, 1) := by decide +kernel
theorem dL_law_1075 : decode cL_law 1075 = .ok (.iaload, 1) := by decide +kernel
theorem dL_law_1076 : decode cL_law 1076 = .ok (.aload_n 0, 1) := by decide +kernel
theorem dL_law_1077 : decode cL_law 1077 = .ok (.iload 4, 2) := by decide +kernel
theorem dL_law_1079 : decode cL_law 1079 = .ok (.iconst 2, 1) := by decide +kernel
theorem dL_law_1080 : decode cL_law 1080 = .ok (.iadd, 1) := by decide +kernel
theorem dL_law_1081 : decode cL_law 1081 = .ok (.iaload, 1) := by decide +kernel
theorem dL_law_1082 : decode cL_law 1082 = .ok (.aload_n 3, 1) := by decide +kernel
theorem dL_law_1083 : decode cL_law 1083 = .ok (.invokestatic 170, 3) := by decide +kernel
theorem dL_law_1086 : decode cL_law 1086 = .ok (.istore 5, 2) := by decide +kernel
theorem dL_law_1088 : decode cL_law 1088 = .ok (.aload_n 2, 1) := by decide +kernel
theorem dL_law_1089 : decode cL_law 1089 = .ok (.aload_n 0, 1) := by decide +kernel
theorem dL_law_1090 : decode cL_law 1090 = .ok (.iload 4, 2) := by decide +kernel
theorem dL_law_1092 : decode cL_law 1092 = .ok (.iconst 1, 1) := by decide +kernel
theorem dL_law_1093 : decode cL_law 1093 = .ok (.iadd, 1) := by decide +kernel
theorem dL_law_1094 : decode cL_law 1094 = .ok (.iaload, 1) := by decide +kernel
theorem dL_law_1095 : decode cL_law 1095 = .ok (.aload_n 0, 1) := by decide +kernel
theorem dL_law_1096 : decode cL_law 1096 = .ok (.iload 4, 2) := by decide +kernel
theorem dL_law_1098 : decode cL_law 1098 = .ok (.iconst 2, 1) := by decide +kernel
theorem dL_law_1099 : decode cL_law 1099 = .ok (.iadd, 1) := by decide +kernel
theorem dL_law_1100 : decode cL_law 1100 = .ok (.iaload, 1) := by decide +kernel
theorem dL_law_1101 : decode cL_law 1101 = .ok (.invokevirtual 172, 3) := by decide +kernel
theorem dL_law_1104 : decode cL_law 1104 = .ok (.istore 6, 2) := by decide +kernel
theorem dL_law_1106 : decode cL_law 1106 = .ok (.aload_n 2, 1) := by decide +kernel
theorem dL_law_1107 : decode cL_law 1107 = .ok (.invokevirtual 119, 3) := by decide +kernel
theorem dL_law_1110 : decode cL_law 1110 = .ok (.iload 5, 2) := by decide +kernel
theorem dL_law_1112 : decode cL_law 1112 = .ok (.if_icmp .eq 5, 3) := by decide +kernel
theorem dL_law_1117 : decode cL_law 1117 = .ok (.iload 5, 2) := by decide +kernel
theorem dL_law_1119 : decode cL_law 1119 = .ok (.ifCond .ne 15, 3) := by decide +kernel
theorem dL_law_1134 : decode cL_law 1134 = .ok (.goto 1287, 3) := by decide +kernel
theorem dL_law_1137 : decode cL_law 1137 = .ok (.aload_n 1, 1) := by decide +kernel
theorem dL_law_1138 : decode cL_law 1138 = .ok (.aload_n 0, 1) := by decide +kernel
theorem dL_law_1139 : decode cL_law 1139 = .ok (.iload 4, 2) := by decide +kernel
theorem dL_law_1141 : decode cL_law 1141 = .ok (.iconst 1, 1) := by decide +kernel
theorem dL_law_1142 : decode cL_law 1142 = .ok (.iadd, 1) := by decide +kernel
theorem dL_law_1143 : decode cL_law 1143 = .ok (.iaload, 1) := by decide +kernel
theorem dL_law_1144 : decode cL_law 1144 = .ok (.aload_n 0, 1) := by decide +kernel
theorem dL_law_1145 : decode cL_law 1145 = .ok (.iload 4, 2) := by decide +kernel
theorem dL_law_1147 : decode cL_law 1147 = .ok (.iconst 2, 1) := by decide +kernel
theorem dL_law_1148 : decode cL_law 1148 = .ok (.iadd, 1) := by decide +kernel
theorem dL_law_1149 : decode cL_law 1149 = .ok (.iaload, 1) := by decide +kernel
theorem dL_law_1150 : decode cL_law 1150 = .ok (.aload_n 0, 1) := by decide +kernel
theorem dL_law_1151 : decode cL_law 1151 = .ok (.iload 4, 2) := by decide +kernel
theorem dL_law_1153 : decode cL_law 1153 = .ok (.iconst 3, 1) := by decide +kernel
theorem dL_law_1154 : decode cL_law 1154 = .ok (.iadd, 1) := by decide +kernel
theorem dL_law_1155 : decode cL_law 1155 = .ok (.iaload, 1) := by decide +kernel
theorem dL_law_1156 : decode cL_law 1156 = .ok (.aload_n 3, 1) := by decide +kernel
theorem dL_law_1157 : decode cL_law 1157 = .ok (.invokestatic 173, 3) := by decide +kernel
theorem dL_law_1160 : decode cL_law 1160 = .ok (.istore 5, 2) := by decide +kernel
theorem dL_law_1162 : decode cL_law 1162 = .ok (.aload_n 2, 1) := by decide +kernel
theorem dL_law_1163 : decode cL_law 1163 = .ok (.aload_n 0, 1) := by decide +kernel
theorem dL_law_1164 : decode cL_law 1164 = .ok (.iload 4, 2) := by decide +kernel
theorem dL_law_1166 : decode cL_law 1166 = .ok (.iconst 1, 1) := by decide +kernel
theorem dL_law_1167 : decode cL_law 1167 = .ok (.iadd, 1) := by decide +kernel
theorem dL_law_1168 : decode cL_law 1168 = .ok (.iaload, 1) := by decide +kernel
theorem dL_law_1169 : decode cL_law 1169 = .ok (.aload_n 0, 1) := by decide +kernel
theorem dL_law_1170 : decode cL_law 1170 = .ok (.iload 4, 2) := by decide +kernel
theorem dL_law_1172 : decode cL_law 1172 = .ok (.iconst 2, 1) := by decide +kernel
theorem dL_law_1173 : decode cL_law 1173 = .ok (.iadd, 1) := by decide +kernel
theorem dL_law_1174 : decode cL_law 1174 = .ok (.iaload, 1) := by decide +kernel
theorem dL_law_1175 : decode cL_law 1175 = .ok (.aload_n 0, 1) := by decide +kernel
theorem dL_law_1176 : decode cL_law 1176 = .ok (.iload 4, 2) := by decide +kernel
theorem dL_law_1178 : decode cL_law 1178 = .ok (.iconst 3, 1) := by decide +kernel
theorem dL_law_1179 : decode cL_law 1179 = .ok (.iadd, 1) := by decide +kernel
theorem dL_law_1180 : decode cL_law 1180 = .ok (.iaload, 1) := by decide +kernel
theorem dL_law_1181 : decode cL_law 1181 = .ok (.invokevirtual 175, 3) := by decide +kernel
theorem dL_law_1184 : decode cL_law 1184 = .ok (.istore 6, 2) := by decide +kernel
theorem dL_law_1186 : decode cL_law 1186 = .ok (.aload_n 2, 1) := by decide +kernel
theorem dL_law_1187 : decode cL_law 1187 = .ok (.invokevirtual 119, 3) := by decide +kernel
theorem dL_law_1190 : decode cL_law 1190 = .ok (.iload 5, 2) := by decide +kernel
theorem dL_law_1192 : decode cL_law 1192 = .ok (.if_icmp .eq 5, 3) := by decide +kernel
theorem dL_law_1197 : decode cL_law 1197 = .ok (.iload 5, 2) := by decide +kernel
theorem dL_law_1199 : decode cL_law 1199 = .ok (.ifCond .ne 15, 3) := by decide +kernel
theorem dL_law_1214 : decode cL_law 1214 = .ok (.goto 1207, 3) := by decide +kernel
theorem dL_law_1217 : decode cL_law 1217 = .ok (.aload_n 1, 1) := by decide +kernel
theorem dL_law_1218 : decode cL_law 1218 = .ok (.aload_n 0, 1) := by decide +kernel
theorem dL_law_1219 : decode cL_law 1219 = .ok (.iload 4, 2) := by decide +kernel
theorem dL_law_1221 : decode cL_law 1221 = .ok (.iconst 1, 1) := by decide +kernel
theorem dL_law_1222 : decode cL_law 1222 = .ok (.iadd, 1) := by decide +kernel
theorem dL_law_1223 : decode cL_law 1223 = .ok (.iaload, 1) := by decide +kernel
theorem dL_law_1224 : decode cL_law 1224 = .ok (.aload_n 0, 1) := by decide +kernel
theorem dL_law_1225 : decode cL_law 1225 = .ok (.iload 4, 2) := by decide +kernel
theorem dL_law_1227 : decode cL_law 1227 = .ok (.iconst 2, 1) := by decide +kernel
theorem dL_law_1228 : decode cL_law 1228 = .ok (.iadd, 1) := by decide +kernel
theorem dL_law_1229 : decode cL_law 1229 = .ok (.iaload, 1) := by decide +kernel
theorem dL_law_1230 : decode cL_law 1230 = .ok (.ifCond .eq 7, 3) := by decide +kernel
theorem dL_law_1233 : decode cL_law 1233 = .ok (.iconst 1, 1) := by decide +kernel
theorem dL_law_1234 : decode cL_law 1234 = .ok (.goto 4, 3) := by decide +kernel
theorem dL_law_1237 : decode cL_law 1237 = .ok (.iconst 0, 1) := by decide +kernel
theorem dL_law_1238 : decode cL_law 1238 = .ok (.aload_n 3, 1) := by decide +kernel
theorem dL_law_1239 : decode cL_law 1239 = .ok (.invokestatic 176, 3) := by decide +kernel
theorem dL_law_1242 : decode cL_law 1242 = .ok (.istore 5, 2) := by decide +kernel
theorem dL_law_1244 : decode cL_law 1244 = .ok (.aload_n 2, 1) := by decide +kernel
theorem dL_law_1245 : decode cL_law 1245 = .ok (.aload_n 0, 1) := by decide +kernel
theorem dL_law_1246 : decode cL_law 1246 = .ok (.iload 4, 2) := by decide +kernel
theorem dL_law_1248 : decode cL_law 1248 = .ok (.iconst 1, 1) := by decide +kernel
theorem dL_law_1249 : decode cL_law 1249 = .ok (.iadd, 1) := by decide +kernel
theorem dL_law_1250 : decode cL_law 1250 = .ok (.iaload, 1) := by decide +kernel
theorem dL_law_1251 : decode cL_law 1251 = .ok (.aload_n 0, 1) := by decide +kernel
theorem dL_law_1252 : decode cL_law 1252 = .ok (.iload 4, 2) := by decide +kernel
theorem dL_law_1254 : decode cL_law 1254 = .ok (.iconst 2, 1) := by decide +kernel
theorem dL_law_1255 : decode cL_law 1255 = .ok (.iadd, 1) := by decide +kernel
theorem dL_law_1256 : decode cL_law 1256 = .ok (.iaload, 1) := by decide +kernel
theorem dL_law_1257 : decode cL_law 1257 = .ok (.ifCond .eq 7, 3) := by decide +kernel
theorem dL_law_1260 : decode cL_law 1260 = .ok (.iconst 1, 1) := by decide +kernel
theorem dL_law_1261 : decode cL_law 1261 = .ok (.goto 4, 3) := by decide +kernel
theorem dL_law_1264 : decode cL_law 1264 = .ok (.iconst 0, 1) := by decide +kernel
theorem dL_law_1265 : decode cL_law 1265 = .ok (.invokevirtual 179, 3) := by decide +kernel
theorem dL_law_1268 : decode cL_law 1268 = .ok (.istore 6, 2) := by decide +kernel
theorem dL_law_1270 : decode cL_law 1270 = .ok (.aload_n 2, 1) := by decide +kernel
theorem dL_law_1271 : decode cL_law 1271 = .ok (.invokevirtual 119, 3) := by decide +kernel
theorem dL_law_1274 : decode cL_law 1274 = .ok (.iload 5, 2) := by decide +kernel
theorem dL_law_1276 : decode cL_law 1276 = .ok (.if_icmp .eq 5, 3) := by decide +kernel
theorem dL_law_1281 : decode cL_law 1281 = .ok (.iload 5, 2) := by decide +kernel
theorem dL_law_1283 : decode cL_law 1283 = .ok (.ifCond .ne 15, 3) := by decide +kernel
theorem dL_law_1298 : decode cL_law 1298 = .ok (.goto 1123, 3) := by decide +kernel
theorem dL_law_1301 : decode cL_law 1301 = .ok (.aload_n 1, 1) := by decide +kernel
theorem dL_law_1302 : decode cL_law 1302 = .ok (.aload_n 0, 1) := by decide +kernel
theorem dL_law_1303 : decode cL_law 1303 = .ok (.iload 4, 2) := by decide +kernel
theorem dL_law_1305 : decode cL_law 1305 = .ok (.iconst 1, 1) := by decide +kernel
theorem dL_law_1306 : decode cL_law 1306 = .ok (.iadd, 1) := by decide +kernel
theorem dL_law_1307 : decode cL_law 1307 = .ok (.iaload, 1) := by decide +kernel
theorem dL_law_1308 : decode cL_law 1308 = .ok (.aload_n 0, 1) := by decide +kernel
theorem dL_law_1309 : decode cL_law 1309 = .ok (.iload 4, 2) := by decide +kernel
theorem dL_law_1311 : decode cL_law 1311 = .ok (.iconst 2, 1) := by decide +kernel
theorem dL_law_1312 : decode cL_law 1312 = .ok (.iadd, 1) := by decide +kernel
theorem dL_law_1313 : decode cL_law 1313 = .ok (.iaload, 1) := by decide +kernel
theorem dL_law_1314 : decode cL_law 1314 = .ok (.ifCond .eq 7, 3) := by decide +kernel
theorem dL_law_1317 : decode cL_law 1317 = .ok (.iconst 1, 1) := by decide +kernel
theorem dL_law_1318 : decode cL_law 1318 = .ok (.goto 4, 3) := by decide +kernel
theorem dL_law_1321 : decode cL_law 1321 = .ok (.iconst 0, 1) := by decide +kernel
theorem dL_law_1322 : decode cL_law 1322 = .ok (.aload_n 0, 1) := by decide +kernel
theorem dL_law_1323 : decode cL_law 1323 = .ok (.iload 4, 2) := by decide +kernel
theorem dL_law_1325 : decode cL_law 1325 = .ok (.iconst 3, 1) := by decide +kernel
theorem dL_law_1326 : decode cL_law 1326 = .ok (.iadd, 1) := by decide +kernel
theorem dL_law_1327 : decode cL_law 1327 = .ok (.iaload, 1) := by decide +kernel
theorem dL_law_1328 : decode cL_law 1328 = .ok (.aload_n 0, 1) := by decide +kernel
theorem dL_law_1329 : decode cL_law 1329 = .ok (.iload 4, 2) := by decide +kernel
theorem dL_law_1331 : decode cL_law 1331 = .ok (.iconst 4, 1) := by decide +kernel
theorem dL_law_1332 : decode cL_law 1332 = .ok (.iadd, 1) := by decide +kernel
theorem dL_law_1333 : decode cL_law 1333 = .ok (.iaload, 1) := by decide +kernel
theorem dL_law_1334 : decode cL_law 1334 = .ok (.aload_n 3, 1) := by decide +kernel
theorem dL_law_1335 : decode cL_law 1335 = .ok (.invokestatic 180, 3) := by decide +kernel
theorem dL_law_1338 : decode cL_law 1338 = .ok (.istore 5, 2) := by decide +kernel
theorem dL_law_1340 : decode cL_law 1340 = .ok (.aload_n 2, 1) := by decide +kernel
theorem dL_law_1341 : decode cL_law 1341 = .ok (.aload_n 0, 1) := by decide +kernel
theorem dL_law_1342 : decode cL_law 1342 = .ok (.iload 4, 2) := by decide +kernel
theorem dL_law_1344 : decode cL_law 1344 = .ok (.iconst 1, 1) := by decide +kernel
theorem dL_law_1345 : decode cL_law 1345 = .ok (.iadd, 1) := by decide +kernel
theorem dL_law_1346 : decode cL_law 1346 = .ok (.iaload, 1) := by decide +kernel
theorem dL_law_1347 : decode cL_law 1347 = .ok (.aload_n 0, 1) := by decide +kernel
theorem dL_law_1348 : decode cL_law 1348 = .ok (.iload 4, 2) := by decide +kernel
theorem dL_law_1350 : decode cL_law 1350 = .ok (.iconst 2, 1) := by decide +kernel
theorem dL_law_1351 : decode cL_law 1351 = .ok (.iadd, 1) := by decide +kernel
theorem dL_law_1352 : decode cL_law 1352 = .ok (.iaload, 1) := by decide +kernel
theorem dL_law_1353 : decode cL_law 1353 = .ok (.ifCond .eq 7, 3) := by decide +kernel
theorem dL_law_1356 : decode cL_law 1356 = .ok (.iconst 1, 1) := by decide +kernel
theorem dL_law_1357 : decode cL_law 1357 = .ok (.goto 4, 3) := by decide +kernel
theorem dL_law_1360 : decode cL_law 1360 = .ok (.iconst 0, 1) := by decide +kernel
theorem dL_law_1361 : decode cL_law 1361 = .ok (.aload_n 0, 1) := by decide +kernel
theorem dL_law_1362 : decode cL_law 1362 = .ok (.iload 4, 2) := by decide +kernel
theorem dL_law_1364 : decode cL_law 1364 = .ok (.iconst 3, 1) := by decide +kernel
theorem dL_law_1365 : decode cL_law 1365 = .ok (.iadd, 1) := by decide +kernel
theorem dL_law_1366 : decode cL_law 1366 = .ok (.iaload, 1) := by decide +kernel
theorem dL_law_1367 : decode cL_law 1367 = .ok (.aload_n 0, 1) := by decide +kernel
theorem dL_law_1368 : decode cL_law 1368 = .ok (.iload 4, 2) := by decide +kernel
theorem dL_law_1370 : decode cL_law 1370 = .ok (.iconst 4, 1) := by decide +kernel
theorem dL_law_1371 : decode cL_law 1371 = .ok (.iadd, 1) := by decide +kernel
theorem dL_law_1372 : decode cL_law 1372 = .ok (.iaload, 1) := by decide +kernel
theorem dL_law_1373 : decode cL_law 1373 = .ok (.invokevirtual 183, 3) := by decide +kernel
theorem dL_law_1376 : decode cL_law 1376 = .ok (.istore 6, 2) := by decide +kernel
theorem dL_law_1378 : decode cL_law 1378 = .ok (.aload_n 2, 1) := by decide +kernel
theorem dL_law_1379 : decode cL_law 1379 = .ok (.invokevirtual 119, 3) := by decide +kernel
theorem dL_law_1382 : decode cL_law 1382 = .ok (.iload 5, 2) := by decide +kernel
theorem dL_law_1384 : decode cL_law 1384 = .ok (.if_icmp .eq 5, 3) := by decide +kernel
theorem dL_law_1389 : decode cL_law 1389 = .ok (.iload 5, 2) := by decide +kernel
theorem dL_law_1391 : decode cL_law 1391 = .ok (.ifCond .ne 15, 3) := by decide +kernel
theorem dL_law_1406 : decode cL_law 1406 = .ok (.goto 1015, 3) := by decide +kernel
theorem dL_law_1409 : decode cL_law 1409 = .ok (.aload_n 1, 1) := by decide +kernel
theorem dL_law_1410 : decode cL_law 1410 = .ok (.aload_n 0, 1) := by decide +kernel
theorem dL_law_1411 : decode cL_law 1411 = .ok (.iload 4, 2) := by decide +kernel
theorem dL_law_1413 : decode cL_law 1413 = .ok (.iconst 1, 1) := by decide +kernel
theorem dL_law_1414 : decode cL_law 1414 = .ok (.iadd, 1) := by decide +kernel
theorem dL_law_1415 : decode cL_law 1415 = .ok (.iaload, 1) := by decide +kernel
theorem dL_law_1416 : decode cL_law 1416 = .ok (.aload_n 3, 1) := by decide +kernel
theorem dL_law_1417 : decode cL_law 1417 = .ok (.invokestatic 184, 3) := by decide +kernel
theorem dL_law_1420 : decode cL_law 1420 = .ok (.istore 5, 2) := by decide +kernel
theorem dL_law_1422 : decode cL_law 1422 = .ok (.aload_n 2, 1) := by decide +kernel
theorem dL_law_1423 : decode cL_law 1423 = .ok (.aload_n 0, 1) := by decide +kernel
theorem dL_law_1424 : decode cL_law 1424 = .ok (.iload 4, 2) := by decide +kernel
theorem dL_law_1426 : decode cL_law 1426 = .ok (.iconst 1, 1) := by decide +kernel
theorem dL_law_1427 : decode cL_law 1427 = .ok (.iadd, 1) := by decide +kernel
theorem dL_law_1428 : decode cL_law 1428 = .ok (.iaload, 1) := by decide +kernel
theorem dL_law_1429 : decode cL_law 1429 = .ok (.invokevirtual 186, 3) := by decide +kernel
theorem dL_law_1432 : decode cL_law 1432 = .ok (.istore 6, 2) := by decide +kernel
theorem dL_law_1434 : decode cL_law 1434 = .ok (.aload_n 2, 1) := by decide +kernel
theorem dL_law_1435 : decode cL_law 1435 = .ok (.invokevirtual 119, 3) := by decide +kernel
theorem dL_law_1438 : decode cL_law 1438 = .ok (.iload 5, 2) := by decide +kernel
theorem dL_law_1440 : decode cL_law 1440 = .ok (.if_icmp .eq 5, 3) := by decide +kernel
theorem dL_law_1445 : decode cL_law 1445 = .ok (.iload 5, 2) := by decide +kernel
theorem dL_law_1447 : decode cL_law 1447 = .ok (.ifCond .ne 15, 3) := by decide +kernel
theorem dL_law_1462 : decode cL_law 1462 = .ok (.goto 959, 3) := by decide +kernel
theorem dL_law_1465 : decode cL_law 1465 = .ok (.aload_n 1, 1) := by decide +kernel
theorem dL_law_1466 : decode cL_law 1466 = .ok (.invokevirtual 187, 3) := by decide +kernel
theorem dL_law_1469 : decode cL_law 1469 = .ok (.dstore 5, 2) := by decide +kernel
theorem dL_law_1471 : decode cL_law 1471 = .ok (.aload_n 2, 1) := by decide +kernel
theorem dL_law_1472 : decode cL_law 1472 = .ok (.invokevirtual 191, 3) := by decide +kernel
theorem dL_law_1475 : decode cL_law 1475 = .ok (.dstore 7, 2) := by decide +kernel
theorem dL_law_1477 : decode cL_law 1477 = .ok (.dload 5, 2) := by decide +kernel
theorem dL_law_1479 : decode cL_law 1479 = .ok (.dload 7, 2) := by decide +kernel
theorem dL_law_1481 : decode cL_law 1481 = .ok (.dcmp .l, 1) := by decide +kernel
theorem dL_law_1482 : decode cL_law 1482 = .ok (.ifCond .eq 21, 3) := by decide +kernel
theorem dL_law_1503 : decode cL_law 1503 = .ok (.goto 918, 3) := by decide +kernel
theorem dL_law_1506 : decode cL_law 1506 = .ok (.aload_n 1, 1) := by decide +kernel
theorem dL_law_1507 : decode cL_law 1507 = .ok (.aload_n 0, 1) := by decide +kernel
theorem dL_law_1508 : decode cL_law 1508 = .ok (.iload 4, 2) := by decide +kernel
theorem dL_law_1510 : decode cL_law 1510 = .ok (.iconst 1, 1) := by decide +kernel
theorem dL_law_1511 : decode cL_law 1511 = .ok (.iadd, 1) := by decide +kernel
theorem dL_law_1512 : decode cL_law 1512 = .ok (.iaload, 1) := by decide +kernel
theorem dL_law_1513 : decode cL_law 1513 = .ok (.aload_n 0, 1) := by decide +kernel
theorem dL_law_1514 : decode cL_law 1514 = .ok (.iload 4, 2) := by decide +kernel
theorem dL_law_1516 : decode cL_law 1516 = .ok (.iconst 2, 1) := by decide +kernel
theorem dL_law_1517 : decode cL_law 1517 = .ok (.iadd, 1) := by decide +kernel
theorem dL_law_1518 : decode cL_law 1518 = .ok (.iaload, 1) := by decide +kernel
theorem dL_law_1519 : decode cL_law 1519 = .ok (.aload_n 3, 1) := by decide +kernel
theorem dL_law_1520 : decode cL_law 1520 = .ok (.invokestatic 192, 3) := by decide +kernel
theorem dL_law_1523 : decode cL_law 1523 = .ok (.istore 5, 2) := by decide +kernel
theorem dL_law_1525 : decode cL_law 1525 = .ok (.aload_n 2, 1) := by decide +kernel
theorem dL_law_1526 : decode cL_law 1526 = .ok (.aload_n 0, 1) := by decide +kernel
theorem dL_law_1527 : decode cL_law 1527 = .ok (.iload 4, 2) := by decide +kernel
theorem dL_law_1529 : decode cL_law 1529 = .ok (.iconst 1, 1) := by decide +kernel
theorem dL_law_1530 : decode cL_law 1530 = .ok (.iadd, 1) := by decide +kernel
theorem dL_law_1531 : decode cL_law 1531 = .ok (.iaload, 1) := by decide +kernel
theorem dL_law_1532 : decode cL_law 1532 = .ok (.aload_n 0, 1) := by decide +kernel
theorem dL_law_1533 : decode cL_law 1533 = .ok (.iload 4, 2) := by decide +kernel
theorem dL_law_1535 : decode cL_law 1535 = .ok (.iconst 2, 1) := by decide +kernel
theorem dL_law_1536 : decode cL_law 1536 = .ok (.iadd, 1) := by decide +kernel
theorem dL_law_1537 : decode cL_law 1537 = .ok (.iaload, 1) := by decide +kernel
theorem dL_law_1538 : decode cL_law 1538 = .ok (.invokevirtual 194, 3) := by decide +kernel
theorem dL_law_1541 : decode cL_law 1541 = .ok (.istore 6, 2) := by decide +kernel
theorem dL_law_1543 : decode cL_law 1543 = .ok (.aload_n 2, 1) := by decide +kernel
theorem dL_law_1544 : decode cL_law 1544 = .ok (.invokevirtual 119, 3) := by decide +kernel
theorem dL_law_1547 : decode cL_law 1547 = .ok (.iload 5, 2) := by decide +kernel
theorem dL_law_1549 : decode cL_law 1549 = .ok (.if_icmp .eq 5, 3) := by decide +kernel
theorem dL_law_1554 : decode cL_law 1554 = .ok (.iload 5, 2) := by decide +kernel
theorem dL_law_1556 : decode cL_law 1556 = .ok (.ifCond .ne 15, 3) := by decide +kernel
theorem dL_law_1571 : decode cL_law 1571 = .ok (.goto 850, 3) := by decide +kernel
theorem dL_law_1574 : decode cL_law 1574 = .ok (.aload_n 1, 1) := by decide +kernel
theorem dL_law_1575 : decode cL_law 1575 = .ok (.aload_n 0, 1) := by decide +kernel
theorem dL_law_1576 : decode cL_law 1576 = .ok (.iload 4, 2) := by decide +kernel
theorem dL_law_1578 : decode cL_law 1578 = .ok (.iconst 1, 1) := by decide +kernel
theorem dL_law_1579 : decode cL_law 1579 = .ok (.iadd, 1) := by decide +kernel
theorem dL_law_1580 : decode cL_law 1580 = .ok (.iaload, 1) := by decide +kernel
theorem dL_law_1581 : decode cL_law 1581 = .ok (.ifCond .eq 7, 3) := by decide +kernel
theorem dL_law_1584 : decode cL_law 1584 = .ok (.iconst 1, 1) := by decide +kernel
theorem dL_law_1585 : decode cL_law 1585 = .ok (.goto 4, 3) := by decide +kernel
theorem dL_law_1588 : decode cL_law 1588 = .ok (.iconst 0, 1) := by decide +kernel
theorem dL_law_1589 : decode cL_law 1589 = .ok (.aload_n 0, 1) := by decide +kernel
theorem dL_law_1590 : decode cL_law 1590 = .ok (.iload 4, 2) := by decide +kernel
theorem dL_law_1592 : decode cL_law 1592 = .ok (.iconst 2, 1) := by decide +kernel
theorem dL_law_1593 : decode cL_law 1593 = .ok (.iadd, 1) := by decide +kernel
theorem dL_law_1594 : decode cL_law 1594 = .ok (.iaload, 1) := by decide +kernel
theorem dL_law_1595 : decode cL_law 1595 = .ok (.aload_n 0, 1) := by decide +kernel
theorem dL_law_1596 : decode cL_law 1596 = .ok (.iload 4, 2) := by decide +kernel
theorem dL_law_1598 : decode cL_law 1598 = .ok (.iconst 3, 1) := by decide +kernel
theorem dL_law_1599 : decode cL_law 1599 = .ok (.iadd, 1) := by decide +kernel
theorem dL_law_1600 : decode cL_law 1600 = .ok (.iaload, 1) := by decide +kernel
theorem dL_law_1601 : decode cL_law 1601 = .ok (.aload_n 0, 1) := by decide +kernel
theorem dL_law_1602 : decode cL_law 1602 = .ok (.iload 4, 2) := by decide +kernel
theorem dL_law_1604 : decode cL_law 1604 = .ok (.iconst 4, 1) := by decide +kernel
theorem dL_law_1605 : decode cL_law 1605 = .ok (.iadd, 1) := by decide +kernel
theorem dL_law_1606 : decode cL_law 1606 = .ok (.iaload, 1) := by decide +kernel
theorem dL_law_1607 : decode cL_law 1607 = .ok (.aload_n 3, 1) := by decide +kernel
theorem dL_law_1608 : decode cL_law 1608 = .ok (.invokestatic 195, 3) := by decide +kernel
theorem dL_law_1611 : decode cL_law 1611 = .ok (.istore 5, 2) := by decide +kernel
theorem dL_law_1613 : decode cL_law 1613 = .ok (.aload_n 2, 1) := by decide +kernel
theorem dL_law_1614 : decode cL_law 1614 = .ok (.aload_n 0, 1) := by decide +kernel
theorem dL_law_1615 : decode cL_law 1615 = .ok (.iload 4, 2) := by decide +kernel
theorem dL_law_1617 : decode cL_law 1617 = .ok (.iconst 1, 1) := by decide +kernel
theorem dL_law_1618 : decode cL_law 1618 = .ok (.iadd, 1) := by decide +kernel
theorem dL_law_1619 : decode cL_law 1619 = .ok (.iaload, 1) := by decide +kernel
theorem dL_law_1620 : decode cL_law 1620 = .ok (.ifCond .eq 7, 3) := by decide +kernel
theorem dL_law_1623 : decode cL_law 1623 = .ok (.iconst 1, 1) := by decide +kernel
theorem dL_law_1624 : decode cL_law 1624 = .ok (.goto 4, 3) := by decide +kernel
theorem dL_law_1627 : decode cL_law 1627 = .ok (.iconst 0, 1) := by decide +kernel
theorem dL_law_1628 : decode cL_law 1628 = .ok (.aload_n 0, 1) := by decide +kernel
theorem dL_law_1629 : decode cL_law 1629 = .ok (.iload 4, 2) := by decide +kernel
theorem dL_law_1631 : decode cL_law 1631 = .ok (.iconst 2, 1) := by decide +kernel
theorem dL_law_1632 : decode cL_law 1632 = .ok (.iadd, 1) := by decide +kernel
theorem dL_law_1633 : decode cL_law 1633 = .ok (.iaload, 1) := by decide +kernel
theorem dL_law_1634 : decode cL_law 1634 = .ok (.aload_n 0, 1) := by decide +kernel
theorem dL_law_1635 : decode cL_law 1635 = .ok (.iload 4, 2) := by decide +kernel
theorem dL_law_1637 : decode cL_law 1637 = .ok (.iconst 3, 1) := by decide +kernel
theorem dL_law_1638 : decode cL_law 1638 = .ok (.iadd, 1) := by decide +kernel
theorem dL_law_1639 : decode cL_law 1639 = .ok (.iaload, 1) := by decide +kernel
theorem dL_law_1640 : decode cL_law 1640 = .ok (.aload_n 0, 1) := by decide +kernel
theorem dL_law_1641 : decode cL_law 1641 = .ok (.iload 4, 2) := by decide +kernel
theorem dL_law_1643 : decode cL_law 1643 = .ok (.iconst 4, 1) := by decide +kernel
theorem dL_law_1644 : decode cL_law 1644 = .ok (.iadd, 1) := by decide +kernel
theorem dL_law_1645 : decode cL_law 1645 = .ok (.iaload, 1) := by decide +kernel
theorem dL_law_1646 : decode cL_law 1646 = .ok (.invokevirtual 198, 3) := by decide +kernel
theorem dL_law_1649 : decode cL_law 1649 = .ok (.istore 6, 2) := by decide +kernel
theorem dL_law_1651 : decode cL_law 1651 = .ok (.aload_n 2, 1) := by decide +kernel
theorem dL_law_1652 : decode cL_law 1652 = .ok (.invokevirtual 119, 3) := by decide +kernel
theorem dL_law_1655 : decode cL_law 1655 = .ok (.iload 5, 2) := by decide +kernel
theorem dL_law_1657 : decode cL_law 1657 = .ok (.if_icmp .eq 5, 3) := by decide +kernel
theorem dL_law_1662 : decode cL_law 1662 = .ok (.iload 5, 2) := by decide +kernel
theorem dL_law_1664 : decode cL_law 1664 = .ok (.ifCond .ne 15, 3) := by decide +kernel
theorem dL_law_1667 : decode cL_law 1667 = .ok (.aload_n 3, 1) := by decide +kernel
theorem dL_law_1668 : decode cL_law 1668 = .ok (.iconst 0, 1) := by decide +kernel
theorem dL_law_1669 : decode cL_law 1669 = .ok (.laload, 1) := by decide +kernel
theorem dL_law_1670 : decode cL_law 1670 = .ok (.iload 6, 2) := by decide +kernel
theorem dL_law_1672 : decode cL_law 1672 = .ok (.i2l, 1) := by decide +kernel
theorem dL_law_1673 : decode cL_law 1673 = .ok (.lcmp, 1) := by decide +kernel
theorem dL_law_1674 : decode cL_law 1674 = .ok (.ifCond .eq 5, 3) := by decide +kernel
theorem dL_law_1679 : decode cL_law 1679 = .ok (.goto 742, 3) := by decide +kernel
theorem dL_law_1682 : decode cL_law 1682 = .ok (.aload_n 1, 1) := by decide +kernel
theorem dL_law_1683 : decode cL_law 1683 = .ok (.aload_n 0, 1) := by decide +kernel
theorem dL_law_1684 : decode cL_law 1684 = .ok (.iload 4, 2) := by decide +kernel
theorem dL_law_1686 : decode cL_law 1686 = .ok (.iconst 1, 1) := by decide +kernel
theorem dL_law_1687 : decode cL_law 1687 = .ok (.iadd, 1) := by decide +kernel
theorem dL_law_1688 : decode cL_law 1688 = .ok (.iaload, 1) := by decide +kernel
theorem dL_law_1689 : decode cL_law 1689 = .ok (.aload_n 0, 1) := by decide +kernel
theorem dL_law_1690 : decode cL_law 1690 = .ok (.iload 4, 2) := by decide +kernel
theorem dL_law_1692 : decode cL_law 1692 = .ok (.iconst 2, 1) := by decide +kernel
theorem dL_law_1693 : decode cL_law 1693 = .ok (.iadd, 1) := by decide +kernel
theorem dL_law_1694 : decode cL_law 1694 = .ok (.iaload, 1) := by decide +kernel
theorem dL_law_1695 : decode cL_law 1695 = .ok (.aload_n 3, 1) := by decide +kernel
theorem dL_law_1696 : decode cL_law 1696 = .ok (.invokestatic 199, 3) := by decide +kernel
theorem dL_law_1699 : decode cL_law 1699 = .ok (.istore 5, 2) := by decide +kernel
theorem dL_law_1701 : decode cL_law 1701 = .ok (.aload_n 2, 1) := by decide +kernel
theorem dL_law_1702 : decode cL_law 1702 = .ok (.aload_n 0, 1) := by decide +kernel
theorem dL_law_1703 : decode cL_law 1703 = .ok (.iload 4, 2) := by decide +kernel
theorem dL_law_1705 : decode cL_law 1705 = .ok (.iconst 1, 1) := by decide +kernel
theorem dL_law_1706 : decode cL_law 1706 = .ok (.iadd, 1) := by decide +kernel
theorem dL_law_1707 : decode cL_law 1707 = .ok (.iaload, 1) := by decide +kernel
theorem dL_law_1708 : decode cL_law 1708 = .ok (.aload_n 0, 1) := by decide +kernel
theorem dL_law_1709 : decode cL_law 1709 = .ok (.iload 4, 2) := by decide +kernel
theorem dL_law_1711 : decode cL_law 1711 = .ok (.iconst 2, 1) := by decide +kernel
theorem dL_law_1712 : decode cL_law 1712 = .ok (.iadd, 1) := by decide +kernel
theorem dL_law_1713 : decode cL_law 1713 = .ok (.iaload, 1) := by decide +kernel
theorem dL_law_1714 : decode cL_law 1714 = .ok (.invokevirtual 201, 3) := by decide +kernel
theorem dL_law_1717 : decode cL_law 1717 = .ok (.istore 6, 2) := by decide +kernel
theorem dL_law_1719 : decode cL_law 1719 = .ok (.aload_n 2, 1) := by decide +kernel
theorem dL_law_1720 : decode cL_law 1720 = .ok (.invokevirtual 119, 3) := by decide +kernel
theorem dL_law_1723 : decode cL_law 1723 = .ok (.iload 5, 2) := by decide +kernel
theorem dL_law_1725 : decode cL_law 1725 = .ok (.if_icmp .eq 5, 3) := by decide +kernel
theorem dL_law_1730 : decode cL_law 1730 = .ok (.iload 5, 2) := by decide +kernel
theorem dL_law_1732 : decode cL_law 1732 = .ok (.ifCond .ne 15, 3) := by decide +kernel
theorem dL_law_1747 : decode cL_law 1747 = .ok (.goto 674, 3) := by decide +kernel
theorem dL_law_1750 : decode cL_law 1750 = .ok (.aload_n 1, 1) := by decide +kernel
theorem dL_law_1751 : decode cL_law 1751 = .ok (.aload_n 0, 1) := by decide +kernel
theorem dL_law_1752 : decode cL_law 1752 = .ok (.iload 4, 2) := by decide +kernel
theorem dL_law_1754 : decode cL_law 1754 = .ok (.iconst 1, 1) := by decide +kernel
theorem dL_law_1755 : decode cL_law 1755 = .ok (.iadd, 1) := by decide +kernel
theorem dL_law_1756 : decode cL_law 1756 = .ok (.iaload, 1) := by decide +kernel
theorem dL_law_1757 : decode cL_law 1757 = .ok (.aload_n 0, 1) := by decide +kernel
theorem dL_law_1758 : decode cL_law 1758 = .ok (.iload 4, 2) := by decide +kernel
theorem dL_law_1760 : decode cL_law 1760 = .ok (.iconst 2, 1) := by decide +kernel
theorem dL_law_1761 : decode cL_law 1761 = .ok (.iadd, 1) := by decide +kernel
theorem dL_law_1762 : decode cL_law 1762 = .ok (.iaload, 1) := by decide +kernel
theorem dL_law_1763 : decode cL_law 1763 = .ok (.aload_n 3, 1) := by decide +kernel
theorem dL_law_1764 : decode cL_law 1764 = .ok (.invokestatic 202, 3) := by decide +kernel
theorem dL_law_1767 : decode cL_law 1767 = .ok (.istore 5, 2) := by decide +kernel
theorem dL_law_1769 : decode cL_law 1769 = .ok (.aload_n 2, 1) := by decide +kernel
theorem dL_law_1770 : decode cL_law 1770 = .ok (.aload_n 0, 1) := by decide +kernel
theorem dL_law_1771 : decode cL_law 1771 = .ok (.iload 4, 2) := by decide +kernel
theorem dL_law_1773 : decode cL_law 1773 = .ok (.iconst 1, 1) := by decide +kernel
theorem dL_law_1774 : decode cL_law 1774 = .ok (.iadd, 1) := by decide +kernel
theorem dL_law_1775 : decode cL_law 1775 = .ok (.iaload, 1) := by decide +kernel
theorem dL_law_1776 : decode cL_law 1776 = .ok (.aload_n 0, 1) := by decide +kernel
theorem dL_law_1777 : decode cL_law 1777 = .ok (.iload 4, 2) := by decide +kernel
theorem dL_law_1779 : decode cL_law 1779 = .ok (.iconst 2, 1) := by decide +kernel
theorem dL_law_1780 : decode cL_law 1780 = .ok (.iadd, 1) := by decide +kernel
theorem dL_law_1781 : decode cL_law 1781 = .ok (.iaload, 1) := by decide +kernel
theorem dL_law_1782 : decode cL_law 1782 = .ok (.invokevirtual 204, 3) := by decide +kernel
theorem dL_law_1785 : decode cL_law 1785 = .ok (.istore 6, 2) := by decide +kernel
theorem dL_law_1787 : decode cL_law 1787 = .ok (.aload_n 2, 1) := by decide +kernel
theorem dL_law_1788 : decode cL_law 1788 = .ok (.invokevirtual 119, 3) := by decide +kernel
theorem dL_law_1791 : decode cL_law 1791 = .ok (.iload 5, 2) := by decide +kernel
theorem dL_law_1793 : decode cL_law 1793 = .ok (.if_icmp .eq 5, 3) := by decide +kernel
theorem dL_law_1798 : decode cL_law 1798 = .ok (.iload 5, 2) := by decide +kernel
theorem dL_law_1800 : decode cL_law 1800 = .ok (.ifCond .ne 15, 3) := by decide +kernel
theorem dL_law_1815 : decode cL_law 1815 = .ok (.goto 606, 3) := by decide +kernel
theorem dL_law_1818 : decode cL_law 1818 = .ok (.aload_n 1, 1) := by decide +kernel
theorem dL_law_1819 : decode cL_law 1819 = .ok (.aload_n 0, 1) := by decide +kernel
theorem dL_law_1820 : decode cL_law 1820 = .ok (.iload 4, 2) := by decide +kernel
theorem dL_law_1822 : decode cL_law 1822 = .ok (.iconst 1, 1) := by decide +kernel
theorem dL_law_1823 : decode cL_law 1823 = .ok (.iadd, 1) := by decide +kernel
theorem dL_law_1824 : decode cL_law 1824 = .ok (.iaload, 1) := by decide +kernel
theorem dL_law_1825 : decode cL_law 1825 = .ok (.aload_n 0, 1) := by decide +kernel
theorem dL_law_1826 : decode cL_law 1826 = .ok (.iload 4, 2) := by decide +kernel
theorem dL_law_1828 : decode cL_law 1828 = .ok (.iconst 2, 1) := by decide +kernel
theorem dL_law_1829 : decode cL_law 1829 = .ok (.iadd, 1) := by decide +kernel
theorem dL_law_1830 : decode cL_law 1830 = .ok (.iaload, 1) := by decide +kernel
theorem dL_law_1831 : decode cL_law 1831 = .ok (.aload_n 0, 1) := by decide +kernel
theorem dL_law_1832 : decode cL_law 1832 = .ok (.iload 4, 2) := by decide +kernel
theorem dL_law_1834 : decode cL_law 1834 = .ok (.iconst 3, 1) := by decide +kernel
theorem dL_law_1835 : decode cL_law 1835 = .ok (.iadd, 1) := by decide +kernel
theorem dL_law_1836 : decode cL_law 1836 = .ok (.iaload, 1) := by decide +kernel
theorem dL_law_1837 : decode cL_law 1837 = .ok (.aload_n 0, 1) := by decide +kernel
theorem dL_law_1838 : decode cL_law 1838 = .ok (.iload 4, 2) := by decide +kernel
theorem dL_law_1840 : decode cL_law 1840 = .ok (.iconst 4, 1) := by decide +kernel
theorem dL_law_1841 : decode cL_law 1841 = .ok (.iadd, 1) := by decide +kernel
theorem dL_law_1842 : decode cL_law 1842 = .ok (.iaload, 1) := by decide +kernel
theorem dL_law_1843 : decode cL_law 1843 = .ok (.aload_n 0, 1) := by decide +kernel
theorem dL_law_1844 : decode cL_law 1844 = .ok (.iload 4, 2) := by decide +kernel
theorem dL_law_1846 : decode cL_law 1846 = .ok (.iconst 5, 1) := by decide +kernel
theorem dL_law_1847 : decode cL_law 1847 = .ok (.iadd, 1) := by decide +kernel
theorem dL_law_1848 : decode cL_law 1848 = .ok (.iaload, 1) := by decide +kernel
theorem dL_law_1849 : decode cL_law 1849 = .ok (.ifCond .eq 7, 3) := by decide +kernel
theorem dL_law_1852 : decode cL_law 1852 = .ok (.iconst 1, 1) := by decide +kernel
theorem dL_law_1853 : decode cL_law 1853 = .ok (.goto 4, 3) := by decide +kernel
theorem dL_law_1856 : decode cL_law 1856 = .ok (.iconst 0, 1) := by decide +kernel
theorem dL_law_1857 : decode cL_law 1857 = .ok (.aload_n 0, 1) := by decide +kernel
theorem dL_law_1858 : decode cL_law 1858 = .ok (.iload 4, 2) := by decide +kernel
theorem dL_law_1860 : decode cL_law 1860 = .ok (.bipush 6, 2) := by decide +kernel
theorem dL_law_1862 : decode cL_law 1862 = .ok (.iadd, 1) := by decide +kernel
theorem dL_law_1863 : decode cL_law 1863 = .ok (.iaload, 1) := by decide +kernel
theorem dL_law_1864 : decode cL_law 1864 = .ok (.aload_n 0, 1) := by decide +kernel
theorem dL_law_1865 : decode cL_law 1865 = .ok (.iload 4, 2) := by decide +kernel
theorem dL_law_1867 : decode cL_law 1867 = .ok (.bipush 7, 2) := by decide +kernel
theorem dL_law_1869 : decode cL_law 1869 = .ok (.iadd, 1) := by decide +kernel
theorem dL_law_1870 : decode cL_law 1870 = .ok (.iaload, 1) := by decide +kernel
theorem dL_law_1871 : decode cL_law 1871 = .ok (.aload_n 3, 1) := by decide +kernel
theorem dL_law_1872 : decode cL_law 1872 = .ok (.invokestatic 205, 3) := by decide +kernel
theorem dL_law_1875 : decode cL_law 1875 = .ok (.istore 5, 2) := by decide +kernel
theorem dL_law_1877 : decode cL_law 1877 = .ok (.aload_n 2, 1) := by decide +kernel
theorem dL_law_1878 : decode cL_law 1878 = .ok (.aload_n 0, 1) := by decide +kernel
theorem dL_law_1879 : decode cL_law 1879 = .ok (.iload 4, 2) := by decide +kernel
theorem dL_law_1881 : decode cL_law 1881 = .ok (.iconst 1, 1) := by decide +kernel
theorem dL_law_1882 : decode cL_law 1882 = .ok (.iadd, 1) := by decide +kernel
theorem dL_law_1883 : decode cL_law 1883 = .ok (.iaload, 1) := by decide +kernel
theorem dL_law_1884 : decode cL_law 1884 = .ok (.aload_n 0, 1) := by decide +kernel
theorem dL_law_1885 : decode cL_law 1885 = .ok (.iload 4, 2) := by decide +kernel
theorem dL_law_1887 : decode cL_law 1887 = .ok (.iconst 2, 1) := by decide +kernel
theorem dL_law_1888 : decode cL_law 1888 = .ok (.iadd, 1) := by decide +kernel
theorem dL_law_1889 : decode cL_law 1889 = .ok (.iaload, 1) := by decide +kernel
theorem dL_law_1890 : decode cL_law 1890 = .ok (.aload_n 0, 1) := by decide +kernel
theorem dL_law_1891 : decode cL_law 1891 = .ok (.iload 4, 2) := by decide +kernel
theorem dL_law_1893 : decode cL_law 1893 = .ok (.iconst 3, 1) := by decide +kernel
theorem dL_law_1894 : decode cL_law 1894 = .ok (.iadd, 1) := by decide +kernel
theorem dL_law_1895 : decode cL_law 1895 = .ok (.iaload, 1) := by decide +kernel
theorem dL_law_1896 : decode cL_law 1896 = .ok (.aload_n 0, 1) := by decide +kernel
theorem dL_law_1897 : decode cL_law 1897 = .ok (.iload 4, 2) := by decide +kernel
theorem dL_law_1899 : decode cL_law 1899 = .ok (.iconst 4, 1) := by decide +kernel
theorem dL_law_1900 : decode cL_law 1900 = .ok (.iadd, 1) := by decide +kernel
theorem dL_law_1901 : decode cL_law 1901 = .ok (.iaload, 1) := by decide +kernel
theorem dL_law_1902 : decode cL_law 1902 = .ok (.aload_n 0, 1) := by decide +kernel
theorem dL_law_1903 : decode cL_law 1903 = .ok (.iload 4, 2) := by decide +kernel
theorem dL_law_1905 : decode cL_law 1905 = .ok (.iconst 5, 1) := by decide +kernel
theorem dL_law_1906 : decode cL_law 1906 = .ok (.iadd, 1) := by decide +kernel
theorem dL_law_1907 : decode cL_law 1907 = .ok (.iaload, 1) := by decide +kernel
theorem dL_law_1908 : decode cL_law 1908 = .ok (.ifCond .eq 7, 3) := by decide +kernel
theorem dL_law_1911 : decode cL_law 1911 = .ok (.iconst 1, 1) := by decide +kernel
theorem dL_law_1912 : decode cL_law 1912 = .ok (.goto 4, 3) := by decide +kernel
theorem dL_law_1915 : decode cL_law 1915 = .ok (.iconst 0, 1) := by decide +kernel
theorem dL_law_1916 : decode cL_law 1916 = .ok (.aload_n 0, 1) := by decide +kernel
theorem dL_law_1917 : decode cL_law 1917 = .ok (.iload 4, 2) := by decide +kernel
theorem dL_law_1919 : decode cL_law 1919 = .ok (.bipush 6, 2) := by decide +kernel
theorem dL_law_1921 : decode cL_law 1921 = .ok (.iadd, 1) := by decide +kernel
theorem dL_law_1922 : decode cL_law 1922 = .ok (.iaload, 1) := by decide +kernel
theorem dL_law_1923 : decode cL_law 1923 = .ok (.aload_n 0, 1) := by decide +kernel
theorem dL_law_1924 : decode cL_law 1924 = .ok (.iload 4, 2) := by decide +kernel
theorem dL_law_1926 : decode cL_law 1926 = .ok (.bipush 7, 2) := by decide +kernel
theorem dL_law_1928 : decode cL_law 1928 = .ok (.iadd, 1) := by decide +kernel
theorem dL_law_1929 : decode cL_law 1929 = .ok (.iaload, 1) := by decide +kernel
theorem dL_law_1930 : decode cL_law 1930 = .ok (.invokevirtual 208, 3) := by decide +kernel
theorem dL_law_1933 : decode cL_law 1933 = .ok (.istore 6, 2) := by decide +kernel
theorem dL_law_1935 : decode cL_law 1935 = .ok (.aload_n 2, 1) := by decide +kernel
theorem dL_law_1936 : decode cL_law 1936 = .ok (.invokevirtual 119, 3) := by decide +kernel
theorem dL_law_1939 : decode cL_law 1939 = .ok (.iload 5, 2) := by decide +kernel
theorem dL_law_1941 : decode cL_law 1941 = .ok (.if_icmp .eq 5, 3) := by decide +kernel
theorem dL_law_1946 : decode cL_law 1946 = .ok (.iload 5, 2) := by decide +kernel
theorem dL_law_1948 : decode cL_law 1948 = .ok (.ifCond .ne 15, 3) := by decide +kernel
theorem dL_law_1963 : decode cL_law 1963 = .ok (.goto 458, 3) := by decide +kernel
theorem dL_law_1966 : decode cL_law 1966 = .ok (.aload_n 1, 1) := by decide +kernel
theorem dL_law_1967 : decode cL_law 1967 = .ok (.aload_n 0, 1) := by decide +kernel
theorem dL_law_1968 : decode cL_law 1968 = .ok (.iload 4, 2) := by decide +kernel
theorem dL_law_1970 : decode cL_law 1970 = .ok (.iconst 1, 1) := by decide +kernel
theorem dL_law_1971 : decode cL_law 1971 = .ok (.iadd, 1) := by decide +kernel
theorem dL_law_1972 : decode cL_law 1972 = .ok (.iaload, 1) := by decide +kernel
theorem dL_law_1973 : decode cL_law 1973 = .ok (.aload_n 3, 1) := by decide +kernel
theorem dL_law_1974 : decode cL_law 1974 = .ok (.invokestatic 209, 3) := by decide +kernel
theorem dL_law_1977 : decode cL_law 1977 = .ok (.istore 5, 2) := by decide +kernel
theorem dL_law_1979 : decode cL_law 1979 = .ok (.aload_n 2, 1) := by decide +kernel
theorem dL_law_1980 : decode cL_law 1980 = .ok (.aload_n 0, 1) := by decide +kernel
theorem dL_law_1981 : decode cL_law 1981 = .ok (.iload 4, 2) := by decide +kernel
theorem dL_law_1983 : decode cL_law 1983 = .ok (.iconst 1, 1) := by decide +kernel
theorem dL_law_1984 : decode cL_law 1984 = .ok (.iadd, 1) := by decide +kernel
theorem dL_law_1985 : decode cL_law 1985 = .ok (.iaload, 1) := by decide +kernel
theorem dL_law_1986 : decode cL_law 1986 = .ok (.invokevirtual 211, 3) := by decide +kernel
theorem dL_law_1989 : decode cL_law 1989 = .ok (.istore 6, 2) := by decide +kernel
theorem dL_law_1991 : decode cL_law 1991 = .ok (.aload_n 2, 1) := by decide +kernel
theorem dL_law_1992 : decode cL_law 1992 = .ok (.invokevirtual 119, 3) := by decide +kernel
theorem dL_law_1995 : decode cL_law 1995 = .ok (.iload 5, 2) := by decide +kernel
theorem dL_law_1997 : decode cL_law 1997 = .ok (.if_icmp .eq 5, 3) := by decide +kernel
theorem dL_law_2002 : decode cL_law 2002 = .ok (.iload 5, 2) := by decide +kernel
theorem dL_law_2004 : decode cL_law 2004 = .ok (.ifCond .ne 15, 3) := by decide +kernel
theorem dL_law_2019 : decode cL_law 2019 = .ok (.goto 402, 3) := by decide +kernel
theorem dL_law_2022 : decode cL_law 2022 = .ok (.aload_n 1, 1) := by decide +kernel
theorem dL_law_2023 : decode cL_law 2023 = .ok (.aload_n 0, 1) := by decide +kernel
theorem dL_law_2024 : decode cL_law 2024 = .ok (.iload 4, 2) := by decide +kernel
theorem dL_law_2026 : decode cL_law 2026 = .ok (.iconst 1, 1) := by decide +kernel
theorem dL_law_2027 : decode cL_law 2027 = .ok (.iadd, 1) := by decide +kernel
theorem dL_law_2028 : decode cL_law 2028 = .ok (.iaload, 1) := by decide +kernel
theorem dL_law_2029 : decode cL_law 2029 = .ok (.aload_n 3, 1) := by decide +kernel
theorem dL_law_2030 : decode cL_law 2030 = .ok (.invokestatic 212, 3) := by decide +kernel
theorem dL_law_2033 : decode cL_law 2033 = .ok (.istore 5, 2) := by decide +kernel
theorem dL_law_2035 : decode cL_law 2035 = .ok (.aload_n 2, 1) := by decide +kernel
theorem dL_law_2036 : decode cL_law 2036 = .ok (.aload_n 0, 1) := by decide +kernel
theorem dL_law_2037 : decode cL_law 2037 = .ok (.iload 4, 2) := by decide +kernel
theorem dL_law_2039 : decode cL_law 2039 = .ok (.iconst 1, 1) := by decide +kernel
theorem dL_law_2040 : decode cL_law 2040 = .ok (.iadd, 1) := by decide +kernel
theorem dL_law_2041 : decode cL_law 2041 = .ok (.iaload, 1) := by decide +kernel
theorem dL_law_2042 : decode cL_law 2042 = .ok (.invokevirtual 214, 3) := by decide +kernel
theorem dL_law_2045 : decode cL_law 2045 = .ok (.istore 6, 2) := by decide +kernel
theorem dL_law_2047 : decode cL_law 2047 = .ok (.aload_n 2, 1) := by decide +kernel
theorem dL_law_2048 : decode cL_law 2048 = .ok (.invokevirtual 119, 3) := by decide +kernel
theorem dL_law_2051 : decode cL_law 2051 = .ok (.iload 5, 2) := by decide +kernel
theorem dL_law_2053 : decode cL_law 2053 = .ok (.if_icmp .eq 5, 3) := by decide +kernel
theorem dL_law_2058 : decode cL_law 2058 = .ok (.iload 5, 2) := by decide +kernel
theorem dL_law_2060 : decode cL_law 2060 = .ok (.ifCond .ne 15, 3) := by decide +kernel
theorem dL_law_2075 : decode cL_law 2075 = .ok (.goto 346, 3) := by decide +kernel
theorem dL_law_2078 : decode cL_law 2078 = .ok (.aload_n 1, 1) := by decide +kernel
theorem dL_law_2079 : decode cL_law 2079 = .ok (.aload_n 0, 1) := by decide +kernel
theorem dL_law_2080 : decode cL_law 2080 = .ok (.iload 4, 2) := by decide +kernel
theorem dL_law_2082 : decode cL_law 2082 = .ok (.iconst 1, 1) := by decide +kernel
theorem dL_law_2083 : decode cL_law 2083 = .ok (.iadd, 1) := by decide +kernel
theorem dL_law_2084 : decode cL_law 2084 = .ok (.iaload, 1) := by decide +kernel
theorem dL_law_2085 : decode cL_law 2085 = .ok (.aload_n 3, 1) := by decide +kernel
theorem dL_law_2086 : decode cL_law 2086 = .ok (.invokestatic 215, 3) := by decide +kernel
theorem dL_law_2089 : decode cL_law 2089 = .ok (.istore 5, 2) := by decide +kernel
theorem dL_law_2091 : decode cL_law 2091 = .ok (.aload_n 2, 1) := by decide +kernel
theorem dL_law_2092 : decode cL_law 2092 = .ok (.aload_n 0, 1) := by decide +kernel
theorem dL_law_2093 : decode cL_law 2093 = .ok (.iload 4, 2) := by decide +kernel
theorem dL_law_2095 : decode cL_law 2095 = .ok (.iconst 1, 1) := by decide +kernel
theorem dL_law_2096 : decode cL_law 2096 = .ok (.iadd, 1) := by decide +kernel
theorem dL_law_2097 : decode cL_law 2097 = .ok (.iaload, 1) := by decide +kernel
theorem dL_law_2098 : decode cL_law 2098 = .ok (.invokevirtual 217, 3) := by decide +kernel
theorem dL_law_2101 : decode cL_law 2101 = .ok (.istore 6, 2) := by decide +kernel
theorem dL_law_2103 : decode cL_law 2103 = .ok (.aload_n 2, 1) := by decide +kernel
theorem dL_law_2104 : decode cL_law 2104 = .ok (.invokevirtual 119, 3) := by decide +kernel
theorem dL_law_2107 : decode cL_law 2107 = .ok (.iload 5, 2) := by decide +kernel
theorem dL_law_2109 : decode cL_law 2109 = .ok (.if_icmp .eq 5, 3) := by decide +kernel
theorem dL_law_2114 : decode cL_law 2114 = .ok (.iload 5, 2) := by decide +kernel
theorem dL_law_2116 : decode cL_law 2116 = .ok (.ifCond .ne 15, 3) := by decide +kernel
theorem dL_law_2131 : decode cL_law 2131 = .ok (.goto 290, 3) := by decide +kernel
theorem dL_law_2134 : decode cL_law 2134 = .ok (.aload_n 1, 1) := by decide +kernel
theorem dL_law_2135 : decode cL_law 2135 = .ok (.invokevirtual 218, 3) := by decide +kernel
theorem dL_law_2138 : decode cL_law 2138 = .ok (.aload_n 2, 1) := by decide +kernel
theorem dL_law_2139 : decode cL_law 2139 = .ok (.invokevirtual 221, 3) := by decide +kernel
theorem dL_law_2142 : decode cL_law 2142 = .ok (.if_icmp .eq 279, 3) := by decide +kernel
theorem dL_law_2147 : decode cL_law 2147 = .ok (.aload_n 1, 1) := by decide +kernel
theorem dL_law_2148 : decode cL_law 2148 = .ok (.aload_n 0, 1) := by decide +kernel
theorem dL_law_2149 : decode cL_law 2149 = .ok (.iload 4, 2) := by decide +kernel
theorem dL_law_2151 : decode cL_law 2151 = .ok (.iconst 1, 1) := by decide +kernel
theorem dL_law_2152 : decode cL_law 2152 = .ok (.iadd, 1) := by decide +kernel
theorem dL_law_2153 : decode cL_law 2153 = .ok (.iaload, 1) := by decide +kernel
theorem dL_law_2154 : decode cL_law 2154 = .ok (.aload_n 0, 1) := by decide +kernel
theorem dL_law_2155 : decode cL_law 2155 = .ok (.iload 4, 2) := by decide +kernel
theorem dL_law_2157 : decode cL_law 2157 = .ok (.iconst 2, 1) := by decide +kernel
theorem dL_law_2158 : decode cL_law 2158 = .ok (.iadd, 1) := by decide +kernel
theorem dL_law_2159 : decode cL_law 2159 = .ok (.iaload, 1) := by decide +kernel
theorem dL_law_2160 : decode cL_law 2160 = .ok (.aload_n 3, 1) := by decide +kernel
theorem dL_law_2161 : decode cL_law 2161 = .ok (.invokestatic 222, 3) := by decide +kernel
theorem dL_law_2164 : decode cL_law 2164 = .ok (.istore 5, 2) := by decide +kernel
theorem dL_law_2166 : decode cL_law 2166 = .ok (.aload_n 2, 1) := by decide +kernel
theorem dL_law_2167 : decode cL_law 2167 = .ok (.aload_n 0, 1) := by decide +kernel
theorem dL_law_2168 : decode cL_law 2168 = .ok (.iload 4, 2) := by decide +kernel
theorem dL_law_2170 : decode cL_law 2170 = .ok (.iconst 1, 1) := by decide +kernel
theorem dL_law_2171 : decode cL_law 2171 = .ok (.iadd, 1) := by decide +kernel
theorem dL_law_2172 : decode cL_law 2172 = .ok (.iaload, 1) := by decide +kernel
theorem dL_law_2173 : decode cL_law 2173 = .ok (.aload_n 0, 1) := by decide +kernel
theorem dL_law_2174 : decode cL_law 2174 = .ok (.iload 4, 2) := by decide +kernel
theorem dL_law_2176 : decode cL_law 2176 = .ok (.iconst 2, 1) := by decide +kernel
theorem dL_law_2177 : decode cL_law 2177 = .ok (.iadd, 1) := by decide +kernel
theorem dL_law_2178 : decode cL_law 2178 = .ok (.iaload, 1) := by decide +kernel
theorem dL_law_2179 : decode cL_law 2179 = .ok (.invokevirtual 224, 3) := by decide +kernel
theorem dL_law_2182 : decode cL_law 2182 = .ok (.istore 6, 2) := by decide +kernel
theorem dL_law_2184 : decode cL_law 2184 = .ok (.aload_n 2, 1) := by decide +kernel
theorem dL_law_2185 : decode cL_law 2185 = .ok (.invokevirtual 119, 3) := by decide +kernel
theorem dL_law_2188 : decode cL_law 2188 = .ok (.iload 5, 2) := by decide +kernel
theorem dL_law_2190 : decode cL_law 2190 = .ok (.if_icmp .eq 5, 3) := by decide +kernel
theorem dL_law_2195 : decode cL_law 2195 = .ok (.iload 5, 2) := by decide +kernel
theorem dL_law_2197 : decode cL_law 2197 = .ok (.ifCond .ne 15, 3) := by decide +kernel
theorem dL_law_2212 : decode cL_law 2212 = .ok (.goto 209, 3) := by decide +kernel
theorem dL_law_2215 : decode cL_law 2215 = .ok (.aload_n 1, 1) := by decide +kernel
theorem dL_law_2216 : decode cL_law 2216 = .ok (.aload_n 0, 1) := by decide +kernel
theorem dL_law_2217 : decode cL_law 2217 = .ok (.iload 4, 2) := by decide +kernel
theorem dL_law_2219 : decode cL_law 2219 = .ok (.iconst 1, 1) := by decide +kernel
theorem dL_law_2220 : decode cL_law 2220 = .ok (.iadd, 1) := by decide +kernel
theorem dL_law_2221 : decode cL_law 2221 = .ok (.iaload, 1) := by decide +kernel
theorem dL_law_2222 : decode cL_law 2222 = .ok (.aload_n 0, 1) := by decide +kernel
theorem dL_law_2223 : decode cL_law 2223 = .ok (.iload 4, 2) := by decide +kernel
theorem dL_law_2225 : decode cL_law 2225 = .ok (.iconst 2, 1) := by decide +kernel
theorem dL_law_2226 : decode cL_law 2226 = .ok (.iadd, 1) := by decide +kernel
theorem dL_law_2227 : decode cL_law 2227 = .ok (.iaload, 1) := by decide +kernel
theorem dL_law_2228 : decode cL_law 2228 = .ok (.aload_n 0, 1) := by decide +kernel
theorem dL_law_2229 : decode cL_law 2229 = .ok (.iload 4, 2) := by decide +kernel
theorem dL_law_2231 : decode cL_law 2231 = .ok (.iconst 3, 1) := by decide +kernel
theorem dL_law_2232 : decode cL_law 2232 = .ok (.iadd, 1) := by decide +kernel
theorem dL_law_2233 : decode cL_law 2233 = .ok (.iaload, 1) := by decide +kernel
theorem dL_law_2234 : decode cL_law 2234 = .ok (.aload_n 3, 1) := by decide +kernel
theorem dL_law_2235 : decode cL_law 2235 = .ok (.invokestatic 225, 3) := by decide +kernel
theorem dL_law_2238 : decode cL_law 2238 = .ok (.istore 5, 2) := by decide +kernel
theorem dL_law_2240 : decode cL_law 2240 = .ok (.aload_n 2, 1) := by decide +kernel
theorem dL_law_2241 : decode cL_law 2241 = .ok (.aload_n 0, 1) := by decide +kernel
theorem dL_law_2242 : decode cL_law 2242 = .ok (.iload 4, 2) := by decide +kernel
theorem dL_law_2244 : decode cL_law 2244 = .ok (.iconst 1, 1) := by decide +kernel
theorem dL_law_2245 : decode cL_law 2245 = .ok (.iadd, 1) := by decide +kernel
theorem dL_law_2246 : decode cL_law 2246 = .ok (.iaload, 1) := by decide +kernel
theorem dL_law_2247 : decode cL_law 2247 = .ok (.aload_n 0, 1) := by decide +kernel
theorem dL_law_2248 : decode cL_law 2248 = .ok (.iload 4, 2) := by decide +kernel
theorem dL_law_2250 : decode cL_law 2250 = .ok (.iconst 2, 1) := by decide +kernel
theorem dL_law_2251 : decode cL_law 2251 = .ok (.iadd, 1) := by decide +kernel
theorem dL_law_2252 : decode cL_law 2252 = .ok (.iaload, 1) := by decide +kernel
theorem dL_law_2253 : decode cL_law 2253 = .ok (.aload_n 0, 1) := by decide +kernel
theorem dL_law_2254 : decode cL_law 2254 = .ok (.iload 4, 2) := by decide +kernel
theorem dL_law_2256 : decode cL_law 2256 = .ok (.iconst 3, 1) := by decide +kernel
theorem dL_law_2257 : decode cL_law 2257 = .ok (.iadd, 1) := by decide +kernel
theorem dL_law_2258 : decode cL_law 2258 = .ok (.iaload, 1) := by decide +kernel
theorem dL_law_2259 : decode cL_law 2259 = .ok (.invokevirtual 227, 3) := by decide +kernel
theorem dL_law_2262 : decode cL_law 2262 = .ok (.istore 6, 2) := by decide +kernel
theorem dL_law_2264 : decode cL_law 2264 = .ok (.aload_n 2, 1) := by decide +kernel
theorem dL_law_2265 : decode cL_law 2265 = .ok (.invokevirtual 119, 3) := by decide +kernel
theorem dL_law_2268 : decode cL_law 2268 = .ok (.iload 5, 2) := by decide +kernel
theorem dL_law_2270 : decode cL_law 2270 = .ok (.if_icmp .eq 5, 3) := by decide +kernel
theorem dL_law_2275 : decode cL_law 2275 = .ok (.iload 5, 2) := by decide +kernel
theorem dL_law_2277 : decode cL_law 2277 = .ok (.ifCond .ne 15, 3) := by decide +kernel
theorem dL_law_2292 : decode cL_law 2292 = .ok (.goto 129, 3) := by decide +kernel
theorem dL_law_2295 : decode cL_law 2295 = .ok (.aload_n 1, 1) := by decide +kernel
theorem dL_law_2296 : decode cL_law 2296 = .ok (.aload_n 0, 1) := by decide +kernel
theorem dL_law_2297 : decode cL_law 2297 = .ok (.iload 4, 2) := by decide +kernel
theorem dL_law_2299 : decode cL_law 2299 = .ok (.iconst 1, 1) := by decide +kernel
theorem dL_law_2300 : decode cL_law 2300 = .ok (.iadd, 1) := by decide +kernel
theorem dL_law_2301 : decode cL_law 2301 = .ok (.iaload, 1) := by decide +kernel
theorem dL_law_2302 : decode cL_law 2302 = .ok (.aload_n 3, 1) := by decide +kernel
theorem dL_law_2303 : decode cL_law 2303 = .ok (.invokestatic 228, 3) := by decide +kernel
theorem dL_law_2306 : decode cL_law 2306 = .ok (.istore 5, 2) := by decide +kernel
theorem dL_law_2308 : decode cL_law 2308 = .ok (.aload_n 2, 1) := by decide +kernel
theorem dL_law_2309 : decode cL_law 2309 = .ok (.aload_n 0, 1) := by decide +kernel
theorem dL_law_2310 : decode cL_law 2310 = .ok (.iload 4, 2) := by decide +kernel
theorem dL_law_2312 : decode cL_law 2312 = .ok (.iconst 1, 1) := by decide +kernel
theorem dL_law_2313 : decode cL_law 2313 = .ok (.iadd, 1) := by decide +kernel
theorem dL_law_2314 : decode cL_law 2314 = .ok (.iaload, 1) := by decide +kernel
theorem dL_law_2315 : decode cL_law 2315 = .ok (.invokevirtual 230, 3) := by decide +kernel
theorem dL_law_2318 : decode cL_law 2318 = .ok (.istore 6, 2) := by decide +kernel
theorem dL_law_2320 : decode cL_law 2320 = .ok (.aload_n 2, 1) := by decide +kernel
theorem dL_law_2321 : decode cL_law 2321 = .ok (.invokevirtual 119, 3) := by decide +kernel
theorem dL_law_2324 : decode cL_law 2324 = .ok (.iload 5, 2) := by decide +kernel
theorem dL_law_2326 : decode cL_law 2326 = .ok (.if_icmp .eq 5, 3) := by decide +kernel
theorem dL_law_2331 : decode cL_law 2331 = .ok (.iload 5, 2) := by decide +kernel
theorem dL_law_2333 : decode cL_law 2333 = .ok (.ifCond .ne 15, 3) := by decide +kernel
theorem dL_law_2336 : decode cL_law 2336 = .ok (.aload_n 3, 1) := by decide +kernel
theorem dL_law_2337 : decode cL_law 2337 = .ok (.iconst 0, 1) := by decide +kernel
theorem dL_law_2338 : decode cL_law 2338 = .ok (.laload, 1) := by decide +kernel
theorem dL_law_2339 : decode cL_law 2339 = .ok (.iload 6, 2) := by decide +kernel
theorem dL_law_2341 : decode cL_law 2341 = .ok (.i2l, 1) := by decide +kernel
theorem dL_law_2342 : decode cL_law 2342 = .ok (.lcmp, 1) := by decide +kernel
theorem dL_law_2343 : decode cL_law 2343 = .ok (.ifCond .eq 5, 3) := by decide +kernel
theorem dL_law_2348 : decode cL_law 2348 = .ok (.goto 73, 3) := by decide +kernel
theorem dL_law_2351 : decode cL_law 2351 = .ok (.aload_n 1, 1) := by decide +kernel
theorem dL_law_2352 : decode cL_law 2352 = .ok (.aload_n 0, 1) := by decide +kernel
theorem dL_law_2353 : decode cL_law 2353 = .ok (.iload 4, 2) := by decide +kernel
theorem dL_law_2355 : decode cL_law 2355 = .ok (.iconst 1, 1) := by decide +kernel
theorem dL_law_2356 : decode cL_law 2356 = .ok (.iadd, 1) := by decide +kernel
theorem dL_law_2357 : decode cL_law 2357 = .ok (.iaload, 1) := by decide +kernel
theorem dL_law_2358 : decode cL_law 2358 = .ok (.aload_n 3, 1) := by decide +kernel
theorem dL_law_2359 : decode cL_law 2359 = .ok (.invokestatic 231, 3) := by decide +kernel
theorem dL_law_2362 : decode cL_law 2362 = .ok (.istore 5, 2) := by decide +kernel
theorem dL_law_2364 : decode cL_law 2364 = .ok (.aload_n 2, 1) := by decide +kernel
theorem dL_law_2365 : decode cL_law 2365 = .ok (.aload_n 0, 1) := by decide +kernel
theorem dL_law_2366 : decode cL_law 2366 = .ok (.iload 4, 2) := by decide +kernel
theorem dL_law_2368 : decode cL_law 2368 = .ok (.iconst 1, 1) := by decide +kernel
theorem dL_law_2369 : decode cL_law 2369 = .ok (.iadd, 1) := by decide +kernel
theorem dL_law_2370 : decode cL_law 2370 = .ok (.iaload, 1) := by decide +kernel
theorem dL_law_2371 : decode cL_law 2371 = .ok (.invokevirtual 233, 3) := by decide +kernel
theorem dL_law_2374 : decode cL_law 2374 = .ok (.istore 6, 2) := by decide +kernel
theorem dL_law_2376 : decode cL_law 2376 = .ok (.aload_n 2, 1) := by decide +kernel
theorem dL_law_2377 : decode cL_law 2377 = .ok (.invokevirtual 119, 3) := by decide +kernel
theorem dL_law_2380 : decode cL_law 2380 = .ok (.iload 5, 2) := by decide +kernel
theorem dL_law_2382 : decode cL_law 2382 = .ok (.if_icmp .eq 5, 3) := by decide +kernel
theorem dL_law_2387 : decode cL_law 2387 = .ok (.iload 5, 2) := by decide +kernel
theorem dL_law_2389 : decode cL_law 2389 = .ok (.ifCond .ne 15, 3) := by decide +kernel
theorem dL_law_2392 : decode cL_law 2392 = .ok (.aload_n 3, 1) := by decide +kernel
theorem dL_law_2393 : decode cL_law 2393 = .ok (.iconst 0, 1) := by decide +kernel
theorem dL_law_2394 : decode cL_law 2394 = .ok (.laload, 1) := by decide +kernel
theorem dL_law_2395 : decode cL_law 2395 = .ok (.iload 6, 2) := by decide +kernel
theorem dL_law_2397 : decode cL_law 2397 = .ok (.i2l, 1) := by decide +kernel
theorem dL_law_2398 : decode cL_law 2398 = .ok (.lcmp, 1) := by decide +kernel
theorem dL_law_2399 : decode cL_law 2399 = .ok (.ifCond .eq 5, 3) := by decide +kernel
theorem dL_law_2404 : decode cL_law 2404 = .ok (.goto 17, 3) := by decide +kernel
theorem dL_law_2407 : decode cL_law 2407 = .ok (.aload_n 1, 1) := by decide +kernel
theorem dL_law_2408 : decode cL_law 2408 = .ok (.invokevirtual 234, 3) := by decide +kernel
theorem dL_law_2411 : decode cL_law 2411 = .ok (.aload_n 2, 1) := by decide +kernel
theorem dL_law_2412 : decode cL_law 2412 = .ok (.invokevirtual 238, 3) := by decide +kernel
theorem dL_law_2415 : decode cL_law 2415 = .ok (.lcmp, 1) := by decide +kernel
theorem dL_law_2416 : decode cL_law 2416 = .ok (.ifCond .eq 5, 3) := by decide +kernel
theorem dL_law_2421 : decode cL_law 2421 = .ok (.iinc 4 8, 3) := by decide +kernel
theorem dL_law_2424 : decode cL_law 2424 = .ok (.goto (-2401), 3) := by decide +kernel
theorem dL_law_2427 : decode cL_law 2427 = .ok (.iconst 1, 1) := by decide +kernel
theorem dL_law_2428 : decode cL_law 2428 = .ok (.ireturn, 1) := by decide +kernel
abbrev vwCl : List vw_C := [(RJ0, TJ0, 4), (RJ4, TJ4, 4), (RJx4a65c, TJx4a65c, 3), (RX0, TX0, 2), (RX1, TX1, 3), (RX3, TX3, 6), (RX4, TX4, 7), (RX5, TX5, 9), (RX6, TX6, 5), (RX7, TX7, 5), (RX8, TX8, 5), (RX9, TX9, 9), (RX10, TX10, 1), (RX11, TX11, 7), (RX12, TX12, 9), (RX13, TX13, 5), (RX14, TX14, 9), (RX15, TX15, 7)]
