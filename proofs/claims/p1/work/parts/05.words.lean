/-! the one list of words -/
def wsGe : List Cond := [.code yX9_isIn cX9_isIn 4 (some .boolean),
  .code yX9_needArgument cX9_needArgument 1 none,
  .code yX9_needState cX9_needState 1 none,
  .classLink RX9 280 "java/lang/IllegalArgumentException",
  .initialized "java/lang/IllegalArgumentException",
  .classLink RX9 287 "java/lang/IndexOutOfBoundsException",
  .initialized "java/lang/IndexOutOfBoundsException",
  .code yX9_needIndex cX9_needIndex 1 none,
  .fieldLink RJx4a65c 48 "java/util/ArrayList" "size" "I",
  .code yJx4a65c_size_8abf5 cJx4a65c_size_8abf5 1 (some .int),
  .fieldLink RX9 21 "MeridianSeries" "store" "LMeridianSeries$Store;",
  .fieldLink RX9 59 "MeridianSeries$Store" "chains" "Ljava/util/ArrayList;",
  .methodLink RX9 63 yJx4a65c_size_8abf5,
  .instanceMethod yJx4a65c_size_8abf5,
  .selects RJx4a65c yJx4a65c_size_8abf5 yJx4a65c_size_8abf5,
  .initialized RJx4a65c,
  .code yX9_chainAt cX9_chainAt 2 (some (.object "MeridianSeries$Series")),
  .fieldLink RX9 216 "MeridianSeries$Store" "rules" "Ljava/util/ArrayList;",
  .code yX9_ruleAt cX9_ruleAt 2 (some (.object "MeridianSeries$Rule")),
  .methodLink RX9 101 yX9_chainAt,
  .instanceMethod yX9_chainAt,
  .selects RX9 yX9_chainAt yX9_chainAt,
  .initialized RX9,
  .code yX9_put cX9_put 5 (some .int),
  .code yX9_putRow cX9_putRow 14 (some .int),
  .code yX9_blocks cX9_blocks 2 (some .int),
  .code yX9_size cX9_size 4 (some .int),
  .code yX9_point cX9_point 6 (some .int),
  .code yX9_bits cX9_bits 4 (some .int),
  .code yX9_word cX9_word 5 (some .int),
  .code yX9_buckets cX9_buckets 3 (some .int),
  .code yX9_ofBucket cX9_ofBucket 6 (some .int),
  .code yX9_items cX9_items 2 (some .int),
  .code yX9_ask cX9_ask 4 (some .int),
  .code yX9_gaps cX9_gaps 7 (some .int),
  .code yX9_lastAt cX9_lastAt 5 (some .int),
  .code yX9_addRule cX9_addRule 11 (some .int),
  .code yX9_bitsWith cX9_bitsWith 5 (some .int),
  .methodLink RX9 224 yX9_ruleAt,
  .instanceMethod yX9_ruleAt,
  .selects RX9 yX9_ruleAt yX9_ruleAt,
  .code yX9_stateOf cX9_stateOf 2 (some .int),
  .code yX9_inRow cX9_inRow 2 (some .int),
  .code yX9_seenBy cX9_seenBy 2 (some .int),
  .methodLink RX9 51 yX9_isIn,
  .static yX9_isIn,
  .methodLink RX9 150 yX9_needIndex,
  .static yX9_needIndex,
  .fieldLink RX9 129 "MeridianSeries$Store" "log" "LMeridianSeries$EventLog;",
  .fieldLink RX9 133 "MeridianSeries$EventLog" "total" "I",
  .code yX9_event cX9_event 3 (some .int),
  .methodLink RX9 55 yX9_needArgument,
  .static yX9_needArgument,
  .code yX9_setSpan cX9_setSpan 3 (some .int),
  .fieldLink RX9 10 "MeridianSeries" "settings" "LMeridianSeries$Settings;",
  .fieldLink RX9 81 "MeridianSeries$Settings" "span" "I",
  .code yX9_setKeep cX9_setKeep 4 (some .int),
  .fieldLink RX9 94 "MeridianSeries$Settings" "keep" "I",
  .fieldLink RX9 97 "MeridianSeries$Settings" "longKeep" "I",
  .constant RX9 100 (99999),
  .code yX9_setQuery cX9_setQuery 6 (some .int),
  .fieldLink RX9 39 "MeridianSeries" "queryStep" "I",
  .fieldLink RX9 35 "MeridianSeries" "queryFrom" "I",
  .fieldLink RX9 42 "MeridianSeries" "queryWhat" "I",
  .fieldLink RX9 45 "MeridianSeries" "queryFill" "I",
  .fieldLink RX8 10 "MeridianSeries$Store" "chains" "Ljava/util/ArrayList;",
  .methodLink RX8 34 yJx4a65c_size_8abf5,
  .code yX8_hasBucket cX8_hasBucket 2 (some .boolean),
  .code yX9_setWidths cX9_setWidths 4 (some .int),
  .methodLink RX9 84 yX8_hasBucket,
  .instanceMethod yX8_hasBucket,
  .selects RX8 yX8_hasBucket yX8_hasBucket,
  .initialized RX8,
  .methodLink RX9 69 yX9_needState,
  .static yX9_needState,
  .fieldLink RX9 88 "MeridianSeries$Settings" "width" "I",
  .fieldLink RX9 91 "MeridianSeries$Settings" "fold" "I",
  .fieldLink RX9 141 "MeridianSeries$Store" "now" "I",
  .code yX9_now cX9_now 1 (some .int),
  .code yX9_series cX9_series 1 (some .int),
  .fieldLink RX9 48 "MeridianSeries" "lateCount" "I",
  .code yX9_late cX9_late 1 (some .int),
  .code yX9_events cX9_events 1 (some .int),
  .code yX15_isIn cX15_isIn 3 (some .boolean),
  .fieldLink RX15 72 "MeridianSeriesModel" "thrown" "I",
  .code yX15_refuse cX15_refuse 3 (some .boolean),
  .methodLink RX15 75 yX15_refuse,
  .instanceMethod yX15_refuse,
  .selects RX15 yX15_refuse yX15_refuse,
  .initialized RX15,
  .code yX15_start cX15_start 3 (some .boolean),
  .code yX15_plain cX15_plain 2 (some .int),
  .code yX15_thrown cX15_thrown 1 (some .int),
  .fieldLink RX15 68 "MeridianSeriesModel" "store" "LMeridianSeriesModel$Store;",
  .fieldLink RX15 86 "MeridianSeriesModel$Store" "series" "Ljava/util/ArrayList;",
  .methodLink RX15 7 yJx4a65c_size_8abf5,
  .methodLink RX15 79 yX15_isIn,
  .static yX15_isIn,
  .methodLink RX15 83 yX15_start,
  .instanceMethod yX15_start,
  .selects RX15 yX15_start yX15_start,
  .code yX15_isNoSeries cX15_isNoSeries 2 (some .boolean),
  .fieldLink RX15 244 "MeridianSeriesModel$Store" "rules" "Ljava/util/ArrayList;",
  .code yX15_isNoRule cX15_isNoRule 2 (some .boolean),
  .methodLink RX15 152 yX15_isNoSeries,
  .instanceMethod yX15_isNoSeries,
  .selects RX15 yX15_isNoSeries yX15_isNoSeries,
  .code yX15_isNoBlock cX15_isNoBlock 3 (some .boolean),
  .code yX15_put cX15_put 4 (some .int),
  .code yX15_putRow cX15_putRow 9 (some .int),
  .code yX15_blocks cX15_blocks 2 (some .int),
  .methodLink RX15 177 yX15_isNoBlock,
  .instanceMethod yX15_isNoBlock,
  .selects RX15 yX15_isNoBlock yX15_isNoBlock,
  .code yX15_size cX15_size 3 (some .int),
  .code yX15_point cX15_point 5 (some .int),
  .code yX15_bits cX15_bits 3 (some .int),
  .code yX15_word cX15_word 7 (some .int),
  .code yX15_buckets_ cX15_buckets_ 3 (some .int),
  .code yX15_ofBucket cX15_ofBucket 5 (some .int),
  .code yX15_items cX15_items 2 (some .int),
  .code yX15_ask cX15_ask 3 (some .int),
  .code yX15_gaps cX15_gaps 5 (some .int),
  .code yX15_lastAt cX15_lastAt 4 (some .int),
  .code yX15_addRule cX15_addRule 8 (some .int),
  .code yX15_bitsWith cX15_bitsWith 5 (some .int),
  .methodLink RX15 252 yX15_isNoRule,
  .instanceMethod yX15_isNoRule,
  .selects RX15 yX15_isNoRule yX15_isNoRule,
  .code yX15_stateOf cX15_stateOf 2 (some .int),
  .code yX15_inRow cX15_inRow 2 (some .int),
  .code yX15_seenBy cX15_seenBy 2 (some .int),
  .fieldLink RX15 167 "MeridianSeriesModel$Store" "events" "Ljava/util/ArrayList;",
  .methodLink RX15 227 Lib.Math.min.name,
  .static Lib.Math.min.name,
  .initialized "java/lang/Math",
  .code Lib.Math.min.name Lib.Math.min.code 2 (some .int),
  .code yX15_event cX15_event 3 (some .int),
  .fieldLink RX15 125 "MeridianSeriesModel$Store" "now" "I",
  .methodLink RX15 173 yX15_plain,
  .instanceMethod yX15_plain,
  .selects RX15 yX15_plain yX15_plain,
  .code yX15_now cX15_now 1 (some .int),
  .code yX15_series_ cX15_series_ 1 (some .int),
  .fieldLink RX15 135 "MeridianSeriesModel" "late" "I",
  .code yX15_late cX15_late 1 (some .int),
  .code yX15_events cX15_events 1 (some .int),
  .code yX15_setSpan cX15_setSpan 3 (some .int),
  .fieldLink RX15 94 "MeridianSeriesModel$Store" "span" "I",
  .code yX15_setKeep cX15_setKeep 4 (some .int),
  .fieldLink RX15 112 "MeridianSeriesModel$Store" "keep" "I",
  .fieldLink RX15 115 "MeridianSeriesModel$Store" "longKeep" "I",
  .constant RX15 118 (99999),
  .code yX15_setQuery cX15_setQuery 6 (some .int),
  .fieldLink RX15 57 "MeridianSeriesModel" "step" "I",
  .fieldLink RX15 119 "MeridianSeriesModel" "from" "I",
  .fieldLink RX15 62 "MeridianSeriesModel" "what" "I",
  .fieldLink RX15 122 "MeridianSeriesModel" "fill" "I",
  .code yX15_hasBuckets cX15_hasBuckets 2 (some .boolean),
  .code yX15_setWidths cX15_setWidths 4 (some .int),
  .methodLink RX15 103 yX15_hasBuckets,
  .instanceMethod yX15_hasBuckets,
  .selects RX15 yX15_hasBuckets yX15_hasBuckets,
  .fieldLink RX15 106 "MeridianSeriesModel$Store" "width" "I",
  .fieldLink RX15 109 "MeridianSeriesModel$Store" "fold" "I",
  .fieldLink RX14 60 "MeridianSeriesModel$Store" "now" "I",
  .fieldLink RX14 10 "MeridianSeriesModel$Store" "series" "Ljava/util/ArrayList;",
  .methodLink RX14 33 yJx4a65c_size_8abf5,
  .fieldLink RX14 16 "MeridianSeriesModel$Store" "rules" "Ljava/util/ArrayList;",
  .code yX14_tick cX14_tick 4 none,
  .code yX15_goOn cX15_goOn 4 (some .int),
  .methodLink RX15 170 yX14_tick,
  .instanceMethod yX14_tick,
  .selects RX14 yX14_tick yX14_tick,
  .initialized RX14,
  .constantLong RX15 277 (31),
  .code yX15_add cX15_add 4 (some .long),
  .constantLong RX15 282 (58058),
  .methodLink RX15 279 yX15_add,
  .static yX15_add,
  .code yX15_digest cX15_digest 7 (some .long),
  .code yX15_over cX15_over 11 (some .int),
  .constant RX15 220 (2147483647),
  .constant RX15 221 (-2147483648),
  .constant RX15 226 (-1000000),
  .code yX9_canGoOn cX9_canGoOn 2 (some .boolean),
  .fieldLink RX8 26 "MeridianSeries$Store" "now" "I",
  .fieldLink RX8 16 "MeridianSeries$Store" "rules" "Ljava/util/ArrayList;",
  .code yX8_goOnByOne cX8_goOnByOne 3 none,
  .methodLink RX9 125 yX9_canGoOn,
  .instanceMethod yX9_canGoOn,
  .selects RX9 yX9_canGoOn yX9_canGoOn,
  .code yX9_goOn cX9_goOn 4 (some .int),
  .methodLink RX9 138 yX8_goOnByOne,
  .instanceMethod yX8_goOnByOne,
  .selects RX8 yX8_goOnByOne yX8_goOnByOne,
  .code yX8_copyFrom cX8_copyFrom 3 none,
  .code yX9_firesIn cX9_firesIn 4 (some .int),
  .fieldLink RX9 25 "MeridianSeries" "trial" "LMeridianSeries$Store;",
  .methodLink RX9 245 yX8_copyFrom,
  .instanceMethod yX8_copyFrom,
  .selects RX8 yX8_copyFrom yX8_copyFrom,
  .fieldLink RX9 249 "MeridianSeries$EventLog" "firings" "I",
  .code yX9_wouldRoll cX9_wouldRoll 4 (some .int),
  .code yX9_over cX9_over 10 (some .int),
  .constant RX9 200 (-1000000),
  .constantLong RX9 255 (58058),
  .constantLong RX9 257 (31),
  .code yX9_digest cX9_digest 5 (some .long),
  .methodLink RX7 1 objectInit,
  .instanceMethod objectInit,
  .code objectInit ⟨#[0xb1]⟩ 1 none,
  .fieldLink RX7 7 "MeridianSeries$Settings" "span" "I",
  .fieldLink RX7 13 "MeridianSeries$Settings" "width" "I",
  .fieldLink RX7 16 "MeridianSeries$Settings" "fold" "I",
  .fieldLink RX7 19 "MeridianSeries$Settings" "keep" "I",
  .fieldLink RX7 22 "MeridianSeries$Settings" "longKeep" "I",
  .code yX7_init cX7_init 1 none,
  .methodLink RX2 1 objectInit,
  .fieldLink RX2 7 "MeridianSeries$Items" "amount" "I",
  .code yX2_init cX2_init 1 none,
  .initialized RX2,
  .instanceMethod yX2_init,
  .arrayClass .int,
  .fieldLink RX0 11 "MeridianSeries$Buckets" "cells" "[I",
  .code yX0_init cX0_init 1 none,
  .fieldLink RX4 11 "MeridianSeries$Points" "times" "[I",
  .fieldLink RX4 15 "MeridianSeries$Points" "values" "[I",
  .fieldLink RX4 18 "MeridianSeries$Points" "sizes" "[I",
  .fieldLink RX4 21 "MeridianSeries$Points" "sealedBlocks" "I",
  .fieldLink RX4 25 "MeridianSeries$Points" "sealedPoints" "I",
  .fieldLink RX4 28 "MeridianSeries$Points" "greatestSealedTime" "I",
  .code yX4_init cX4_init 1 none,
  .methodLink RX1 3 objectInit,
  .fieldLink RX1 9 "MeridianSeries$EventLog" "cells" "[I",
  .fieldLink RX1 15 "MeridianSeries$EventLog" "total" "I",
  .fieldLink RX1 19 "MeridianSeries$EventLog" "firings" "I",
  .code yX1_init cX1_init 1 none,
  .methodLink RX3 3 objectInit,
  .fieldLink RX3 11 "MeridianSeries$Packer" "words" "[I",
  .fieldLink RX3 15 "MeridianSeries$Packer" "length" "I",
  .fieldLink RX3 19 "MeridianSeries$Packer" "packed" "I",
  .fieldLink RX3 22 "MeridianSeries$Packer" "lastTime" "I",
  .fieldLink RX3 25 "MeridianSeries$Packer" "lastStep" "I",
  .fieldLink RX3 28 "MeridianSeries$Packer" "lastValue" "I",
  .code yX3_init cX3_init 1 none,
  .methodLink RX6 3 objectInit,
  .classLink RX6 9 RX4,
  .instantiable RX4 7,
  .initialized RX4,
  .instanceMethod yX4_init,
  .fieldLink RX6 12 "MeridianSeries$Series" "points" "LMeridianSeries$Points;",
  .classLink RX6 18 RX0,
  .instantiable RX0 2,
  .initialized RX0,
  .instanceMethod yX0_init,
  .fieldLink RX6 21 "MeridianSeries$Series" "fine" "LMeridianSeries$Buckets;",
  .fieldLink RX6 25 "MeridianSeries$Series" "coarse" "LMeridianSeries$Buckets;",
  .fieldLink RX6 28 "MeridianSeries$Series" "one" "I",
  .fieldLink RX6 32 "MeridianSeries$Series" "other" "I",
  .code yX6_init cX6_init 3 none,
  .methodLink RJxa1e45 1 objectInit,
  .code yJxa1e45_init_da8c8 cJxa1e45_init_da8c8 1 none,
  .initialized RJxa1e45,
  .methodLink RJxc12de 1 yJxa1e45_init_da8c8,
  .instanceMethod yJxa1e45_init_da8c8,
  .fieldLink RJxc12de 7 "java/util/AbstractList" "modCount" "I",
  .code yJxc12de_init_da8c8 cJxc12de_init_da8c8 1 none,
  .initialized RJxc12de,
  .methodLink RJx4a65c 1 yJxc12de_init_da8c8,
  .instanceMethod yJxc12de_init_da8c8,
  .fieldLink RJx4a65c 39 "java/util/ArrayList" "DEFAULTCAPACITY_EMPTY_ELEMENTDATA" "[Ljava/lang/Object;",
  .fieldLink RJx4a65c 9 "java/util/ArrayList" "elementData" "[Ljava/lang/Object;",
  .code yJx4a65c_init_da8c8 cJx4a65c_init_da8c8 1 none,
  .methodLink RJx4a65c 79 Lib.Math.max.name,
  .static Lib.Math.max.name,
  .code Lib.Math.max.name Lib.Math.max.code 2 (some .int),
  .classLink RJx4a65c 7 "java/lang/Object",
  .code yJx4a65c_grow_92f84 cJx4a65c_grow_92f84 4 (some (.array (.object "java/lang/Object"))),
  .methodLink RJx4a65c 69 yJx4a65c_grow_92f84,
  .instanceMethod yJx4a65c_grow_92f84,
  .selects RJx4a65c yJx4a65c_grow_92f84 yJx4a65c_grow_92f84,
  .code yJx4a65c_grow_d5877 cJx4a65c_grow_d5877 1 (some (.array (.object "java/lang/Object"))),
  .methodLink RJx4a65c 129 yJx4a65c_grow_d5877,
  .instanceMethod yJx4a65c_grow_d5877,
  .selects RJx4a65c yJx4a65c_grow_d5877 yJx4a65c_grow_d5877,
  .code yJx4a65c_add_72be8 cJx4a65c_add_72be8 4 none,
  .fieldLink RJx4a65c 63 "java/util/ArrayList" "modCount" "I",
  .sameField "java/util/ArrayList" "java/util/AbstractList" "modCount" "I",
  .methodLink RJx4a65c 131 yJx4a65c_add_72be8,
  .instanceMethod yJx4a65c_add_72be8,
  .selects RJx4a65c yJx4a65c_add_72be8 yJx4a65c_add_72be8,
  .code yJx4a65c_add_9ea2d cJx4a65c_add_9ea2d 2 (some .boolean),
  .code yX9_addSeries cX9_addSeries 4 (some .int),
  .classLink RX9 72 RX6,
  .instantiable RX6 5,
  .initialized RX6,
  .methodLink RX9 74 yX6_init,
  .instanceMethod yX6_init,
  .methodLink RX9 77 yJx4a65c_add_9ea2d,
  .instanceMethod yJx4a65c_add_9ea2d,
  .selects RJx4a65c yJx4a65c_add_9ea2d yJx4a65c_add_9ea2d,
  .methodLink RX8 1 objectInit,
  .classLink RX8 7 RJx4a65c,
  .instantiable RJx4a65c 3,
  .methodLink RX8 9 yJx4a65c_init_da8c8,
  .instanceMethod yJx4a65c_init_da8c8,
  .classLink RX8 19 RX1,
  .instantiable RX1 3,
  .initialized RX1,
  .instanceMethod yX1_init,
  .fieldLink RX8 22 "MeridianSeries$Store" "log" "LMeridianSeries$EventLog;",
  .fieldLink RX8 30 "MeridianSeries$Store" "settings" "LMeridianSeries$Settings;",
  .code yX8_init cX8_init 2 none,
  .methodLink RX9 1 objectInit,
  .classLink RX9 7 RX7,
  .instantiable RX7 5,
  .initialized RX7,
  .instanceMethod yX7_init,
  .classLink RX9 16 RX8,
  .instantiable RX8 5,
  .methodLink RX9 18 yX8_init,
  .instanceMethod yX8_init,
  .classLink RX9 28 RX3,
  .instantiable RX3 6,
  .initialized RX3,
  .instanceMethod yX3_init,
  .fieldLink RX9 31 "MeridianSeries" "packer" "LMeridianSeries$Packer;",
  .code yX9_init cX9_init 1 none,
  .methodLink RX13 3 objectInit,
  .classLink RX13 9 RJx4a65c,
  .methodLink RX13 11 yJx4a65c_init_da8c8,
  .fieldLink RX13 12 "MeridianSeriesModel$Series" "blocks" "Ljava/util/ArrayList;",
  .fieldLink RX13 18 "MeridianSeriesModel$Series" "fine" "Ljava/util/ArrayList;",
  .fieldLink RX13 21 "MeridianSeriesModel$Series" "coarse" "Ljava/util/ArrayList;",
  .fieldLink RX13 24 "MeridianSeriesModel$Series" "sealedTo" "I",
  .fieldLink RX13 28 "MeridianSeriesModel$Series" "labels" "[I",
  .methodLink RX13 32 yJx4a65c_add_9ea2d,
  .code yX13_init cX13_init 3 none,
  .methodLink RX14 1 objectInit,
  .classLink RX14 7 RJx4a65c,
  .methodLink RX14 9 yJx4a65c_init_da8c8,
  .fieldLink RX14 19 "MeridianSeriesModel$Store" "events" "Ljava/util/ArrayList;",
  .fieldLink RX14 22 "MeridianSeriesModel$Store" "span" "I",
  .fieldLink RX14 26 "MeridianSeriesModel$Store" "width" "I",
  .fieldLink RX14 29 "MeridianSeriesModel$Store" "fold" "I",
  .code yX14_init cX14_init 1 none,
  .methodLink RX15 54 objectInit,
  .classLink RX15 65 RX14,
  .instantiable RX14 9,
  .instanceMethod yX14_init,
  .code yX15_init cX15_init 1 none,
  .code yX15_addSeries cX15_addSeries 3 (some .int),
  .classLink RX15 90 RX13,
  .instantiable RX13 5,
  .initialized RX13,
  .methodLink RX15 92 yX13_init,
  .instanceMethod yX13_init,
  .methodLink RX15 42 yJx4a65c_add_9ea2d,
  .methodLink RL 7 yX9_addSeries,
  .instanceMethod yX9_addSeries,
  .selects RX9 yX9_addSeries yX9_addSeries,
  .classLink RL 13 "java/lang/IllegalArgumentException",
  .codeWith yL_addSeries cL_addSeries 5 (some .int) [(0, 10, 13, 13), (0, 10, 17, 15)],
  .methodLink RL 17 yX9_setSpan,
  .instanceMethod yX9_setSpan,
  .selects RX9 yX9_setSpan yX9_setSpan,
  .codeWith yL_setSpan cL_setSpan 4 (some .int) [(0, 9, 12, 13)],
  .methodLink RL 21 yX9_setWidths,
  .instanceMethod yX9_setWidths,
  .selects RX9 yX9_setWidths yX9_setWidths,
  .codeWith yL_setWidths cL_setWidths 5 (some .int) [(0, 10, 13, 13), (0, 10, 17, 15)],
  .methodLink RL 24 yX9_setKeep,
  .instanceMethod yX9_setKeep,
  .selects RX9 yX9_setKeep yX9_setKeep,
  .codeWith yL_setKeep cL_setKeep 5 (some .int) [(0, 10, 13, 13)],
  .methodLink RL 27 yX9_setQuery,
  .instanceMethod yX9_setQuery,
  .selects RX9 yX9_setQuery yX9_setQuery,
  .codeWith yL_setQuery cL_setQuery 7 (some .int) [(0, 14, 17, 13)],
  .methodLink RL 41 yX9_goOn,
  .instanceMethod yX9_goOn,
  .selects RX9 yX9_goOn yX9_goOn,
  .codeWith yL_goOn cL_goOn 4 (some .int) [(0, 9, 12, 13)],
  .methodLink RL 74 yX9_over,
  .instanceMethod yX9_over,
  .selects RX9 yX9_over yX9_over,
  .codeWith yL_over cL_over 7 (some .int) [(0, 14, 17, 13)],
  .methodLink RL 103 yX9_firesIn,
  .instanceMethod yX9_firesIn,
  .selects RX9 yX9_firesIn yX9_firesIn,
  .codeWith yL_firesIn cL_firesIn 4 (some .int) [(0, 9, 12, 13)],
  .methodLink RL 106 yX9_wouldRoll,
  .instanceMethod yX9_wouldRoll,
  .selects RX9 yX9_wouldRoll yX9_wouldRoll,
  .codeWith yL_wouldRoll cL_wouldRoll 4 (some .int) [(0, 9, 12, 13)],
  .methodLink RL 31 yX9_put,
  .instanceMethod yX9_put,
  .selects RX9 yX9_put yX9_put,
  .classLink RL 35 "java/lang/IndexOutOfBoundsException",
  .codeWith yL_put cL_put 6 (some .int) [(0, 12, 15, 35), (0, 12, 19, 13)],
  .methodLink RL 37 yX9_putRow,
  .instanceMethod yX9_putRow,
  .selects RX9 yX9_putRow yX9_putRow,
  .codeWith yL_putRow cL_putRow 9 (some .int) [(0, 18, 21, 35), (0, 18, 25, 13)],
  .methodLink RL 44 yX9_blocks,
  .instanceMethod yX9_blocks,
  .selects RX9 yX9_blocks yX9_blocks,
  .codeWith yL_blocks cL_blocks 4 (some .int) [(0, 9, 12, 35)],
  .methodLink RL 47 yX9_size,
  .instanceMethod yX9_size,
  .selects RX9 yX9_size yX9_size,
  .codeWith yL_size cL_size 5 (some .int) [(0, 10, 13, 35)],
  .methodLink RL 50 yX9_point,
  .instanceMethod yX9_point,
  .selects RX9 yX9_point yX9_point,
  .codeWith yL_point cL_point 7 (some .int) [(0, 14, 17, 35)],
  .methodLink RL 54 yX9_bits,
  .instanceMethod yX9_bits,
  .selects RX9 yX9_bits yX9_bits,
  .codeWith yL_bits cL_bits 5 (some .int) [(0, 10, 13, 35)],
  .methodLink RL 57 yX9_word,
  .instanceMethod yX9_word,
  .selects RX9 yX9_word yX9_word,
  .codeWith yL_word cL_word 6 (some .int) [(0, 12, 15, 35)],
  .methodLink RL 60 yX9_buckets,
  .instanceMethod yX9_buckets,
  .selects RX9 yX9_buckets yX9_buckets,
  .codeWith yL_buckets cL_buckets 5 (some .int) [(0, 10, 13, 35)],
  .methodLink RL 64 yX9_ofBucket,
  .instanceMethod yX9_ofBucket,
  .selects RX9 yX9_ofBucket yX9_ofBucket,
  .codeWith yL_ofBucket cL_ofBucket 7 (some .int) [(0, 14, 17, 35), (0, 14, 21, 13)],
  .methodLink RL 68 yX9_items,
  .instanceMethod yX9_items,
  .selects RX9 yX9_items yX9_items,
  .codeWith yL_items cL_items 4 (some .int) [(0, 9, 12, 35)],
  .methodLink RL 71 yX9_ask,
  .instanceMethod yX9_ask,
  .selects RX9 yX9_ask yX9_ask,
  .codeWith yL_ask cL_ask 5 (some .int) [(0, 10, 13, 35), (0, 10, 17, 13)],
  .methodLink RL 78 yX9_gaps,
  .instanceMethod yX9_gaps,
  .selects RX9 yX9_gaps yX9_gaps,
  .codeWith yL_gaps cL_gaps 5 (some .int) [(0, 10, 13, 35), (0, 10, 17, 13)],
  .methodLink RL 81 yX9_lastAt,
  .instanceMethod yX9_lastAt,
  .selects RX9 yX9_lastAt yX9_lastAt,
  .codeWith yL_lastAt cL_lastAt 5 (some .int) [(0, 10, 13, 35), (0, 10, 17, 13)],
  .methodLink RL 84 yX9_addRule,
  .instanceMethod yX9_addRule,
  .selects RX9 yX9_addRule yX9_addRule,
  .codeWith yL_addRule cL_addRule 10 (some .int) [(0, 20, 23, 35), (0, 20, 27, 13), (0, 20, 31, 15)],
  .methodLink RL 100 yX9_bitsWith,
  .instanceMethod yX9_bitsWith,
  .selects RX9 yX9_bitsWith yX9_bitsWith,
  .codeWith yL_bitsWith cL_bitsWith 6 (some .int) [(0, 12, 15, 35), (0, 12, 19, 13)],
  .methodLink RL 88 yX9_stateOf,
  .instanceMethod yX9_stateOf,
  .selects RX9 yX9_stateOf yX9_stateOf,
  .codeWith yL_stateOf cL_stateOf 4 (some .int) [(0, 9, 12, 35)],
  .methodLink RL 91 yX9_inRow,
  .instanceMethod yX9_inRow,
  .selects RX9 yX9_inRow yX9_inRow,
  .codeWith yL_inRow cL_inRow 4 (some .int) [(0, 9, 12, 35)],
  .methodLink RL 94 yX9_seenBy,
  .instanceMethod yX9_seenBy,
  .selects RX9 yX9_seenBy yX9_seenBy,
  .codeWith yL_seenBy cL_seenBy 4 (some .int) [(0, 9, 12, 35)],
  .methodLink RL 97 yX9_event,
  .instanceMethod yX9_event,
  .selects RX9 yX9_event yX9_event,
  .codeWith yL_event cL_event 5 (some .int) [(0, 10, 13, 35), (0, 10, 17, 13)]]
def wsGc : List Cond := (u_ws RJx4a65c TJx4a65c 3 ++ (u_ws RX9 TX9 9 ++ (u_ws RX8 TX8 5 ++ (u_ws RX1 TX1 3 ++ (u_ws RX7 TX7 5 ++ (u_ws RX15 TX15 7 ++ (u_ws RX14 TX14 9 ++ (u_ws RX0 TX0 2 ++ (u_ws RX4 TX4 7 ++ (u_ws RX3 TX3 6 ++ (u_ws RX6 TX6 5 ++ (u_ws RX13 TX13 5 ++ ((vx_atS RX9 284 "java/lang/IllegalArgumentException" ["java/lang/RuntimeException", "java/lang/Exception"]).filter goodWord ++ ((vx_atS RX9 291 "java/lang/IndexOutOfBoundsException" ["java/lang/RuntimeException", "java/lang/Exception"]).filter goodWord ++ ([] : List Cond)))))))))))))))
def wsG : List Cond := wsGe ++ wsGc
abbrev gw (c : Cond) : List Cond := c :: wsG
theorem gm {c w : Cond} (h : w ∈ wsG) : w ∈ gw c := List.mem_cons_of_mem _ h
theorem gh {c : Cond} {u : List Cond} (h : ∀ w ∈ u, w ∈ wsG) : ∀ w ∈ u, w ∈ gw c := fun w q => gm (h w q)
theorem wsGe_good : wsGe.all goodWord = true := by decide +kernel
theorem wsGc_good : wsGc.all goodWord = true := by decide +kernel
theorem wsG_good {w : Cond} (h : w ∈ wsG) : (w.onTables && w.keeps) = true ∨ ∃ ty, w = .arrayClass ty := good_of_word ((List.mem_append.mp h).elim (fun q => List.all_eq_true.mp wsGe_good w q) (fun q => List.all_eq_true.mp wsGc_good w q))
theorem wg_0 : (.code yX9_isIn cX9_isIn 4 (some .boolean) : Cond) ∈ wsG := List.mem_append_left _ (List.mem_of_getElem? (i := 0) rfl)
theorem wg_1 : (.code yX9_needArgument cX9_needArgument 1 none : Cond) ∈ wsG := List.mem_append_left _ (List.mem_of_getElem? (i := 1) rfl)
theorem wg_2 : (.code yX9_needState cX9_needState 1 none : Cond) ∈ wsG := List.mem_append_left _ (List.mem_of_getElem? (i := 2) rfl)
theorem wg_3 : (.classLink RX9 280 "java/lang/IllegalArgumentException" : Cond) ∈ wsG := List.mem_append_left _ (List.mem_of_getElem? (i := 3) rfl)
theorem wg_4 : (.initialized "java/lang/IllegalArgumentException" : Cond) ∈ wsG := List.mem_append_left _ (List.mem_of_getElem? (i := 4) rfl)
theorem wg_5 : (.classLink RX9 287 "java/lang/IndexOutOfBoundsException" : Cond) ∈ wsG := List.mem_append_left _ (List.mem_of_getElem? (i := 5) rfl)
theorem wg_6 : (.initialized "java/lang/IndexOutOfBoundsException" : Cond) ∈ wsG := List.mem_append_left _ (List.mem_of_getElem? (i := 6) rfl)
theorem wg_7 : (.code yX9_needIndex cX9_needIndex 1 none : Cond) ∈ wsG := List.mem_append_left _ (List.mem_of_getElem? (i := 7) rfl)
theorem wg_8 : (.fieldLink RJx4a65c 48 "java/util/ArrayList" "size" "I" : Cond) ∈ wsG := List.mem_append_left _ (List.mem_of_getElem? (i := 8) rfl)
theorem wg_9 : (.code yJx4a65c_size_8abf5 cJx4a65c_size_8abf5 1 (some .int) : Cond) ∈ wsG := List.mem_append_left _ (List.mem_of_getElem? (i := 9) rfl)
theorem wg_10 : (.fieldLink RX9 21 "MeridianSeries" "store" "LMeridianSeries$Store;" : Cond) ∈ wsG := List.mem_append_left _ (List.mem_of_getElem? (i := 10) rfl)
theorem wg_11 : (.fieldLink RX9 59 "MeridianSeries$Store" "chains" "Ljava/util/ArrayList;" : Cond) ∈ wsG := List.mem_append_left _ (List.mem_of_getElem? (i := 11) rfl)
theorem wg_12 : (.methodLink RX9 63 yJx4a65c_size_8abf5 : Cond) ∈ wsG := List.mem_append_left _ (List.mem_of_getElem? (i := 12) rfl)
theorem wg_13 : (.instanceMethod yJx4a65c_size_8abf5 : Cond) ∈ wsG := List.mem_append_left _ (List.mem_of_getElem? (i := 13) rfl)
theorem wg_14 : (.selects RJx4a65c yJx4a65c_size_8abf5 yJx4a65c_size_8abf5 : Cond) ∈ wsG := List.mem_append_left _ (List.mem_of_getElem? (i := 14) rfl)
theorem wg_15 : (.initialized RJx4a65c : Cond) ∈ wsG := List.mem_append_left _ (List.mem_of_getElem? (i := 15) rfl)
theorem wg_16 : (.code yX9_chainAt cX9_chainAt 2 (some (.object "MeridianSeries$Series")) : Cond) ∈ wsG := List.mem_append_left _ (List.mem_of_getElem? (i := 16) rfl)
theorem wg_17 : (.fieldLink RX9 216 "MeridianSeries$Store" "rules" "Ljava/util/ArrayList;" : Cond) ∈ wsG := List.mem_append_left _ (List.mem_of_getElem? (i := 17) rfl)
theorem wg_18 : (.code yX9_ruleAt cX9_ruleAt 2 (some (.object "MeridianSeries$Rule")) : Cond) ∈ wsG := List.mem_append_left _ (List.mem_of_getElem? (i := 18) rfl)
theorem wg_19 : (.methodLink RX9 101 yX9_chainAt : Cond) ∈ wsG := List.mem_append_left _ (List.mem_of_getElem? (i := 19) rfl)
theorem wg_20 : (.instanceMethod yX9_chainAt : Cond) ∈ wsG := List.mem_append_left _ (List.mem_of_getElem? (i := 20) rfl)
theorem wg_21 : (.selects RX9 yX9_chainAt yX9_chainAt : Cond) ∈ wsG := List.mem_append_left _ (List.mem_of_getElem? (i := 21) rfl)
theorem wg_22 : (.initialized RX9 : Cond) ∈ wsG := List.mem_append_left _ (List.mem_of_getElem? (i := 22) rfl)
theorem wg_23 : (.code yX9_put cX9_put 5 (some .int) : Cond) ∈ wsG := List.mem_append_left _ (List.mem_of_getElem? (i := 23) rfl)
theorem wg_24 : (.code yX9_putRow cX9_putRow 14 (some .int) : Cond) ∈ wsG := List.mem_append_left _ (List.mem_of_getElem? (i := 24) rfl)
theorem wg_25 : (.code yX9_blocks cX9_blocks 2 (some .int) : Cond) ∈ wsG := List.mem_append_left _ (List.mem_of_getElem? (i := 25) rfl)
theorem wg_26 : (.code yX9_size cX9_size 4 (some .int) : Cond) ∈ wsG := List.mem_append_left _ (List.mem_of_getElem? (i := 26) rfl)
theorem wg_27 : (.code yX9_point cX9_point 6 (some .int) : Cond) ∈ wsG := List.mem_append_left _ (List.mem_of_getElem? (i := 27) rfl)
theorem wg_28 : (.code yX9_bits cX9_bits 4 (some .int) : Cond) ∈ wsG := List.mem_append_left _ (List.mem_of_getElem? (i := 28) rfl)
theorem wg_29 : (.code yX9_word cX9_word 5 (some .int) : Cond) ∈ wsG := List.mem_append_left _ (List.mem_of_getElem? (i := 29) rfl)
theorem wg_30 : (.code yX9_buckets cX9_buckets 3 (some .int) : Cond) ∈ wsG := List.mem_append_left _ (List.mem_of_getElem? (i := 30) rfl)
theorem wg_31 : (.code yX9_ofBucket cX9_ofBucket 6 (some .int) : Cond) ∈ wsG := List.mem_append_left _ (List.mem_of_getElem? (i := 31) rfl)
theorem wg_32 : (.code yX9_items cX9_items 2 (some .int) : Cond) ∈ wsG := List.mem_append_left _ (List.mem_of_getElem? (i := 32) rfl)
theorem wg_33 : (.code yX9_ask cX9_ask 4 (some .int) : Cond) ∈ wsG := List.mem_append_left _ (List.mem_of_getElem? (i := 33) rfl)
theorem wg_34 : (.code yX9_gaps cX9_gaps 7 (some .int) : Cond) ∈ wsG := List.mem_append_left _ (List.mem_of_getElem? (i := 34) rfl)
theorem wg_35 : (.code yX9_lastAt cX9_lastAt 5 (some .int) : Cond) ∈ wsG := List.mem_append_left _ (List.mem_of_getElem? (i := 35) rfl)
theorem wg_36 : (.code yX9_addRule cX9_addRule 11 (some .int) : Cond) ∈ wsG := List.mem_append_left _ (List.mem_of_getElem? (i := 36) rfl)
theorem wg_37 : (.code yX9_bitsWith cX9_bitsWith 5 (some .int) : Cond) ∈ wsG := List.mem_append_left _ (List.mem_of_getElem? (i := 37) rfl)
theorem wg_38 : (.methodLink RX9 224 yX9_ruleAt : Cond) ∈ wsG := List.mem_append_left _ (List.mem_of_getElem? (i := 38) rfl)
theorem wg_39 : (.instanceMethod yX9_ruleAt : Cond) ∈ wsG := List.mem_append_left _ (List.mem_of_getElem? (i := 39) rfl)
theorem wg_40 : (.selects RX9 yX9_ruleAt yX9_ruleAt : Cond) ∈ wsG := List.mem_append_left _ (List.mem_of_getElem? (i := 40) rfl)
theorem wg_41 : (.code yX9_stateOf cX9_stateOf 2 (some .int) : Cond) ∈ wsG := List.mem_append_left _ (List.mem_of_getElem? (i := 41) rfl)
theorem wg_42 : (.code yX9_inRow cX9_inRow 2 (some .int) : Cond) ∈ wsG := List.mem_append_left _ (List.mem_of_getElem? (i := 42) rfl)
theorem wg_43 : (.code yX9_seenBy cX9_seenBy 2 (some .int) : Cond) ∈ wsG := List.mem_append_left _ (List.mem_of_getElem? (i := 43) rfl)
theorem wg_44 : (.methodLink RX9 51 yX9_isIn : Cond) ∈ wsG := List.mem_append_left _ (List.mem_of_getElem? (i := 44) rfl)
theorem wg_45 : (.static yX9_isIn : Cond) ∈ wsG := List.mem_append_left _ (List.mem_of_getElem? (i := 45) rfl)
theorem wg_46 : (.methodLink RX9 150 yX9_needIndex : Cond) ∈ wsG := List.mem_append_left _ (List.mem_of_getElem? (i := 46) rfl)
theorem wg_47 : (.static yX9_needIndex : Cond) ∈ wsG := List.mem_append_left _ (List.mem_of_getElem? (i := 47) rfl)
theorem wg_48 : (.fieldLink RX9 129 "MeridianSeries$Store" "log" "LMeridianSeries$EventLog;" : Cond) ∈ wsG := List.mem_append_left _ (List.mem_of_getElem? (i := 48) rfl)
theorem wg_49 : (.fieldLink RX9 133 "MeridianSeries$EventLog" "total" "I" : Cond) ∈ wsG := List.mem_append_left _ (List.mem_of_getElem? (i := 49) rfl)
theorem wg_50 : (.code yX9_event cX9_event 3 (some .int) : Cond) ∈ wsG := List.mem_append_left _ (List.mem_of_getElem? (i := 50) rfl)
theorem wg_51 : (.methodLink RX9 55 yX9_needArgument : Cond) ∈ wsG := List.mem_append_left _ (List.mem_of_getElem? (i := 51) rfl)
theorem wg_52 : (.static yX9_needArgument : Cond) ∈ wsG := List.mem_append_left _ (List.mem_of_getElem? (i := 52) rfl)
theorem wg_53 : (.code yX9_setSpan cX9_setSpan 3 (some .int) : Cond) ∈ wsG := List.mem_append_left _ (List.mem_of_getElem? (i := 53) rfl)
theorem wg_54 : (.fieldLink RX9 10 "MeridianSeries" "settings" "LMeridianSeries$Settings;" : Cond) ∈ wsG := List.mem_append_left _ (List.mem_of_getElem? (i := 54) rfl)
theorem wg_55 : (.fieldLink RX9 81 "MeridianSeries$Settings" "span" "I" : Cond) ∈ wsG := List.mem_append_left _ (List.mem_of_getElem? (i := 55) rfl)
theorem wg_56 : (.code yX9_setKeep cX9_setKeep 4 (some .int) : Cond) ∈ wsG := List.mem_append_left _ (List.mem_of_getElem? (i := 56) rfl)
theorem wg_57 : (.fieldLink RX9 94 "MeridianSeries$Settings" "keep" "I" : Cond) ∈ wsG := List.mem_append_left _ (List.mem_of_getElem? (i := 57) rfl)
theorem wg_58 : (.fieldLink RX9 97 "MeridianSeries$Settings" "longKeep" "I" : Cond) ∈ wsG := List.mem_append_left _ (List.mem_of_getElem? (i := 58) rfl)
theorem wg_59 : (.constant RX9 100 (99999) : Cond) ∈ wsG := List.mem_append_left _ (List.mem_of_getElem? (i := 59) rfl)
theorem wg_60 : (.code yX9_setQuery cX9_setQuery 6 (some .int) : Cond) ∈ wsG := List.mem_append_left _ (List.mem_of_getElem? (i := 60) rfl)
theorem wg_61 : (.fieldLink RX9 39 "MeridianSeries" "queryStep" "I" : Cond) ∈ wsG := List.mem_append_left _ (List.mem_of_getElem? (i := 61) rfl)
theorem wg_62 : (.fieldLink RX9 35 "MeridianSeries" "queryFrom" "I" : Cond) ∈ wsG := List.mem_append_left _ (List.mem_of_getElem? (i := 62) rfl)
theorem wg_63 : (.fieldLink RX9 42 "MeridianSeries" "queryWhat" "I" : Cond) ∈ wsG := List.mem_append_left _ (List.mem_of_getElem? (i := 63) rfl)
theorem wg_64 : (.fieldLink RX9 45 "MeridianSeries" "queryFill" "I" : Cond) ∈ wsG := List.mem_append_left _ (List.mem_of_getElem? (i := 64) rfl)
theorem wg_65 : (.fieldLink RX8 10 "MeridianSeries$Store" "chains" "Ljava/util/ArrayList;" : Cond) ∈ wsG := List.mem_append_left _ (List.mem_of_getElem? (i := 65) rfl)
theorem wg_66 : (.methodLink RX8 34 yJx4a65c_size_8abf5 : Cond) ∈ wsG := List.mem_append_left _ (List.mem_of_getElem? (i := 66) rfl)
theorem wg_67 : (.code yX8_hasBucket cX8_hasBucket 2 (some .boolean) : Cond) ∈ wsG := List.mem_append_left _ (List.mem_of_getElem? (i := 67) rfl)
theorem wg_68 : (.code yX9_setWidths cX9_setWidths 4 (some .int) : Cond) ∈ wsG := List.mem_append_left _ (List.mem_of_getElem? (i := 68) rfl)
theorem wg_69 : (.methodLink RX9 84 yX8_hasBucket : Cond) ∈ wsG := List.mem_append_left _ (List.mem_of_getElem? (i := 69) rfl)
theorem wg_70 : (.instanceMethod yX8_hasBucket : Cond) ∈ wsG := List.mem_append_left _ (List.mem_of_getElem? (i := 70) rfl)
theorem wg_71 : (.selects RX8 yX8_hasBucket yX8_hasBucket : Cond) ∈ wsG := List.mem_append_left _ (List.mem_of_getElem? (i := 71) rfl)
theorem wg_72 : (.initialized RX8 : Cond) ∈ wsG := List.mem_append_left _ (List.mem_of_getElem? (i := 72) rfl)
theorem wg_73 : (.methodLink RX9 69 yX9_needState : Cond) ∈ wsG := List.mem_append_left _ (List.mem_of_getElem? (i := 73) rfl)
theorem wg_74 : (.static yX9_needState : Cond) ∈ wsG := List.mem_append_left _ (List.mem_of_getElem? (i := 74) rfl)
theorem wg_75 : (.fieldLink RX9 88 "MeridianSeries$Settings" "width" "I" : Cond) ∈ wsG := List.mem_append_left _ (List.mem_of_getElem? (i := 75) rfl)
theorem wg_76 : (.fieldLink RX9 91 "MeridianSeries$Settings" "fold" "I" : Cond) ∈ wsG := List.mem_append_left _ (List.mem_of_getElem? (i := 76) rfl)
theorem wg_77 : (.fieldLink RX9 141 "MeridianSeries$Store" "now" "I" : Cond) ∈ wsG := List.mem_append_left _ (List.mem_of_getElem? (i := 77) rfl)
theorem wg_78 : (.code yX9_now cX9_now 1 (some .int) : Cond) ∈ wsG := List.mem_append_left _ (List.mem_of_getElem? (i := 78) rfl)
theorem wg_79 : (.code yX9_series cX9_series 1 (some .int) : Cond) ∈ wsG := List.mem_append_left _ (List.mem_of_getElem? (i := 79) rfl)
theorem wg_80 : (.fieldLink RX9 48 "MeridianSeries" "lateCount" "I" : Cond) ∈ wsG := List.mem_append_left _ (List.mem_of_getElem? (i := 80) rfl)
theorem wg_81 : (.code yX9_late cX9_late 1 (some .int) : Cond) ∈ wsG := List.mem_append_left _ (List.mem_of_getElem? (i := 81) rfl)
theorem wg_82 : (.code yX9_events cX9_events 1 (some .int) : Cond) ∈ wsG := List.mem_append_left _ (List.mem_of_getElem? (i := 82) rfl)
theorem wg_83 : (.code yX15_isIn cX15_isIn 3 (some .boolean) : Cond) ∈ wsG := List.mem_append_left _ (List.mem_of_getElem? (i := 83) rfl)
theorem wg_84 : (.fieldLink RX15 72 "MeridianSeriesModel" "thrown" "I" : Cond) ∈ wsG := List.mem_append_left _ (List.mem_of_getElem? (i := 84) rfl)
theorem wg_85 : (.code yX15_refuse cX15_refuse 3 (some .boolean) : Cond) ∈ wsG := List.mem_append_left _ (List.mem_of_getElem? (i := 85) rfl)
theorem wg_86 : (.methodLink RX15 75 yX15_refuse : Cond) ∈ wsG := List.mem_append_left _ (List.mem_of_getElem? (i := 86) rfl)
theorem wg_87 : (.instanceMethod yX15_refuse : Cond) ∈ wsG := List.mem_append_left _ (List.mem_of_getElem? (i := 87) rfl)
theorem wg_88 : (.selects RX15 yX15_refuse yX15_refuse : Cond) ∈ wsG := List.mem_append_left _ (List.mem_of_getElem? (i := 88) rfl)
theorem wg_89 : (.initialized RX15 : Cond) ∈ wsG := List.mem_append_left _ (List.mem_of_getElem? (i := 89) rfl)
theorem wg_90 : (.code yX15_start cX15_start 3 (some .boolean) : Cond) ∈ wsG := List.mem_append_left _ (List.mem_of_getElem? (i := 90) rfl)
theorem wg_91 : (.code yX15_plain cX15_plain 2 (some .int) : Cond) ∈ wsG := List.mem_append_left _ (List.mem_of_getElem? (i := 91) rfl)
theorem wg_92 : (.code yX15_thrown cX15_thrown 1 (some .int) : Cond) ∈ wsG := List.mem_append_left _ (List.mem_of_getElem? (i := 92) rfl)
theorem wg_93 : (.fieldLink RX15 68 "MeridianSeriesModel" "store" "LMeridianSeriesModel$Store;" : Cond) ∈ wsG := List.mem_append_left _ (List.mem_of_getElem? (i := 93) rfl)
theorem wg_94 : (.fieldLink RX15 86 "MeridianSeriesModel$Store" "series" "Ljava/util/ArrayList;" : Cond) ∈ wsG := List.mem_append_left _ (List.mem_of_getElem? (i := 94) rfl)
theorem wg_95 : (.methodLink RX15 7 yJx4a65c_size_8abf5 : Cond) ∈ wsG := List.mem_append_left _ (List.mem_of_getElem? (i := 95) rfl)
theorem wg_96 : (.methodLink RX15 79 yX15_isIn : Cond) ∈ wsG := List.mem_append_left _ (List.mem_of_getElem? (i := 96) rfl)
theorem wg_97 : (.static yX15_isIn : Cond) ∈ wsG := List.mem_append_left _ (List.mem_of_getElem? (i := 97) rfl)
theorem wg_98 : (.methodLink RX15 83 yX15_start : Cond) ∈ wsG := List.mem_append_left _ (List.mem_of_getElem? (i := 98) rfl)
theorem wg_99 : (.instanceMethod yX15_start : Cond) ∈ wsG := List.mem_append_left _ (List.mem_of_getElem? (i := 99) rfl)
theorem wg_100 : (.selects RX15 yX15_start yX15_start : Cond) ∈ wsG := List.mem_append_left _ (List.mem_of_getElem? (i := 100) rfl)
theorem wg_101 : (.code yX15_isNoSeries cX15_isNoSeries 2 (some .boolean) : Cond) ∈ wsG := List.mem_append_left _ (List.mem_of_getElem? (i := 101) rfl)
theorem wg_102 : (.fieldLink RX15 244 "MeridianSeriesModel$Store" "rules" "Ljava/util/ArrayList;" : Cond) ∈ wsG := List.mem_append_left _ (List.mem_of_getElem? (i := 102) rfl)
theorem wg_103 : (.code yX15_isNoRule cX15_isNoRule 2 (some .boolean) : Cond) ∈ wsG := List.mem_append_left _ (List.mem_of_getElem? (i := 103) rfl)
theorem wg_104 : (.methodLink RX15 152 yX15_isNoSeries : Cond) ∈ wsG := List.mem_append_left _ (List.mem_of_getElem? (i := 104) rfl)
theorem wg_105 : (.instanceMethod yX15_isNoSeries : Cond) ∈ wsG := List.mem_append_left _ (List.mem_of_getElem? (i := 105) rfl)
theorem wg_106 : (.selects RX15 yX15_isNoSeries yX15_isNoSeries : Cond) ∈ wsG := List.mem_append_left _ (List.mem_of_getElem? (i := 106) rfl)
theorem wg_107 : (.code yX15_isNoBlock cX15_isNoBlock 3 (some .boolean) : Cond) ∈ wsG := List.mem_append_left _ (List.mem_of_getElem? (i := 107) rfl)
theorem wg_108 : (.code yX15_put cX15_put 4 (some .int) : Cond) ∈ wsG := List.mem_append_left _ (List.mem_of_getElem? (i := 108) rfl)
theorem wg_109 : (.code yX15_putRow cX15_putRow 9 (some .int) : Cond) ∈ wsG := List.mem_append_left _ (List.mem_of_getElem? (i := 109) rfl)
theorem wg_110 : (.code yX15_blocks cX15_blocks 2 (some .int) : Cond) ∈ wsG := List.mem_append_left _ (List.mem_of_getElem? (i := 110) rfl)
theorem wg_111 : (.methodLink RX15 177 yX15_isNoBlock : Cond) ∈ wsG := List.mem_append_left _ (List.mem_of_getElem? (i := 111) rfl)
theorem wg_112 : (.instanceMethod yX15_isNoBlock : Cond) ∈ wsG := List.mem_append_left _ (List.mem_of_getElem? (i := 112) rfl)
theorem wg_113 : (.selects RX15 yX15_isNoBlock yX15_isNoBlock : Cond) ∈ wsG := List.mem_append_left _ (List.mem_of_getElem? (i := 113) rfl)
theorem wg_114 : (.code yX15_size cX15_size 3 (some .int) : Cond) ∈ wsG := List.mem_append_left _ (List.mem_of_getElem? (i := 114) rfl)
theorem wg_115 : (.code yX15_point cX15_point 5 (some .int) : Cond) ∈ wsG := List.mem_append_left _ (List.mem_of_getElem? (i := 115) rfl)
theorem wg_116 : (.code yX15_bits cX15_bits 3 (some .int) : Cond) ∈ wsG := List.mem_append_left _ (List.mem_of_getElem? (i := 116) rfl)
theorem wg_117 : (.code yX15_word cX15_word 7 (some .int) : Cond) ∈ wsG := List.mem_append_left _ (List.mem_of_getElem? (i := 117) rfl)
theorem wg_118 : (.code yX15_buckets_ cX15_buckets_ 3 (some .int) : Cond) ∈ wsG := List.mem_append_left _ (List.mem_of_getElem? (i := 118) rfl)
theorem wg_119 : (.code yX15_ofBucket cX15_ofBucket 5 (some .int) : Cond) ∈ wsG := List.mem_append_left _ (List.mem_of_getElem? (i := 119) rfl)
theorem wg_120 : (.code yX15_items cX15_items 2 (some .int) : Cond) ∈ wsG := List.mem_append_left _ (List.mem_of_getElem? (i := 120) rfl)
theorem wg_121 : (.code yX15_ask cX15_ask 3 (some .int) : Cond) ∈ wsG := List.mem_append_left _ (List.mem_of_getElem? (i := 121) rfl)
theorem wg_122 : (.code yX15_gaps cX15_gaps 5 (some .int) : Cond) ∈ wsG := List.mem_append_left _ (List.mem_of_getElem? (i := 122) rfl)
theorem wg_123 : (.code yX15_lastAt cX15_lastAt 4 (some .int) : Cond) ∈ wsG := List.mem_append_left _ (List.mem_of_getElem? (i := 123) rfl)
theorem wg_124 : (.code yX15_addRule cX15_addRule 8 (some .int) : Cond) ∈ wsG := List.mem_append_left _ (List.mem_of_getElem? (i := 124) rfl)
theorem wg_125 : (.code yX15_bitsWith cX15_bitsWith 5 (some .int) : Cond) ∈ wsG := List.mem_append_left _ (List.mem_of_getElem? (i := 125) rfl)
theorem wg_126 : (.methodLink RX15 252 yX15_isNoRule : Cond) ∈ wsG := List.mem_append_left _ (List.mem_of_getElem? (i := 126) rfl)
theorem wg_127 : (.instanceMethod yX15_isNoRule : Cond) ∈ wsG := List.mem_append_left _ (List.mem_of_getElem? (i := 127) rfl)
theorem wg_128 : (.selects RX15 yX15_isNoRule yX15_isNoRule : Cond) ∈ wsG := List.mem_append_left _ (List.mem_of_getElem? (i := 128) rfl)
theorem wg_129 : (.code yX15_stateOf cX15_stateOf 2 (some .int) : Cond) ∈ wsG := List.mem_append_left _ (List.mem_of_getElem? (i := 129) rfl)
theorem wg_130 : (.code yX15_inRow cX15_inRow 2 (some .int) : Cond) ∈ wsG := List.mem_append_left _ (List.mem_of_getElem? (i := 130) rfl)
theorem wg_131 : (.code yX15_seenBy cX15_seenBy 2 (some .int) : Cond) ∈ wsG := List.mem_append_left _ (List.mem_of_getElem? (i := 131) rfl)
theorem wg_132 : (.fieldLink RX15 167 "MeridianSeriesModel$Store" "events" "Ljava/util/ArrayList;" : Cond) ∈ wsG := List.mem_append_left _ (List.mem_of_getElem? (i := 132) rfl)
theorem wg_133 : (.methodLink RX15 227 Lib.Math.min.name : Cond) ∈ wsG := List.mem_append_left _ (List.mem_of_getElem? (i := 133) rfl)
theorem wg_134 : (.static Lib.Math.min.name : Cond) ∈ wsG := List.mem_append_left _ (List.mem_of_getElem? (i := 134) rfl)
theorem wg_135 : (.initialized "java/lang/Math" : Cond) ∈ wsG := List.mem_append_left _ (List.mem_of_getElem? (i := 135) rfl)
theorem wg_136 : (.code Lib.Math.min.name Lib.Math.min.code 2 (some .int) : Cond) ∈ wsG := List.mem_append_left _ (List.mem_of_getElem? (i := 136) rfl)
theorem wg_137 : (.code yX15_event cX15_event 3 (some .int) : Cond) ∈ wsG := List.mem_append_left _ (List.mem_of_getElem? (i := 137) rfl)
theorem wg_138 : (.fieldLink RX15 125 "MeridianSeriesModel$Store" "now" "I" : Cond) ∈ wsG := List.mem_append_left _ (List.mem_of_getElem? (i := 138) rfl)
theorem wg_139 : (.methodLink RX15 173 yX15_plain : Cond) ∈ wsG := List.mem_append_left _ (List.mem_of_getElem? (i := 139) rfl)
theorem wg_140 : (.instanceMethod yX15_plain : Cond) ∈ wsG := List.mem_append_left _ (List.mem_of_getElem? (i := 140) rfl)
theorem wg_141 : (.selects RX15 yX15_plain yX15_plain : Cond) ∈ wsG := List.mem_append_left _ (List.mem_of_getElem? (i := 141) rfl)
theorem wg_142 : (.code yX15_now cX15_now 1 (some .int) : Cond) ∈ wsG := List.mem_append_left _ (List.mem_of_getElem? (i := 142) rfl)
theorem wg_143 : (.code yX15_series_ cX15_series_ 1 (some .int) : Cond) ∈ wsG := List.mem_append_left _ (List.mem_of_getElem? (i := 143) rfl)
theorem wg_144 : (.fieldLink RX15 135 "MeridianSeriesModel" "late" "I" : Cond) ∈ wsG := List.mem_append_left _ (List.mem_of_getElem? (i := 144) rfl)
theorem wg_145 : (.code yX15_late cX15_late 1 (some .int) : Cond) ∈ wsG := List.mem_append_left _ (List.mem_of_getElem? (i := 145) rfl)
theorem wg_146 : (.code yX15_events cX15_events 1 (some .int) : Cond) ∈ wsG := List.mem_append_left _ (List.mem_of_getElem? (i := 146) rfl)
theorem wg_147 : (.code yX15_setSpan cX15_setSpan 3 (some .int) : Cond) ∈ wsG := List.mem_append_left _ (List.mem_of_getElem? (i := 147) rfl)
theorem wg_148 : (.fieldLink RX15 94 "MeridianSeriesModel$Store" "span" "I" : Cond) ∈ wsG := List.mem_append_left _ (List.mem_of_getElem? (i := 148) rfl)
theorem wg_149 : (.code yX15_setKeep cX15_setKeep 4 (some .int) : Cond) ∈ wsG := List.mem_append_left _ (List.mem_of_getElem? (i := 149) rfl)
theorem wg_150 : (.fieldLink RX15 112 "MeridianSeriesModel$Store" "keep" "I" : Cond) ∈ wsG := List.mem_append_left _ (List.mem_of_getElem? (i := 150) rfl)
theorem wg_151 : (.fieldLink RX15 115 "MeridianSeriesModel$Store" "longKeep" "I" : Cond) ∈ wsG := List.mem_append_left _ (List.mem_of_getElem? (i := 151) rfl)
theorem wg_152 : (.constant RX15 118 (99999) : Cond) ∈ wsG := List.mem_append_left _ (List.mem_of_getElem? (i := 152) rfl)
theorem wg_153 : (.code yX15_setQuery cX15_setQuery 6 (some .int) : Cond) ∈ wsG := List.mem_append_left _ (List.mem_of_getElem? (i := 153) rfl)
theorem wg_154 : (.fieldLink RX15 57 "MeridianSeriesModel" "step" "I" : Cond) ∈ wsG := List.mem_append_left _ (List.mem_of_getElem? (i := 154) rfl)
theorem wg_155 : (.fieldLink RX15 119 "MeridianSeriesModel" "from" "I" : Cond) ∈ wsG := List.mem_append_left _ (List.mem_of_getElem? (i := 155) rfl)
theorem wg_156 : (.fieldLink RX15 62 "MeridianSeriesModel" "what" "I" : Cond) ∈ wsG := List.mem_append_left _ (List.mem_of_getElem? (i := 156) rfl)
theorem wg_157 : (.fieldLink RX15 122 "MeridianSeriesModel" "fill" "I" : Cond) ∈ wsG := List.mem_append_left _ (List.mem_of_getElem? (i := 157) rfl)
theorem wg_158 : (.code yX15_hasBuckets cX15_hasBuckets 2 (some .boolean) : Cond) ∈ wsG := List.mem_append_left _ (List.mem_of_getElem? (i := 158) rfl)
theorem wg_159 : (.code yX15_setWidths cX15_setWidths 4 (some .int) : Cond) ∈ wsG := List.mem_append_left _ (List.mem_of_getElem? (i := 159) rfl)
theorem wg_160 : (.methodLink RX15 103 yX15_hasBuckets : Cond) ∈ wsG := List.mem_append_left _ (List.mem_of_getElem? (i := 160) rfl)
theorem wg_161 : (.instanceMethod yX15_hasBuckets : Cond) ∈ wsG := List.mem_append_left _ (List.mem_of_getElem? (i := 161) rfl)
theorem wg_162 : (.selects RX15 yX15_hasBuckets yX15_hasBuckets : Cond) ∈ wsG := List.mem_append_left _ (List.mem_of_getElem? (i := 162) rfl)
theorem wg_163 : (.fieldLink RX15 106 "MeridianSeriesModel$Store" "width" "I" : Cond) ∈ wsG := List.mem_append_left _ (List.mem_of_getElem? (i := 163) rfl)
theorem wg_164 : (.fieldLink RX15 109 "MeridianSeriesModel$Store" "fold" "I" : Cond) ∈ wsG := List.mem_append_left _ (List.mem_of_getElem? (i := 164) rfl)
theorem wg_165 : (.fieldLink RX14 60 "MeridianSeriesModel$Store" "now" "I" : Cond) ∈ wsG := List.mem_append_left _ (List.mem_of_getElem? (i := 165) rfl)
theorem wg_166 : (.fieldLink RX14 10 "MeridianSeriesModel$Store" "series" "Ljava/util/ArrayList;" : Cond) ∈ wsG := List.mem_append_left _ (List.mem_of_getElem? (i := 166) rfl)
theorem wg_167 : (.methodLink RX14 33 yJx4a65c_size_8abf5 : Cond) ∈ wsG := List.mem_append_left _ (List.mem_of_getElem? (i := 167) rfl)
theorem wg_168 : (.fieldLink RX14 16 "MeridianSeriesModel$Store" "rules" "Ljava/util/ArrayList;" : Cond) ∈ wsG := List.mem_append_left _ (List.mem_of_getElem? (i := 168) rfl)
theorem wg_169 : (.code yX14_tick cX14_tick 4 none : Cond) ∈ wsG := List.mem_append_left _ (List.mem_of_getElem? (i := 169) rfl)
theorem wg_170 : (.code yX15_goOn cX15_goOn 4 (some .int) : Cond) ∈ wsG := List.mem_append_left _ (List.mem_of_getElem? (i := 170) rfl)
theorem wg_171 : (.methodLink RX15 170 yX14_tick : Cond) ∈ wsG := List.mem_append_left _ (List.mem_of_getElem? (i := 171) rfl)
theorem wg_172 : (.instanceMethod yX14_tick : Cond) ∈ wsG := List.mem_append_left _ (List.mem_of_getElem? (i := 172) rfl)
theorem wg_173 : (.selects RX14 yX14_tick yX14_tick : Cond) ∈ wsG := List.mem_append_left _ (List.mem_of_getElem? (i := 173) rfl)
theorem wg_174 : (.initialized RX14 : Cond) ∈ wsG := List.mem_append_left _ (List.mem_of_getElem? (i := 174) rfl)
theorem wg_175 : (.constantLong RX15 277 (31) : Cond) ∈ wsG := List.mem_append_left _ (List.mem_of_getElem? (i := 175) rfl)
theorem wg_176 : (.code yX15_add cX15_add 4 (some .long) : Cond) ∈ wsG := List.mem_append_left _ (List.mem_of_getElem? (i := 176) rfl)
theorem wg_177 : (.constantLong RX15 282 (58058) : Cond) ∈ wsG := List.mem_append_left _ (List.mem_of_getElem? (i := 177) rfl)
theorem wg_178 : (.methodLink RX15 279 yX15_add : Cond) ∈ wsG := List.mem_append_left _ (List.mem_of_getElem? (i := 178) rfl)
theorem wg_179 : (.static yX15_add : Cond) ∈ wsG := List.mem_append_left _ (List.mem_of_getElem? (i := 179) rfl)
theorem wg_180 : (.code yX15_digest cX15_digest 7 (some .long) : Cond) ∈ wsG := List.mem_append_left _ (List.mem_of_getElem? (i := 180) rfl)
theorem wg_181 : (.code yX15_over cX15_over 11 (some .int) : Cond) ∈ wsG := List.mem_append_left _ (List.mem_of_getElem? (i := 181) rfl)
theorem wg_182 : (.constant RX15 220 (2147483647) : Cond) ∈ wsG := List.mem_append_left _ (List.mem_of_getElem? (i := 182) rfl)
theorem wg_183 : (.constant RX15 221 (-2147483648) : Cond) ∈ wsG := List.mem_append_left _ (List.mem_of_getElem? (i := 183) rfl)
theorem wg_184 : (.constant RX15 226 (-1000000) : Cond) ∈ wsG := List.mem_append_left _ (List.mem_of_getElem? (i := 184) rfl)
theorem wg_185 : (.code yX9_canGoOn cX9_canGoOn 2 (some .boolean) : Cond) ∈ wsG := List.mem_append_left _ (List.mem_of_getElem? (i := 185) rfl)
theorem wg_186 : (.fieldLink RX8 26 "MeridianSeries$Store" "now" "I" : Cond) ∈ wsG := List.mem_append_left _ (List.mem_of_getElem? (i := 186) rfl)
theorem wg_187 : (.fieldLink RX8 16 "MeridianSeries$Store" "rules" "Ljava/util/ArrayList;" : Cond) ∈ wsG := List.mem_append_left _ (List.mem_of_getElem? (i := 187) rfl)
theorem wg_188 : (.code yX8_goOnByOne cX8_goOnByOne 3 none : Cond) ∈ wsG := List.mem_append_left _ (List.mem_of_getElem? (i := 188) rfl)
theorem wg_189 : (.methodLink RX9 125 yX9_canGoOn : Cond) ∈ wsG := List.mem_append_left _ (List.mem_of_getElem? (i := 189) rfl)
theorem wg_190 : (.instanceMethod yX9_canGoOn : Cond) ∈ wsG := List.mem_append_left _ (List.mem_of_getElem? (i := 190) rfl)
theorem wg_191 : (.selects RX9 yX9_canGoOn yX9_canGoOn : Cond) ∈ wsG := List.mem_append_left _ (List.mem_of_getElem? (i := 191) rfl)
theorem wg_192 : (.code yX9_goOn cX9_goOn 4 (some .int) : Cond) ∈ wsG := List.mem_append_left _ (List.mem_of_getElem? (i := 192) rfl)
theorem wg_193 : (.methodLink RX9 138 yX8_goOnByOne : Cond) ∈ wsG := List.mem_append_left _ (List.mem_of_getElem? (i := 193) rfl)
theorem wg_194 : (.instanceMethod yX8_goOnByOne : Cond) ∈ wsG := List.mem_append_left _ (List.mem_of_getElem? (i := 194) rfl)
theorem wg_195 : (.selects RX8 yX8_goOnByOne yX8_goOnByOne : Cond) ∈ wsG := List.mem_append_left _ (List.mem_of_getElem? (i := 195) rfl)
theorem wg_196 : (.code yX8_copyFrom cX8_copyFrom 3 none : Cond) ∈ wsG := List.mem_append_left _ (List.mem_of_getElem? (i := 196) rfl)
theorem wg_197 : (.code yX9_firesIn cX9_firesIn 4 (some .int) : Cond) ∈ wsG := List.mem_append_left _ (List.mem_of_getElem? (i := 197) rfl)
theorem wg_198 : (.fieldLink RX9 25 "MeridianSeries" "trial" "LMeridianSeries$Store;" : Cond) ∈ wsG := List.mem_append_left _ (List.mem_of_getElem? (i := 198) rfl)
theorem wg_199 : (.methodLink RX9 245 yX8_copyFrom : Cond) ∈ wsG := List.mem_append_left _ (List.mem_of_getElem? (i := 199) rfl)
theorem wg_200 : (.instanceMethod yX8_copyFrom : Cond) ∈ wsG := List.mem_append_left _ (List.mem_of_getElem? (i := 200) rfl)
theorem wg_201 : (.selects RX8 yX8_copyFrom yX8_copyFrom : Cond) ∈ wsG := List.mem_append_left _ (List.mem_of_getElem? (i := 201) rfl)
theorem wg_202 : (.fieldLink RX9 249 "MeridianSeries$EventLog" "firings" "I" : Cond) ∈ wsG := List.mem_append_left _ (List.mem_of_getElem? (i := 202) rfl)
theorem wg_203 : (.code yX9_wouldRoll cX9_wouldRoll 4 (some .int) : Cond) ∈ wsG := List.mem_append_left _ (List.mem_of_getElem? (i := 203) rfl)
theorem wg_204 : (.code yX9_over cX9_over 10 (some .int) : Cond) ∈ wsG := List.mem_append_left _ (List.mem_of_getElem? (i := 204) rfl)
theorem wg_205 : (.constant RX9 200 (-1000000) : Cond) ∈ wsG := List.mem_append_left _ (List.mem_of_getElem? (i := 205) rfl)
theorem wg_206 : (.constantLong RX9 255 (58058) : Cond) ∈ wsG := List.mem_append_left _ (List.mem_of_getElem? (i := 206) rfl)
theorem wg_207 : (.constantLong RX9 257 (31) : Cond) ∈ wsG := List.mem_append_left _ (List.mem_of_getElem? (i := 207) rfl)
theorem wg_208 : (.code yX9_digest cX9_digest 5 (some .long) : Cond) ∈ wsG := List.mem_append_left _ (List.mem_of_getElem? (i := 208) rfl)
theorem wg_209 : (.methodLink RX7 1 objectInit : Cond) ∈ wsG := List.mem_append_left _ (List.mem_of_getElem? (i := 209) rfl)
theorem wg_210 : (.instanceMethod objectInit : Cond) ∈ wsG := List.mem_append_left _ (List.mem_of_getElem? (i := 210) rfl)
theorem wg_211 : (.code objectInit ⟨#[0xb1]⟩ 1 none : Cond) ∈ wsG := List.mem_append_left _ (List.mem_of_getElem? (i := 211) rfl)
theorem wg_212 : (.fieldLink RX7 7 "MeridianSeries$Settings" "span" "I" : Cond) ∈ wsG := List.mem_append_left _ (List.mem_of_getElem? (i := 212) rfl)
theorem wg_213 : (.fieldLink RX7 13 "MeridianSeries$Settings" "width" "I" : Cond) ∈ wsG := List.mem_append_left _ (List.mem_of_getElem? (i := 213) rfl)
theorem wg_214 : (.fieldLink RX7 16 "MeridianSeries$Settings" "fold" "I" : Cond) ∈ wsG := List.mem_append_left _ (List.mem_of_getElem? (i := 214) rfl)
theorem wg_215 : (.fieldLink RX7 19 "MeridianSeries$Settings" "keep" "I" : Cond) ∈ wsG := List.mem_append_left _ (List.mem_of_getElem? (i := 215) rfl)
theorem wg_216 : (.fieldLink RX7 22 "MeridianSeries$Settings" "longKeep" "I" : Cond) ∈ wsG := List.mem_append_left _ (List.mem_of_getElem? (i := 216) rfl)
theorem wg_217 : (.code yX7_init cX7_init 1 none : Cond) ∈ wsG := List.mem_append_left _ (List.mem_of_getElem? (i := 217) rfl)
theorem wg_218 : (.methodLink RX2 1 objectInit : Cond) ∈ wsG := List.mem_append_left _ (List.mem_of_getElem? (i := 218) rfl)
theorem wg_219 : (.fieldLink RX2 7 "MeridianSeries$Items" "amount" "I" : Cond) ∈ wsG := List.mem_append_left _ (List.mem_of_getElem? (i := 219) rfl)
theorem wg_220 : (.code yX2_init cX2_init 1 none : Cond) ∈ wsG := List.mem_append_left _ (List.mem_of_getElem? (i := 220) rfl)
theorem wg_221 : (.initialized RX2 : Cond) ∈ wsG := List.mem_append_left _ (List.mem_of_getElem? (i := 221) rfl)
theorem wg_222 : (.instanceMethod yX2_init : Cond) ∈ wsG := List.mem_append_left _ (List.mem_of_getElem? (i := 222) rfl)
theorem wg_223 : (.arrayClass .int : Cond) ∈ wsG := List.mem_append_left _ (List.mem_of_getElem? (i := 223) rfl)
theorem wg_224 : (.fieldLink RX0 11 "MeridianSeries$Buckets" "cells" "[I" : Cond) ∈ wsG := List.mem_append_left _ (List.mem_of_getElem? (i := 224) rfl)
theorem wg_225 : (.code yX0_init cX0_init 1 none : Cond) ∈ wsG := List.mem_append_left _ (List.mem_of_getElem? (i := 225) rfl)
theorem wg_226 : (.fieldLink RX4 11 "MeridianSeries$Points" "times" "[I" : Cond) ∈ wsG := List.mem_append_left _ (List.mem_of_getElem? (i := 226) rfl)
theorem wg_227 : (.fieldLink RX4 15 "MeridianSeries$Points" "values" "[I" : Cond) ∈ wsG := List.mem_append_left _ (List.mem_of_getElem? (i := 227) rfl)
theorem wg_228 : (.fieldLink RX4 18 "MeridianSeries$Points" "sizes" "[I" : Cond) ∈ wsG := List.mem_append_left _ (List.mem_of_getElem? (i := 228) rfl)
theorem wg_229 : (.fieldLink RX4 21 "MeridianSeries$Points" "sealedBlocks" "I" : Cond) ∈ wsG := List.mem_append_left _ (List.mem_of_getElem? (i := 229) rfl)
theorem wg_230 : (.fieldLink RX4 25 "MeridianSeries$Points" "sealedPoints" "I" : Cond) ∈ wsG := List.mem_append_left _ (List.mem_of_getElem? (i := 230) rfl)
theorem wg_231 : (.fieldLink RX4 28 "MeridianSeries$Points" "greatestSealedTime" "I" : Cond) ∈ wsG := List.mem_append_left _ (List.mem_of_getElem? (i := 231) rfl)
theorem wg_232 : (.code yX4_init cX4_init 1 none : Cond) ∈ wsG := List.mem_append_left _ (List.mem_of_getElem? (i := 232) rfl)
theorem wg_233 : (.methodLink RX1 3 objectInit : Cond) ∈ wsG := List.mem_append_left _ (List.mem_of_getElem? (i := 233) rfl)
theorem wg_234 : (.fieldLink RX1 9 "MeridianSeries$EventLog" "cells" "[I" : Cond) ∈ wsG := List.mem_append_left _ (List.mem_of_getElem? (i := 234) rfl)
theorem wg_235 : (.fieldLink RX1 15 "MeridianSeries$EventLog" "total" "I" : Cond) ∈ wsG := List.mem_append_left _ (List.mem_of_getElem? (i := 235) rfl)
theorem wg_236 : (.fieldLink RX1 19 "MeridianSeries$EventLog" "firings" "I" : Cond) ∈ wsG := List.mem_append_left _ (List.mem_of_getElem? (i := 236) rfl)
theorem wg_237 : (.code yX1_init cX1_init 1 none : Cond) ∈ wsG := List.mem_append_left _ (List.mem_of_getElem? (i := 237) rfl)
theorem wg_238 : (.methodLink RX3 3 objectInit : Cond) ∈ wsG := List.mem_append_left _ (List.mem_of_getElem? (i := 238) rfl)
theorem wg_239 : (.fieldLink RX3 11 "MeridianSeries$Packer" "words" "[I" : Cond) ∈ wsG := List.mem_append_left _ (List.mem_of_getElem? (i := 239) rfl)
theorem wg_240 : (.fieldLink RX3 15 "MeridianSeries$Packer" "length" "I" : Cond) ∈ wsG := List.mem_append_left _ (List.mem_of_getElem? (i := 240) rfl)
theorem wg_241 : (.fieldLink RX3 19 "MeridianSeries$Packer" "packed" "I" : Cond) ∈ wsG := List.mem_append_left _ (List.mem_of_getElem? (i := 241) rfl)
theorem wg_242 : (.fieldLink RX3 22 "MeridianSeries$Packer" "lastTime" "I" : Cond) ∈ wsG := List.mem_append_left _ (List.mem_of_getElem? (i := 242) rfl)
theorem wg_243 : (.fieldLink RX3 25 "MeridianSeries$Packer" "lastStep" "I" : Cond) ∈ wsG := List.mem_append_left _ (List.mem_of_getElem? (i := 243) rfl)
theorem wg_244 : (.fieldLink RX3 28 "MeridianSeries$Packer" "lastValue" "I" : Cond) ∈ wsG := List.mem_append_left _ (List.mem_of_getElem? (i := 244) rfl)
theorem wg_245 : (.code yX3_init cX3_init 1 none : Cond) ∈ wsG := List.mem_append_left _ (List.mem_of_getElem? (i := 245) rfl)
theorem wg_246 : (.methodLink RX6 3 objectInit : Cond) ∈ wsG := List.mem_append_left _ (List.mem_of_getElem? (i := 246) rfl)
theorem wg_247 : (.classLink RX6 9 RX4 : Cond) ∈ wsG := List.mem_append_left _ (List.mem_of_getElem? (i := 247) rfl)
theorem wg_248 : (.instantiable RX4 7 : Cond) ∈ wsG := List.mem_append_left _ (List.mem_of_getElem? (i := 248) rfl)
theorem wg_249 : (.initialized RX4 : Cond) ∈ wsG := List.mem_append_left _ (List.mem_of_getElem? (i := 249) rfl)
theorem wg_250 : (.instanceMethod yX4_init : Cond) ∈ wsG := List.mem_append_left _ (List.mem_of_getElem? (i := 250) rfl)
theorem wg_251 : (.fieldLink RX6 12 "MeridianSeries$Series" "points" "LMeridianSeries$Points;" : Cond) ∈ wsG := List.mem_append_left _ (List.mem_of_getElem? (i := 251) rfl)
theorem wg_252 : (.classLink RX6 18 RX0 : Cond) ∈ wsG := List.mem_append_left _ (List.mem_of_getElem? (i := 252) rfl)
theorem wg_253 : (.instantiable RX0 2 : Cond) ∈ wsG := List.mem_append_left _ (List.mem_of_getElem? (i := 253) rfl)
theorem wg_254 : (.initialized RX0 : Cond) ∈ wsG := List.mem_append_left _ (List.mem_of_getElem? (i := 254) rfl)
theorem wg_255 : (.instanceMethod yX0_init : Cond) ∈ wsG := List.mem_append_left _ (List.mem_of_getElem? (i := 255) rfl)
theorem wg_256 : (.fieldLink RX6 21 "MeridianSeries$Series" "fine" "LMeridianSeries$Buckets;" : Cond) ∈ wsG := List.mem_append_left _ (List.mem_of_getElem? (i := 256) rfl)
theorem wg_257 : (.fieldLink RX6 25 "MeridianSeries$Series" "coarse" "LMeridianSeries$Buckets;" : Cond) ∈ wsG := List.mem_append_left _ (List.mem_of_getElem? (i := 257) rfl)
theorem wg_258 : (.fieldLink RX6 28 "MeridianSeries$Series" "one" "I" : Cond) ∈ wsG := List.mem_append_left _ (List.mem_of_getElem? (i := 258) rfl)
theorem wg_259 : (.fieldLink RX6 32 "MeridianSeries$Series" "other" "I" : Cond) ∈ wsG := List.mem_append_left _ (List.mem_of_getElem? (i := 259) rfl)
theorem wg_260 : (.code yX6_init cX6_init 3 none : Cond) ∈ wsG := List.mem_append_left _ (List.mem_of_getElem? (i := 260) rfl)
theorem wg_261 : (.methodLink RJxa1e45 1 objectInit : Cond) ∈ wsG := List.mem_append_left _ (List.mem_of_getElem? (i := 261) rfl)
theorem wg_262 : (.code yJxa1e45_init_da8c8 cJxa1e45_init_da8c8 1 none : Cond) ∈ wsG := List.mem_append_left _ (List.mem_of_getElem? (i := 262) rfl)
theorem wg_263 : (.initialized RJxa1e45 : Cond) ∈ wsG := List.mem_append_left _ (List.mem_of_getElem? (i := 263) rfl)
theorem wg_264 : (.methodLink RJxc12de 1 yJxa1e45_init_da8c8 : Cond) ∈ wsG := List.mem_append_left _ (List.mem_of_getElem? (i := 264) rfl)
theorem wg_265 : (.instanceMethod yJxa1e45_init_da8c8 : Cond) ∈ wsG := List.mem_append_left _ (List.mem_of_getElem? (i := 265) rfl)
theorem wg_266 : (.fieldLink RJxc12de 7 "java/util/AbstractList" "modCount" "I" : Cond) ∈ wsG := List.mem_append_left _ (List.mem_of_getElem? (i := 266) rfl)
theorem wg_267 : (.code yJxc12de_init_da8c8 cJxc12de_init_da8c8 1 none : Cond) ∈ wsG := List.mem_append_left _ (List.mem_of_getElem? (i := 267) rfl)
theorem wg_268 : (.initialized RJxc12de : Cond) ∈ wsG := List.mem_append_left _ (List.mem_of_getElem? (i := 268) rfl)
theorem wg_269 : (.methodLink RJx4a65c 1 yJxc12de_init_da8c8 : Cond) ∈ wsG := List.mem_append_left _ (List.mem_of_getElem? (i := 269) rfl)
theorem wg_270 : (.instanceMethod yJxc12de_init_da8c8 : Cond) ∈ wsG := List.mem_append_left _ (List.mem_of_getElem? (i := 270) rfl)
theorem wg_271 : (.fieldLink RJx4a65c 39 "java/util/ArrayList" "DEFAULTCAPACITY_EMPTY_ELEMENTDATA" "[Ljava/lang/Object;" : Cond) ∈ wsG := List.mem_append_left _ (List.mem_of_getElem? (i := 271) rfl)
theorem wg_272 : (.fieldLink RJx4a65c 9 "java/util/ArrayList" "elementData" "[Ljava/lang/Object;" : Cond) ∈ wsG := List.mem_append_left _ (List.mem_of_getElem? (i := 272) rfl)
theorem wg_273 : (.code yJx4a65c_init_da8c8 cJx4a65c_init_da8c8 1 none : Cond) ∈ wsG := List.mem_append_left _ (List.mem_of_getElem? (i := 273) rfl)
theorem wg_274 : (.methodLink RJx4a65c 79 Lib.Math.max.name : Cond) ∈ wsG := List.mem_append_left _ (List.mem_of_getElem? (i := 274) rfl)
theorem wg_275 : (.static Lib.Math.max.name : Cond) ∈ wsG := List.mem_append_left _ (List.mem_of_getElem? (i := 275) rfl)
theorem wg_276 : (.code Lib.Math.max.name Lib.Math.max.code 2 (some .int) : Cond) ∈ wsG := List.mem_append_left _ (List.mem_of_getElem? (i := 276) rfl)
theorem wg_277 : (.classLink RJx4a65c 7 "java/lang/Object" : Cond) ∈ wsG := List.mem_append_left _ (List.mem_of_getElem? (i := 277) rfl)
theorem wg_278 : (.code yJx4a65c_grow_92f84 cJx4a65c_grow_92f84 4 (some (.array (.object "java/lang/Object"))) : Cond) ∈ wsG := List.mem_append_left _ (List.mem_of_getElem? (i := 278) rfl)
theorem wg_279 : (.methodLink RJx4a65c 69 yJx4a65c_grow_92f84 : Cond) ∈ wsG := List.mem_append_left _ (List.mem_of_getElem? (i := 279) rfl)
theorem wg_280 : (.instanceMethod yJx4a65c_grow_92f84 : Cond) ∈ wsG := List.mem_append_left _ (List.mem_of_getElem? (i := 280) rfl)
theorem wg_281 : (.selects RJx4a65c yJx4a65c_grow_92f84 yJx4a65c_grow_92f84 : Cond) ∈ wsG := List.mem_append_left _ (List.mem_of_getElem? (i := 281) rfl)
theorem wg_282 : (.code yJx4a65c_grow_d5877 cJx4a65c_grow_d5877 1 (some (.array (.object "java/lang/Object"))) : Cond) ∈ wsG := List.mem_append_left _ (List.mem_of_getElem? (i := 282) rfl)
theorem wg_283 : (.methodLink RJx4a65c 129 yJx4a65c_grow_d5877 : Cond) ∈ wsG := List.mem_append_left _ (List.mem_of_getElem? (i := 283) rfl)
theorem wg_284 : (.instanceMethod yJx4a65c_grow_d5877 : Cond) ∈ wsG := List.mem_append_left _ (List.mem_of_getElem? (i := 284) rfl)
theorem wg_285 : (.selects RJx4a65c yJx4a65c_grow_d5877 yJx4a65c_grow_d5877 : Cond) ∈ wsG := List.mem_append_left _ (List.mem_of_getElem? (i := 285) rfl)
theorem wg_286 : (.code yJx4a65c_add_72be8 cJx4a65c_add_72be8 4 none : Cond) ∈ wsG := List.mem_append_left _ (List.mem_of_getElem? (i := 286) rfl)
theorem wg_287 : (.fieldLink RJx4a65c 63 "java/util/ArrayList" "modCount" "I" : Cond) ∈ wsG := List.mem_append_left _ (List.mem_of_getElem? (i := 287) rfl)
theorem wg_288 : (.sameField "java/util/ArrayList" "java/util/AbstractList" "modCount" "I" : Cond) ∈ wsG := List.mem_append_left _ (List.mem_of_getElem? (i := 288) rfl)
theorem wg_289 : (.methodLink RJx4a65c 131 yJx4a65c_add_72be8 : Cond) ∈ wsG := List.mem_append_left _ (List.mem_of_getElem? (i := 289) rfl)
theorem wg_290 : (.instanceMethod yJx4a65c_add_72be8 : Cond) ∈ wsG := List.mem_append_left _ (List.mem_of_getElem? (i := 290) rfl)
theorem wg_291 : (.selects RJx4a65c yJx4a65c_add_72be8 yJx4a65c_add_72be8 : Cond) ∈ wsG := List.mem_append_left _ (List.mem_of_getElem? (i := 291) rfl)
theorem wg_292 : (.code yJx4a65c_add_9ea2d cJx4a65c_add_9ea2d 2 (some .boolean) : Cond) ∈ wsG := List.mem_append_left _ (List.mem_of_getElem? (i := 292) rfl)
theorem wg_293 : (.code yX9_addSeries cX9_addSeries 4 (some .int) : Cond) ∈ wsG := List.mem_append_left _ (List.mem_of_getElem? (i := 293) rfl)
theorem wg_294 : (.classLink RX9 72 RX6 : Cond) ∈ wsG := List.mem_append_left _ (List.mem_of_getElem? (i := 294) rfl)
theorem wg_295 : (.instantiable RX6 5 : Cond) ∈ wsG := List.mem_append_left _ (List.mem_of_getElem? (i := 295) rfl)
theorem wg_296 : (.initialized RX6 : Cond) ∈ wsG := List.mem_append_left _ (List.mem_of_getElem? (i := 296) rfl)
theorem wg_297 : (.methodLink RX9 74 yX6_init : Cond) ∈ wsG := List.mem_append_left _ (List.mem_of_getElem? (i := 297) rfl)
theorem wg_298 : (.instanceMethod yX6_init : Cond) ∈ wsG := List.mem_append_left _ (List.mem_of_getElem? (i := 298) rfl)
theorem wg_299 : (.methodLink RX9 77 yJx4a65c_add_9ea2d : Cond) ∈ wsG := List.mem_append_left _ (List.mem_of_getElem? (i := 299) rfl)
theorem wg_300 : (.instanceMethod yJx4a65c_add_9ea2d : Cond) ∈ wsG := List.mem_append_left _ (List.mem_of_getElem? (i := 300) rfl)
theorem wg_301 : (.selects RJx4a65c yJx4a65c_add_9ea2d yJx4a65c_add_9ea2d : Cond) ∈ wsG := List.mem_append_left _ (List.mem_of_getElem? (i := 301) rfl)
theorem wg_302 : (.methodLink RX8 1 objectInit : Cond) ∈ wsG := List.mem_append_left _ (List.mem_of_getElem? (i := 302) rfl)
theorem wg_303 : (.classLink RX8 7 RJx4a65c : Cond) ∈ wsG := List.mem_append_left _ (List.mem_of_getElem? (i := 303) rfl)
theorem wg_304 : (.instantiable RJx4a65c 3 : Cond) ∈ wsG := List.mem_append_left _ (List.mem_of_getElem? (i := 304) rfl)
theorem wg_305 : (.methodLink RX8 9 yJx4a65c_init_da8c8 : Cond) ∈ wsG := List.mem_append_left _ (List.mem_of_getElem? (i := 305) rfl)
theorem wg_306 : (.instanceMethod yJx4a65c_init_da8c8 : Cond) ∈ wsG := List.mem_append_left _ (List.mem_of_getElem? (i := 306) rfl)
theorem wg_307 : (.classLink RX8 19 RX1 : Cond) ∈ wsG := List.mem_append_left _ (List.mem_of_getElem? (i := 307) rfl)
theorem wg_308 : (.instantiable RX1 3 : Cond) ∈ wsG := List.mem_append_left _ (List.mem_of_getElem? (i := 308) rfl)
theorem wg_309 : (.initialized RX1 : Cond) ∈ wsG := List.mem_append_left _ (List.mem_of_getElem? (i := 309) rfl)
theorem wg_310 : (.instanceMethod yX1_init : Cond) ∈ wsG := List.mem_append_left _ (List.mem_of_getElem? (i := 310) rfl)
theorem wg_311 : (.fieldLink RX8 22 "MeridianSeries$Store" "log" "LMeridianSeries$EventLog;" : Cond) ∈ wsG := List.mem_append_left _ (List.mem_of_getElem? (i := 311) rfl)
theorem wg_312 : (.fieldLink RX8 30 "MeridianSeries$Store" "settings" "LMeridianSeries$Settings;" : Cond) ∈ wsG := List.mem_append_left _ (List.mem_of_getElem? (i := 312) rfl)
theorem wg_313 : (.code yX8_init cX8_init 2 none : Cond) ∈ wsG := List.mem_append_left _ (List.mem_of_getElem? (i := 313) rfl)
theorem wg_314 : (.methodLink RX9 1 objectInit : Cond) ∈ wsG := List.mem_append_left _ (List.mem_of_getElem? (i := 314) rfl)
theorem wg_315 : (.classLink RX9 7 RX7 : Cond) ∈ wsG := List.mem_append_left _ (List.mem_of_getElem? (i := 315) rfl)
theorem wg_316 : (.instantiable RX7 5 : Cond) ∈ wsG := List.mem_append_left _ (List.mem_of_getElem? (i := 316) rfl)
theorem wg_317 : (.initialized RX7 : Cond) ∈ wsG := List.mem_append_left _ (List.mem_of_getElem? (i := 317) rfl)
theorem wg_318 : (.instanceMethod yX7_init : Cond) ∈ wsG := List.mem_append_left _ (List.mem_of_getElem? (i := 318) rfl)
theorem wg_319 : (.classLink RX9 16 RX8 : Cond) ∈ wsG := List.mem_append_left _ (List.mem_of_getElem? (i := 319) rfl)
theorem wg_320 : (.instantiable RX8 5 : Cond) ∈ wsG := List.mem_append_left _ (List.mem_of_getElem? (i := 320) rfl)
theorem wg_321 : (.methodLink RX9 18 yX8_init : Cond) ∈ wsG := List.mem_append_left _ (List.mem_of_getElem? (i := 321) rfl)
theorem wg_322 : (.instanceMethod yX8_init : Cond) ∈ wsG := List.mem_append_left _ (List.mem_of_getElem? (i := 322) rfl)
theorem wg_323 : (.classLink RX9 28 RX3 : Cond) ∈ wsG := List.mem_append_left _ (List.mem_of_getElem? (i := 323) rfl)
theorem wg_324 : (.instantiable RX3 6 : Cond) ∈ wsG := List.mem_append_left _ (List.mem_of_getElem? (i := 324) rfl)
theorem wg_325 : (.initialized RX3 : Cond) ∈ wsG := List.mem_append_left _ (List.mem_of_getElem? (i := 325) rfl)
theorem wg_326 : (.instanceMethod yX3_init : Cond) ∈ wsG := List.mem_append_left _ (List.mem_of_getElem? (i := 326) rfl)
theorem wg_327 : (.fieldLink RX9 31 "MeridianSeries" "packer" "LMeridianSeries$Packer;" : Cond) ∈ wsG := List.mem_append_left _ (List.mem_of_getElem? (i := 327) rfl)
theorem wg_328 : (.code yX9_init cX9_init 1 none : Cond) ∈ wsG := List.mem_append_left _ (List.mem_of_getElem? (i := 328) rfl)
theorem wg_329 : (.methodLink RX13 3 objectInit : Cond) ∈ wsG := List.mem_append_left _ (List.mem_of_getElem? (i := 329) rfl)
theorem wg_330 : (.classLink RX13 9 RJx4a65c : Cond) ∈ wsG := List.mem_append_left _ (List.mem_of_getElem? (i := 330) rfl)
theorem wg_331 : (.methodLink RX13 11 yJx4a65c_init_da8c8 : Cond) ∈ wsG := List.mem_append_left _ (List.mem_of_getElem? (i := 331) rfl)
theorem wg_332 : (.fieldLink RX13 12 "MeridianSeriesModel$Series" "blocks" "Ljava/util/ArrayList;" : Cond) ∈ wsG := List.mem_append_left _ (List.mem_of_getElem? (i := 332) rfl)
theorem wg_333 : (.fieldLink RX13 18 "MeridianSeriesModel$Series" "fine" "Ljava/util/ArrayList;" : Cond) ∈ wsG := List.mem_append_left _ (List.mem_of_getElem? (i := 333) rfl)
theorem wg_334 : (.fieldLink RX13 21 "MeridianSeriesModel$Series" "coarse" "Ljava/util/ArrayList;" : Cond) ∈ wsG := List.mem_append_left _ (List.mem_of_getElem? (i := 334) rfl)
theorem wg_335 : (.fieldLink RX13 24 "MeridianSeriesModel$Series" "sealedTo" "I" : Cond) ∈ wsG := List.mem_append_left _ (List.mem_of_getElem? (i := 335) rfl)
theorem wg_336 : (.fieldLink RX13 28 "MeridianSeriesModel$Series" "labels" "[I" : Cond) ∈ wsG := List.mem_append_left _ (List.mem_of_getElem? (i := 336) rfl)
theorem wg_337 : (.methodLink RX13 32 yJx4a65c_add_9ea2d : Cond) ∈ wsG := List.mem_append_left _ (List.mem_of_getElem? (i := 337) rfl)
theorem wg_338 : (.code yX13_init cX13_init 3 none : Cond) ∈ wsG := List.mem_append_left _ (List.mem_of_getElem? (i := 338) rfl)
theorem wg_339 : (.methodLink RX14 1 objectInit : Cond) ∈ wsG := List.mem_append_left _ (List.mem_of_getElem? (i := 339) rfl)
theorem wg_340 : (.classLink RX14 7 RJx4a65c : Cond) ∈ wsG := List.mem_append_left _ (List.mem_of_getElem? (i := 340) rfl)
theorem wg_341 : (.methodLink RX14 9 yJx4a65c_init_da8c8 : Cond) ∈ wsG := List.mem_append_left _ (List.mem_of_getElem? (i := 341) rfl)
theorem wg_342 : (.fieldLink RX14 19 "MeridianSeriesModel$Store" "events" "Ljava/util/ArrayList;" : Cond) ∈ wsG := List.mem_append_left _ (List.mem_of_getElem? (i := 342) rfl)
theorem wg_343 : (.fieldLink RX14 22 "MeridianSeriesModel$Store" "span" "I" : Cond) ∈ wsG := List.mem_append_left _ (List.mem_of_getElem? (i := 343) rfl)
theorem wg_344 : (.fieldLink RX14 26 "MeridianSeriesModel$Store" "width" "I" : Cond) ∈ wsG := List.mem_append_left _ (List.mem_of_getElem? (i := 344) rfl)
theorem wg_345 : (.fieldLink RX14 29 "MeridianSeriesModel$Store" "fold" "I" : Cond) ∈ wsG := List.mem_append_left _ (List.mem_of_getElem? (i := 345) rfl)
theorem wg_346 : (.code yX14_init cX14_init 1 none : Cond) ∈ wsG := List.mem_append_left _ (List.mem_of_getElem? (i := 346) rfl)
theorem wg_347 : (.methodLink RX15 54 objectInit : Cond) ∈ wsG := List.mem_append_left _ (List.mem_of_getElem? (i := 347) rfl)
theorem wg_348 : (.classLink RX15 65 RX14 : Cond) ∈ wsG := List.mem_append_left _ (List.mem_of_getElem? (i := 348) rfl)
theorem wg_349 : (.instantiable RX14 9 : Cond) ∈ wsG := List.mem_append_left _ (List.mem_of_getElem? (i := 349) rfl)
theorem wg_350 : (.instanceMethod yX14_init : Cond) ∈ wsG := List.mem_append_left _ (List.mem_of_getElem? (i := 350) rfl)
theorem wg_351 : (.code yX15_init cX15_init 1 none : Cond) ∈ wsG := List.mem_append_left _ (List.mem_of_getElem? (i := 351) rfl)
theorem wg_352 : (.code yX15_addSeries cX15_addSeries 3 (some .int) : Cond) ∈ wsG := List.mem_append_left _ (List.mem_of_getElem? (i := 352) rfl)
theorem wg_353 : (.classLink RX15 90 RX13 : Cond) ∈ wsG := List.mem_append_left _ (List.mem_of_getElem? (i := 353) rfl)
theorem wg_354 : (.instantiable RX13 5 : Cond) ∈ wsG := List.mem_append_left _ (List.mem_of_getElem? (i := 354) rfl)
theorem wg_355 : (.initialized RX13 : Cond) ∈ wsG := List.mem_append_left _ (List.mem_of_getElem? (i := 355) rfl)
theorem wg_356 : (.methodLink RX15 92 yX13_init : Cond) ∈ wsG := List.mem_append_left _ (List.mem_of_getElem? (i := 356) rfl)
theorem wg_357 : (.instanceMethod yX13_init : Cond) ∈ wsG := List.mem_append_left _ (List.mem_of_getElem? (i := 357) rfl)
theorem wg_358 : (.methodLink RX15 42 yJx4a65c_add_9ea2d : Cond) ∈ wsG := List.mem_append_left _ (List.mem_of_getElem? (i := 358) rfl)
theorem wg_359 : (.methodLink RL 7 yX9_addSeries : Cond) ∈ wsG := List.mem_append_left _ (List.mem_of_getElem? (i := 359) rfl)
theorem wg_360 : (.instanceMethod yX9_addSeries : Cond) ∈ wsG := List.mem_append_left _ (List.mem_of_getElem? (i := 360) rfl)
theorem wg_361 : (.selects RX9 yX9_addSeries yX9_addSeries : Cond) ∈ wsG := List.mem_append_left _ (List.mem_of_getElem? (i := 361) rfl)
theorem wg_362 : (.classLink RL 13 "java/lang/IllegalArgumentException" : Cond) ∈ wsG := List.mem_append_left _ (List.mem_of_getElem? (i := 362) rfl)
theorem wg_363 : (.codeWith yL_addSeries cL_addSeries 5 (some .int) [(0, 10, 13, 13), (0, 10, 17, 15)] : Cond) ∈ wsG := List.mem_append_left _ (List.mem_of_getElem? (i := 363) rfl)
theorem wg_364 : (.methodLink RL 17 yX9_setSpan : Cond) ∈ wsG := List.mem_append_left _ (List.mem_of_getElem? (i := 364) rfl)
theorem wg_365 : (.instanceMethod yX9_setSpan : Cond) ∈ wsG := List.mem_append_left _ (List.mem_of_getElem? (i := 365) rfl)
theorem wg_366 : (.selects RX9 yX9_setSpan yX9_setSpan : Cond) ∈ wsG := List.mem_append_left _ (List.mem_of_getElem? (i := 366) rfl)
theorem wg_367 : (.codeWith yL_setSpan cL_setSpan 4 (some .int) [(0, 9, 12, 13)] : Cond) ∈ wsG := List.mem_append_left _ (List.mem_of_getElem? (i := 367) rfl)
theorem wg_368 : (.methodLink RL 21 yX9_setWidths : Cond) ∈ wsG := List.mem_append_left _ (List.mem_of_getElem? (i := 368) rfl)
theorem wg_369 : (.instanceMethod yX9_setWidths : Cond) ∈ wsG := List.mem_append_left _ (List.mem_of_getElem? (i := 369) rfl)
theorem wg_370 : (.selects RX9 yX9_setWidths yX9_setWidths : Cond) ∈ wsG := List.mem_append_left _ (List.mem_of_getElem? (i := 370) rfl)
theorem wg_371 : (.codeWith yL_setWidths cL_setWidths 5 (some .int) [(0, 10, 13, 13), (0, 10, 17, 15)] : Cond) ∈ wsG := List.mem_append_left _ (List.mem_of_getElem? (i := 371) rfl)
theorem wg_372 : (.methodLink RL 24 yX9_setKeep : Cond) ∈ wsG := List.mem_append_left _ (List.mem_of_getElem? (i := 372) rfl)
theorem wg_373 : (.instanceMethod yX9_setKeep : Cond) ∈ wsG := List.mem_append_left _ (List.mem_of_getElem? (i := 373) rfl)
theorem wg_374 : (.selects RX9 yX9_setKeep yX9_setKeep : Cond) ∈ wsG := List.mem_append_left _ (List.mem_of_getElem? (i := 374) rfl)
theorem wg_375 : (.codeWith yL_setKeep cL_setKeep 5 (some .int) [(0, 10, 13, 13)] : Cond) ∈ wsG := List.mem_append_left _ (List.mem_of_getElem? (i := 375) rfl)
theorem wg_376 : (.methodLink RL 27 yX9_setQuery : Cond) ∈ wsG := List.mem_append_left _ (List.mem_of_getElem? (i := 376) rfl)
theorem wg_377 : (.instanceMethod yX9_setQuery : Cond) ∈ wsG := List.mem_append_left _ (List.mem_of_getElem? (i := 377) rfl)
theorem wg_378 : (.selects RX9 yX9_setQuery yX9_setQuery : Cond) ∈ wsG := List.mem_append_left _ (List.mem_of_getElem? (i := 378) rfl)
theorem wg_379 : (.codeWith yL_setQuery cL_setQuery 7 (some .int) [(0, 14, 17, 13)] : Cond) ∈ wsG := List.mem_append_left _ (List.mem_of_getElem? (i := 379) rfl)
theorem wg_380 : (.methodLink RL 41 yX9_goOn : Cond) ∈ wsG := List.mem_append_left _ (List.mem_of_getElem? (i := 380) rfl)
theorem wg_381 : (.instanceMethod yX9_goOn : Cond) ∈ wsG := List.mem_append_left _ (List.mem_of_getElem? (i := 381) rfl)
theorem wg_382 : (.selects RX9 yX9_goOn yX9_goOn : Cond) ∈ wsG := List.mem_append_left _ (List.mem_of_getElem? (i := 382) rfl)
theorem wg_383 : (.codeWith yL_goOn cL_goOn 4 (some .int) [(0, 9, 12, 13)] : Cond) ∈ wsG := List.mem_append_left _ (List.mem_of_getElem? (i := 383) rfl)
theorem wg_384 : (.methodLink RL 74 yX9_over : Cond) ∈ wsG := List.mem_append_left _ (List.mem_of_getElem? (i := 384) rfl)
theorem wg_385 : (.instanceMethod yX9_over : Cond) ∈ wsG := List.mem_append_left _ (List.mem_of_getElem? (i := 385) rfl)
theorem wg_386 : (.selects RX9 yX9_over yX9_over : Cond) ∈ wsG := List.mem_append_left _ (List.mem_of_getElem? (i := 386) rfl)
theorem wg_387 : (.codeWith yL_over cL_over 7 (some .int) [(0, 14, 17, 13)] : Cond) ∈ wsG := List.mem_append_left _ (List.mem_of_getElem? (i := 387) rfl)
theorem wg_388 : (.methodLink RL 103 yX9_firesIn : Cond) ∈ wsG := List.mem_append_left _ (List.mem_of_getElem? (i := 388) rfl)
theorem wg_389 : (.instanceMethod yX9_firesIn : Cond) ∈ wsG := List.mem_append_left _ (List.mem_of_getElem? (i := 389) rfl)
theorem wg_390 : (.selects RX9 yX9_firesIn yX9_firesIn : Cond) ∈ wsG := List.mem_append_left _ (List.mem_of_getElem? (i := 390) rfl)
theorem wg_391 : (.codeWith yL_firesIn cL_firesIn 4 (some .int) [(0, 9, 12, 13)] : Cond) ∈ wsG := List.mem_append_left _ (List.mem_of_getElem? (i := 391) rfl)
theorem wg_392 : (.methodLink RL 106 yX9_wouldRoll : Cond) ∈ wsG := List.mem_append_left _ (List.mem_of_getElem? (i := 392) rfl)
theorem wg_393 : (.instanceMethod yX9_wouldRoll : Cond) ∈ wsG := List.mem_append_left _ (List.mem_of_getElem? (i := 393) rfl)
theorem wg_394 : (.selects RX9 yX9_wouldRoll yX9_wouldRoll : Cond) ∈ wsG := List.mem_append_left _ (List.mem_of_getElem? (i := 394) rfl)
theorem wg_395 : (.codeWith yL_wouldRoll cL_wouldRoll 4 (some .int) [(0, 9, 12, 13)] : Cond) ∈ wsG := List.mem_append_left _ (List.mem_of_getElem? (i := 395) rfl)
theorem wg_396 : (.methodLink RL 31 yX9_put : Cond) ∈ wsG := List.mem_append_left _ (List.mem_of_getElem? (i := 396) rfl)
theorem wg_397 : (.instanceMethod yX9_put : Cond) ∈ wsG := List.mem_append_left _ (List.mem_of_getElem? (i := 397) rfl)
theorem wg_398 : (.selects RX9 yX9_put yX9_put : Cond) ∈ wsG := List.mem_append_left _ (List.mem_of_getElem? (i := 398) rfl)
theorem wg_399 : (.classLink RL 35 "java/lang/IndexOutOfBoundsException" : Cond) ∈ wsG := List.mem_append_left _ (List.mem_of_getElem? (i := 399) rfl)
theorem wg_400 : (.codeWith yL_put cL_put 6 (some .int) [(0, 12, 15, 35), (0, 12, 19, 13)] : Cond) ∈ wsG := List.mem_append_left _ (List.mem_of_getElem? (i := 400) rfl)
theorem wg_401 : (.methodLink RL 37 yX9_putRow : Cond) ∈ wsG := List.mem_append_left _ (List.mem_of_getElem? (i := 401) rfl)
theorem wg_402 : (.instanceMethod yX9_putRow : Cond) ∈ wsG := List.mem_append_left _ (List.mem_of_getElem? (i := 402) rfl)
theorem wg_403 : (.selects RX9 yX9_putRow yX9_putRow : Cond) ∈ wsG := List.mem_append_left _ (List.mem_of_getElem? (i := 403) rfl)
theorem wg_404 : (.codeWith yL_putRow cL_putRow 9 (some .int) [(0, 18, 21, 35), (0, 18, 25, 13)] : Cond) ∈ wsG := List.mem_append_left _ (List.mem_of_getElem? (i := 404) rfl)
theorem wg_405 : (.methodLink RL 44 yX9_blocks : Cond) ∈ wsG := List.mem_append_left _ (List.mem_of_getElem? (i := 405) rfl)
theorem wg_406 : (.instanceMethod yX9_blocks : Cond) ∈ wsG := List.mem_append_left _ (List.mem_of_getElem? (i := 406) rfl)
theorem wg_407 : (.selects RX9 yX9_blocks yX9_blocks : Cond) ∈ wsG := List.mem_append_left _ (List.mem_of_getElem? (i := 407) rfl)
theorem wg_408 : (.codeWith yL_blocks cL_blocks 4 (some .int) [(0, 9, 12, 35)] : Cond) ∈ wsG := List.mem_append_left _ (List.mem_of_getElem? (i := 408) rfl)
theorem wg_409 : (.methodLink RL 47 yX9_size : Cond) ∈ wsG := List.mem_append_left _ (List.mem_of_getElem? (i := 409) rfl)
theorem wg_410 : (.instanceMethod yX9_size : Cond) ∈ wsG := List.mem_append_left _ (List.mem_of_getElem? (i := 410) rfl)
theorem wg_411 : (.selects RX9 yX9_size yX9_size : Cond) ∈ wsG := List.mem_append_left _ (List.mem_of_getElem? (i := 411) rfl)
theorem wg_412 : (.codeWith yL_size cL_size 5 (some .int) [(0, 10, 13, 35)] : Cond) ∈ wsG := List.mem_append_left _ (List.mem_of_getElem? (i := 412) rfl)
theorem wg_413 : (.methodLink RL 50 yX9_point : Cond) ∈ wsG := List.mem_append_left _ (List.mem_of_getElem? (i := 413) rfl)
theorem wg_414 : (.instanceMethod yX9_point : Cond) ∈ wsG := List.mem_append_left _ (List.mem_of_getElem? (i := 414) rfl)
theorem wg_415 : (.selects RX9 yX9_point yX9_point : Cond) ∈ wsG := List.mem_append_left _ (List.mem_of_getElem? (i := 415) rfl)
theorem wg_416 : (.codeWith yL_point cL_point 7 (some .int) [(0, 14, 17, 35)] : Cond) ∈ wsG := List.mem_append_left _ (List.mem_of_getElem? (i := 416) rfl)
theorem wg_417 : (.methodLink RL 54 yX9_bits : Cond) ∈ wsG := List.mem_append_left _ (List.mem_of_getElem? (i := 417) rfl)
theorem wg_418 : (.instanceMethod yX9_bits : Cond) ∈ wsG := List.mem_append_left _ (List.mem_of_getElem? (i := 418) rfl)
theorem wg_419 : (.selects RX9 yX9_bits yX9_bits : Cond) ∈ wsG := List.mem_append_left _ (List.mem_of_getElem? (i := 419) rfl)
theorem wg_420 : (.codeWith yL_bits cL_bits 5 (some .int) [(0, 10, 13, 35)] : Cond) ∈ wsG := List.mem_append_left _ (List.mem_of_getElem? (i := 420) rfl)
theorem wg_421 : (.methodLink RL 57 yX9_word : Cond) ∈ wsG := List.mem_append_left _ (List.mem_of_getElem? (i := 421) rfl)
theorem wg_422 : (.instanceMethod yX9_word : Cond) ∈ wsG := List.mem_append_left _ (List.mem_of_getElem? (i := 422) rfl)
theorem wg_423 : (.selects RX9 yX9_word yX9_word : Cond) ∈ wsG := List.mem_append_left _ (List.mem_of_getElem? (i := 423) rfl)
theorem wg_424 : (.codeWith yL_word cL_word 6 (some .int) [(0, 12, 15, 35)] : Cond) ∈ wsG := List.mem_append_left _ (List.mem_of_getElem? (i := 424) rfl)
theorem wg_425 : (.methodLink RL 60 yX9_buckets : Cond) ∈ wsG := List.mem_append_left _ (List.mem_of_getElem? (i := 425) rfl)
theorem wg_426 : (.instanceMethod yX9_buckets : Cond) ∈ wsG := List.mem_append_left _ (List.mem_of_getElem? (i := 426) rfl)
theorem wg_427 : (.selects RX9 yX9_buckets yX9_buckets : Cond) ∈ wsG := List.mem_append_left _ (List.mem_of_getElem? (i := 427) rfl)
theorem wg_428 : (.codeWith yL_buckets cL_buckets 5 (some .int) [(0, 10, 13, 35)] : Cond) ∈ wsG := List.mem_append_left _ (List.mem_of_getElem? (i := 428) rfl)
theorem wg_429 : (.methodLink RL 64 yX9_ofBucket : Cond) ∈ wsG := List.mem_append_left _ (List.mem_of_getElem? (i := 429) rfl)
theorem wg_430 : (.instanceMethod yX9_ofBucket : Cond) ∈ wsG := List.mem_append_left _ (List.mem_of_getElem? (i := 430) rfl)
theorem wg_431 : (.selects RX9 yX9_ofBucket yX9_ofBucket : Cond) ∈ wsG := List.mem_append_left _ (List.mem_of_getElem? (i := 431) rfl)
theorem wg_432 : (.codeWith yL_ofBucket cL_ofBucket 7 (some .int) [(0, 14, 17, 35), (0, 14, 21, 13)] : Cond) ∈ wsG := List.mem_append_left _ (List.mem_of_getElem? (i := 432) rfl)
theorem wg_433 : (.methodLink RL 68 yX9_items : Cond) ∈ wsG := List.mem_append_left _ (List.mem_of_getElem? (i := 433) rfl)
theorem wg_434 : (.instanceMethod yX9_items : Cond) ∈ wsG := List.mem_append_left _ (List.mem_of_getElem? (i := 434) rfl)
theorem wg_435 : (.selects RX9 yX9_items yX9_items : Cond) ∈ wsG := List.mem_append_left _ (List.mem_of_getElem? (i := 435) rfl)
theorem wg_436 : (.codeWith yL_items cL_items 4 (some .int) [(0, 9, 12, 35)] : Cond) ∈ wsG := List.mem_append_left _ (List.mem_of_getElem? (i := 436) rfl)
theorem wg_437 : (.methodLink RL 71 yX9_ask : Cond) ∈ wsG := List.mem_append_left _ (List.mem_of_getElem? (i := 437) rfl)
theorem wg_438 : (.instanceMethod yX9_ask : Cond) ∈ wsG := List.mem_append_left _ (List.mem_of_getElem? (i := 438) rfl)
theorem wg_439 : (.selects RX9 yX9_ask yX9_ask : Cond) ∈ wsG := List.mem_append_left _ (List.mem_of_getElem? (i := 439) rfl)
theorem wg_440 : (.codeWith yL_ask cL_ask 5 (some .int) [(0, 10, 13, 35), (0, 10, 17, 13)] : Cond) ∈ wsG := List.mem_append_left _ (List.mem_of_getElem? (i := 440) rfl)
theorem wg_441 : (.methodLink RL 78 yX9_gaps : Cond) ∈ wsG := List.mem_append_left _ (List.mem_of_getElem? (i := 441) rfl)
theorem wg_442 : (.instanceMethod yX9_gaps : Cond) ∈ wsG := List.mem_append_left _ (List.mem_of_getElem? (i := 442) rfl)
theorem wg_443 : (.selects RX9 yX9_gaps yX9_gaps : Cond) ∈ wsG := List.mem_append_left _ (List.mem_of_getElem? (i := 443) rfl)
theorem wg_444 : (.codeWith yL_gaps cL_gaps 5 (some .int) [(0, 10, 13, 35), (0, 10, 17, 13)] : Cond) ∈ wsG := List.mem_append_left _ (List.mem_of_getElem? (i := 444) rfl)
theorem wg_445 : (.methodLink RL 81 yX9_lastAt : Cond) ∈ wsG := List.mem_append_left _ (List.mem_of_getElem? (i := 445) rfl)
theorem wg_446 : (.instanceMethod yX9_lastAt : Cond) ∈ wsG := List.mem_append_left _ (List.mem_of_getElem? (i := 446) rfl)
theorem wg_447 : (.selects RX9 yX9_lastAt yX9_lastAt : Cond) ∈ wsG := List.mem_append_left _ (List.mem_of_getElem? (i := 447) rfl)
theorem wg_448 : (.codeWith yL_lastAt cL_lastAt 5 (some .int) [(0, 10, 13, 35), (0, 10, 17, 13)] : Cond) ∈ wsG := List.mem_append_left _ (List.mem_of_getElem? (i := 448) rfl)
theorem wg_449 : (.methodLink RL 84 yX9_addRule : Cond) ∈ wsG := List.mem_append_left _ (List.mem_of_getElem? (i := 449) rfl)
theorem wg_450 : (.instanceMethod yX9_addRule : Cond) ∈ wsG := List.mem_append_left _ (List.mem_of_getElem? (i := 450) rfl)
theorem wg_451 : (.selects RX9 yX9_addRule yX9_addRule : Cond) ∈ wsG := List.mem_append_left _ (List.mem_of_getElem? (i := 451) rfl)
theorem wg_452 : (.codeWith yL_addRule cL_addRule 10 (some .int) [(0, 20, 23, 35), (0, 20, 27, 13), (0, 20, 31, 15)] : Cond) ∈ wsG := List.mem_append_left _ (List.mem_of_getElem? (i := 452) rfl)
theorem wg_453 : (.methodLink RL 100 yX9_bitsWith : Cond) ∈ wsG := List.mem_append_left _ (List.mem_of_getElem? (i := 453) rfl)
theorem wg_454 : (.instanceMethod yX9_bitsWith : Cond) ∈ wsG := List.mem_append_left _ (List.mem_of_getElem? (i := 454) rfl)
theorem wg_455 : (.selects RX9 yX9_bitsWith yX9_bitsWith : Cond) ∈ wsG := List.mem_append_left _ (List.mem_of_getElem? (i := 455) rfl)
theorem wg_456 : (.codeWith yL_bitsWith cL_bitsWith 6 (some .int) [(0, 12, 15, 35), (0, 12, 19, 13)] : Cond) ∈ wsG := List.mem_append_left _ (List.mem_of_getElem? (i := 456) rfl)
theorem wg_457 : (.methodLink RL 88 yX9_stateOf : Cond) ∈ wsG := List.mem_append_left _ (List.mem_of_getElem? (i := 457) rfl)
theorem wg_458 : (.instanceMethod yX9_stateOf : Cond) ∈ wsG := List.mem_append_left _ (List.mem_of_getElem? (i := 458) rfl)
theorem wg_459 : (.selects RX9 yX9_stateOf yX9_stateOf : Cond) ∈ wsG := List.mem_append_left _ (List.mem_of_getElem? (i := 459) rfl)
theorem wg_460 : (.codeWith yL_stateOf cL_stateOf 4 (some .int) [(0, 9, 12, 35)] : Cond) ∈ wsG := List.mem_append_left _ (List.mem_of_getElem? (i := 460) rfl)
theorem wg_461 : (.methodLink RL 91 yX9_inRow : Cond) ∈ wsG := List.mem_append_left _ (List.mem_of_getElem? (i := 461) rfl)
theorem wg_462 : (.instanceMethod yX9_inRow : Cond) ∈ wsG := List.mem_append_left _ (List.mem_of_getElem? (i := 462) rfl)
theorem wg_463 : (.selects RX9 yX9_inRow yX9_inRow : Cond) ∈ wsG := List.mem_append_left _ (List.mem_of_getElem? (i := 463) rfl)
theorem wg_464 : (.codeWith yL_inRow cL_inRow 4 (some .int) [(0, 9, 12, 35)] : Cond) ∈ wsG := List.mem_append_left _ (List.mem_of_getElem? (i := 464) rfl)
theorem wg_465 : (.methodLink RL 94 yX9_seenBy : Cond) ∈ wsG := List.mem_append_left _ (List.mem_of_getElem? (i := 465) rfl)
theorem wg_466 : (.instanceMethod yX9_seenBy : Cond) ∈ wsG := List.mem_append_left _ (List.mem_of_getElem? (i := 466) rfl)
theorem wg_467 : (.selects RX9 yX9_seenBy yX9_seenBy : Cond) ∈ wsG := List.mem_append_left _ (List.mem_of_getElem? (i := 467) rfl)
theorem wg_468 : (.codeWith yL_seenBy cL_seenBy 4 (some .int) [(0, 9, 12, 35)] : Cond) ∈ wsG := List.mem_append_left _ (List.mem_of_getElem? (i := 468) rfl)
theorem wg_469 : (.methodLink RL 97 yX9_event : Cond) ∈ wsG := List.mem_append_left _ (List.mem_of_getElem? (i := 469) rfl)
theorem wg_470 : (.instanceMethod yX9_event : Cond) ∈ wsG := List.mem_append_left _ (List.mem_of_getElem? (i := 470) rfl)
theorem wg_471 : (.selects RX9 yX9_event yX9_event : Cond) ∈ wsG := List.mem_append_left _ (List.mem_of_getElem? (i := 471) rfl)
theorem wg_472 : (.codeWith yL_event cL_event 5 (some .int) [(0, 10, 13, 35), (0, 10, 17, 13)] : Cond) ∈ wsG := List.mem_append_left _ (List.mem_of_getElem? (i := 472) rfl)
theorem hg_Jx4a65c : ∀ w ∈ u_ws RJx4a65c TJx4a65c 3, w ∈ wsG := fun w h => List.mem_append_right _ (List.mem_append_left _ h)
theorem hg_X9 : ∀ w ∈ u_ws RX9 TX9 9, w ∈ wsG := fun w h => List.mem_append_right _ (List.mem_append_right _ (List.mem_append_left _ h))
theorem hg_X8 : ∀ w ∈ u_ws RX8 TX8 5, w ∈ wsG := fun w h => List.mem_append_right _ (List.mem_append_right _ (List.mem_append_right _ (List.mem_append_left _ h)))
theorem hg_X1 : ∀ w ∈ u_ws RX1 TX1 3, w ∈ wsG := fun w h => List.mem_append_right _ (List.mem_append_right _ (List.mem_append_right _ (List.mem_append_right _ (List.mem_append_left _ h))))
theorem hg_X7 : ∀ w ∈ u_ws RX7 TX7 5, w ∈ wsG := fun w h => List.mem_append_right _ (List.mem_append_right _ (List.mem_append_right _ (List.mem_append_right _ (List.mem_append_right _ (List.mem_append_left _ h)))))
theorem hg_X15 : ∀ w ∈ u_ws RX15 TX15 7, w ∈ wsG := fun w h => List.mem_append_right _ (List.mem_append_right _ (List.mem_append_right _ (List.mem_append_right _ (List.mem_append_right _ (List.mem_append_right _ (List.mem_append_left _ h))))))
theorem hg_X14 : ∀ w ∈ u_ws RX14 TX14 9, w ∈ wsG := fun w h => List.mem_append_right _ (List.mem_append_right _ (List.mem_append_right _ (List.mem_append_right _ (List.mem_append_right _ (List.mem_append_right _ (List.mem_append_right _ (List.mem_append_left _ h)))))))
theorem hg_X0 : ∀ w ∈ u_ws RX0 TX0 2, w ∈ wsG := fun w h => List.mem_append_right _ (List.mem_append_right _ (List.mem_append_right _ (List.mem_append_right _ (List.mem_append_right _ (List.mem_append_right _ (List.mem_append_right _ (List.mem_append_right _ (List.mem_append_left _ h))))))))
theorem hg_X4 : ∀ w ∈ u_ws RX4 TX4 7, w ∈ wsG := fun w h => List.mem_append_right _ (List.mem_append_right _ (List.mem_append_right _ (List.mem_append_right _ (List.mem_append_right _ (List.mem_append_right _ (List.mem_append_right _ (List.mem_append_right _ (List.mem_append_right _ (List.mem_append_left _ h)))))))))
theorem hg_X3 : ∀ w ∈ u_ws RX3 TX3 6, w ∈ wsG := fun w h => List.mem_append_right _ (List.mem_append_right _ (List.mem_append_right _ (List.mem_append_right _ (List.mem_append_right _ (List.mem_append_right _ (List.mem_append_right _ (List.mem_append_right _ (List.mem_append_right _ (List.mem_append_right _ (List.mem_append_left _ h))))))))))
theorem hg_X6 : ∀ w ∈ u_ws RX6 TX6 5, w ∈ wsG := fun w h => List.mem_append_right _ (List.mem_append_right _ (List.mem_append_right _ (List.mem_append_right _ (List.mem_append_right _ (List.mem_append_right _ (List.mem_append_right _ (List.mem_append_right _ (List.mem_append_right _ (List.mem_append_right _ (List.mem_append_right _ (List.mem_append_left _ h)))))))))))
theorem hg_X13 : ∀ w ∈ u_ws RX13 TX13 5, w ∈ wsG := fun w h => List.mem_append_right _ (List.mem_append_right _ (List.mem_append_right _ (List.mem_append_right _ (List.mem_append_right _ (List.mem_append_right _ (List.mem_append_right _ (List.mem_append_right _ (List.mem_append_right _ (List.mem_append_right _ (List.mem_append_right _ (List.mem_append_right _ (List.mem_append_left _ h))))))))))))
theorem at_RX9_284 : ∀ w ∈ (vx_atS RX9 284 "java/lang/IllegalArgumentException" ["java/lang/RuntimeException", "java/lang/Exception"]).filter goodWord, w ∈ wsG := fun w h => List.mem_append_right _ (List.mem_append_right _ (List.mem_append_right _ (List.mem_append_right _ (List.mem_append_right _ (List.mem_append_right _ (List.mem_append_right _ (List.mem_append_right _ (List.mem_append_right _ (List.mem_append_right _ (List.mem_append_right _ (List.mem_append_right _ (List.mem_append_right _ (List.mem_append_left _ h)))))))))))))
theorem at_RX9_291 : ∀ w ∈ (vx_atS RX9 291 "java/lang/IndexOutOfBoundsException" ["java/lang/RuntimeException", "java/lang/Exception"]).filter goodWord, w ∈ wsG := fun w h => List.mem_append_right _ (List.mem_append_right _ (List.mem_append_right _ (List.mem_append_right _ (List.mem_append_right _ (List.mem_append_right _ (List.mem_append_right _ (List.mem_append_right _ (List.mem_append_right _ (List.mem_append_right _ (List.mem_append_right _ (List.mem_append_right _ (List.mem_append_right _ (List.mem_append_right _ (List.mem_append_left _ h))))))))))))))
theorem gI {c0 c1 : Cond} (h : c1 ∈ wsG) : GoodIn (gw c0) (gw c1) := fun w hw => by
  have h9 : w ∈ wsG := (List.mem_cons.mp hw).elim (fun e => by rw [e]; exact h) id
  exact ⟨gm h9, wsG_good h9⟩
theorem gV {c0 c1 : Cond} {own C : String} {idx : Nat} {y : MethodName} (h1 : Cond.methodLink own idx y ∈ wsG) (h2 : Cond.instanceMethod y ∈ wsG) (h3 : Cond.selects C y y ∈ wsG) (h4 : Cond.initialized C ∈ wsG) (h5 : c1 ∈ wsG) : GoodIn (gw c0) (wsV own idx C y (gw c1)) := fun w hw => by
  have h9 : w ∈ wsG := by
    rcases List.mem_append.mp hw with q | q
    · simp only [List.mem_cons, List.not_mem_nil, or_false] at q
      rcases q with rfl | rfl | rfl | rfl <;> assumption
    · exact (List.mem_cons.mp q).elim (fun e => by rw [e]; exact h5) id
  exact ⟨gm h9, wsG_good h9⟩
theorem gS {c0 c1 : Cond} {own : String} {idx : Nat} {y : MethodName} (h1 : Cond.methodLink own idx y ∈ wsG) (h2 : Cond.static y ∈ wsG) (h3 : Cond.initialized y.cls ∈ wsG) (h5 : c1 ∈ wsG) : GoodIn (gw c0) (va_wsS own idx y (gw c1)) := fun w hw => by
  have h9 : w ∈ wsG := by
    rcases List.mem_append.mp hw with q | q
    · simp only [List.mem_cons, List.not_mem_nil, or_false] at q
      rcases q with rfl | rfl | rfl <;> assumption
    · exact (List.mem_cons.mp q).elim (fun e => by rw [e]; exact h5) id
  exact ⟨gm h9, wsG_good h9⟩
