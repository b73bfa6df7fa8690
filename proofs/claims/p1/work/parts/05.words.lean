/-! the one list of words -/
def wsGe_0 : List Cond := [.code yX9_isIn cX9_isIn 4 (some .boolean),
  .code yX9_needArgument cX9_needArgument 1 none,
  .code yX9_needState cX9_needState 1 none,
  .classLink RX9 280 "java/lang/IllegalArgumentException",
  .initialized "java/lang/IllegalArgumentException",
  .classLink RX9 287 "java/lang/IndexOutOfBoundsException",
  .initialized "java/lang/IndexOutOfBoundsException",
  .code yX9_needIndex cX9_needIndex 1 none,
  .fieldLink RJx4a65c 48 "java/util/ArrayList" "size" "I",
  .code yJx4a65c_size_8abf5 cJx4a65c_size_8abf5 1 (some .int),
  .fieldLink RX9 21 "MeridianSeries" "store" "LMeridianSeries$Store;",
  .fieldLink RX9 59 "MeridianSeries$Store" "chains" "Ljava/util/ArrayList;",
  .methodLink RX9 63 yJx4a65c_size_8abf5,
  .instanceMethod yJx4a65c_size_8abf5,
  .selects RJx4a65c yJx4a65c_size_8abf5 yJx4a65c_size_8abf5,
  .initialized RJx4a65c,
  .code yX9_chainAt cX9_chainAt 2 (some (.object "MeridianSeries$Series")),
  .fieldLink RX9 216 "MeridianSeries$Store" "rules" "Ljava/util/ArrayList;",
  .code yX9_ruleAt cX9_ruleAt 2 (some (.object "MeridianSeries$Rule")),
  .methodLink RX9 101 yX9_chainAt,
  .instanceMethod yX9_chainAt,
  .selects RX9 yX9_chainAt yX9_chainAt,
  .initialized RX9,
  .code yX9_put cX9_put 5 (some .int),
  .code yX9_putRow cX9_putRow 14 (some .int),
  .code yX9_blocks cX9_blocks 2 (some .int),
  .code yX9_size cX9_size 4 (some .int),
  .code yX9_point cX9_point 6 (some .int),
  .code yX9_bits cX9_bits 4 (some .int),
  .code yX9_word cX9_word 5 (some .int),
  .code yX9_buckets cX9_buckets 3 (some .int),
  .code yX9_ofBucket cX9_ofBucket 6 (some .int),
  .code yX9_items cX9_items 2 (some .int),
  .code yX9_ask cX9_ask 4 (some .int),
  .code yX9_gaps cX9_gaps 7 (some .int),
  .code yX9_lastAt cX9_lastAt 5 (some .int),
  .code yX9_addRule cX9_addRule 11 (some .int),
  .code yX9_bitsWith cX9_bitsWith 5 (some .int),
  .methodLink RX9 224 yX9_ruleAt,
  .instanceMethod yX9_ruleAt,
  .selects RX9 yX9_ruleAt yX9_ruleAt,
  .code yX9_stateOf cX9_stateOf 2 (some .int),
  .code yX9_inRow cX9_inRow 2 (some .int),
  .code yX9_seenBy cX9_seenBy 2 (some .int),
  .methodLink RX9 51 yX9_isIn,
  .static yX9_isIn,
  .methodLink RX9 150 yX9_needIndex,
  .static yX9_needIndex,
  .fieldLink RX9 129 "MeridianSeries$Store" "log" "LMeridianSeries$EventLog;",
  .fieldLink RX9 133 "MeridianSeries$EventLog" "total" "I",
  .code yX9_event cX9_event 3 (some .int),
  .methodLink RX9 55 yX9_needArgument,
  .static yX9_needArgument,
  .code yX9_setSpan cX9_setSpan 3 (some .int),
  .fieldLink RX9 10 "MeridianSeries" "settings" "LMeridianSeries$Settings;",
  .fieldLink RX9 81 "MeridianSeries$Settings" "span" "I",
  .code yX9_setKeep cX9_setKeep 4 (some .int),
  .fieldLink RX9 94 "MeridianSeries$Settings" "keep" "I",
  .fieldLink RX9 97 "MeridianSeries$Settings" "longKeep" "I",
  .constant RX9 100 (99999),
  .code yX9_setQuery cX9_setQuery 6 (some .int),
  .fieldLink RX9 39 "MeridianSeries" "queryStep" "I",
  .fieldLink RX9 35 "MeridianSeries" "queryFrom" "I",
  .fieldLink RX9 42 "MeridianSeries" "queryWhat" "I",
  .fieldLink RX9 45 "MeridianSeries" "queryFill" "I",
  .fieldLink RX8 10 "MeridianSeries$Store" "chains" "Ljava/util/ArrayList;",
  .methodLink RX8 34 yJx4a65c_size_8abf5,
  .code yX8_hasBucket cX8_hasBucket 2 (some .boolean),
  .code yX9_setWidths cX9_setWidths 4 (some .int),
  .methodLink RX9 84 yX8_hasBucket,
  .instanceMethod yX8_hasBucket,
  .selects RX8 yX8_hasBucket yX8_hasBucket,
  .initialized RX8,
  .methodLink RX9 69 yX9_needState,
  .static yX9_needState,
  .fieldLink RX9 88 "MeridianSeries$Settings" "width" "I",
  .fieldLink RX9 91 "MeridianSeries$Settings" "fold" "I",
  .fieldLink RX9 141 "MeridianSeries$Store" "now" "I",
  .code yX9_now cX9_now 1 (some .int),
  .code yX9_series cX9_series 1 (some .int),
  .fieldLink RX9 48 "MeridianSeries" "lateCount" "I",
  .code yX9_late cX9_late 1 (some .int),
  .code yX9_events cX9_events 1 (some .int),
  .code yX15_isIn cX15_isIn 3 (some .boolean),
  .fieldLink RX15 72 "MeridianSeriesModel" "thrown" "I",
  .code yX15_refuse cX15_refuse 3 (some .boolean),
  .methodLink RX15 75 yX15_refuse,
  .instanceMethod yX15_refuse,
  .selects RX15 yX15_refuse yX15_refuse,
  .initialized RX15,
  .code yX15_start cX15_start 3 (some .boolean),
  .code yX15_plain cX15_plain 2 (some .int),
  .code yX15_thrown cX15_thrown 1 (some .int),
  .fieldLink RX15 68 "MeridianSeriesModel" "store" "LMeridianSeriesModel$Store;",
  .fieldLink RX15 86 "MeridianSeriesModel$Store" "series" "Ljava/util/ArrayList;",
  .methodLink RX15 7 yJx4a65c_size_8abf5,
  .methodLink RX15 79 yX15_isIn,
  .static yX15_isIn,
  .methodLink RX15 83 yX15_start,
  .instanceMethod yX15_start]
def wsGe_1 : List Cond := [.selects RX15 yX15_start yX15_start,
  .code yX15_isNoSeries cX15_isNoSeries 2 (some .boolean),
  .fieldLink RX15 244 "MeridianSeriesModel$Store" "rules" "Ljava/util/ArrayList;",
  .code yX15_isNoRule cX15_isNoRule 2 (some .boolean),
  .methodLink RX15 152 yX15_isNoSeries,
  .instanceMethod yX15_isNoSeries,
  .selects RX15 yX15_isNoSeries yX15_isNoSeries,
  .code yX15_isNoBlock cX15_isNoBlock 3 (some .boolean),
  .code yX15_put cX15_put 4 (some .int),
  .code yX15_putRow cX15_putRow 9 (some .int),
  .code yX15_blocks cX15_blocks 2 (some .int),
  .methodLink RX15 177 yX15_isNoBlock,
  .instanceMethod yX15_isNoBlock,
  .selects RX15 yX15_isNoBlock yX15_isNoBlock,
  .code yX15_size cX15_size 3 (some .int),
  .code yX15_point cX15_point 5 (some .int),
  .code yX15_bits cX15_bits 3 (some .int),
  .code yX15_word cX15_word 7 (some .int),
  .code yX15_buckets_ cX15_buckets_ 3 (some .int),
  .code yX15_ofBucket cX15_ofBucket 5 (some .int),
  .code yX15_items cX15_items 2 (some .int),
  .code yX15_ask cX15_ask 3 (some .int),
  .code yX15_gaps cX15_gaps 5 (some .int),
  .code yX15_lastAt cX15_lastAt 4 (some .int),
  .code yX15_addRule cX15_addRule 8 (some .int),
  .code yX15_bitsWith cX15_bitsWith 5 (some .int),
  .methodLink RX15 252 yX15_isNoRule,
  .instanceMethod yX15_isNoRule,
  .selects RX15 yX15_isNoRule yX15_isNoRule,
  .code yX15_stateOf cX15_stateOf 2 (some .int),
  .code yX15_inRow cX15_inRow 2 (some .int),
  .code yX15_seenBy cX15_seenBy 2 (some .int),
  .fieldLink RX15 167 "MeridianSeriesModel$Store" "events" "Ljava/util/ArrayList;",
  .methodLink RX15 227 Lib.Math.min.name,
  .static Lib.Math.min.name,
  .initialized "java/lang/Math",
  .code Lib.Math.min.name Lib.Math.min.code 2 (some .int),
  .code yX15_event cX15_event 3 (some .int),
  .fieldLink RX15 125 "MeridianSeriesModel$Store" "now" "I",
  .methodLink RX15 173 yX15_plain,
  .instanceMethod yX15_plain,
  .selects RX15 yX15_plain yX15_plain,
  .code yX15_now cX15_now 1 (some .int),
  .code yX15_series_ cX15_series_ 1 (some .int),
  .fieldLink RX15 135 "MeridianSeriesModel" "late" "I",
  .code yX15_late cX15_late 1 (some .int),
  .code yX15_events cX15_events 1 (some .int),
  .code yX15_setSpan cX15_setSpan 3 (some .int),
  .fieldLink RX15 94 "MeridianSeriesModel$Store" "span" "I",
  .code yX15_setKeep cX15_setKeep 4 (some .int),
  .fieldLink RX15 112 "MeridianSeriesModel$Store" "keep" "I",
  .fieldLink RX15 115 "MeridianSeriesModel$Store" "longKeep" "I",
  .constant RX15 118 (99999),
  .code yX15_setQuery cX15_setQuery 6 (some .int),
  .fieldLink RX15 57 "MeridianSeriesModel" "step" "I",
  .fieldLink RX15 119 "MeridianSeriesModel" "from" "I",
  .fieldLink RX15 62 "MeridianSeriesModel" "what" "I",
  .fieldLink RX15 122 "MeridianSeriesModel" "fill" "I",
  .code yX15_hasBuckets cX15_hasBuckets 2 (some .boolean),
  .code yX15_setWidths cX15_setWidths 4 (some .int),
  .methodLink RX15 103 yX15_hasBuckets,
  .instanceMethod yX15_hasBuckets,
  .selects RX15 yX15_hasBuckets yX15_hasBuckets,
  .fieldLink RX15 106 "MeridianSeriesModel$Store" "width" "I",
  .fieldLink RX15 109 "MeridianSeriesModel$Store" "fold" "I",
  .fieldLink RX14 60 "MeridianSeriesModel$Store" "now" "I",
  .fieldLink RX14 10 "MeridianSeriesModel$Store" "series" "Ljava/util/ArrayList;",
  .methodLink RX14 33 yJx4a65c_size_8abf5,
  .fieldLink RX14 16 "MeridianSeriesModel$Store" "rules" "Ljava/util/ArrayList;",
  .code yX14_tick cX14_tick 4 none,
  .code yX15_goOn cX15_goOn 4 (some .int),
  .methodLink RX15 170 yX14_tick,
  .instanceMethod yX14_tick,
  .selects RX14 yX14_tick yX14_tick,
  .initialized RX14,
  .constantLong RX15 277 (31),
  .code yX15_add cX15_add 4 (some .long),
  .constantLong RX15 282 (58058),
  .methodLink RX15 279 yX15_add,
  .static yX15_add,
  .code yX15_digest cX15_digest 7 (some .long),
  .code yX15_over cX15_over 11 (some .int),
  .constant RX15 220 (2147483647),
  .constant RX15 221 (-2147483648),
  .constant RX15 226 (-1000000),
  .code yX9_canGoOn cX9_canGoOn 2 (some .boolean),
  .fieldLink RX8 26 "MeridianSeries$Store" "now" "I",
  .fieldLink RX8 16 "MeridianSeries$Store" "rules" "Ljava/util/ArrayList;",
  .code yX8_goOnByOne cX8_goOnByOne 3 none,
  .methodLink RX9 125 yX9_canGoOn,
  .instanceMethod yX9_canGoOn,
  .selects RX9 yX9_canGoOn yX9_canGoOn,
  .code yX9_goOn cX9_goOn 4 (some .int),
  .methodLink RX9 138 yX8_goOnByOne,
  .instanceMethod yX8_goOnByOne,
  .selects RX8 yX8_goOnByOne yX8_goOnByOne,
  .code yX8_copyFrom cX8_copyFrom 3 none,
  .code yX9_firesIn cX9_firesIn 4 (some .int),
  .fieldLink RX9 25 "MeridianSeries" "trial" "LMeridianSeries$Store;",
  .methodLink RX9 245 yX8_copyFrom]
def wsGe_2 : List Cond := [.instanceMethod yX8_copyFrom,
  .selects RX8 yX8_copyFrom yX8_copyFrom,
  .fieldLink RX9 249 "MeridianSeries$EventLog" "firings" "I",
  .code yX9_wouldRoll cX9_wouldRoll 4 (some .int),
  .code yX9_over cX9_over 10 (some .int),
  .constant RX9 200 (-1000000),
  .constantLong RX9 255 (58058),
  .constantLong RX9 257 (31),
  .code yX9_digest cX9_digest 5 (some .long),
  .methodLink RX7 1 objectInit,
  .instanceMethod objectInit,
  .code objectInit ⟨#[0xb1]⟩ 1 none,
  .fieldLink RX7 7 "MeridianSeries$Settings" "span" "I",
  .fieldLink RX7 13 "MeridianSeries$Settings" "width" "I",
  .fieldLink RX7 16 "MeridianSeries$Settings" "fold" "I",
  .fieldLink RX7 19 "MeridianSeries$Settings" "keep" "I",
  .fieldLink RX7 22 "MeridianSeries$Settings" "longKeep" "I",
  .code yX7_init cX7_init 1 none,
  .methodLink RX2 1 objectInit,
  .fieldLink RX2 7 "MeridianSeries$Items" "amount" "I",
  .code yX2_init cX2_init 1 none,
  .initialized RX2,
  .instanceMethod yX2_init,
  .arrayClass .int,
  .fieldLink RX0 11 "MeridianSeries$Buckets" "cells" "[I",
  .code yX0_init cX0_init 1 none,
  .fieldLink RX4 11 "MeridianSeries$Points" "times" "[I",
  .fieldLink RX4 15 "MeridianSeries$Points" "values" "[I",
  .fieldLink RX4 18 "MeridianSeries$Points" "sizes" "[I",
  .fieldLink RX4 21 "MeridianSeries$Points" "sealedBlocks" "I",
  .fieldLink RX4 25 "MeridianSeries$Points" "sealedPoints" "I",
  .fieldLink RX4 28 "MeridianSeries$Points" "greatestSealedTime" "I",
  .code yX4_init cX4_init 1 none,
  .methodLink RX1 3 objectInit,
  .fieldLink RX1 9 "MeridianSeries$EventLog" "cells" "[I",
  .fieldLink RX1 15 "MeridianSeries$EventLog" "total" "I",
  .fieldLink RX1 19 "MeridianSeries$EventLog" "firings" "I",
  .code yX1_init cX1_init 1 none,
  .methodLink RX3 3 objectInit,
  .fieldLink RX3 11 "MeridianSeries$Packer" "words" "[I",
  .fieldLink RX3 15 "MeridianSeries$Packer" "length" "I",
  .fieldLink RX3 19 "MeridianSeries$Packer" "packed" "I",
  .fieldLink RX3 22 "MeridianSeries$Packer" "lastTime" "I",
  .fieldLink RX3 25 "MeridianSeries$Packer" "lastStep" "I",
  .fieldLink RX3 28 "MeridianSeries$Packer" "lastValue" "I",
  .code yX3_init cX3_init 1 none,
  .methodLink RX6 3 objectInit,
  .classLink RX6 9 RX4,
  .instantiable RX4 7,
  .initialized RX4,
  .instanceMethod yX4_init,
  .fieldLink RX6 12 "MeridianSeries$Series" "points" "LMeridianSeries$Points;",
  .classLink RX6 18 RX0,
  .instantiable RX0 2,
  .initialized RX0,
  .instanceMethod yX0_init,
  .fieldLink RX6 21 "MeridianSeries$Series" "fine" "LMeridianSeries$Buckets;",
  .fieldLink RX6 25 "MeridianSeries$Series" "coarse" "LMeridianSeries$Buckets;",
  .fieldLink RX6 28 "MeridianSeries$Series" "one" "I",
  .fieldLink RX6 32 "MeridianSeries$Series" "other" "I",
  .code yX6_init cX6_init 3 none,
  .methodLink RJxa1e45 1 objectInit,
  .code yJxa1e45_init_da8c8 cJxa1e45_init_da8c8 1 none,
  .initialized RJxa1e45,
  .methodLink RJxc12de 1 yJxa1e45_init_da8c8,
  .instanceMethod yJxa1e45_init_da8c8,
  .fieldLink RJxc12de 7 "java/util/AbstractList" "modCount" "I",
  .code yJxc12de_init_da8c8 cJxc12de_init_da8c8 1 none,
  .initialized RJxc12de,
  .methodLink RJx4a65c 1 yJxc12de_init_da8c8,
  .instanceMethod yJxc12de_init_da8c8,
  .fieldLink RJx4a65c 39 "java/util/ArrayList" "DEFAULTCAPACITY_EMPTY_ELEMENTDATA" "[Ljava/lang/Object;",
  .fieldLink RJx4a65c 9 "java/util/ArrayList" "elementData" "[Ljava/lang/Object;",
  .code yJx4a65c_init_da8c8 cJx4a65c_init_da8c8 1 none,
  .methodLink RJx4a65c 79 Lib.Math.max.name,
  .static Lib.Math.max.name,
  .code Lib.Math.max.name Lib.Math.max.code 2 (some .int),
  .classLink RJx4a65c 7 "java/lang/Object",
  .code yJx4a65c_grow_92f84 cJx4a65c_grow_92f84 4 (some (.array (.object "java/lang/Object"))),
  .methodLink RJx4a65c 69 yJx4a65c_grow_92f84,
  .instanceMethod yJx4a65c_grow_92f84,
  .selects RJx4a65c yJx4a65c_grow_92f84 yJx4a65c_grow_92f84,
  .code yJx4a65c_grow_d5877 cJx4a65c_grow_d5877 1 (some (.array (.object "java/lang/Object"))),
  .methodLink RJx4a65c 129 yJx4a65c_grow_d5877,
  .instanceMethod yJx4a65c_grow_d5877,
  .selects RJx4a65c yJx4a65c_grow_d5877 yJx4a65c_grow_d5877,
  .code yJx4a65c_add_72be8 cJx4a65c_add_72be8 4 none,
  .fieldLink RJx4a65c 63 "java/util/ArrayList" "modCount" "I",
  .sameField "java/util/ArrayList" "java/util/AbstractList" "modCount" "I",
  .methodLink RJx4a65c 131 yJx4a65c_add_72be8,
  .instanceMethod yJx4a65c_add_72be8,
  .selects RJx4a65c yJx4a65c_add_72be8 yJx4a65c_add_72be8,
  .code yJx4a65c_add_9ea2d cJx4a65c_add_9ea2d 2 (some .boolean),
  .code yX9_addSeries cX9_addSeries 4 (some .int),
  .classLink RX9 72 RX6,
  .instantiable RX6 5,
  .initialized RX6,
  .methodLink RX9 74 yX6_init,
  .instanceMethod yX6_init,
  .methodLink RX9 77 yJx4a65c_add_9ea2d]
def wsGe_3 : List Cond := [.instanceMethod yJx4a65c_add_9ea2d,
  .selects RJx4a65c yJx4a65c_add_9ea2d yJx4a65c_add_9ea2d,
  .methodLink RX8 1 objectInit,
  .classLink RX8 7 RJx4a65c,
  .instantiable RJx4a65c 3,
  .methodLink RX8 9 yJx4a65c_init_da8c8,
  .instanceMethod yJx4a65c_init_da8c8,
  .classLink RX8 19 RX1,
  .instantiable RX1 3,
  .initialized RX1,
  .instanceMethod yX1_init,
  .fieldLink RX8 22 "MeridianSeries$Store" "log" "LMeridianSeries$EventLog;",
  .fieldLink RX8 30 "MeridianSeries$Store" "settings" "LMeridianSeries$Settings;",
  .code yX8_init cX8_init 2 none,
  .methodLink RX9 1 objectInit,
  .classLink RX9 7 RX7,
  .instantiable RX7 5,
  .initialized RX7,
  .instanceMethod yX7_init,
  .classLink RX9 16 RX8,
  .instantiable RX8 5,
  .methodLink RX9 18 yX8_init,
  .instanceMethod yX8_init,
  .classLink RX9 28 RX3,
  .instantiable RX3 6,
  .initialized RX3,
  .instanceMethod yX3_init,
  .fieldLink RX9 31 "MeridianSeries" "packer" "LMeridianSeries$Packer;",
  .code yX9_init cX9_init 1 none,
  .methodLink RX13 3 objectInit,
  .classLink RX13 9 RJx4a65c,
  .methodLink RX13 11 yJx4a65c_init_da8c8,
  .fieldLink RX13 12 "MeridianSeriesModel$Series" "blocks" "Ljava/util/ArrayList;",
  .fieldLink RX13 18 "MeridianSeriesModel$Series" "fine" "Ljava/util/ArrayList;",
  .fieldLink RX13 21 "MeridianSeriesModel$Series" "coarse" "Ljava/util/ArrayList;",
  .fieldLink RX13 24 "MeridianSeriesModel$Series" "sealedTo" "I",
  .fieldLink RX13 28 "MeridianSeriesModel$Series" "labels" "[I",
  .methodLink RX13 32 yJx4a65c_add_9ea2d,
  .code yX13_init cX13_init 3 none,
  .methodLink RX14 1 objectInit,
  .classLink RX14 7 RJx4a65c,
  .methodLink RX14 9 yJx4a65c_init_da8c8,
  .fieldLink RX14 19 "MeridianSeriesModel$Store" "events" "Ljava/util/ArrayList;",
  .fieldLink RX14 22 "MeridianSeriesModel$Store" "span" "I",
  .fieldLink RX14 26 "MeridianSeriesModel$Store" "width" "I",
  .fieldLink RX14 29 "MeridianSeriesModel$Store" "fold" "I",
  .code yX14_init cX14_init 1 none,
  .methodLink RX15 54 objectInit,
  .classLink RX15 65 RX14,
  .instantiable RX14 9,
  .instanceMethod yX14_init,
  .code yX15_init cX15_init 1 none,
  .code yX15_addSeries cX15_addSeries 3 (some .int),
  .classLink RX15 90 RX13,
  .instantiable RX13 5,
  .initialized RX13,
  .methodLink RX15 92 yX13_init,
  .instanceMethod yX13_init,
  .methodLink RX15 42 yJx4a65c_add_9ea2d,
  .classLink RJ7 110 "[Ljava/lang/Object;",
  .classLink RJ7 2 "java/lang/Object",
  .methodLink RJ7 304 Lib.Math.min.name,
  .methodLink RJ7 150 arraycopyName,
  .native arraycopyName,
  .static arraycopyName,
  .initialized "java/lang/System",
  .code yJ7_copyOf_6403c cJ7_copyOf_6403c 4 (some (.array (.object "java/lang/Object"))),
  .methodLink RJ7 86 yGC,
  .selects "[Ljava/lang/Object;" yGC yGC,
  .instanceMethod yGC,
  .native yGC,
  .methodLink RJ7 300 yJ7_copyOf_6403c,
  .static yJ7_copyOf_6403c,
  .initialized RJ7,
  .code yJ7_copyOf_1904c cJ7_copyOf_1904c 2 (some (.array (.object "java/lang/Object"))),
  .methodLink RJx4a65c 66 yJ7_copyOf_1904c,
  .static yJ7_copyOf_1904c,
  .code yJx4a65c_toArray_d5877 cJx4a65c_toArray_d5877 1 (some (.array (.object "java/lang/Object"))),
  .methodLink RJx4a65c 42 yCol,
  .instanceMethod yJx4a65c_toArray_d5877,
  .selects RJx4a65c yCol yJx4a65c_toArray_d5877,
  .code yJx4a65c_addAll_f0b43 cJx4a65c_addAll_f0b43 6 (some .boolean),
  .classLink RX14 11 RX14,
  .methodLink RX14 32 yX14_init,
  .methodLink RX14 56 yJx4a65c_addAll_f0b43,
  .instanceMethod yJx4a65c_addAll_f0b43,
  .selects RJx4a65c yJx4a65c_addAll_f0b43 yJx4a65c_addAll_f0b43,
  .fieldLink RX14 63 "MeridianSeriesModel$Store" "keep" "I",
  .fieldLink RX14 66 "MeridianSeriesModel$Store" "longKeep" "I",
  .code yX14_copy cX14_copy 3 (some (.object "MeridianSeriesModel$Store")),
  .code yX15_firesIn cX15_firesIn 6 (some .int),
  .methodLink RX15 268 yX14_copy,
  .instanceMethod yX14_copy,
  .selects RX14 yX14_copy yX14_copy,
  .code yX15_wouldRoll cX15_wouldRoll 6 (some .int),
  .code yX9_ratio cX9_ratio 6 (some .double),
  .code yX15_ratio cX15_ratio 5 (some .double),
  .methodLink RL 7 yX9_addSeries,
  .instanceMethod yX9_addSeries,
  .selects RX9 yX9_addSeries yX9_addSeries]
def wsGe_4 : List Cond := [.classLink RL 13 "java/lang/IllegalArgumentException",
  .codeWith yL_addSeries cL_addSeries 5 (some .int) [(0, 10, 13, 13), (0, 10, 17, 15)],
  .methodLink RL 17 yX9_setSpan,
  .instanceMethod yX9_setSpan,
  .selects RX9 yX9_setSpan yX9_setSpan,
  .codeWith yL_setSpan cL_setSpan 4 (some .int) [(0, 9, 12, 13)],
  .methodLink RL 21 yX9_setWidths,
  .instanceMethod yX9_setWidths,
  .selects RX9 yX9_setWidths yX9_setWidths,
  .codeWith yL_setWidths cL_setWidths 5 (some .int) [(0, 10, 13, 13), (0, 10, 17, 15)],
  .methodLink RL 24 yX9_setKeep,
  .instanceMethod yX9_setKeep,
  .selects RX9 yX9_setKeep yX9_setKeep,
  .codeWith yL_setKeep cL_setKeep 5 (some .int) [(0, 10, 13, 13)],
  .methodLink RL 27 yX9_setQuery,
  .instanceMethod yX9_setQuery,
  .selects RX9 yX9_setQuery yX9_setQuery,
  .codeWith yL_setQuery cL_setQuery 7 (some .int) [(0, 14, 17, 13)],
  .methodLink RL 41 yX9_goOn,
  .instanceMethod yX9_goOn,
  .selects RX9 yX9_goOn yX9_goOn,
  .codeWith yL_goOn cL_goOn 4 (some .int) [(0, 9, 12, 13)],
  .methodLink RL 74 yX9_over,
  .instanceMethod yX9_over,
  .selects RX9 yX9_over yX9_over,
  .codeWith yL_over cL_over 7 (some .int) [(0, 14, 17, 13)],
  .methodLink RL 103 yX9_firesIn,
  .instanceMethod yX9_firesIn,
  .selects RX9 yX9_firesIn yX9_firesIn,
  .codeWith yL_firesIn cL_firesIn 4 (some .int) [(0, 9, 12, 13)],
  .methodLink RL 106 yX9_wouldRoll,
  .instanceMethod yX9_wouldRoll,
  .selects RX9 yX9_wouldRoll yX9_wouldRoll,
  .codeWith yL_wouldRoll cL_wouldRoll 4 (some .int) [(0, 9, 12, 13)],
  .methodLink RL 31 yX9_put,
  .instanceMethod yX9_put,
  .selects RX9 yX9_put yX9_put,
  .classLink RL 35 "java/lang/IndexOutOfBoundsException",
  .codeWith yL_put cL_put 6 (some .int) [(0, 12, 15, 35), (0, 12, 19, 13)],
  .methodLink RL 37 yX9_putRow,
  .instanceMethod yX9_putRow,
  .selects RX9 yX9_putRow yX9_putRow,
  .codeWith yL_putRow cL_putRow 9 (some .int) [(0, 18, 21, 35), (0, 18, 25, 13)],
  .methodLink RL 44 yX9_blocks,
  .instanceMethod yX9_blocks,
  .selects RX9 yX9_blocks yX9_blocks,
  .codeWith yL_blocks cL_blocks 4 (some .int) [(0, 9, 12, 35)],
  .methodLink RL 47 yX9_size,
  .instanceMethod yX9_size,
  .selects RX9 yX9_size yX9_size,
  .codeWith yL_size cL_size 5 (some .int) [(0, 10, 13, 35)],
  .methodLink RL 50 yX9_point,
  .instanceMethod yX9_point,
  .selects RX9 yX9_point yX9_point,
  .codeWith yL_point cL_point 7 (some .int) [(0, 14, 17, 35)],
  .methodLink RL 54 yX9_bits,
  .instanceMethod yX9_bits,
  .selects RX9 yX9_bits yX9_bits,
  .codeWith yL_bits cL_bits 5 (some .int) [(0, 10, 13, 35)],
  .methodLink RL 57 yX9_word,
  .instanceMethod yX9_word,
  .selects RX9 yX9_word yX9_word,
  .codeWith yL_word cL_word 6 (some .int) [(0, 12, 15, 35)],
  .methodLink RL 60 yX9_buckets,
  .instanceMethod yX9_buckets,
  .selects RX9 yX9_buckets yX9_buckets,
  .codeWith yL_buckets cL_buckets 5 (some .int) [(0, 10, 13, 35)],
  .methodLink RL 64 yX9_ofBucket,
  .instanceMethod yX9_ofBucket,
  .selects RX9 yX9_ofBucket yX9_ofBucket,
  .codeWith yL_ofBucket cL_ofBucket 7 (some .int) [(0, 14, 17, 35), (0, 14, 21, 13)],
  .methodLink RL 68 yX9_items,
  .instanceMethod yX9_items,
  .selects RX9 yX9_items yX9_items,
  .codeWith yL_items cL_items 4 (some .int) [(0, 9, 12, 35)],
  .methodLink RL 71 yX9_ask,
  .instanceMethod yX9_ask,
  .selects RX9 yX9_ask yX9_ask,
  .codeWith yL_ask cL_ask 5 (some .int) [(0, 10, 13, 35), (0, 10, 17, 13)],
  .methodLink RL 78 yX9_gaps,
  .instanceMethod yX9_gaps,
  .selects RX9 yX9_gaps yX9_gaps,
  .codeWith yL_gaps cL_gaps 5 (some .int) [(0, 10, 13, 35), (0, 10, 17, 13)],
  .methodLink RL 81 yX9_lastAt,
  .instanceMethod yX9_lastAt,
  .selects RX9 yX9_lastAt yX9_lastAt,
  .codeWith yL_lastAt cL_lastAt 5 (some .int) [(0, 10, 13, 35), (0, 10, 17, 13)],
  .methodLink RL 84 yX9_addRule,
  .instanceMethod yX9_addRule,
  .selects RX9 yX9_addRule yX9_addRule,
  .codeWith yL_addRule cL_addRule 10 (some .int) [(0, 20, 23, 35), (0, 20, 27, 13), (0, 20, 31, 15)],
  .methodLink RL 100 yX9_bitsWith,
  .instanceMethod yX9_bitsWith,
  .selects RX9 yX9_bitsWith yX9_bitsWith,
  .codeWith yL_bitsWith cL_bitsWith 6 (some .int) [(0, 12, 15, 35), (0, 12, 19, 13)],
  .methodLink RL 88 yX9_stateOf,
  .instanceMethod yX9_stateOf,
  .selects RX9 yX9_stateOf yX9_stateOf,
  .codeWith yL_stateOf cL_stateOf 4 (some .int) [(0, 9, 12, 35)],
  .methodLink RL 91 yX9_inRow]
def wsGe_5 : List Cond := [.instanceMethod yX9_inRow,
  .selects RX9 yX9_inRow yX9_inRow,
  .codeWith yL_inRow cL_inRow 4 (some .int) [(0, 9, 12, 35)],
  .methodLink RL 94 yX9_seenBy,
  .instanceMethod yX9_seenBy,
  .selects RX9 yX9_seenBy yX9_seenBy,
  .codeWith yL_seenBy cL_seenBy 4 (some .int) [(0, 9, 12, 35)],
  .methodLink RL 97 yX9_event,
  .instanceMethod yX9_event,
  .selects RX9 yX9_event yX9_event,
  .codeWith yL_event cL_event 5 (some .int) [(0, 10, 13, 35), (0, 10, 17, 13)],
  .methodLink RL 113 yL_addSeries,
  .static yL_addSeries,
  .initialized RL,
  .methodLink RL 118 yX15_addSeries,
  .instanceMethod yX15_addSeries,
  .selects RX15 yX15_addSeries yX15_addSeries,
  .methodLink RL 119 yX15_thrown,
  .instanceMethod yX15_thrown,
  .selects RX15 yX15_thrown yX15_thrown,
  .methodLink RL 123 yL_setSpan,
  .static yL_setSpan,
  .methodLink RL 126 yX15_setSpan,
  .instanceMethod yX15_setSpan,
  .selects RX15 yX15_setSpan yX15_setSpan,
  .methodLink RL 127 yL_setWidths,
  .static yL_setWidths,
  .methodLink RL 129 yX15_setWidths,
  .instanceMethod yX15_setWidths,
  .selects RX15 yX15_setWidths yX15_setWidths,
  .methodLink RL 130 yL_setKeep,
  .static yL_setKeep,
  .methodLink RL 132 yX15_setKeep,
  .instanceMethod yX15_setKeep,
  .selects RX15 yX15_setKeep yX15_setKeep,
  .methodLink RL 133 yL_setQuery,
  .static yL_setQuery,
  .methodLink RL 136 yX15_setQuery,
  .instanceMethod yX15_setQuery,
  .selects RX15 yX15_setQuery yX15_setQuery,
  .methodLink RL 145 yL_goOn,
  .static yL_goOn,
  .methodLink RL 147 yX15_goOn,
  .instanceMethod yX15_goOn,
  .selects RX15 yX15_goOn yX15_goOn,
  .methodLink RL 195 yL_over,
  .static yL_over,
  .methodLink RL 198 yX15_over,
  .instanceMethod yX15_over,
  .selects RX15 yX15_over yX15_over,
  .methodLink RL 228 yL_firesIn,
  .static yL_firesIn,
  .methodLink RL 230 yX15_firesIn,
  .instanceMethod yX15_firesIn,
  .selects RX15 yX15_firesIn yX15_firesIn,
  .methodLink RL 231 yL_wouldRoll,
  .static yL_wouldRoll,
  .methodLink RL 233 yX15_wouldRoll,
  .instanceMethod yX15_wouldRoll,
  .selects RX15 yX15_wouldRoll yX15_wouldRoll,
  .methodLink RL 137 yL_put,
  .static yL_put,
  .methodLink RL 140 yX15_put,
  .instanceMethod yX15_put,
  .selects RX15 yX15_put yX15_put,
  .methodLink RL 141 yL_putRow,
  .static yL_putRow,
  .methodLink RL 144 yX15_putRow,
  .instanceMethod yX15_putRow,
  .selects RX15 yX15_putRow yX15_putRow,
  .methodLink RL 160 yL_blocks,
  .static yL_blocks,
  .methodLink RL 162 yX15_blocks,
  .instanceMethod yX15_blocks,
  .selects RX15 yX15_blocks yX15_blocks,
  .methodLink RL 163 yL_size,
  .static yL_size,
  .methodLink RL 165 yX15_size,
  .instanceMethod yX15_size,
  .selects RX15 yX15_size yX15_size,
  .methodLink RL 166 yL_point,
  .static yL_point,
  .methodLink RL 169 yX15_point,
  .instanceMethod yX15_point,
  .selects RX15 yX15_point yX15_point,
  .methodLink RL 170 yL_bits,
  .static yL_bits,
  .methodLink RL 172 yX15_bits,
  .instanceMethod yX15_bits,
  .selects RX15 yX15_bits yX15_bits,
  .methodLink RL 173 yL_word,
  .static yL_word,
  .methodLink RL 175 yX15_word,
  .instanceMethod yX15_word,
  .selects RX15 yX15_word yX15_word,
  .methodLink RL 176 yL_buckets,
  .static yL_buckets,
  .methodLink RL 179 yX15_buckets_,
  .instanceMethod yX15_buckets_,
  .selects RX15 yX15_buckets_ yX15_buckets_]
def wsGe_6 : List Cond := [.methodLink RL 180 yL_ofBucket,
  .static yL_ofBucket,
  .methodLink RL 183 yX15_ofBucket,
  .instanceMethod yX15_ofBucket,
  .selects RX15 yX15_ofBucket yX15_ofBucket,
  .methodLink RL 184 yL_items,
  .static yL_items,
  .methodLink RL 186 yX15_items,
  .instanceMethod yX15_items,
  .selects RX15 yX15_items yX15_items,
  .methodLink RL 192 yL_ask,
  .static yL_ask,
  .methodLink RL 194 yX15_ask,
  .instanceMethod yX15_ask,
  .selects RX15 yX15_ask yX15_ask,
  .methodLink RL 199 yL_gaps,
  .static yL_gaps,
  .methodLink RL 201 yX15_gaps,
  .instanceMethod yX15_gaps,
  .selects RX15 yX15_gaps yX15_gaps,
  .methodLink RL 202 yL_lastAt,
  .static yL_lastAt,
  .methodLink RL 204 yX15_lastAt,
  .instanceMethod yX15_lastAt,
  .selects RX15 yX15_lastAt yX15_lastAt,
  .methodLink RL 205 yL_addRule,
  .static yL_addRule,
  .methodLink RL 208 yX15_addRule,
  .instanceMethod yX15_addRule,
  .selects RX15 yX15_addRule yX15_addRule,
  .methodLink RL 225 yL_bitsWith,
  .static yL_bitsWith,
  .methodLink RL 227 yX15_bitsWith,
  .instanceMethod yX15_bitsWith,
  .selects RX15 yX15_bitsWith yX15_bitsWith,
  .methodLink RL 209 yL_stateOf,
  .static yL_stateOf,
  .methodLink RL 211 yX15_stateOf,
  .instanceMethod yX15_stateOf,
  .selects RX15 yX15_stateOf yX15_stateOf,
  .methodLink RL 212 yL_inRow,
  .static yL_inRow,
  .methodLink RL 214 yX15_inRow,
  .instanceMethod yX15_inRow,
  .selects RX15 yX15_inRow yX15_inRow,
  .methodLink RL 215 yL_seenBy,
  .static yL_seenBy,
  .methodLink RL 217 yX15_seenBy,
  .instanceMethod yX15_seenBy,
  .selects RX15 yX15_seenBy yX15_seenBy,
  .methodLink RL 222 yL_event,
  .static yL_event,
  .methodLink RL 224 yX15_event,
  .instanceMethod yX15_event,
  .selects RX15 yX15_event yX15_event,
  .methodLink RL 148 yX9_now,
  .instanceMethod yX9_now,
  .selects RX9 yX9_now yX9_now,
  .methodLink RL 151 yX15_now,
  .instanceMethod yX15_now,
  .selects RX15 yX15_now yX15_now,
  .methodLink RL 152 yX9_series,
  .instanceMethod yX9_series,
  .selects RX9 yX9_series yX9_series,
  .methodLink RL 155 yX15_series_,
  .instanceMethod yX15_series_,
  .selects RX15 yX15_series_ yX15_series_,
  .methodLink RL 156 yX9_late,
  .instanceMethod yX9_late,
  .selects RX9 yX9_late yX9_late,
  .methodLink RL 159 yX15_late,
  .instanceMethod yX15_late,
  .selects RX15 yX15_late yX15_late,
  .methodLink RL 218 yX9_events,
  .instanceMethod yX9_events,
  .selects RX9 yX9_events yX9_events,
  .methodLink RL 221 yX15_events,
  .instanceMethod yX15_events,
  .selects RX15 yX15_events yX15_events,
  .methodLink RL 234 yX9_digest,
  .instanceMethod yX9_digest,
  .selects RX9 yX9_digest yX9_digest,
  .methodLink RL 238 yX15_digest,
  .instanceMethod yX15_digest,
  .selects RX15 yX15_digest yX15_digest,
  .methodLink RL 187 yX9_ratio,
  .instanceMethod yX9_ratio,
  .selects RX9 yX9_ratio yX9_ratio,
  .methodLink RL 191 yX15_ratio,
  .instanceMethod yX15_ratio,
  .selects RX15 yX15_ratio yX15_ratio,
  .classLink RL 8 RX9,
  .instantiable RX9 9,
  .methodLink RL 109 yX9_init,
  .instanceMethod yX9_init,
  .classLink RL 110 RX15,
  .instantiable RX15 7,
  .methodLink RL 112 yX15_init,
  .instanceMethod yX15_init,
  .arrayClass .long]
def wsGe : List Cond := (wsGe_0 ++ (wsGe_1 ++ (wsGe_2 ++ (wsGe_3 ++ (wsGe_4 ++ (wsGe_5 ++ (wsGe_6 ++ ([] : List Cond))))))))
theorem wgc_0 {w : Cond} (h : w ∈ wsGe_0) : w ∈ wsGe := List.mem_append_left _ h
theorem wgc_1 {w : Cond} (h : w ∈ wsGe_1) : w ∈ wsGe := List.mem_append_right _ (List.mem_append_left _ h)
theorem wgc_2 {w : Cond} (h : w ∈ wsGe_2) : w ∈ wsGe := List.mem_append_right _ (List.mem_append_right _ (List.mem_append_left _ h))
theorem wgc_3 {w : Cond} (h : w ∈ wsGe_3) : w ∈ wsGe := List.mem_append_right _ (List.mem_append_right _ (List.mem_append_right _ (List.mem_append_left _ h)))
theorem wgc_4 {w : Cond} (h : w ∈ wsGe_4) : w ∈ wsGe := List.mem_append_right _ (List.mem_append_right _ (List.mem_append_right _ (List.mem_append_right _ (List.mem_append_left _ h))))
theorem wgc_5 {w : Cond} (h : w ∈ wsGe_5) : w ∈ wsGe := List.mem_append_right _ (List.mem_append_right _ (List.mem_append_right _ (List.mem_append_right _ (List.mem_append_right _ (List.mem_append_left _ h)))))
theorem wgc_6 {w : Cond} (h : w ∈ wsGe_6) : w ∈ wsGe := List.mem_append_right _ (List.mem_append_right _ (List.mem_append_right _ (List.mem_append_right _ (List.mem_append_right _ (List.mem_append_right _ (List.mem_append_left _ h))))))
def wsGc : List Cond := (u_ws RJx4a65c TJx4a65c 3 ++ (u_ws RX9 TX9 9 ++ (u_ws RX8 TX8 5 ++ (u_ws RX1 TX1 3 ++ (u_ws RX7 TX7 5 ++ (u_ws RX15 TX15 7 ++ (u_ws RX14 TX14 9 ++ (u_ws RX0 TX0 2 ++ (u_ws RX4 TX4 7 ++ (u_ws RX3 TX3 6 ++ (u_ws RX6 TX6 5 ++ (u_ws RX13 TX13 5 ++ (u_ws RJ0 TJ0 4 ++ (u_ws RJ4 TJ4 4 ++ (u_ws RX5 TX5 9 ++ (u_ws RX10 TX10 1 ++ (u_ws RX11 TX11 7 ++ (u_ws RX12 TX12 9 ++ ((vx_atS RX9 284 "java/lang/IllegalArgumentException" ["java/lang/RuntimeException", "java/lang/Exception"]).filter goodWord ++ ((vx_atS RX9 291 "java/lang/IndexOutOfBoundsException" ["java/lang/RuntimeException", "java/lang/Exception"]).filter goodWord ++ ([] : List Cond)))))))))))))))))))))
def wsG : List Cond := wsGe ++ wsGc
abbrev gw (c : Cond) : List Cond := c :: wsG
theorem gm {c w : Cond} (h : w ∈ wsG) : w ∈ gw c := List.mem_cons_of_mem _ h
theorem gh {c : Cond} {u : List Cond} (h : ∀ w ∈ u, w ∈ wsG) : ∀ w ∈ u, w ∈ gw c := fun w q => gm (h w q)
theorem wsGe_good : wsGe.all goodWord = true := by decide +kernel
theorem wsGc_good : wsGc.all goodWord = true := by decide +kernel
theorem wsG_good {w : Cond} (h : w ∈ wsG) : (w.onTables && w.keeps) = true ∨ ∃ ty, w = .arrayClass ty := good_of_word ((List.mem_append.mp h).elim (fun q => List.all_eq_true.mp wsGe_good w q) (fun q => List.all_eq_true.mp wsGc_good w q))
theorem wg_0 : (.code yX9_isIn cX9_isIn 4 (some .boolean) : Cond) ∈ wsG := List.mem_append_left _ (wgc_0 (List.mem_of_getElem? (i := 0) rfl))
theorem wg_1 : (.code yX9_needArgument cX9_needArgument 1 none : Cond) ∈ wsG := List.mem_append_left _ (wgc_0 (List.mem_of_getElem? (i := 1) rfl))
theorem wg_2 : (.code yX9_needState cX9_needState 1 none : Cond) ∈ wsG := List.mem_append_left _ (wgc_0 (List.mem_of_getElem? (i := 2) rfl))
theorem wg_3 : (.classLink RX9 280 "java/lang/IllegalArgumentException" : Cond) ∈ wsG := List.mem_append_left _ (wgc_0 (List.mem_of_getElem? (i := 3) rfl))
theorem wg_4 : (.initialized "java/lang/IllegalArgumentException" : Cond) ∈ wsG := List.mem_append_left _ (wgc_0 (List.mem_of_getElem? (i := 4) rfl))
theorem wg_5 : (.classLink RX9 287 "java/lang/IndexOutOfBoundsException" : Cond) ∈ wsG := List.mem_append_left _ (wgc_0 (List.mem_of_getElem? (i := 5) rfl))
theorem wg_6 : (.initialized "java/lang/IndexOutOfBoundsException" : Cond) ∈ wsG := List.mem_append_left _ (wgc_0 (List.mem_of_getElem? (i := 6) rfl))
theorem wg_7 : (.code yX9_needIndex cX9_needIndex 1 none : Cond) ∈ wsG := List.mem_append_left _ (wgc_0 (List.mem_of_getElem? (i := 7) rfl))
theorem wg_8 : (.fieldLink RJx4a65c 48 "java/util/ArrayList" "size" "I" : Cond) ∈ wsG := List.mem_append_left _ (wgc_0 (List.mem_of_getElem? (i := 8) rfl))
theorem wg_9 : (.code yJx4a65c_size_8abf5 cJx4a65c_size_8abf5 1 (some .int) : Cond) ∈ wsG := List.mem_append_left _ (wgc_0 (List.mem_of_getElem? (i := 9) rfl))
theorem wg_10 : (.fieldLink RX9 21 "MeridianSeries" "store" "LMeridianSeries$Store;" : Cond) ∈ wsG := List.mem_append_left _ (wgc_0 (List.mem_of_getElem? (i := 10) rfl))
theorem wg_11 : (.fieldLink RX9 59 "MeridianSeries$Store" "chains" "Ljava/util/ArrayList;" : Cond) ∈ wsG := List.mem_append_left _ (wgc_0 (List.mem_of_getElem? (i := 11) rfl))
theorem wg_12 : (.methodLink RX9 63 yJx4a65c_size_8abf5 : Cond) ∈ wsG := List.mem_append_left _ (wgc_0 (List.mem_of_getElem? (i := 12) rfl))
theorem wg_13 : (.instanceMethod yJx4a65c_size_8abf5 : Cond) ∈ wsG := List.mem_append_left _ (wgc_0 (List.mem_of_getElem? (i := 13) rfl))
theorem wg_14 : (.selects RJx4a65c yJx4a65c_size_8abf5 yJx4a65c_size_8abf5 : Cond) ∈ wsG := List.mem_append_left _ (wgc_0 (List.mem_of_getElem? (i := 14) rfl))
theorem wg_15 : (.initialized RJx4a65c : Cond) ∈ wsG := List.mem_append_left _ (wgc_0 (List.mem_of_getElem? (i := 15) rfl))
theorem wg_16 : (.code yX9_chainAt cX9_chainAt 2 (some (.object "MeridianSeries$Series")) : Cond) ∈ wsG := List.mem_append_left _ (wgc_0 (List.mem_of_getElem? (i := 16) rfl))
theorem wg_17 : (.fieldLink RX9 216 "MeridianSeries$Store" "rules" "Ljava/util/ArrayList;" : Cond) ∈ wsG := List.mem_append_left _ (wgc_0 (List.mem_of_getElem? (i := 17) rfl))
theorem wg_18 : (.code yX9_ruleAt cX9_ruleAt 2 (some (.object "MeridianSeries$Rule")) : Cond) ∈ wsG := List.mem_append_left _ (wgc_0 (List.mem_of_getElem? (i := 18) rfl))
theorem wg_19 : (.methodLink RX9 101 yX9_chainAt : Cond) ∈ wsG := List.mem_append_left _ (wgc_0 (List.mem_of_getElem? (i := 19) rfl))
theorem wg_20 : (.instanceMethod yX9_chainAt : Cond) ∈ wsG := List.mem_append_left _ (wgc_0 (List.mem_of_getElem? (i := 20) rfl))
theorem wg_21 : (.selects RX9 yX9_chainAt yX9_chainAt : Cond) ∈ wsG := List.mem_append_left _ (wgc_0 (List.mem_of_getElem? (i := 21) rfl))
theorem wg_22 : (.initialized RX9 : Cond) ∈ wsG := List.mem_append_left _ (wgc_0 (List.mem_of_getElem? (i := 22) rfl))
theorem wg_23 : (.code yX9_put cX9_put 5 (some .int) : Cond) ∈ wsG := List.mem_append_left _ (wgc_0 (List.mem_of_getElem? (i := 23) rfl))
theorem wg_24 : (.code yX9_putRow cX9_putRow 14 (some .int) : Cond) ∈ wsG := List.mem_append_left _ (wgc_0 (List.mem_of_getElem? (i := 24) rfl))
theorem wg_25 : (.code yX9_blocks cX9_blocks 2 (some .int) : Cond) ∈ wsG := List.mem_append_left _ (wgc_0 (List.mem_of_getElem? (i := 25) rfl))
theorem wg_26 : (.code yX9_size cX9_size 4 (some .int) : Cond) ∈ wsG := List.mem_append_left _ (wgc_0 (List.mem_of_getElem? (i := 26) rfl))
theorem wg_27 : (.code yX9_point cX9_point 6 (some .int) : Cond) ∈ wsG := List.mem_append_left _ (wgc_0 (List.mem_of_getElem? (i := 27) rfl))
theorem wg_28 : (.code yX9_bits cX9_bits 4 (some .int) : Cond) ∈ wsG := List.mem_append_left _ (wgc_0 (List.mem_of_getElem? (i := 28) rfl))
theorem wg_29 : (.code yX9_word cX9_word 5 (some .int) : Cond) ∈ wsG := List.mem_append_left _ (wgc_0 (List.mem_of_getElem? (i := 29) rfl))
theorem wg_30 : (.code yX9_buckets cX9_buckets 3 (some .int) : Cond) ∈ wsG := List.mem_append_left _ (wgc_0 (List.mem_of_getElem? (i := 30) rfl))
theorem wg_31 : (.code yX9_ofBucket cX9_ofBucket 6 (some .int) : Cond) ∈ wsG := List.mem_append_left _ (wgc_0 (List.mem_of_getElem? (i := 31) rfl))
theorem wg_32 : (.code yX9_items cX9_items 2 (some .int) : Cond) ∈ wsG := List.mem_append_left _ (wgc_0 (List.mem_of_getElem? (i := 32) rfl))
theorem wg_33 : (.code yX9_ask cX9_ask 4 (some .int) : Cond) ∈ wsG := List.mem_append_left _ (wgc_0 (List.mem_of_getElem? (i := 33) rfl))
theorem wg_34 : (.code yX9_gaps cX9_gaps 7 (some .int) : Cond) ∈ wsG := List.mem_append_left _ (wgc_0 (List.mem_of_getElem? (i := 34) rfl))
theorem wg_35 : (.code yX9_lastAt cX9_lastAt 5 (some .int) : Cond) ∈ wsG := List.mem_append_left _ (wgc_0 (List.mem_of_getElem? (i := 35) rfl))
theorem wg_36 : (.code yX9_addRule cX9_addRule 11 (some .int) : Cond) ∈ wsG := List.mem_append_left _ (wgc_0 (List.mem_of_getElem? (i := 36) rfl))
theorem wg_37 : (.code yX9_bitsWith cX9_bitsWith 5 (some .int) : Cond) ∈ wsG := List.mem_append_left _ (wgc_0 (List.mem_of_getElem? (i := 37) rfl))
theorem wg_38 : (.methodLink RX9 224 yX9_ruleAt : Cond) ∈ wsG := List.mem_append_left _ (wgc_0 (List.mem_of_getElem? (i := 38) rfl))
theorem wg_39 : (.instanceMethod yX9_ruleAt : Cond) ∈ wsG := List.mem_append_left _ (wgc_0 (List.mem_of_getElem? (i := 39) rfl))
theorem wg_40 : (.selects RX9 yX9_ruleAt yX9_ruleAt : Cond) ∈ wsG := List.mem_append_left _ (wgc_0 (List.mem_of_getElem? (i := 40) rfl))
theorem wg_41 : (.code yX9_stateOf cX9_stateOf 2 (some .int) : Cond) ∈ wsG := List.mem_append_left _ (wgc_0 (List.mem_of_getElem? (i := 41) rfl))
theorem wg_42 : (.code yX9_inRow cX9_inRow 2 (some .int) : Cond) ∈ wsG := List.mem_append_left _ (wgc_0 (List.mem_of_getElem? (i := 42) rfl))
theorem wg_43 : (.code yX9_seenBy cX9_seenBy 2 (some .int) : Cond) ∈ wsG := List.mem_append_left _ (wgc_0 (List.mem_of_getElem? (i := 43) rfl))
theorem wg_44 : (.methodLink RX9 51 yX9_isIn : Cond) ∈ wsG := List.mem_append_left _ (wgc_0 (List.mem_of_getElem? (i := 44) rfl))
theorem wg_45 : (.static yX9_isIn : Cond) ∈ wsG := List.mem_append_left _ (wgc_0 (List.mem_of_getElem? (i := 45) rfl))
theorem wg_46 : (.methodLink RX9 150 yX9_needIndex : Cond) ∈ wsG := List.mem_append_left _ (wgc_0 (List.mem_of_getElem? (i := 46) rfl))
theorem wg_47 : (.static yX9_needIndex : Cond) ∈ wsG := List.mem_append_left _ (wgc_0 (List.mem_of_getElem? (i := 47) rfl))
theorem wg_48 : (.fieldLink RX9 129 "MeridianSeries$Store" "log" "LMeridianSeries$EventLog;" : Cond) ∈ wsG := List.mem_append_left _ (wgc_0 (List.mem_of_getElem? (i := 48) rfl))
theorem wg_49 : (.fieldLink RX9 133 "MeridianSeries$EventLog" "total" "I" : Cond) ∈ wsG := List.mem_append_left _ (wgc_0 (List.mem_of_getElem? (i := 49) rfl))
theorem wg_50 : (.code yX9_event cX9_event 3 (some .int) : Cond) ∈ wsG := List.mem_append_left _ (wgc_0 (List.mem_of_getElem? (i := 50) rfl))
theorem wg_51 : (.methodLink RX9 55 yX9_needArgument : Cond) ∈ wsG := List.mem_append_left _ (wgc_0 (List.mem_of_getElem? (i := 51) rfl))
theorem wg_52 : (.static yX9_needArgument : Cond) ∈ wsG := List.mem_append_left _ (wgc_0 (List.mem_of_getElem? (i := 52) rfl))
theorem wg_53 : (.code yX9_setSpan cX9_setSpan 3 (some .int) : Cond) ∈ wsG := List.mem_append_left _ (wgc_0 (List.mem_of_getElem? (i := 53) rfl))
theorem wg_54 : (.fieldLink RX9 10 "MeridianSeries" "settings" "LMeridianSeries$Settings;" : Cond) ∈ wsG := List.mem_append_left _ (wgc_0 (List.mem_of_getElem? (i := 54) rfl))
theorem wg_55 : (.fieldLink RX9 81 "MeridianSeries$Settings" "span" "I" : Cond) ∈ wsG := List.mem_append_left _ (wgc_0 (List.mem_of_getElem? (i := 55) rfl))
theorem wg_56 : (.code yX9_setKeep cX9_setKeep 4 (some .int) : Cond) ∈ wsG := List.mem_append_left _ (wgc_0 (List.mem_of_getElem? (i := 56) rfl))
theorem wg_57 : (.fieldLink RX9 94 "MeridianSeries$Settings" "keep" "I" : Cond) ∈ wsG := List.mem_append_left _ (wgc_0 (List.mem_of_getElem? (i := 57) rfl))
theorem wg_58 : (.fieldLink RX9 97 "MeridianSeries$Settings" "longKeep" "I" : Cond) ∈ wsG := List.mem_append_left _ (wgc_0 (List.mem_of_getElem? (i := 58) rfl))
theorem wg_59 : (.constant RX9 100 (99999) : Cond) ∈ wsG := List.mem_append_left _ (wgc_0 (List.mem_of_getElem? (i := 59) rfl))
theorem wg_60 : (.code yX9_setQuery cX9_setQuery 6 (some .int) : Cond) ∈ wsG := List.mem_append_left _ (wgc_0 (List.mem_of_getElem? (i := 60) rfl))
theorem wg_61 : (.fieldLink RX9 39 "MeridianSeries" "queryStep" "I" : Cond) ∈ wsG := List.mem_append_left _ (wgc_0 (List.mem_of_getElem? (i := 61) rfl))
theorem wg_62 : (.fieldLink RX9 35 "MeridianSeries" "queryFrom" "I" : Cond) ∈ wsG := List.mem_append_left _ (wgc_0 (List.mem_of_getElem? (i := 62) rfl))
theorem wg_63 : (.fieldLink RX9 42 "MeridianSeries" "queryWhat" "I" : Cond) ∈ wsG := List.mem_append_left _ (wgc_0 (List.mem_of_getElem? (i := 63) rfl))
theorem wg_64 : (.fieldLink RX9 45 "MeridianSeries" "queryFill" "I" : Cond) ∈ wsG := List.mem_append_left _ (wgc_0 (List.mem_of_getElem? (i := 64) rfl))
theorem wg_65 : (.fieldLink RX8 10 "MeridianSeries$Store" "chains" "Ljava/util/ArrayList;" : Cond) ∈ wsG := List.mem_append_left _ (wgc_0 (List.mem_of_getElem? (i := 65) rfl))
theorem wg_66 : (.methodLink RX8 34 yJx4a65c_size_8abf5 : Cond) ∈ wsG := List.mem_append_left _ (wgc_0 (List.mem_of_getElem? (i := 66) rfl))
theorem wg_67 : (.code yX8_hasBucket cX8_hasBucket 2 (some .boolean) : Cond) ∈ wsG := List.mem_append_left _ (wgc_0 (List.mem_of_getElem? (i := 67) rfl))
theorem wg_68 : (.code yX9_setWidths cX9_setWidths 4 (some .int) : Cond) ∈ wsG := List.mem_append_left _ (wgc_0 (List.mem_of_getElem? (i := 68) rfl))
theorem wg_69 : (.methodLink RX9 84 yX8_hasBucket : Cond) ∈ wsG := List.mem_append_left _ (wgc_0 (List.mem_of_getElem? (i := 69) rfl))
theorem wg_70 : (.instanceMethod yX8_hasBucket : Cond) ∈ wsG := List.mem_append_left _ (wgc_0 (List.mem_of_getElem? (i := 70) rfl))
theorem wg_71 : (.selects RX8 yX8_hasBucket yX8_hasBucket : Cond) ∈ wsG := List.mem_append_left _ (wgc_0 (List.mem_of_getElem? (i := 71) rfl))
theorem wg_72 : (.initialized RX8 : Cond) ∈ wsG := List.mem_append_left _ (wgc_0 (List.mem_of_getElem? (i := 72) rfl))
theorem wg_73 : (.methodLink RX9 69 yX9_needState : Cond) ∈ wsG := List.mem_append_left _ (wgc_0 (List.mem_of_getElem? (i := 73) rfl))
theorem wg_74 : (.static yX9_needState : Cond) ∈ wsG := List.mem_append_left _ (wgc_0 (List.mem_of_getElem? (i := 74) rfl))
theorem wg_75 : (.fieldLink RX9 88 "MeridianSeries$Settings" "width" "I" : Cond) ∈ wsG := List.mem_append_left _ (wgc_0 (List.mem_of_getElem? (i := 75) rfl))
theorem wg_76 : (.fieldLink RX9 91 "MeridianSeries$Settings" "fold" "I" : Cond) ∈ wsG := List.mem_append_left _ (wgc_0 (List.mem_of_getElem? (i := 76) rfl))
theorem wg_77 : (.fieldLink RX9 141 "MeridianSeries$Store" "now" "I" : Cond) ∈ wsG := List.mem_append_left _ (wgc_0 (List.mem_of_getElem? (i := 77) rfl))
theorem wg_78 : (.code yX9_now cX9_now 1 (some .int) : Cond) ∈ wsG := List.mem_append_left _ (wgc_0 (List.mem_of_getElem? (i := 78) rfl))
theorem wg_79 : (.code yX9_series cX9_series 1 (some .int) : Cond) ∈ wsG := List.mem_append_left _ (wgc_0 (List.mem_of_getElem? (i := 79) rfl))
theorem wg_80 : (.fieldLink RX9 48 "MeridianSeries" "lateCount" "I" : Cond) ∈ wsG := List.mem_append_left _ (wgc_0 (List.mem_of_getElem? (i := 80) rfl))
theorem wg_81 : (.code yX9_late cX9_late 1 (some .int) : Cond) ∈ wsG := List.mem_append_left _ (wgc_0 (List.mem_of_getElem? (i := 81) rfl))
theorem wg_82 : (.code yX9_events cX9_events 1 (some .int) : Cond) ∈ wsG := List.mem_append_left _ (wgc_0 (List.mem_of_getElem? (i := 82) rfl))
theorem wg_83 : (.code yX15_isIn cX15_isIn 3 (some .boolean) : Cond) ∈ wsG := List.mem_append_left _ (wgc_0 (List.mem_of_getElem? (i := 83) rfl))
theorem wg_84 : (.fieldLink RX15 72 "MeridianSeriesModel" "thrown" "I" : Cond) ∈ wsG := List.mem_append_left _ (wgc_0 (List.mem_of_getElem? (i := 84) rfl))
theorem wg_85 : (.code yX15_refuse cX15_refuse 3 (some .boolean) : Cond) ∈ wsG := List.mem_append_left _ (wgc_0 (List.mem_of_getElem? (i := 85) rfl))
theorem wg_86 : (.methodLink RX15 75 yX15_refuse : Cond) ∈ wsG := List.mem_append_left _ (wgc_0 (List.mem_of_getElem? (i := 86) rfl))
theorem wg_87 : (.instanceMethod yX15_refuse : Cond) ∈ wsG := List.mem_append_left _ (wgc_0 (List.mem_of_getElem? (i := 87) rfl))
theorem wg_88 : (.selects RX15 yX15_refuse yX15_refuse : Cond) ∈ wsG := List.mem_append_left _ (wgc_0 (List.mem_of_getElem? (i := 88) rfl))
theorem wg_89 : (.initialized RX15 : Cond) ∈ wsG := List.mem_append_left _ (wgc_0 (List.mem_of_getElem? (i := 89) rfl))
theorem wg_90 : (.code yX15_start cX15_start 3 (some .boolean) : Cond) ∈ wsG := List.mem_append_left _ (wgc_0 (List.mem_of_getElem? (i := 90) rfl))
theorem wg_91 : (.code yX15_plain cX15_plain 2 (some .int) : Cond) ∈ wsG := List.mem_append_left _ (wgc_0 (List.mem_of_getElem? (i := 91) rfl))
theorem wg_92 : (.code yX15_thrown cX15_thrown 1 (some .int) : Cond) ∈ wsG := List.mem_append_left _ (wgc_0 (List.mem_of_getElem? (i := 92) rfl))
theorem wg_93 : (.fieldLink RX15 68 "MeridianSeriesModel" "store" "LMeridianSeriesModel$Store;" : Cond) ∈ wsG := List.mem_append_left _ (wgc_0 (List.mem_of_getElem? (i := 93) rfl))
theorem wg_94 : (.fieldLink RX15 86 "MeridianSeriesModel$Store" "series" "Ljava/util/ArrayList;" : Cond) ∈ wsG := List.mem_append_left _ (wgc_0 (List.mem_of_getElem? (i := 94) rfl))
theorem wg_95 : (.methodLink RX15 7 yJx4a65c_size_8abf5 : Cond) ∈ wsG := List.mem_append_left _ (wgc_0 (List.mem_of_getElem? (i := 95) rfl))
theorem wg_96 : (.methodLink RX15 79 yX15_isIn : Cond) ∈ wsG := List.mem_append_left _ (wgc_0 (List.mem_of_getElem? (i := 96) rfl))
theorem wg_97 : (.static yX15_isIn : Cond) ∈ wsG := List.mem_append_left _ (wgc_0 (List.mem_of_getElem? (i := 97) rfl))
theorem wg_98 : (.methodLink RX15 83 yX15_start : Cond) ∈ wsG := List.mem_append_left _ (wgc_0 (List.mem_of_getElem? (i := 98) rfl))
theorem wg_99 : (.instanceMethod yX15_start : Cond) ∈ wsG := List.mem_append_left _ (wgc_0 (List.mem_of_getElem? (i := 99) rfl))
theorem wg_100 : (.selects RX15 yX15_start yX15_start : Cond) ∈ wsG := List.mem_append_left _ (wgc_1 (List.mem_of_getElem? (i := 0) rfl))
theorem wg_101 : (.code yX15_isNoSeries cX15_isNoSeries 2 (some .boolean) : Cond) ∈ wsG := List.mem_append_left _ (wgc_1 (List.mem_of_getElem? (i := 1) rfl))
theorem wg_102 : (.fieldLink RX15 244 "MeridianSeriesModel$Store" "rules" "Ljava/util/ArrayList;" : Cond) ∈ wsG := List.mem_append_left _ (wgc_1 (List.mem_of_getElem? (i := 2) rfl))
theorem wg_103 : (.code yX15_isNoRule cX15_isNoRule 2 (some .boolean) : Cond) ∈ wsG := List.mem_append_left _ (wgc_1 (List.mem_of_getElem? (i := 3) rfl))
theorem wg_104 : (.methodLink RX15 152 yX15_isNoSeries : Cond) ∈ wsG := List.mem_append_left _ (wgc_1 (List.mem_of_getElem? (i := 4) rfl))
theorem wg_105 : (.instanceMethod yX15_isNoSeries : Cond) ∈ wsG := List.mem_append_left _ (wgc_1 (List.mem_of_getElem? (i := 5) rfl))
theorem wg_106 : (.selects RX15 yX15_isNoSeries yX15_isNoSeries : Cond) ∈ wsG := List.mem_append_left _ (wgc_1 (List.mem_of_getElem? (i := 6) rfl))
theorem wg_107 : (.code yX15_isNoBlock cX15_isNoBlock 3 (some .boolean) : Cond) ∈ wsG := List.mem_append_left _ (wgc_1 (List.mem_of_getElem? (i := 7) rfl))
theorem wg_108 : (.code yX15_put cX15_put 4 (some .int) : Cond) ∈ wsG := List.mem_append_left _ (wgc_1 (List.mem_of_getElem? (i := 8) rfl))
theorem wg_109 : (.code yX15_putRow cX15_putRow 9 (some .int) : Cond) ∈ wsG := List.mem_append_left _ (wgc_1 (List.mem_of_getElem? (i := 9) rfl))
theorem wg_110 : (.code yX15_blocks cX15_blocks 2 (some .int) : Cond) ∈ wsG := List.mem_append_left _ (wgc_1 (List.mem_of_getElem? (i := 10) rfl))
theorem wg_111 : (.methodLink RX15 177 yX15_isNoBlock : Cond) ∈ wsG := List.mem_append_left _ (wgc_1 (List.mem_of_getElem? (i := 11) rfl))
theorem wg_112 : (.instanceMethod yX15_isNoBlock : Cond) ∈ wsG := List.mem_append_left _ (wgc_1 (List.mem_of_getElem? (i := 12) rfl))
theorem wg_113 : (.selects RX15 yX15_isNoBlock yX15_isNoBlock : Cond) ∈ wsG := List.mem_append_left _ (wgc_1 (List.mem_of_getElem? (i := 13) rfl))
theorem wg_114 : (.code yX15_size cX15_size 3 (some .int) : Cond) ∈ wsG := List.mem_append_left _ (wgc_1 (List.mem_of_getElem? (i := 14) rfl))
theorem wg_115 : (.code yX15_point cX15_point 5 (some .int) : Cond) ∈ wsG := List.mem_append_left _ (wgc_1 (List.mem_of_getElem? (i := 15) rfl))
theorem wg_116 : (.code yX15_bits cX15_bits 3 (some .int) : Cond) ∈ wsG := List.mem_append_left _ (wgc_1 (List.mem_of_getElem? (i := 16) rfl))
theorem wg_117 : (.code yX15_word cX15_word 7 (some .int) : Cond) ∈ wsG := List.mem_append_left _ (wgc_1 (List.mem_of_getElem? (i := 17) rfl))
theorem wg_118 : (.code yX15_buckets_ cX15_buckets_ 3 (some .int) : Cond) ∈ wsG := List.mem_append_left _ (wgc_1 (List.mem_of_getElem? (i := 18) rfl))
theorem wg_119 : (.code yX15_ofBucket cX15_ofBucket 5 (some .int) : Cond) ∈ wsG := List.mem_append_left _ (wgc_1 (List.mem_of_getElem? (i := 19) rfl))
theorem wg_120 : (.code yX15_items cX15_items 2 (some .int) : Cond) ∈ wsG := List.mem_append_left _ (wgc_1 (List.mem_of_getElem? (i := 20) rfl))
theorem wg_121 : (.code yX15_ask cX15_ask 3 (some .int) : Cond) ∈ wsG := List.mem_append_left _ (wgc_1 (List.mem_of_getElem? (i := 21) rfl))
theorem wg_122 : (.code yX15_gaps cX15_gaps 5 (some .int) : Cond) ∈ wsG := List.mem_append_left _ (wgc_1 (List.mem_of_getElem? (i := 22) rfl))
theorem wg_123 : (.code yX15_lastAt cX15_lastAt 4 (some .int) : Cond) ∈ wsG := List.mem_append_left _ (wgc_1 (List.mem_of_getElem? (i := 23) rfl))
theorem wg_124 : (.code yX15_addRule cX15_addRule 8 (some .int) : Cond) ∈ wsG := List.mem_append_left _ (wgc_1 (List.mem_of_getElem? (i := 24) rfl))
theorem wg_125 : (.code yX15_bitsWith cX15_bitsWith 5 (some .int) : Cond) ∈ wsG := List.mem_append_left _ (wgc_1 (List.mem_of_getElem? (i := 25) rfl))
theorem wg_126 : (.methodLink RX15 252 yX15_isNoRule : Cond) ∈ wsG := List.mem_append_left _ (wgc_1 (List.mem_of_getElem? (i := 26) rfl))
theorem wg_127 : (.instanceMethod yX15_isNoRule : Cond) ∈ wsG := List.mem_append_left _ (wgc_1 (List.mem_of_getElem? (i := 27) rfl))
theorem wg_128 : (.selects RX15 yX15_isNoRule yX15_isNoRule : Cond) ∈ wsG := List.mem_append_left _ (wgc_1 (List.mem_of_getElem? (i := 28) rfl))
theorem wg_129 : (.code yX15_stateOf cX15_stateOf 2 (some .int) : Cond) ∈ wsG := List.mem_append_left _ (wgc_1 (List.mem_of_getElem? (i := 29) rfl))
theorem wg_130 : (.code yX15_inRow cX15_inRow 2 (some .int) : Cond) ∈ wsG := List.mem_append_left _ (wgc_1 (List.mem_of_getElem? (i := 30) rfl))
theorem wg_131 : (.code yX15_seenBy cX15_seenBy 2 (some .int) : Cond) ∈ wsG := List.mem_append_left _ (wgc_1 (List.mem_of_getElem? (i := 31) rfl))
theorem wg_132 : (.fieldLink RX15 167 "MeridianSeriesModel$Store" "events" "Ljava/util/ArrayList;" : Cond) ∈ wsG := List.mem_append_left _ (wgc_1 (List.mem_of_getElem? (i := 32) rfl))
theorem wg_133 : (.methodLink RX15 227 Lib.Math.min.name : Cond) ∈ wsG := List.mem_append_left _ (wgc_1 (List.mem_of_getElem? (i := 33) rfl))
theorem wg_134 : (.static Lib.Math.min.name : Cond) ∈ wsG := List.mem_append_left _ (wgc_1 (List.mem_of_getElem? (i := 34) rfl))
theorem wg_135 : (.initialized "java/lang/Math" : Cond) ∈ wsG := List.mem_append_left _ (wgc_1 (List.mem_of_getElem? (i := 35) rfl))
theorem wg_136 : (.code Lib.Math.min.name Lib.Math.min.code 2 (some .int) : Cond) ∈ wsG := List.mem_append_left _ (wgc_1 (List.mem_of_getElem? (i := 36) rfl))
theorem wg_137 : (.code yX15_event cX15_event 3 (some .int) : Cond) ∈ wsG := List.mem_append_left _ (wgc_1 (List.mem_of_getElem? (i := 37) rfl))
theorem wg_138 : (.fieldLink RX15 125 "MeridianSeriesModel$Store" "now" "I" : Cond) ∈ wsG := List.mem_append_left _ (wgc_1 (List.mem_of_getElem? (i := 38) rfl))
theorem wg_139 : (.methodLink RX15 173 yX15_plain : Cond) ∈ wsG := List.mem_append_left _ (wgc_1 (List.mem_of_getElem? (i := 39) rfl))
theorem wg_140 : (.instanceMethod yX15_plain : Cond) ∈ wsG := List.mem_append_left _ (wgc_1 (List.mem_of_getElem? (i := 40) rfl))
theorem wg_141 : (.selects RX15 yX15_plain yX15_plain : Cond) ∈ wsG := List.mem_append_left _ (wgc_1 (List.mem_of_getElem? (i := 41) rfl))
theorem wg_142 : (.code yX15_now cX15_now 1 (some .int) : Cond) ∈ wsG := List.mem_append_left _ (wgc_1 (List.mem_of_getElem? (i := 42) rfl))
theorem wg_143 : (.code yX15_series_ cX15_series_ 1 (some .int) : Cond) ∈ wsG := List.mem_append_left _ (wgc_1 (List.mem_of_getElem? (i := 43) rfl))
theorem wg_144 : (.fieldLink RX15 135 "MeridianSeriesModel" "late" "I" : Cond) ∈ wsG := List.mem_append_left _ (wgc_1 (List.mem_of_getElem? (i := 44) rfl))
theorem wg_145 : (.code yX15_late cX15_late 1 (some .int) : Cond) ∈ wsG := List.mem_append_left _ (wgc_1 (List.mem_of_getElem? (i := 45) rfl))
theorem wg_146 : (.code yX15_events cX15_events 1 (some .int) : Cond) ∈ wsG := List.mem_append_left _ (wgc_1 (List.mem_of_getElem? (i := 46) rfl))
theorem wg_147 : (.code yX15_setSpan cX15_setSpan 3 (some .int) : Cond) ∈ wsG := List.mem_append_left _ (wgc_1 (List.mem_of_getElem? (i := 47) rfl))
theorem wg_148 : (.fieldLink RX15 94 "MeridianSeriesModel$Store" "span" "I" : Cond) ∈ wsG := List.mem_append_left _ (wgc_1 (List.mem_of_getElem? (i := 48) rfl))
theorem wg_149 : (.code yX15_setKeep cX15_setKeep 4 (some .int) : Cond) ∈ wsG := List.mem_append_left _ (wgc_1 (List.mem_of_getElem? (i := 49) rfl))
theorem wg_150 : (.fieldLink RX15 112 "MeridianSeriesModel$Store" "keep" "I" : Cond) ∈ wsG := List.mem_append_left _ (wgc_1 (List.mem_of_getElem? (i := 50) rfl))
theorem wg_151 : (.fieldLink RX15 115 "MeridianSeriesModel$Store" "longKeep" "I" : Cond) ∈ wsG := List.mem_append_left _ (wgc_1 (List.mem_of_getElem? (i := 51) rfl))
theorem wg_152 : (.constant RX15 118 (99999) : Cond) ∈ wsG := List.mem_append_left _ (wgc_1 (List.mem_of_getElem? (i := 52) rfl))
theorem wg_153 : (.code yX15_setQuery cX15_setQuery 6 (some .int) : Cond) ∈ wsG := List.mem_append_left _ (wgc_1 (List.mem_of_getElem? (i := 53) rfl))
theorem wg_154 : (.fieldLink RX15 57 "MeridianSeriesModel" "step" "I" : Cond) ∈ wsG := List.mem_append_left _ (wgc_1 (List.mem_of_getElem? (i := 54) rfl))
theorem wg_155 : (.fieldLink RX15 119 "MeridianSeriesModel" "from" "I" : Cond) ∈ wsG := List.mem_append_left _ (wgc_1 (List.mem_of_getElem? (i := 55) rfl))
theorem wg_156 : (.fieldLink RX15 62 "MeridianSeriesModel" "what" "I" : Cond) ∈ wsG := List.mem_append_left _ (wgc_1 (List.mem_of_getElem? (i := 56) rfl))
theorem wg_157 : (.fieldLink RX15 122 "MeridianSeriesModel" "fill" "I" : Cond) ∈ wsG := List.mem_append_left _ (wgc_1 (List.mem_of_getElem? (i := 57) rfl))
theorem wg_158 : (.code yX15_hasBuckets cX15_hasBuckets 2 (some .boolean) : Cond) ∈ wsG := List.mem_append_left _ (wgc_1 (List.mem_of_getElem? (i := 58) rfl))
theorem wg_159 : (.code yX15_setWidths cX15_setWidths 4 (some .int) : Cond) ∈ wsG := List.mem_append_left _ (wgc_1 (List.mem_of_getElem? (i := 59) rfl))
theorem wg_160 : (.methodLink RX15 103 yX15_hasBuckets : Cond) ∈ wsG := List.mem_append_left _ (wgc_1 (List.mem_of_getElem? (i := 60) rfl))
theorem wg_161 : (.instanceMethod yX15_hasBuckets : Cond) ∈ wsG := List.mem_append_left _ (wgc_1 (List.mem_of_getElem? (i := 61) rfl))
theorem wg_162 : (.selects RX15 yX15_hasBuckets yX15_hasBuckets : Cond) ∈ wsG := List.mem_append_left _ (wgc_1 (List.mem_of_getElem? (i := 62) rfl))
theorem wg_163 : (.fieldLink RX15 106 "MeridianSeriesModel$Store" "width" "I" : Cond) ∈ wsG := List.mem_append_left _ (wgc_1 (List.mem_of_getElem? (i := 63) rfl))
theorem wg_164 : (.fieldLink RX15 109 "MeridianSeriesModel$Store" "fold" "I" : Cond) ∈ wsG := List.mem_append_left _ (wgc_1 (List.mem_of_getElem? (i := 64) rfl))
theorem wg_165 : (.fieldLink RX14 60 "MeridianSeriesModel$Store" "now" "I" : Cond) ∈ wsG := List.mem_append_left _ (wgc_1 (List.mem_of_getElem? (i := 65) rfl))
theorem wg_166 : (.fieldLink RX14 10 "MeridianSeriesModel$Store" "series" "Ljava/util/ArrayList;" : Cond) ∈ wsG := List.mem_append_left _ (wgc_1 (List.mem_of_getElem? (i := 66) rfl))
theorem wg_167 : (.methodLink RX14 33 yJx4a65c_size_8abf5 : Cond) ∈ wsG := List.mem_append_left _ (wgc_1 (List.mem_of_getElem? (i := 67) rfl))
theorem wg_168 : (.fieldLink RX14 16 "MeridianSeriesModel$Store" "rules" "Ljava/util/ArrayList;" : Cond) ∈ wsG := List.mem_append_left _ (wgc_1 (List.mem_of_getElem? (i := 68) rfl))
theorem wg_169 : (.code yX14_tick cX14_tick 4 none : Cond) ∈ wsG := List.mem_append_left _ (wgc_1 (List.mem_of_getElem? (i := 69) rfl))
theorem wg_170 : (.code yX15_goOn cX15_goOn 4 (some .int) : Cond) ∈ wsG := List.mem_append_left _ (wgc_1 (List.mem_of_getElem? (i := 70) rfl))
theorem wg_171 : (.methodLink RX15 170 yX14_tick : Cond) ∈ wsG := List.mem_append_left _ (wgc_1 (List.mem_of_getElem? (i := 71) rfl))
theorem wg_172 : (.instanceMethod yX14_tick : Cond) ∈ wsG := List.mem_append_left _ (wgc_1 (List.mem_of_getElem? (i := 72) rfl))
theorem wg_173 : (.selects RX14 yX14_tick yX14_tick : Cond) ∈ wsG := List.mem_append_left _ (wgc_1 (List.mem_of_getElem? (i := 73) rfl))
theorem wg_174 : (.initialized RX14 : Cond) ∈ wsG := List.mem_append_left _ (wgc_1 (List.mem_of_getElem? (i := 74) rfl))
theorem wg_175 : (.constantLong RX15 277 (31) : Cond) ∈ wsG := List.mem_append_left _ (wgc_1 (List.mem_of_getElem? (i := 75) rfl))
theorem wg_176 : (.code yX15_add cX15_add 4 (some .long) : Cond) ∈ wsG := List.mem_append_left _ (wgc_1 (List.mem_of_getElem? (i := 76) rfl))
theorem wg_177 : (.constantLong RX15 282 (58058) : Cond) ∈ wsG := List.mem_append_left _ (wgc_1 (List.mem_of_getElem? (i := 77) rfl))
theorem wg_178 : (.methodLink RX15 279 yX15_add : Cond) ∈ wsG := List.mem_append_left _ (wgc_1 (List.mem_of_getElem? (i := 78) rfl))
theorem wg_179 : (.static yX15_add : Cond) ∈ wsG := List.mem_append_left _ (wgc_1 (List.mem_of_getElem? (i := 79) rfl))
theorem wg_180 : (.code yX15_digest cX15_digest 7 (some .long) : Cond) ∈ wsG := List.mem_append_left _ (wgc_1 (List.mem_of_getElem? (i := 80) rfl))
theorem wg_181 : (.code yX15_over cX15_over 11 (some .int) : Cond) ∈ wsG := List.mem_append_left _ (wgc_1 (List.mem_of_getElem? (i := 81) rfl))
theorem wg_182 : (.constant RX15 220 (2147483647) : Cond) ∈ wsG := List.mem_append_left _ (wgc_1 (List.mem_of_getElem? (i := 82) rfl))
theorem wg_183 : (.constant RX15 221 (-2147483648) : Cond) ∈ wsG := List.mem_append_left _ (wgc_1 (List.mem_of_getElem? (i := 83) rfl))
theorem wg_184 : (.constant RX15 226 (-1000000) : Cond) ∈ wsG := List.mem_append_left _ (wgc_1 (List.mem_of_getElem? (i := 84) rfl))
theorem wg_185 : (.code yX9_canGoOn cX9_canGoOn 2 (some .boolean) : Cond) ∈ wsG := List.mem_append_left _ (wgc_1 (List.mem_of_getElem? (i := 85) rfl))
theorem wg_186 : (.fieldLink RX8 26 "MeridianSeries$Store" "now" "I" : Cond) ∈ wsG := List.mem_append_left _ (wgc_1 (List.mem_of_getElem? (i := 86) rfl))
theorem wg_187 : (.fieldLink RX8 16 "MeridianSeries$Store" "rules" "Ljava/util/ArrayList;" : Cond) ∈ wsG := List.mem_append_left _ (wgc_1 (List.mem_of_getElem? (i := 87) rfl))
theorem wg_188 : (.code yX8_goOnByOne cX8_goOnByOne 3 none : Cond) ∈ wsG := List.mem_append_left _ (wgc_1 (List.mem_of_getElem? (i := 88) rfl))
theorem wg_189 : (.methodLink RX9 125 yX9_canGoOn : Cond) ∈ wsG := List.mem_append_left _ (wgc_1 (List.mem_of_getElem? (i := 89) rfl))
theorem wg_190 : (.instanceMethod yX9_canGoOn : Cond) ∈ wsG := List.mem_append_left _ (wgc_1 (List.mem_of_getElem? (i := 90) rfl))
theorem wg_191 : (.selects RX9 yX9_canGoOn yX9_canGoOn : Cond) ∈ wsG := List.mem_append_left _ (wgc_1 (List.mem_of_getElem? (i := 91) rfl))
theorem wg_192 : (.code yX9_goOn cX9_goOn 4 (some .int) : Cond) ∈ wsG := List.mem_append_left _ (wgc_1 (List.mem_of_getElem? (i := 92) rfl))
theorem wg_193 : (.methodLink RX9 138 yX8_goOnByOne : Cond) ∈ wsG := List.mem_append_left _ (wgc_1 (List.mem_of_getElem? (i := 93) rfl))
theorem wg_194 : (.instanceMethod yX8_goOnByOne : Cond) ∈ wsG := List.mem_append_left _ (wgc_1 (List.mem_of_getElem? (i := 94) rfl))
theorem wg_195 : (.selects RX8 yX8_goOnByOne yX8_goOnByOne : Cond) ∈ wsG := List.mem_append_left _ (wgc_1 (List.mem_of_getElem? (i := 95) rfl))
theorem wg_196 : (.code yX8_copyFrom cX8_copyFrom 3 none : Cond) ∈ wsG := List.mem_append_left _ (wgc_1 (List.mem_of_getElem? (i := 96) rfl))
theorem wg_197 : (.code yX9_firesIn cX9_firesIn 4 (some .int) : Cond) ∈ wsG := List.mem_append_left _ (wgc_1 (List.mem_of_getElem? (i := 97) rfl))
theorem wg_198 : (.fieldLink RX9 25 "MeridianSeries" "trial" "LMeridianSeries$Store;" : Cond) ∈ wsG := List.mem_append_left _ (wgc_1 (List.mem_of_getElem? (i := 98) rfl))
theorem wg_199 : (.methodLink RX9 245 yX8_copyFrom : Cond) ∈ wsG := List.mem_append_left _ (wgc_1 (List.mem_of_getElem? (i := 99) rfl))
theorem wg_200 : (.instanceMethod yX8_copyFrom : Cond) ∈ wsG := List.mem_append_left _ (wgc_2 (List.mem_of_getElem? (i := 0) rfl))
theorem wg_201 : (.selects RX8 yX8_copyFrom yX8_copyFrom : Cond) ∈ wsG := List.mem_append_left _ (wgc_2 (List.mem_of_getElem? (i := 1) rfl))
theorem wg_202 : (.fieldLink RX9 249 "MeridianSeries$EventLog" "firings" "I" : Cond) ∈ wsG := List.mem_append_left _ (wgc_2 (List.mem_of_getElem? (i := 2) rfl))
theorem wg_203 : (.code yX9_wouldRoll cX9_wouldRoll 4 (some .int) : Cond) ∈ wsG := List.mem_append_left _ (wgc_2 (List.mem_of_getElem? (i := 3) rfl))
theorem wg_204 : (.code yX9_over cX9_over 10 (some .int) : Cond) ∈ wsG := List.mem_append_left _ (wgc_2 (List.mem_of_getElem? (i := 4) rfl))
theorem wg_205 : (.constant RX9 200 (-1000000) : Cond) ∈ wsG := List.mem_append_left _ (wgc_2 (List.mem_of_getElem? (i := 5) rfl))
theorem wg_206 : (.constantLong RX9 255 (58058) : Cond) ∈ wsG := List.mem_append_left _ (wgc_2 (List.mem_of_getElem? (i := 6) rfl))
theorem wg_207 : (.constantLong RX9 257 (31) : Cond) ∈ wsG := List.mem_append_left _ (wgc_2 (List.mem_of_getElem? (i := 7) rfl))
theorem wg_208 : (.code yX9_digest cX9_digest 5 (some .long) : Cond) ∈ wsG := List.mem_append_left _ (wgc_2 (List.mem_of_getElem? (i := 8) rfl))
theorem wg_209 : (.methodLink RX7 1 objectInit : Cond) ∈ wsG := List.mem_append_left _ (wgc_2 (List.mem_of_getElem? (i := 9) rfl))
theorem wg_210 : (.instanceMethod objectInit : Cond) ∈ wsG := List.mem_append_left _ (wgc_2 (List.mem_of_getElem? (i := 10) rfl))
theorem wg_211 : (.code objectInit ⟨#[0xb1]⟩ 1 none : Cond) ∈ wsG := List.mem_append_left _ (wgc_2 (List.mem_of_getElem? (i := 11) rfl))
theorem wg_212 : (.fieldLink RX7 7 "MeridianSeries$Settings" "span" "I" : Cond) ∈ wsG := List.mem_append_left _ (wgc_2 (List.mem_of_getElem? (i := 12) rfl))
theorem wg_213 : (.fieldLink RX7 13 "MeridianSeries$Settings" "width" "I" : Cond) ∈ wsG := List.mem_append_left _ (wgc_2 (List.mem_of_getElem? (i := 13) rfl))
theorem wg_214 : (.fieldLink RX7 16 "MeridianSeries$Settings" "fold" "I" : Cond) ∈ wsG := List.mem_append_left _ (wgc_2 (List.mem_of_getElem? (i := 14) rfl))
theorem wg_215 : (.fieldLink RX7 19 "MeridianSeries$Settings" "keep" "I" : Cond) ∈ wsG := List.mem_append_left _ (wgc_2 (List.mem_of_getElem? (i := 15) rfl))
theorem wg_216 : (.fieldLink RX7 22 "MeridianSeries$Settings" "longKeep" "I" : Cond) ∈ wsG := List.mem_append_left _ (wgc_2 (List.mem_of_getElem? (i := 16) rfl))
theorem wg_217 : (.code yX7_init cX7_init 1 none : Cond) ∈ wsG := List.mem_append_left _ (wgc_2 (List.mem_of_getElem? (i := 17) rfl))
theorem wg_218 : (.methodLink RX2 1 objectInit : Cond) ∈ wsG := List.mem_append_left _ (wgc_2 (List.mem_of_getElem? (i := 18) rfl))
theorem wg_219 : (.fieldLink RX2 7 "MeridianSeries$Items" "amount" "I" : Cond) ∈ wsG := List.mem_append_left _ (wgc_2 (List.mem_of_getElem? (i := 19) rfl))
theorem wg_220 : (.code yX2_init cX2_init 1 none : Cond) ∈ wsG := List.mem_append_left _ (wgc_2 (List.mem_of_getElem? (i := 20) rfl))
theorem wg_221 : (.initialized RX2 : Cond) ∈ wsG := List.mem_append_left _ (wgc_2 (List.mem_of_getElem? (i := 21) rfl))
theorem wg_222 : (.instanceMethod yX2_init : Cond) ∈ wsG := List.mem_append_left _ (wgc_2 (List.mem_of_getElem? (i := 22) rfl))
theorem wg_223 : (.arrayClass .int : Cond) ∈ wsG := List.mem_append_left _ (wgc_2 (List.mem_of_getElem? (i := 23) rfl))
theorem wg_224 : (.fieldLink RX0 11 "MeridianSeries$Buckets" "cells" "[I" : Cond) ∈ wsG := List.mem_append_left _ (wgc_2 (List.mem_of_getElem? (i := 24) rfl))
theorem wg_225 : (.code yX0_init cX0_init 1 none : Cond) ∈ wsG := List.mem_append_left _ (wgc_2 (List.mem_of_getElem? (i := 25) rfl))
theorem wg_226 : (.fieldLink RX4 11 "MeridianSeries$Points" "times" "[I" : Cond) ∈ wsG := List.mem_append_left _ (wgc_2 (List.mem_of_getElem? (i := 26) rfl))
theorem wg_227 : (.fieldLink RX4 15 "MeridianSeries$Points" "values" "[I" : Cond) ∈ wsG := List.mem_append_left _ (wgc_2 (List.mem_of_getElem? (i := 27) rfl))
theorem wg_228 : (.fieldLink RX4 18 "MeridianSeries$Points" "sizes" "[I" : Cond) ∈ wsG := List.mem_append_left _ (wgc_2 (List.mem_of_getElem? (i := 28) rfl))
theorem wg_229 : (.fieldLink RX4 21 "MeridianSeries$Points" "sealedBlocks" "I" : Cond) ∈ wsG := List.mem_append_left _ (wgc_2 (List.mem_of_getElem? (i := 29) rfl))
theorem wg_230 : (.fieldLink RX4 25 "MeridianSeries$Points" "sealedPoints" "I" : Cond) ∈ wsG := List.mem_append_left _ (wgc_2 (List.mem_of_getElem? (i := 30) rfl))
theorem wg_231 : (.fieldLink RX4 28 "MeridianSeries$Points" "greatestSealedTime" "I" : Cond) ∈ wsG := List.mem_append_left _ (wgc_2 (List.mem_of_getElem? (i := 31) rfl))
theorem wg_232 : (.code yX4_init cX4_init 1 none : Cond) ∈ wsG := List.mem_append_left _ (wgc_2 (List.mem_of_getElem? (i := 32) rfl))
theorem wg_233 : (.methodLink RX1 3 objectInit : Cond) ∈ wsG := List.mem_append_left _ (wgc_2 (List.mem_of_getElem? (i := 33) rfl))
theorem wg_234 : (.fieldLink RX1 9 "MeridianSeries$EventLog" "cells" "[I" : Cond) ∈ wsG := List.mem_append_left _ (wgc_2 (List.mem_of_getElem? (i := 34) rfl))
theorem wg_235 : (.fieldLink RX1 15 "MeridianSeries$EventLog" "total" "I" : Cond) ∈ wsG := List.mem_append_left _ (wgc_2 (List.mem_of_getElem? (i := 35) rfl))
theorem wg_236 : (.fieldLink RX1 19 "MeridianSeries$EventLog" "firings" "I" : Cond) ∈ wsG := List.mem_append_left _ (wgc_2 (List.mem_of_getElem? (i := 36) rfl))
theorem wg_237 : (.code yX1_init cX1_init 1 none : Cond) ∈ wsG := List.mem_append_left _ (wgc_2 (List.mem_of_getElem? (i := 37) rfl))
theorem wg_238 : (.methodLink RX3 3 objectInit : Cond) ∈ wsG := List.mem_append_left _ (wgc_2 (List.mem_of_getElem? (i := 38) rfl))
theorem wg_239 : (.fieldLink RX3 11 "MeridianSeries$Packer" "words" "[I" : Cond) ∈ wsG := List.mem_append_left _ (wgc_2 (List.mem_of_getElem? (i := 39) rfl))
theorem wg_240 : (.fieldLink RX3 15 "MeridianSeries$Packer" "length" "I" : Cond) ∈ wsG := List.mem_append_left _ (wgc_2 (List.mem_of_getElem? (i := 40) rfl))
theorem wg_241 : (.fieldLink RX3 19 "MeridianSeries$Packer" "packed" "I" : Cond) ∈ wsG := List.mem_append_left _ (wgc_2 (List.mem_of_getElem? (i := 41) rfl))
theorem wg_242 : (.fieldLink RX3 22 "MeridianSeries$Packer" "lastTime" "I" : Cond) ∈ wsG := List.mem_append_left _ (wgc_2 (List.mem_of_getElem? (i := 42) rfl))
theorem wg_243 : (.fieldLink RX3 25 "MeridianSeries$Packer" "lastStep" "I" : Cond) ∈ wsG := List.mem_append_left _ (wgc_2 (List.mem_of_getElem? (i := 43) rfl))
theorem wg_244 : (.fieldLink RX3 28 "MeridianSeries$Packer" "lastValue" "I" : Cond) ∈ wsG := List.mem_append_left _ (wgc_2 (List.mem_of_getElem? (i := 44) rfl))
theorem wg_245 : (.code yX3_init cX3_init 1 none : Cond) ∈ wsG := List.mem_append_left _ (wgc_2 (List.mem_of_getElem? (i := 45) rfl))
theorem wg_246 : (.methodLink RX6 3 objectInit : Cond) ∈ wsG := List.mem_append_left _ (wgc_2 (List.mem_of_getElem? (i := 46) rfl))
theorem wg_247 : (.classLink RX6 9 RX4 : Cond) ∈ wsG := List.mem_append_left _ (wgc_2 (List.mem_of_getElem? (i := 47) rfl))
theorem wg_248 : (.instantiable RX4 7 : Cond) ∈ wsG := List.mem_append_left _ (wgc_2 (List.mem_of_getElem? (i := 48) rfl))
theorem wg_249 : (.initialized RX4 : Cond) ∈ wsG := List.mem_append_left _ (wgc_2 (List.mem_of_getElem? (i := 49) rfl))
theorem wg_250 : (.instanceMethod yX4_init : Cond) ∈ wsG := List.mem_append_left _ (wgc_2 (List.mem_of_getElem? (i := 50) rfl))
theorem wg_251 : (.fieldLink RX6 12 "MeridianSeries$Series" "points" "LMeridianSeries$Points;" : Cond) ∈ wsG := List.mem_append_left _ (wgc_2 (List.mem_of_getElem? (i := 51) rfl))
theorem wg_252 : (.classLink RX6 18 RX0 : Cond) ∈ wsG := List.mem_append_left _ (wgc_2 (List.mem_of_getElem? (i := 52) rfl))
theorem wg_253 : (.instantiable RX0 2 : Cond) ∈ wsG := List.mem_append_left _ (wgc_2 (List.mem_of_getElem? (i := 53) rfl))
theorem wg_254 : (.initialized RX0 : Cond) ∈ wsG := List.mem_append_left _ (wgc_2 (List.mem_of_getElem? (i := 54) rfl))
theorem wg_255 : (.instanceMethod yX0_init : Cond) ∈ wsG := List.mem_append_left _ (wgc_2 (List.mem_of_getElem? (i := 55) rfl))
theorem wg_256 : (.fieldLink RX6 21 "MeridianSeries$Series" "fine" "LMeridianSeries$Buckets;" : Cond) ∈ wsG := List.mem_append_left _ (wgc_2 (List.mem_of_getElem? (i := 56) rfl))
theorem wg_257 : (.fieldLink RX6 25 "MeridianSeries$Series" "coarse" "LMeridianSeries$Buckets;" : Cond) ∈ wsG := List.mem_append_left _ (wgc_2 (List.mem_of_getElem? (i := 57) rfl))
theorem wg_258 : (.fieldLink RX6 28 "MeridianSeries$Series" "one" "I" : Cond) ∈ wsG := List.mem_append_left _ (wgc_2 (List.mem_of_getElem? (i := 58) rfl))
theorem wg_259 : (.fieldLink RX6 32 "MeridianSeries$Series" "other" "I" : Cond) ∈ wsG := List.mem_append_left _ (wgc_2 (List.mem_of_getElem? (i := 59) rfl))
theorem wg_260 : (.code yX6_init cX6_init 3 none : Cond) ∈ wsG := List.mem_append_left _ (wgc_2 (List.mem_of_getElem? (i := 60) rfl))
theorem wg_261 : (.methodLink RJxa1e45 1 objectInit : Cond) ∈ wsG := List.mem_append_left _ (wgc_2 (List.mem_of_getElem? (i := 61) rfl))
theorem wg_262 : (.code yJxa1e45_init_da8c8 cJxa1e45_init_da8c8 1 none : Cond) ∈ wsG := List.mem_append_left _ (wgc_2 (List.mem_of_getElem? (i := 62) rfl))
theorem wg_263 : (.initialized RJxa1e45 : Cond) ∈ wsG := List.mem_append_left _ (wgc_2 (List.mem_of_getElem? (i := 63) rfl))
theorem wg_264 : (.methodLink RJxc12de 1 yJxa1e45_init_da8c8 : Cond) ∈ wsG := List.mem_append_left _ (wgc_2 (List.mem_of_getElem? (i := 64) rfl))
theorem wg_265 : (.instanceMethod yJxa1e45_init_da8c8 : Cond) ∈ wsG := List.mem_append_left _ (wgc_2 (List.mem_of_getElem? (i := 65) rfl))
theorem wg_266 : (.fieldLink RJxc12de 7 "java/util/AbstractList" "modCount" "I" : Cond) ∈ wsG := List.mem_append_left _ (wgc_2 (List.mem_of_getElem? (i := 66) rfl))
theorem wg_267 : (.code yJxc12de_init_da8c8 cJxc12de_init_da8c8 1 none : Cond) ∈ wsG := List.mem_append_left _ (wgc_2 (List.mem_of_getElem? (i := 67) rfl))
theorem wg_268 : (.initialized RJxc12de : Cond) ∈ wsG := List.mem_append_left _ (wgc_2 (List.mem_of_getElem? (i := 68) rfl))
theorem wg_269 : (.methodLink RJx4a65c 1 yJxc12de_init_da8c8 : Cond) ∈ wsG := List.mem_append_left _ (wgc_2 (List.mem_of_getElem? (i := 69) rfl))
theorem wg_270 : (.instanceMethod yJxc12de_init_da8c8 : Cond) ∈ wsG := List.mem_append_left _ (wgc_2 (List.mem_of_getElem? (i := 70) rfl))
theorem wg_271 : (.fieldLink RJx4a65c 39 "java/util/ArrayList" "DEFAULTCAPACITY_EMPTY_ELEMENTDATA" "[Ljava/lang/Object;" : Cond) ∈ wsG := List.mem_append_left _ (wgc_2 (List.mem_of_getElem? (i := 71) rfl))
theorem wg_272 : (.fieldLink RJx4a65c 9 "java/util/ArrayList" "elementData" "[Ljava/lang/Object;" : Cond) ∈ wsG := List.mem_append_left _ (wgc_2 (List.mem_of_getElem? (i := 72) rfl))
theorem wg_273 : (.code yJx4a65c_init_da8c8 cJx4a65c_init_da8c8 1 none : Cond) ∈ wsG := List.mem_append_left _ (wgc_2 (List.mem_of_getElem? (i := 73) rfl))
theorem wg_274 : (.methodLink RJx4a65c 79 Lib.Math.max.name : Cond) ∈ wsG := List.mem_append_left _ (wgc_2 (List.mem_of_getElem? (i := 74) rfl))
theorem wg_275 : (.static Lib.Math.max.name : Cond) ∈ wsG := List.mem_append_left _ (wgc_2 (List.mem_of_getElem? (i := 75) rfl))
theorem wg_276 : (.code Lib.Math.max.name Lib.Math.max.code 2 (some .int) : Cond) ∈ wsG := List.mem_append_left _ (wgc_2 (List.mem_of_getElem? (i := 76) rfl))
theorem wg_277 : (.classLink RJx4a65c 7 "java/lang/Object" : Cond) ∈ wsG := List.mem_append_left _ (wgc_2 (List.mem_of_getElem? (i := 77) rfl))
theorem wg_278 : (.code yJx4a65c_grow_92f84 cJx4a65c_grow_92f84 4 (some (.array (.object "java/lang/Object"))) : Cond) ∈ wsG := List.mem_append_left _ (wgc_2 (List.mem_of_getElem? (i := 78) rfl))
theorem wg_279 : (.methodLink RJx4a65c 69 yJx4a65c_grow_92f84 : Cond) ∈ wsG := List.mem_append_left _ (wgc_2 (List.mem_of_getElem? (i := 79) rfl))
theorem wg_280 : (.instanceMethod yJx4a65c_grow_92f84 : Cond) ∈ wsG := List.mem_append_left _ (wgc_2 (List.mem_of_getElem? (i := 80) rfl))
theorem wg_281 : (.selects RJx4a65c yJx4a65c_grow_92f84 yJx4a65c_grow_92f84 : Cond) ∈ wsG := List.mem_append_left _ (wgc_2 (List.mem_of_getElem? (i := 81) rfl))
theorem wg_282 : (.code yJx4a65c_grow_d5877 cJx4a65c_grow_d5877 1 (some (.array (.object "java/lang/Object"))) : Cond) ∈ wsG := List.mem_append_left _ (wgc_2 (List.mem_of_getElem? (i := 82) rfl))
theorem wg_283 : (.methodLink RJx4a65c 129 yJx4a65c_grow_d5877 : Cond) ∈ wsG := List.mem_append_left _ (wgc_2 (List.mem_of_getElem? (i := 83) rfl))
theorem wg_284 : (.instanceMethod yJx4a65c_grow_d5877 : Cond) ∈ wsG := List.mem_append_left _ (wgc_2 (List.mem_of_getElem? (i := 84) rfl))
theorem wg_285 : (.selects RJx4a65c yJx4a65c_grow_d5877 yJx4a65c_grow_d5877 : Cond) ∈ wsG := List.mem_append_left _ (wgc_2 (List.mem_of_getElem? (i := 85) rfl))
theorem wg_286 : (.code yJx4a65c_add_72be8 cJx4a65c_add_72be8 4 none : Cond) ∈ wsG := List.mem_append_left _ (wgc_2 (List.mem_of_getElem? (i := 86) rfl))
theorem wg_287 : (.fieldLink RJx4a65c 63 "java/util/ArrayList" "modCount" "I" : Cond) ∈ wsG := List.mem_append_left _ (wgc_2 (List.mem_of_getElem? (i := 87) rfl))
theorem wg_288 : (.sameField "java/util/ArrayList" "java/util/AbstractList" "modCount" "I" : Cond) ∈ wsG := List.mem_append_left _ (wgc_2 (List.mem_of_getElem? (i := 88) rfl))
theorem wg_289 : (.methodLink RJx4a65c 131 yJx4a65c_add_72be8 : Cond) ∈ wsG := List.mem_append_left _ (wgc_2 (List.mem_of_getElem? (i := 89) rfl))
theorem wg_290 : (.instanceMethod yJx4a65c_add_72be8 : Cond) ∈ wsG := List.mem_append_left _ (wgc_2 (List.mem_of_getElem? (i := 90) rfl))
theorem wg_291 : (.selects RJx4a65c yJx4a65c_add_72be8 yJx4a65c_add_72be8 : Cond) ∈ wsG := List.mem_append_left _ (wgc_2 (List.mem_of_getElem? (i := 91) rfl))
theorem wg_292 : (.code yJx4a65c_add_9ea2d cJx4a65c_add_9ea2d 2 (some .boolean) : Cond) ∈ wsG := List.mem_append_left _ (wgc_2 (List.mem_of_getElem? (i := 92) rfl))
theorem wg_293 : (.code yX9_addSeries cX9_addSeries 4 (some .int) : Cond) ∈ wsG := List.mem_append_left _ (wgc_2 (List.mem_of_getElem? (i := 93) rfl))
theorem wg_294 : (.classLink RX9 72 RX6 : Cond) ∈ wsG := List.mem_append_left _ (wgc_2 (List.mem_of_getElem? (i := 94) rfl))
theorem wg_295 : (.instantiable RX6 5 : Cond) ∈ wsG := List.mem_append_left _ (wgc_2 (List.mem_of_getElem? (i := 95) rfl))
theorem wg_296 : (.initialized RX6 : Cond) ∈ wsG := List.mem_append_left _ (wgc_2 (List.mem_of_getElem? (i := 96) rfl))
theorem wg_297 : (.methodLink RX9 74 yX6_init : Cond) ∈ wsG := List.mem_append_left _ (wgc_2 (List.mem_of_getElem? (i := 97) rfl))
theorem wg_298 : (.instanceMethod yX6_init : Cond) ∈ wsG := List.mem_append_left _ (wgc_2 (List.mem_of_getElem? (i := 98) rfl))
theorem wg_299 : (.methodLink RX9 77 yJx4a65c_add_9ea2d : Cond) ∈ wsG := List.mem_append_left _ (wgc_2 (List.mem_of_getElem? (i := 99) rfl))
theorem wg_300 : (.instanceMethod yJx4a65c_add_9ea2d : Cond) ∈ wsG := List.mem_append_left _ (wgc_3 (List.mem_of_getElem? (i := 0) rfl))
theorem wg_301 : (.selects RJx4a65c yJx4a65c_add_9ea2d yJx4a65c_add_9ea2d : Cond) ∈ wsG := List.mem_append_left _ (wgc_3 (List.mem_of_getElem? (i := 1) rfl))
theorem wg_302 : (.methodLink RX8 1 objectInit : Cond) ∈ wsG := List.mem_append_left _ (wgc_3 (List.mem_of_getElem? (i := 2) rfl))
theorem wg_303 : (.classLink RX8 7 RJx4a65c : Cond) ∈ wsG := List.mem_append_left _ (wgc_3 (List.mem_of_getElem? (i := 3) rfl))
theorem wg_304 : (.instantiable RJx4a65c 3 : Cond) ∈ wsG := List.mem_append_left _ (wgc_3 (List.mem_of_getElem? (i := 4) rfl))
theorem wg_305 : (.methodLink RX8 9 yJx4a65c_init_da8c8 : Cond) ∈ wsG := List.mem_append_left _ (wgc_3 (List.mem_of_getElem? (i := 5) rfl))
theorem wg_306 : (.instanceMethod yJx4a65c_init_da8c8 : Cond) ∈ wsG := List.mem_append_left _ (wgc_3 (List.mem_of_getElem? (i := 6) rfl))
theorem wg_307 : (.classLink RX8 19 RX1 : Cond) ∈ wsG := List.mem_append_left _ (wgc_3 (List.mem_of_getElem? (i := 7) rfl))
theorem wg_308 : (.instantiable RX1 3 : Cond) ∈ wsG := List.mem_append_left _ (wgc_3 (List.mem_of_getElem? (i := 8) rfl))
theorem wg_309 : (.initialized RX1 : Cond) ∈ wsG := List.mem_append_left _ (wgc_3 (List.mem_of_getElem? (i := 9) rfl))
theorem wg_310 : (.instanceMethod yX1_init : Cond) ∈ wsG := List.mem_append_left _ (wgc_3 (List.mem_of_getElem? (i := 10) rfl))
theorem wg_311 : (.fieldLink RX8 22 "MeridianSeries$Store" "log" "LMeridianSeries$EventLog;" : Cond) ∈ wsG := List.mem_append_left _ (wgc_3 (List.mem_of_getElem? (i := 11) rfl))
theorem wg_312 : (.fieldLink RX8 30 "MeridianSeries$Store" "settings" "LMeridianSeries$Settings;" : Cond) ∈ wsG := List.mem_append_left _ (wgc_3 (List.mem_of_getElem? (i := 12) rfl))
theorem wg_313 : (.code yX8_init cX8_init 2 none : Cond) ∈ wsG := List.mem_append_left _ (wgc_3 (List.mem_of_getElem? (i := 13) rfl))
theorem wg_314 : (.methodLink RX9 1 objectInit : Cond) ∈ wsG := List.mem_append_left _ (wgc_3 (List.mem_of_getElem? (i := 14) rfl))
theorem wg_315 : (.classLink RX9 7 RX7 : Cond) ∈ wsG := List.mem_append_left _ (wgc_3 (List.mem_of_getElem? (i := 15) rfl))
theorem wg_316 : (.instantiable RX7 5 : Cond) ∈ wsG := List.mem_append_left _ (wgc_3 (List.mem_of_getElem? (i := 16) rfl))
theorem wg_317 : (.initialized RX7 : Cond) ∈ wsG := List.mem_append_left _ (wgc_3 (List.mem_of_getElem? (i := 17) rfl))
theorem wg_318 : (.instanceMethod yX7_init : Cond) ∈ wsG := List.mem_append_left _ (wgc_3 (List.mem_of_getElem? (i := 18) rfl))
theorem wg_319 : (.classLink RX9 16 RX8 : Cond) ∈ wsG := List.mem_append_left _ (wgc_3 (List.mem_of_getElem? (i := 19) rfl))
theorem wg_320 : (.instantiable RX8 5 : Cond) ∈ wsG := List.mem_append_left _ (wgc_3 (List.mem_of_getElem? (i := 20) rfl))
theorem wg_321 : (.methodLink RX9 18 yX8_init : Cond) ∈ wsG := List.mem_append_left _ (wgc_3 (List.mem_of_getElem? (i := 21) rfl))
theorem wg_322 : (.instanceMethod yX8_init : Cond) ∈ wsG := List.mem_append_left _ (wgc_3 (List.mem_of_getElem? (i := 22) rfl))
theorem wg_323 : (.classLink RX9 28 RX3 : Cond) ∈ wsG := List.mem_append_left _ (wgc_3 (List.mem_of_getElem? (i := 23) rfl))
theorem wg_324 : (.instantiable RX3 6 : Cond) ∈ wsG := List.mem_append_left _ (wgc_3 (List.mem_of_getElem? (i := 24) rfl))
theorem wg_325 : (.initialized RX3 : Cond) ∈ wsG := List.mem_append_left _ (wgc_3 (List.mem_of_getElem? (i := 25) rfl))
theorem wg_326 : (.instanceMethod yX3_init : Cond) ∈ wsG := List.mem_append_left _ (wgc_3 (List.mem_of_getElem? (i := 26) rfl))
theorem wg_327 : (.fieldLink RX9 31 "MeridianSeries" "packer" "LMeridianSeries$Packer;" : Cond) ∈ wsG := List.mem_append_left _ (wgc_3 (List.mem_of_getElem? (i := 27) rfl))
theorem wg_328 : (.code yX9_init cX9_init 1 none : Cond) ∈ wsG := List.mem_append_left _ (wgc_3 (List.mem_of_getElem? (i := 28) rfl))
theorem wg_329 : (.methodLink RX13 3 objectInit : Cond) ∈ wsG := List.mem_append_left _ (wgc_3 (List.mem_of_getElem? (i := 29) rfl))
theorem wg_330 : (.classLink RX13 9 RJx4a65c : Cond) ∈ wsG := List.mem_append_left _ (wgc_3 (List.mem_of_getElem? (i := 30) rfl))
theorem wg_331 : (.methodLink RX13 11 yJx4a65c_init_da8c8 : Cond) ∈ wsG := List.mem_append_left _ (wgc_3 (List.mem_of_getElem? (i := 31) rfl))
theorem wg_332 : (.fieldLink RX13 12 "MeridianSeriesModel$Series" "blocks" "Ljava/util/ArrayList;" : Cond) ∈ wsG := List.mem_append_left _ (wgc_3 (List.mem_of_getElem? (i := 32) rfl))
theorem wg_333 : (.fieldLink RX13 18 "MeridianSeriesModel$Series" "fine" "Ljava/util/ArrayList;" : Cond) ∈ wsG := List.mem_append_left _ (wgc_3 (List.mem_of_getElem? (i := 33) rfl))
theorem wg_334 : (.fieldLink RX13 21 "MeridianSeriesModel$Series" "coarse" "Ljava/util/ArrayList;" : Cond) ∈ wsG := List.mem_append_left _ (wgc_3 (List.mem_of_getElem? (i := 34) rfl))
theorem wg_335 : (.fieldLink RX13 24 "MeridianSeriesModel$Series" "sealedTo" "I" : Cond) ∈ wsG := List.mem_append_left _ (wgc_3 (List.mem_of_getElem? (i := 35) rfl))
theorem wg_336 : (.fieldLink RX13 28 "MeridianSeriesModel$Series" "labels" "[I" : Cond) ∈ wsG := List.mem_append_left _ (wgc_3 (List.mem_of_getElem? (i := 36) rfl))
theorem wg_337 : (.methodLink RX13 32 yJx4a65c_add_9ea2d : Cond) ∈ wsG := List.mem_append_left _ (wgc_3 (List.mem_of_getElem? (i := 37) rfl))
theorem wg_338 : (.code yX13_init cX13_init 3 none : Cond) ∈ wsG := List.mem_append_left _ (wgc_3 (List.mem_of_getElem? (i := 38) rfl))
theorem wg_339 : (.methodLink RX14 1 objectInit : Cond) ∈ wsG := List.mem_append_left _ (wgc_3 (List.mem_of_getElem? (i := 39) rfl))
theorem wg_340 : (.classLink RX14 7 RJx4a65c : Cond) ∈ wsG := List.mem_append_left _ (wgc_3 (List.mem_of_getElem? (i := 40) rfl))
theorem wg_341 : (.methodLink RX14 9 yJx4a65c_init_da8c8 : Cond) ∈ wsG := List.mem_append_left _ (wgc_3 (List.mem_of_getElem? (i := 41) rfl))
theorem wg_342 : (.fieldLink RX14 19 "MeridianSeriesModel$Store" "events" "Ljava/util/ArrayList;" : Cond) ∈ wsG := List.mem_append_left _ (wgc_3 (List.mem_of_getElem? (i := 42) rfl))
theorem wg_343 : (.fieldLink RX14 22 "MeridianSeriesModel$Store" "span" "I" : Cond) ∈ wsG := List.mem_append_left _ (wgc_3 (List.mem_of_getElem? (i := 43) rfl))
theorem wg_344 : (.fieldLink RX14 26 "MeridianSeriesModel$Store" "width" "I" : Cond) ∈ wsG := List.mem_append_left _ (wgc_3 (List.mem_of_getElem? (i := 44) rfl))
theorem wg_345 : (.fieldLink RX14 29 "MeridianSeriesModel$Store" "fold" "I" : Cond) ∈ wsG := List.mem_append_left _ (wgc_3 (List.mem_of_getElem? (i := 45) rfl))
theorem wg_346 : (.code yX14_init cX14_init 1 none : Cond) ∈ wsG := List.mem_append_left _ (wgc_3 (List.mem_of_getElem? (i := 46) rfl))
theorem wg_347 : (.methodLink RX15 54 objectInit : Cond) ∈ wsG := List.mem_append_left _ (wgc_3 (List.mem_of_getElem? (i := 47) rfl))
theorem wg_348 : (.classLink RX15 65 RX14 : Cond) ∈ wsG := List.mem_append_left _ (wgc_3 (List.mem_of_getElem? (i := 48) rfl))
theorem wg_349 : (.instantiable RX14 9 : Cond) ∈ wsG := List.mem_append_left _ (wgc_3 (List.mem_of_getElem? (i := 49) rfl))
theorem wg_350 : (.instanceMethod yX14_init : Cond) ∈ wsG := List.mem_append_left _ (wgc_3 (List.mem_of_getElem? (i := 50) rfl))
theorem wg_351 : (.code yX15_init cX15_init 1 none : Cond) ∈ wsG := List.mem_append_left _ (wgc_3 (List.mem_of_getElem? (i := 51) rfl))
theorem wg_352 : (.code yX15_addSeries cX15_addSeries 3 (some .int) : Cond) ∈ wsG := List.mem_append_left _ (wgc_3 (List.mem_of_getElem? (i := 52) rfl))
theorem wg_353 : (.classLink RX15 90 RX13 : Cond) ∈ wsG := List.mem_append_left _ (wgc_3 (List.mem_of_getElem? (i := 53) rfl))
theorem wg_354 : (.instantiable RX13 5 : Cond) ∈ wsG := List.mem_append_left _ (wgc_3 (List.mem_of_getElem? (i := 54) rfl))
theorem wg_355 : (.initialized RX13 : Cond) ∈ wsG := List.mem_append_left _ (wgc_3 (List.mem_of_getElem? (i := 55) rfl))
theorem wg_356 : (.methodLink RX15 92 yX13_init : Cond) ∈ wsG := List.mem_append_left _ (wgc_3 (List.mem_of_getElem? (i := 56) rfl))
theorem wg_357 : (.instanceMethod yX13_init : Cond) ∈ wsG := List.mem_append_left _ (wgc_3 (List.mem_of_getElem? (i := 57) rfl))
theorem wg_358 : (.methodLink RX15 42 yJx4a65c_add_9ea2d : Cond) ∈ wsG := List.mem_append_left _ (wgc_3 (List.mem_of_getElem? (i := 58) rfl))
theorem wg_359 : (.classLink RJ7 110 "[Ljava/lang/Object;" : Cond) ∈ wsG := List.mem_append_left _ (wgc_3 (List.mem_of_getElem? (i := 59) rfl))
theorem wg_360 : (.classLink RJ7 2 "java/lang/Object" : Cond) ∈ wsG := List.mem_append_left _ (wgc_3 (List.mem_of_getElem? (i := 60) rfl))
theorem wg_361 : (.methodLink RJ7 304 Lib.Math.min.name : Cond) ∈ wsG := List.mem_append_left _ (wgc_3 (List.mem_of_getElem? (i := 61) rfl))
theorem wg_362 : (.methodLink RJ7 150 arraycopyName : Cond) ∈ wsG := List.mem_append_left _ (wgc_3 (List.mem_of_getElem? (i := 62) rfl))
theorem wg_363 : (.native arraycopyName : Cond) ∈ wsG := List.mem_append_left _ (wgc_3 (List.mem_of_getElem? (i := 63) rfl))
theorem wg_364 : (.static arraycopyName : Cond) ∈ wsG := List.mem_append_left _ (wgc_3 (List.mem_of_getElem? (i := 64) rfl))
theorem wg_365 : (.initialized "java/lang/System" : Cond) ∈ wsG := List.mem_append_left _ (wgc_3 (List.mem_of_getElem? (i := 65) rfl))
theorem wg_366 : (.code yJ7_copyOf_6403c cJ7_copyOf_6403c 4 (some (.array (.object "java/lang/Object"))) : Cond) ∈ wsG := List.mem_append_left _ (wgc_3 (List.mem_of_getElem? (i := 66) rfl))
theorem wg_367 : (.methodLink RJ7 86 yGC : Cond) ∈ wsG := List.mem_append_left _ (wgc_3 (List.mem_of_getElem? (i := 67) rfl))
theorem wg_368 : (.selects "[Ljava/lang/Object;" yGC yGC : Cond) ∈ wsG := List.mem_append_left _ (wgc_3 (List.mem_of_getElem? (i := 68) rfl))
theorem wg_369 : (.instanceMethod yGC : Cond) ∈ wsG := List.mem_append_left _ (wgc_3 (List.mem_of_getElem? (i := 69) rfl))
theorem wg_370 : (.native yGC : Cond) ∈ wsG := List.mem_append_left _ (wgc_3 (List.mem_of_getElem? (i := 70) rfl))
theorem wg_371 : (.methodLink RJ7 300 yJ7_copyOf_6403c : Cond) ∈ wsG := List.mem_append_left _ (wgc_3 (List.mem_of_getElem? (i := 71) rfl))
theorem wg_372 : (.static yJ7_copyOf_6403c : Cond) ∈ wsG := List.mem_append_left _ (wgc_3 (List.mem_of_getElem? (i := 72) rfl))
theorem wg_373 : (.initialized RJ7 : Cond) ∈ wsG := List.mem_append_left _ (wgc_3 (List.mem_of_getElem? (i := 73) rfl))
theorem wg_374 : (.code yJ7_copyOf_1904c cJ7_copyOf_1904c 2 (some (.array (.object "java/lang/Object"))) : Cond) ∈ wsG := List.mem_append_left _ (wgc_3 (List.mem_of_getElem? (i := 74) rfl))
theorem wg_375 : (.methodLink RJx4a65c 66 yJ7_copyOf_1904c : Cond) ∈ wsG := List.mem_append_left _ (wgc_3 (List.mem_of_getElem? (i := 75) rfl))
theorem wg_376 : (.static yJ7_copyOf_1904c : Cond) ∈ wsG := List.mem_append_left _ (wgc_3 (List.mem_of_getElem? (i := 76) rfl))
theorem wg_377 : (.code yJx4a65c_toArray_d5877 cJx4a65c_toArray_d5877 1 (some (.array (.object "java/lang/Object"))) : Cond) ∈ wsG := List.mem_append_left _ (wgc_3 (List.mem_of_getElem? (i := 77) rfl))
theorem wg_378 : (.methodLink RJx4a65c 42 yCol : Cond) ∈ wsG := List.mem_append_left _ (wgc_3 (List.mem_of_getElem? (i := 78) rfl))
theorem wg_379 : (.instanceMethod yJx4a65c_toArray_d5877 : Cond) ∈ wsG := List.mem_append_left _ (wgc_3 (List.mem_of_getElem? (i := 79) rfl))
theorem wg_380 : (.selects RJx4a65c yCol yJx4a65c_toArray_d5877 : Cond) ∈ wsG := List.mem_append_left _ (wgc_3 (List.mem_of_getElem? (i := 80) rfl))
theorem wg_381 : (.code yJx4a65c_addAll_f0b43 cJx4a65c_addAll_f0b43 6 (some .boolean) : Cond) ∈ wsG := List.mem_append_left _ (wgc_3 (List.mem_of_getElem? (i := 81) rfl))
theorem wg_382 : (.classLink RX14 11 RX14 : Cond) ∈ wsG := List.mem_append_left _ (wgc_3 (List.mem_of_getElem? (i := 82) rfl))
theorem wg_383 : (.methodLink RX14 32 yX14_init : Cond) ∈ wsG := List.mem_append_left _ (wgc_3 (List.mem_of_getElem? (i := 83) rfl))
theorem wg_384 : (.methodLink RX14 56 yJx4a65c_addAll_f0b43 : Cond) ∈ wsG := List.mem_append_left _ (wgc_3 (List.mem_of_getElem? (i := 84) rfl))
theorem wg_385 : (.instanceMethod yJx4a65c_addAll_f0b43 : Cond) ∈ wsG := List.mem_append_left _ (wgc_3 (List.mem_of_getElem? (i := 85) rfl))
theorem wg_386 : (.selects RJx4a65c yJx4a65c_addAll_f0b43 yJx4a65c_addAll_f0b43 : Cond) ∈ wsG := List.mem_append_left _ (wgc_3 (List.mem_of_getElem? (i := 86) rfl))
theorem wg_387 : (.fieldLink RX14 63 "MeridianSeriesModel$Store" "keep" "I" : Cond) ∈ wsG := List.mem_append_left _ (wgc_3 (List.mem_of_getElem? (i := 87) rfl))
theorem wg_388 : (.fieldLink RX14 66 "MeridianSeriesModel$Store" "longKeep" "I" : Cond) ∈ wsG := List.mem_append_left _ (wgc_3 (List.mem_of_getElem? (i := 88) rfl))
theorem wg_389 : (.code yX14_copy cX14_copy 3 (some (.object "MeridianSeriesModel$Store")) : Cond) ∈ wsG := List.mem_append_left _ (wgc_3 (List.mem_of_getElem? (i := 89) rfl))
theorem wg_390 : (.code yX15_firesIn cX15_firesIn 6 (some .int) : Cond) ∈ wsG := List.mem_append_left _ (wgc_3 (List.mem_of_getElem? (i := 90) rfl))
theorem wg_391 : (.methodLink RX15 268 yX14_copy : Cond) ∈ wsG := List.mem_append_left _ (wgc_3 (List.mem_of_getElem? (i := 91) rfl))
theorem wg_392 : (.instanceMethod yX14_copy : Cond) ∈ wsG := List.mem_append_left _ (wgc_3 (List.mem_of_getElem? (i := 92) rfl))
theorem wg_393 : (.selects RX14 yX14_copy yX14_copy : Cond) ∈ wsG := List.mem_append_left _ (wgc_3 (List.mem_of_getElem? (i := 93) rfl))
theorem wg_394 : (.code yX15_wouldRoll cX15_wouldRoll 6 (some .int) : Cond) ∈ wsG := List.mem_append_left _ (wgc_3 (List.mem_of_getElem? (i := 94) rfl))
theorem wg_395 : (.code yX9_ratio cX9_ratio 6 (some .double) : Cond) ∈ wsG := List.mem_append_left _ (wgc_3 (List.mem_of_getElem? (i := 95) rfl))
theorem wg_396 : (.code yX15_ratio cX15_ratio 5 (some .double) : Cond) ∈ wsG := List.mem_append_left _ (wgc_3 (List.mem_of_getElem? (i := 96) rfl))
theorem wg_397 : (.methodLink RL 7 yX9_addSeries : Cond) ∈ wsG := List.mem_append_left _ (wgc_3 (List.mem_of_getElem? (i := 97) rfl))
theorem wg_398 : (.instanceMethod yX9_addSeries : Cond) ∈ wsG := List.mem_append_left _ (wgc_3 (List.mem_of_getElem? (i := 98) rfl))
theorem wg_399 : (.selects RX9 yX9_addSeries yX9_addSeries : Cond) ∈ wsG := List.mem_append_left _ (wgc_3 (List.mem_of_getElem? (i := 99) rfl))
theorem wg_400 : (.classLink RL 13 "java/lang/IllegalArgumentException" : Cond) ∈ wsG := List.mem_append_left _ (wgc_4 (List.mem_of_getElem? (i := 0) rfl))
theorem wg_401 : (.codeWith yL_addSeries cL_addSeries 5 (some .int) [(0, 10, 13, 13), (0, 10, 17, 15)] : Cond) ∈ wsG := List.mem_append_left _ (wgc_4 (List.mem_of_getElem? (i := 1) rfl))
theorem wg_402 : (.methodLink RL 17 yX9_setSpan : Cond) ∈ wsG := List.mem_append_left _ (wgc_4 (List.mem_of_getElem? (i := 2) rfl))
theorem wg_403 : (.instanceMethod yX9_setSpan : Cond) ∈ wsG := List.mem_append_left _ (wgc_4 (List.mem_of_getElem? (i := 3) rfl))
theorem wg_404 : (.selects RX9 yX9_setSpan yX9_setSpan : Cond) ∈ wsG := List.mem_append_left _ (wgc_4 (List.mem_of_getElem? (i := 4) rfl))
theorem wg_405 : (.codeWith yL_setSpan cL_setSpan 4 (some .int) [(0, 9, 12, 13)] : Cond) ∈ wsG := List.mem_append_left _ (wgc_4 (List.mem_of_getElem? (i := 5) rfl))
theorem wg_406 : (.methodLink RL 21 yX9_setWidths : Cond) ∈ wsG := List.mem_append_left _ (wgc_4 (List.mem_of_getElem? (i := 6) rfl))
theorem wg_407 : (.instanceMethod yX9_setWidths : Cond) ∈ wsG := List.mem_append_left _ (wgc_4 (List.mem_of_getElem? (i := 7) rfl))
theorem wg_408 : (.selects RX9 yX9_setWidths yX9_setWidths : Cond) ∈ wsG := List.mem_append_left _ (wgc_4 (List.mem_of_getElem? (i := 8) rfl))
theorem wg_409 : (.codeWith yL_setWidths cL_setWidths 5 (some .int) [(0, 10, 13, 13), (0, 10, 17, 15)] : Cond) ∈ wsG := List.mem_append_left _ (wgc_4 (List.mem_of_getElem? (i := 9) rfl))
theorem wg_410 : (.methodLink RL 24 yX9_setKeep : Cond) ∈ wsG := List.mem_append_left _ (wgc_4 (List.mem_of_getElem? (i := 10) rfl))
theorem wg_411 : (.instanceMethod yX9_setKeep : Cond) ∈ wsG := List.mem_append_left _ (wgc_4 (List.mem_of_getElem? (i := 11) rfl))
theorem wg_412 : (.selects RX9 yX9_setKeep yX9_setKeep : Cond) ∈ wsG := List.mem_append_left _ (wgc_4 (List.mem_of_getElem? (i := 12) rfl))
theorem wg_413 : (.codeWith yL_setKeep cL_setKeep 5 (some .int) [(0, 10, 13, 13)] : Cond) ∈ wsG := List.mem_append_left _ (wgc_4 (List.mem_of_getElem? (i := 13) rfl))
theorem wg_414 : (.methodLink RL 27 yX9_setQuery : Cond) ∈ wsG := List.mem_append_left _ (wgc_4 (List.mem_of_getElem? (i := 14) rfl))
theorem wg_415 : (.instanceMethod yX9_setQuery : Cond) ∈ wsG := List.mem_append_left _ (wgc_4 (List.mem_of_getElem? (i := 15) rfl))
theorem wg_416 : (.selects RX9 yX9_setQuery yX9_setQuery : Cond) ∈ wsG := List.mem_append_left _ (wgc_4 (List.mem_of_getElem? (i := 16) rfl))
theorem wg_417 : (.codeWith yL_setQuery cL_setQuery 7 (some .int) [(0, 14, 17, 13)] : Cond) ∈ wsG := List.mem_append_left _ (wgc_4 (List.mem_of_getElem? (i := 17) rfl))
theorem wg_418 : (.methodLink RL 41 yX9_goOn : Cond) ∈ wsG := List.mem_append_left _ (wgc_4 (List.mem_of_getElem? (i := 18) rfl))
theorem wg_419 : (.instanceMethod yX9_goOn : Cond) ∈ wsG := List.mem_append_left _ (wgc_4 (List.mem_of_getElem? (i := 19) rfl))
theorem wg_420 : (.selects RX9 yX9_goOn yX9_goOn : Cond) ∈ wsG := List.mem_append_left _ (wgc_4 (List.mem_of_getElem? (i := 20) rfl))
theorem wg_421 : (.codeWith yL_goOn cL_goOn 4 (some .int) [(0, 9, 12, 13)] : Cond) ∈ wsG := List.mem_append_left _ (wgc_4 (List.mem_of_getElem? (i := 21) rfl))
theorem wg_422 : (.methodLink RL 74 yX9_over : Cond) ∈ wsG := List.mem_append_left _ (wgc_4 (List.mem_of_getElem? (i := 22) rfl))
theorem wg_423 : (.instanceMethod yX9_over : Cond) ∈ wsG := List.mem_append_left _ (wgc_4 (List.mem_of_getElem? (i := 23) rfl))
theorem wg_424 : (.selects RX9 yX9_over yX9_over : Cond) ∈ wsG := List.mem_append_left _ (wgc_4 (List.mem_of_getElem? (i := 24) rfl))
theorem wg_425 : (.codeWith yL_over cL_over 7 (some .int) [(0, 14, 17, 13)] : Cond) ∈ wsG := List.mem_append_left _ (wgc_4 (List.mem_of_getElem? (i := 25) rfl))
theorem wg_426 : (.methodLink RL 103 yX9_firesIn : Cond) ∈ wsG := List.mem_append_left _ (wgc_4 (List.mem_of_getElem? (i := 26) rfl))
theorem wg_427 : (.instanceMethod yX9_firesIn : Cond) ∈ wsG := List.mem_append_left _ (wgc_4 (List.mem_of_getElem? (i := 27) rfl))
theorem wg_428 : (.selects RX9 yX9_firesIn yX9_firesIn : Cond) ∈ wsG := List.mem_append_left _ (wgc_4 (List.mem_of_getElem? (i := 28) rfl))
theorem wg_429 : (.codeWith yL_firesIn cL_firesIn 4 (some .int) [(0, 9, 12, 13)] : Cond) ∈ wsG := List.mem_append_left _ (wgc_4 (List.mem_of_getElem? (i := 29) rfl))
theorem wg_430 : (.methodLink RL 106 yX9_wouldRoll : Cond) ∈ wsG := List.mem_append_left _ (wgc_4 (List.mem_of_getElem? (i := 30) rfl))
theorem wg_431 : (.instanceMethod yX9_wouldRoll : Cond) ∈ wsG := List.mem_append_left _ (wgc_4 (List.mem_of_getElem? (i := 31) rfl))
theorem wg_432 : (.selects RX9 yX9_wouldRoll yX9_wouldRoll : Cond) ∈ wsG := List.mem_append_left _ (wgc_4 (List.mem_of_getElem? (i := 32) rfl))
theorem wg_433 : (.codeWith yL_wouldRoll cL_wouldRoll 4 (some .int) [(0, 9, 12, 13)] : Cond) ∈ wsG := List.mem_append_left _ (wgc_4 (List.mem_of_getElem? (i := 33) rfl))
theorem wg_434 : (.methodLink RL 31 yX9_put : Cond) ∈ wsG := List.mem_append_left _ (wgc_4 (List.mem_of_getElem? (i := 34) rfl))
theorem wg_435 : (.instanceMethod yX9_put : Cond) ∈ wsG := List.mem_append_left _ (wgc_4 (List.mem_of_getElem? (i := 35) rfl))
theorem wg_436 : (.selects RX9 yX9_put yX9_put : Cond) ∈ wsG := List.mem_append_left _ (wgc_4 (List.mem_of_getElem? (i := 36) rfl))
theorem wg_437 : (.classLink RL 35 "java/lang/IndexOutOfBoundsException" : Cond) ∈ wsG := List.mem_append_left _ (wgc_4 (List.mem_of_getElem? (i := 37) rfl))
theorem wg_438 : (.codeWith yL_put cL_put 6 (some .int) [(0, 12, 15, 35), (0, 12, 19, 13)] : Cond) ∈ wsG := List.mem_append_left _ (wgc_4 (List.mem_of_getElem? (i := 38) rfl))
theorem wg_439 : (.methodLink RL 37 yX9_putRow : Cond) ∈ wsG := List.mem_append_left _ (wgc_4 (List.mem_of_getElem? (i := 39) rfl))
theorem wg_440 : (.instanceMethod yX9_putRow : Cond) ∈ wsG := List.mem_append_left _ (wgc_4 (List.mem_of_getElem? (i := 40) rfl))
theorem wg_441 : (.selects RX9 yX9_putRow yX9_putRow : Cond) ∈ wsG := List.mem_append_left _ (wgc_4 (List.mem_of_getElem? (i := 41) rfl))
theorem wg_442 : (.codeWith yL_putRow cL_putRow 9 (some .int) [(0, 18, 21, 35), (0, 18, 25, 13)] : Cond) ∈ wsG := List.mem_append_left _ (wgc_4 (List.mem_of_getElem? (i := 42) rfl))
theorem wg_443 : (.methodLink RL 44 yX9_blocks : Cond) ∈ wsG := List.mem_append_left _ (wgc_4 (List.mem_of_getElem? (i := 43) rfl))
theorem wg_444 : (.instanceMethod yX9_blocks : Cond) ∈ wsG := List.mem_append_left _ (wgc_4 (List.mem_of_getElem? (i := 44) rfl))
theorem wg_445 : (.selects RX9 yX9_blocks yX9_blocks : Cond) ∈ wsG := List.mem_append_left _ (wgc_4 (List.mem_of_getElem? (i := 45) rfl))
theorem wg_446 : (.codeWith yL_blocks cL_blocks 4 (some .int) [(0, 9, 12, 35)] : Cond) ∈ wsG := List.mem_append_left _ (wgc_4 (List.mem_of_getElem? (i := 46) rfl))
theorem wg_447 : (.methodLink RL 47 yX9_size : Cond) ∈ wsG := List.mem_append_left _ (wgc_4 (List.mem_of_getElem? (i := 47) rfl))
theorem wg_448 : (.instanceMethod yX9_size : Cond) ∈ wsG := List.mem_append_left _ (wgc_4 (List.mem_of_getElem? (i := 48) rfl))
theorem wg_449 : (.selects RX9 yX9_size yX9_size : Cond) ∈ wsG := List.mem_append_left _ (wgc_4 (List.mem_of_getElem? (i := 49) rfl))
theorem wg_450 : (.codeWith yL_size cL_size 5 (some .int) [(0, 10, 13, 35)] : Cond) ∈ wsG := List.mem_append_left _ (wgc_4 (List.mem_of_getElem? (i := 50) rfl))
theorem wg_451 : (.methodLink RL 50 yX9_point : Cond) ∈ wsG := List.mem_append_left _ (wgc_4 (List.mem_of_getElem? (i := 51) rfl))
theorem wg_452 : (.instanceMethod yX9_point : Cond) ∈ wsG := List.mem_append_left _ (wgc_4 (List.mem_of_getElem? (i := 52) rfl))
theorem wg_453 : (.selects RX9 yX9_point yX9_point : Cond) ∈ wsG := List.mem_append_left _ (wgc_4 (List.mem_of_getElem? (i := 53) rfl))
theorem wg_454 : (.codeWith yL_point cL_point 7 (some .int) [(0, 14, 17, 35)] : Cond) ∈ wsG := List.mem_append_left _ (wgc_4 (List.mem_of_getElem? (i := 54) rfl))
theorem wg_455 : (.methodLink RL 54 yX9_bits : Cond) ∈ wsG := List.mem_append_left _ (wgc_4 (List.mem_of_getElem? (i := 55) rfl))
theorem wg_456 : (.instanceMethod yX9_bits : Cond) ∈ wsG := List.mem_append_left _ (wgc_4 (List.mem_of_getElem? (i := 56) rfl))
theorem wg_457 : (.selects RX9 yX9_bits yX9_bits : Cond) ∈ wsG := List.mem_append_left _ (wgc_4 (List.mem_of_getElem? (i := 57) rfl))
theorem wg_458 : (.codeWith yL_bits cL_bits 5 (some .int) [(0, 10, 13, 35)] : Cond) ∈ wsG := List.mem_append_left _ (wgc_4 (List.mem_of_getElem? (i := 58) rfl))
theorem wg_459 : (.methodLink RL 57 yX9_word : Cond) ∈ wsG := List.mem_append_left _ (wgc_4 (List.mem_of_getElem? (i := 59) rfl))
theorem wg_460 : (.instanceMethod yX9_word : Cond) ∈ wsG := List.mem_append_left _ (wgc_4 (List.mem_of_getElem? (i := 60) rfl))
theorem wg_461 : (.selects RX9 yX9_word yX9_word : Cond) ∈ wsG := List.mem_append_left _ (wgc_4 (List.mem_of_getElem? (i := 61) rfl))
theorem wg_462 : (.codeWith yL_word cL_word 6 (some .int) [(0, 12, 15, 35)] : Cond) ∈ wsG := List.mem_append_left _ (wgc_4 (List.mem_of_getElem? (i := 62) rfl))
theorem wg_463 : (.methodLink RL 60 yX9_buckets : Cond) ∈ wsG := List.mem_append_left _ (wgc_4 (List.mem_of_getElem? (i := 63) rfl))
theorem wg_464 : (.instanceMethod yX9_buckets : Cond) ∈ wsG := List.mem_append_left _ (wgc_4 (List.mem_of_getElem? (i := 64) rfl))
theorem wg_465 : (.selects RX9 yX9_buckets yX9_buckets : Cond) ∈ wsG := List.mem_append_left _ (wgc_4 (List.mem_of_getElem? (i := 65) rfl))
theorem wg_466 : (.codeWith yL_buckets cL_buckets 5 (some .int) [(0, 10, 13, 35)] : Cond) ∈ wsG := List.mem_append_left _ (wgc_4 (List.mem_of_getElem? (i := 66) rfl))
theorem wg_467 : (.methodLink RL 64 yX9_ofBucket : Cond) ∈ wsG := List.mem_append_left _ (wgc_4 (List.mem_of_getElem? (i := 67) rfl))
theorem wg_468 : (.instanceMethod yX9_ofBucket : Cond) ∈ wsG := List.mem_append_left _ (wgc_4 (List.mem_of_getElem? (i := 68) rfl))
theorem wg_469 : (.selects RX9 yX9_ofBucket yX9_ofBucket : Cond) ∈ wsG := List.mem_append_left _ (wgc_4 (List.mem_of_getElem? (i := 69) rfl))
theorem wg_470 : (.codeWith yL_ofBucket cL_ofBucket 7 (some .int) [(0, 14, 17, 35), (0, 14, 21, 13)] : Cond) ∈ wsG := List.mem_append_left _ (wgc_4 (List.mem_of_getElem? (i := 70) rfl))
theorem wg_471 : (.methodLink RL 68 yX9_items : Cond) ∈ wsG := List.mem_append_left _ (wgc_4 (List.mem_of_getElem? (i := 71) rfl))
theorem wg_472 : (.instanceMethod yX9_items : Cond) ∈ wsG := List.mem_append_left _ (wgc_4 (List.mem_of_getElem? (i := 72) rfl))
theorem wg_473 : (.selects RX9 yX9_items yX9_items : Cond) ∈ wsG := List.mem_append_left _ (wgc_4 (List.mem_of_getElem? (i := 73) rfl))
theorem wg_474 : (.codeWith yL_items cL_items 4 (some .int) [(0, 9, 12, 35)] : Cond) ∈ wsG := List.mem_append_left _ (wgc_4 (List.mem_of_getElem? (i := 74) rfl))
theorem wg_475 : (.methodLink RL 71 yX9_ask : Cond) ∈ wsG := List.mem_append_left _ (wgc_4 (List.mem_of_getElem? (i := 75) rfl))
theorem wg_476 : (.instanceMethod yX9_ask : Cond) ∈ wsG := List.mem_append_left _ (wgc_4 (List.mem_of_getElem? (i := 76) rfl))
theorem wg_477 : (.selects RX9 yX9_ask yX9_ask : Cond) ∈ wsG := List.mem_append_left _ (wgc_4 (List.mem_of_getElem? (i := 77) rfl))
theorem wg_478 : (.codeWith yL_ask cL_ask 5 (some .int) [(0, 10, 13, 35), (0, 10, 17, 13)] : Cond) ∈ wsG := List.mem_append_left _ (wgc_4 (List.mem_of_getElem? (i := 78) rfl))
theorem wg_479 : (.methodLink RL 78 yX9_gaps : Cond) ∈ wsG := List.mem_append_left _ (wgc_4 (List.mem_of_getElem? (i := 79) rfl))
theorem wg_480 : (.instanceMethod yX9_gaps : Cond) ∈ wsG := List.mem_append_left _ (wgc_4 (List.mem_of_getElem? (i := 80) rfl))
theorem wg_481 : (.selects RX9 yX9_gaps yX9_gaps : Cond) ∈ wsG := List.mem_append_left _ (wgc_4 (List.mem_of_getElem? (i := 81) rfl))
theorem wg_482 : (.codeWith yL_gaps cL_gaps 5 (some .int) [(0, 10, 13, 35), (0, 10, 17, 13)] : Cond) ∈ wsG := List.mem_append_left _ (wgc_4 (List.mem_of_getElem? (i := 82) rfl))
theorem wg_483 : (.methodLink RL 81 yX9_lastAt : Cond) ∈ wsG := List.mem_append_left _ (wgc_4 (List.mem_of_getElem? (i := 83) rfl))
theorem wg_484 : (.instanceMethod yX9_lastAt : Cond) ∈ wsG := List.mem_append_left _ (wgc_4 (List.mem_of_getElem? (i := 84) rfl))
theorem wg_485 : (.selects RX9 yX9_lastAt yX9_lastAt : Cond) ∈ wsG := List.mem_append_left _ (wgc_4 (List.mem_of_getElem? (i := 85) rfl))
theorem wg_486 : (.codeWith yL_lastAt cL_lastAt 5 (some .int) [(0, 10, 13, 35), (0, 10, 17, 13)] : Cond) ∈ wsG := List.mem_append_left _ (wgc_4 (List.mem_of_getElem? (i := 86) rfl))
theorem wg_487 : (.methodLink RL 84 yX9_addRule : Cond) ∈ wsG := List.mem_append_left _ (wgc_4 (List.mem_of_getElem? (i := 87) rfl))
theorem wg_488 : (.instanceMethod yX9_addRule : Cond) ∈ wsG := List.mem_append_left _ (wgc_4 (List.mem_of_getElem? (i := 88) rfl))
theorem wg_489 : (.selects RX9 yX9_addRule yX9_addRule : Cond) ∈ wsG := List.mem_append_left _ (wgc_4 (List.mem_of_getElem? (i := 89) rfl))
theorem wg_490 : (.codeWith yL_addRule cL_addRule 10 (some .int) [(0, 20, 23, 35), (0, 20, 27, 13), (0, 20, 31, 15)] : Cond) ∈ wsG := List.mem_append_left _ (wgc_4 (List.mem_of_getElem? (i := 90) rfl))
theorem wg_491 : (.methodLink RL 100 yX9_bitsWith : Cond) ∈ wsG := List.mem_append_left _ (wgc_4 (List.mem_of_getElem? (i := 91) rfl))
theorem wg_492 : (.instanceMethod yX9_bitsWith : Cond) ∈ wsG := List.mem_append_left _ (wgc_4 (List.mem_of_getElem? (i := 92) rfl))
theorem wg_493 : (.selects RX9 yX9_bitsWith yX9_bitsWith : Cond) ∈ wsG := List.mem_append_left _ (wgc_4 (List.mem_of_getElem? (i := 93) rfl))
theorem wg_494 : (.codeWith yL_bitsWith cL_bitsWith 6 (some .int) [(0, 12, 15, 35), (0, 12, 19, 13)] : Cond) ∈ wsG := List.mem_append_left _ (wgc_4 (List.mem_of_getElem? (i := 94) rfl))
theorem wg_495 : (.methodLink RL 88 yX9_stateOf : Cond) ∈ wsG := List.mem_append_left _ (wgc_4 (List.mem_of_getElem? (i := 95) rfl))
theorem wg_496 : (.instanceMethod yX9_stateOf : Cond) ∈ wsG := List.mem_append_left _ (wgc_4 (List.mem_of_getElem? (i := 96) rfl))
theorem wg_497 : (.selects RX9 yX9_stateOf yX9_stateOf : Cond) ∈ wsG := List.mem_append_left _ (wgc_4 (List.mem_of_getElem? (i := 97) rfl))
theorem wg_498 : (.codeWith yL_stateOf cL_stateOf 4 (some .int) [(0, 9, 12, 35)] : Cond) ∈ wsG := List.mem_append_left _ (wgc_4 (List.mem_of_getElem? (i := 98) rfl))
theorem wg_499 : (.methodLink RL 91 yX9_inRow : Cond) ∈ wsG := List.mem_append_left _ (wgc_4 (List.mem_of_getElem? (i := 99) rfl))
theorem wg_500 : (.instanceMethod yX9_inRow : Cond) ∈ wsG := List.mem_append_left _ (wgc_5 (List.mem_of_getElem? (i := 0) rfl))
theorem wg_501 : (.selects RX9 yX9_inRow yX9_inRow : Cond) ∈ wsG := List.mem_append_left _ (wgc_5 (List.mem_of_getElem? (i := 1) rfl))
theorem wg_502 : (.codeWith yL_inRow cL_inRow 4 (some .int) [(0, 9, 12, 35)] : Cond) ∈ wsG := List.mem_append_left _ (wgc_5 (List.mem_of_getElem? (i := 2) rfl))
theorem wg_503 : (.methodLink RL 94 yX9_seenBy : Cond) ∈ wsG := List.mem_append_left _ (wgc_5 (List.mem_of_getElem? (i := 3) rfl))
theorem wg_504 : (.instanceMethod yX9_seenBy : Cond) ∈ wsG := List.mem_append_left _ (wgc_5 (List.mem_of_getElem? (i := 4) rfl))
theorem wg_505 : (.selects RX9 yX9_seenBy yX9_seenBy : Cond) ∈ wsG := List.mem_append_left _ (wgc_5 (List.mem_of_getElem? (i := 5) rfl))
theorem wg_506 : (.codeWith yL_seenBy cL_seenBy 4 (some .int) [(0, 9, 12, 35)] : Cond) ∈ wsG := List.mem_append_left _ (wgc_5 (List.mem_of_getElem? (i := 6) rfl))
theorem wg_507 : (.methodLink RL 97 yX9_event : Cond) ∈ wsG := List.mem_append_left _ (wgc_5 (List.mem_of_getElem? (i := 7) rfl))
theorem wg_508 : (.instanceMethod yX9_event : Cond) ∈ wsG := List.mem_append_left _ (wgc_5 (List.mem_of_getElem? (i := 8) rfl))
theorem wg_509 : (.selects RX9 yX9_event yX9_event : Cond) ∈ wsG := List.mem_append_left _ (wgc_5 (List.mem_of_getElem? (i := 9) rfl))
theorem wg_510 : (.codeWith yL_event cL_event 5 (some .int) [(0, 10, 13, 35), (0, 10, 17, 13)] : Cond) ∈ wsG := List.mem_append_left _ (wgc_5 (List.mem_of_getElem? (i := 10) rfl))
theorem wg_511 : (.methodLink RL 113 yL_addSeries : Cond) ∈ wsG := List.mem_append_left _ (wgc_5 (List.mem_of_getElem? (i := 11) rfl))
theorem wg_512 : (.static yL_addSeries : Cond) ∈ wsG := List.mem_append_left _ (wgc_5 (List.mem_of_getElem? (i := 12) rfl))
theorem wg_513 : (.initialized RL : Cond) ∈ wsG := List.mem_append_left _ (wgc_5 (List.mem_of_getElem? (i := 13) rfl))
theorem wg_514 : (.methodLink RL 118 yX15_addSeries : Cond) ∈ wsG := List.mem_append_left _ (wgc_5 (List.mem_of_getElem? (i := 14) rfl))
theorem wg_515 : (.instanceMethod yX15_addSeries : Cond) ∈ wsG := List.mem_append_left _ (wgc_5 (List.mem_of_getElem? (i := 15) rfl))
theorem wg_516 : (.selects RX15 yX15_addSeries yX15_addSeries : Cond) ∈ wsG := List.mem_append_left _ (wgc_5 (List.mem_of_getElem? (i := 16) rfl))
theorem wg_517 : (.methodLink RL 119 yX15_thrown : Cond) ∈ wsG := List.mem_append_left _ (wgc_5 (List.mem_of_getElem? (i := 17) rfl))
theorem wg_518 : (.instanceMethod yX15_thrown : Cond) ∈ wsG := List.mem_append_left _ (wgc_5 (List.mem_of_getElem? (i := 18) rfl))
theorem wg_519 : (.selects RX15 yX15_thrown yX15_thrown : Cond) ∈ wsG := List.mem_append_left _ (wgc_5 (List.mem_of_getElem? (i := 19) rfl))
theorem wg_520 : (.methodLink RL 123 yL_setSpan : Cond) ∈ wsG := List.mem_append_left _ (wgc_5 (List.mem_of_getElem? (i := 20) rfl))
theorem wg_521 : (.static yL_setSpan : Cond) ∈ wsG := List.mem_append_left _ (wgc_5 (List.mem_of_getElem? (i := 21) rfl))
theorem wg_522 : (.methodLink RL 126 yX15_setSpan : Cond) ∈ wsG := List.mem_append_left _ (wgc_5 (List.mem_of_getElem? (i := 22) rfl))
theorem wg_523 : (.instanceMethod yX15_setSpan : Cond) ∈ wsG := List.mem_append_left _ (wgc_5 (List.mem_of_getElem? (i := 23) rfl))
theorem wg_524 : (.selects RX15 yX15_setSpan yX15_setSpan : Cond) ∈ wsG := List.mem_append_left _ (wgc_5 (List.mem_of_getElem? (i := 24) rfl))
theorem wg_525 : (.methodLink RL 127 yL_setWidths : Cond) ∈ wsG := List.mem_append_left _ (wgc_5 (List.mem_of_getElem? (i := 25) rfl))
theorem wg_526 : (.static yL_setWidths : Cond) ∈ wsG := List.mem_append_left _ (wgc_5 (List.mem_of_getElem? (i := 26) rfl))
theorem wg_527 : (.methodLink RL 129 yX15_setWidths : Cond) ∈ wsG := List.mem_append_left _ (wgc_5 (List.mem_of_getElem? (i := 27) rfl))
theorem wg_528 : (.instanceMethod yX15_setWidths : Cond) ∈ wsG := List.mem_append_left _ (wgc_5 (List.mem_of_getElem? (i := 28) rfl))
theorem wg_529 : (.selects RX15 yX15_setWidths yX15_setWidths : Cond) ∈ wsG := List.mem_append_left _ (wgc_5 (List.mem_of_getElem? (i := 29) rfl))
theorem wg_530 : (.methodLink RL 130 yL_setKeep : Cond) ∈ wsG := List.mem_append_left _ (wgc_5 (List.mem_of_getElem? (i := 30) rfl))
theorem wg_531 : (.static yL_setKeep : Cond) ∈ wsG := List.mem_append_left _ (wgc_5 (List.mem_of_getElem? (i := 31) rfl))
theorem wg_532 : (.methodLink RL 132 yX15_setKeep : Cond) ∈ wsG := List.mem_append_left _ (wgc_5 (List.mem_of_getElem? (i := 32) rfl))
theorem wg_533 : (.instanceMethod yX15_setKeep : Cond) ∈ wsG := List.mem_append_left _ (wgc_5 (List.mem_of_getElem? (i := 33) rfl))
theorem wg_534 : (.selects RX15 yX15_setKeep yX15_setKeep : Cond) ∈ wsG := List.mem_append_left _ (wgc_5 (List.mem_of_getElem? (i := 34) rfl))
theorem wg_535 : (.methodLink RL 133 yL_setQuery : Cond) ∈ wsG := List.mem_append_left _ (wgc_5 (List.mem_of_getElem? (i := 35) rfl))
theorem wg_536 : (.static yL_setQuery : Cond) ∈ wsG := List.mem_append_left _ (wgc_5 (List.mem_of_getElem? (i := 36) rfl))
theorem wg_537 : (.methodLink RL 136 yX15_setQuery : Cond) ∈ wsG := List.mem_append_left _ (wgc_5 (List.mem_of_getElem? (i := 37) rfl))
theorem wg_538 : (.instanceMethod yX15_setQuery : Cond) ∈ wsG := List.mem_append_left _ (wgc_5 (List.mem_of_getElem? (i := 38) rfl))
theorem wg_539 : (.selects RX15 yX15_setQuery yX15_setQuery : Cond) ∈ wsG := List.mem_append_left _ (wgc_5 (List.mem_of_getElem? (i := 39) rfl))
theorem wg_540 : (.methodLink RL 145 yL_goOn : Cond) ∈ wsG := List.mem_append_left _ (wgc_5 (List.mem_of_getElem? (i := 40) rfl))
theorem wg_541 : (.static yL_goOn : Cond) ∈ wsG := List.mem_append_left _ (wgc_5 (List.mem_of_getElem? (i := 41) rfl))
theorem wg_542 : (.methodLink RL 147 yX15_goOn : Cond) ∈ wsG := List.mem_append_left _ (wgc_5 (List.mem_of_getElem? (i := 42) rfl))
theorem wg_543 : (.instanceMethod yX15_goOn : Cond) ∈ wsG := List.mem_append_left _ (wgc_5 (List.mem_of_getElem? (i := 43) rfl))
theorem wg_544 : (.selects RX15 yX15_goOn yX15_goOn : Cond) ∈ wsG := List.mem_append_left _ (wgc_5 (List.mem_of_getElem? (i := 44) rfl))
theorem wg_545 : (.methodLink RL 195 yL_over : Cond) ∈ wsG := List.mem_append_left _ (wgc_5 (List.mem_of_getElem? (i := 45) rfl))
theorem wg_546 : (.static yL_over : Cond) ∈ wsG := List.mem_append_left _ (wgc_5 (List.mem_of_getElem? (i := 46) rfl))
theorem wg_547 : (.methodLink RL 198 yX15_over : Cond) ∈ wsG := List.mem_append_left _ (wgc_5 (List.mem_of_getElem? (i := 47) rfl))
theorem wg_548 : (.instanceMethod yX15_over : Cond) ∈ wsG := List.mem_append_left _ (wgc_5 (List.mem_of_getElem? (i := 48) rfl))
theorem wg_549 : (.selects RX15 yX15_over yX15_over : Cond) ∈ wsG := List.mem_append_left _ (wgc_5 (List.mem_of_getElem? (i := 49) rfl))
theorem wg_550 : (.methodLink RL 228 yL_firesIn : Cond) ∈ wsG := List.mem_append_left _ (wgc_5 (List.mem_of_getElem? (i := 50) rfl))
theorem wg_551 : (.static yL_firesIn : Cond) ∈ wsG := List.mem_append_left _ (wgc_5 (List.mem_of_getElem? (i := 51) rfl))
theorem wg_552 : (.methodLink RL 230 yX15_firesIn : Cond) ∈ wsG := List.mem_append_left _ (wgc_5 (List.mem_of_getElem? (i := 52) rfl))
theorem wg_553 : (.instanceMethod yX15_firesIn : Cond) ∈ wsG := List.mem_append_left _ (wgc_5 (List.mem_of_getElem? (i := 53) rfl))
theorem wg_554 : (.selects RX15 yX15_firesIn yX15_firesIn : Cond) ∈ wsG := List.mem_append_left _ (wgc_5 (List.mem_of_getElem? (i := 54) rfl))
theorem wg_555 : (.methodLink RL 231 yL_wouldRoll : Cond) ∈ wsG := List.mem_append_left _ (wgc_5 (List.mem_of_getElem? (i := 55) rfl))
theorem wg_556 : (.static yL_wouldRoll : Cond) ∈ wsG := List.mem_append_left _ (wgc_5 (List.mem_of_getElem? (i := 56) rfl))
theorem wg_557 : (.methodLink RL 233 yX15_wouldRoll : Cond) ∈ wsG := List.mem_append_left _ (wgc_5 (List.mem_of_getElem? (i := 57) rfl))
theorem wg_558 : (.instanceMethod yX15_wouldRoll : Cond) ∈ wsG := List.mem_append_left _ (wgc_5 (List.mem_of_getElem? (i := 58) rfl))
theorem wg_559 : (.selects RX15 yX15_wouldRoll yX15_wouldRoll : Cond) ∈ wsG := List.mem_append_left _ (wgc_5 (List.mem_of_getElem? (i := 59) rfl))
theorem wg_560 : (.methodLink RL 137 yL_put : Cond) ∈ wsG := List.mem_append_left _ (wgc_5 (List.mem_of_getElem? (i := 60) rfl))
theorem wg_561 : (.static yL_put : Cond) ∈ wsG := List.mem_append_left _ (wgc_5 (List.mem_of_getElem? (i := 61) rfl))
theorem wg_562 : (.methodLink RL 140 yX15_put : Cond) ∈ wsG := List.mem_append_left _ (wgc_5 (List.mem_of_getElem? (i := 62) rfl))
theorem wg_563 : (.instanceMethod yX15_put : Cond) ∈ wsG := List.mem_append_left _ (wgc_5 (List.mem_of_getElem? (i := 63) rfl))
theorem wg_564 : (.selects RX15 yX15_put yX15_put : Cond) ∈ wsG := List.mem_append_left _ (wgc_5 (List.mem_of_getElem? (i := 64) rfl))
theorem wg_565 : (.methodLink RL 141 yL_putRow : Cond) ∈ wsG := List.mem_append_left _ (wgc_5 (List.mem_of_getElem? (i := 65) rfl))
theorem wg_566 : (.static yL_putRow : Cond) ∈ wsG := List.mem_append_left _ (wgc_5 (List.mem_of_getElem? (i := 66) rfl))
theorem wg_567 : (.methodLink RL 144 yX15_putRow : Cond) ∈ wsG := List.mem_append_left _ (wgc_5 (List.mem_of_getElem? (i := 67) rfl))
theorem wg_568 : (.instanceMethod yX15_putRow : Cond) ∈ wsG := List.mem_append_left _ (wgc_5 (List.mem_of_getElem? (i := 68) rfl))
theorem wg_569 : (.selects RX15 yX15_putRow yX15_putRow : Cond) ∈ wsG := List.mem_append_left _ (wgc_5 (List.mem_of_getElem? (i := 69) rfl))
theorem wg_570 : (.methodLink RL 160 yL_blocks : Cond) ∈ wsG := List.mem_append_left _ (wgc_5 (List.mem_of_getElem? (i := 70) rfl))
theorem wg_571 : (.static yL_blocks : Cond) ∈ wsG := List.mem_append_left _ (wgc_5 (List.mem_of_getElem? (i := 71) rfl))
theorem wg_572 : (.methodLink RL 162 yX15_blocks : Cond) ∈ wsG := List.mem_append_left _ (wgc_5 (List.mem_of_getElem? (i := 72) rfl))
theorem wg_573 : (.instanceMethod yX15_blocks : Cond) ∈ wsG := List.mem_append_left _ (wgc_5 (List.mem_of_getElem? (i := 73) rfl))
theorem wg_574 : (.selects RX15 yX15_blocks yX15_blocks : Cond) ∈ wsG := List.mem_append_left _ (wgc_5 (List.mem_of_getElem? (i := 74) rfl))
theorem wg_575 : (.methodLink RL 163 yL_size : Cond) ∈ wsG := List.mem_append_left _ (wgc_5 (List.mem_of_getElem? (i := 75) rfl))
theorem wg_576 : (.static yL_size : Cond) ∈ wsG := List.mem_append_left _ (wgc_5 (List.mem_of_getElem? (i := 76) rfl))
theorem wg_577 : (.methodLink RL 165 yX15_size : Cond) ∈ wsG := List.mem_append_left _ (wgc_5 (List.mem_of_getElem? (i := 77) rfl))
theorem wg_578 : (.instanceMethod yX15_size : Cond) ∈ wsG := List.mem_append_left _ (wgc_5 (List.mem_of_getElem? (i := 78) rfl))
theorem wg_579 : (.selects RX15 yX15_size yX15_size : Cond) ∈ wsG := List.mem_append_left _ (wgc_5 (List.mem_of_getElem? (i := 79) rfl))
theorem wg_580 : (.methodLink RL 166 yL_point : Cond) ∈ wsG := List.mem_append_left _ (wgc_5 (List.mem_of_getElem? (i := 80) rfl))
theorem wg_581 : (.static yL_point : Cond) ∈ wsG := List.mem_append_left _ (wgc_5 (List.mem_of_getElem? (i := 81) rfl))
theorem wg_582 : (.methodLink RL 169 yX15_point : Cond) ∈ wsG := List.mem_append_left _ (wgc_5 (List.mem_of_getElem? (i := 82) rfl))
theorem wg_583 : (.instanceMethod yX15_point : Cond) ∈ wsG := List.mem_append_left _ (wgc_5 (List.mem_of_getElem? (i := 83) rfl))
theorem wg_584 : (.selects RX15 yX15_point yX15_point : Cond) ∈ wsG := List.mem_append_left _ (wgc_5 (List.mem_of_getElem? (i := 84) rfl))
theorem wg_585 : (.methodLink RL 170 yL_bits : Cond) ∈ wsG := List.mem_append_left _ (wgc_5 (List.mem_of_getElem? (i := 85) rfl))
theorem wg_586 : (.static yL_bits : Cond) ∈ wsG := List.mem_append_left _ (wgc_5 (List.mem_of_getElem? (i := 86) rfl))
theorem wg_587 : (.methodLink RL 172 yX15_bits : Cond) ∈ wsG := List.mem_append_left _ (wgc_5 (List.mem_of_getElem? (i := 87) rfl))
theorem wg_588 : (.instanceMethod yX15_bits : Cond) ∈ wsG := List.mem_append_left _ (wgc_5 (List.mem_of_getElem? (i := 88) rfl))
theorem wg_589 : (.selects RX15 yX15_bits yX15_bits : Cond) ∈ wsG := List.mem_append_left _ (wgc_5 (List.mem_of_getElem? (i := 89) rfl))
theorem wg_590 : (.methodLink RL 173 yL_word : Cond) ∈ wsG := List.mem_append_left _ (wgc_5 (List.mem_of_getElem? (i := 90) rfl))
theorem wg_591 : (.static yL_word : Cond) ∈ wsG := List.mem_append_left _ (wgc_5 (List.mem_of_getElem? (i := 91) rfl))
theorem wg_592 : (.methodLink RL 175 yX15_word : Cond) ∈ wsG := List.mem_append_left _ (wgc_5 (List.mem_of_getElem? (i := 92) rfl))
theorem wg_593 : (.instanceMethod yX15_word : Cond) ∈ wsG := List.mem_append_left _ (wgc_5 (List.mem_of_getElem? (i := 93) rfl))
theorem wg_594 : (.selects RX15 yX15_word yX15_word : Cond) ∈ wsG := List.mem_append_left _ (wgc_5 (List.mem_of_getElem? (i := 94) rfl))
theorem wg_595 : (.methodLink RL 176 yL_buckets : Cond) ∈ wsG := List.mem_append_left _ (wgc_5 (List.mem_of_getElem? (i := 95) rfl))
theorem wg_596 : (.static yL_buckets : Cond) ∈ wsG := List.mem_append_left _ (wgc_5 (List.mem_of_getElem? (i := 96) rfl))
theorem wg_597 : (.methodLink RL 179 yX15_buckets_ : Cond) ∈ wsG := List.mem_append_left _ (wgc_5 (List.mem_of_getElem? (i := 97) rfl))
theorem wg_598 : (.instanceMethod yX15_buckets_ : Cond) ∈ wsG := List.mem_append_left _ (wgc_5 (List.mem_of_getElem? (i := 98) rfl))
theorem wg_599 : (.selects RX15 yX15_buckets_ yX15_buckets_ : Cond) ∈ wsG := List.mem_append_left _ (wgc_5 (List.mem_of_getElem? (i := 99) rfl))
theorem wg_600 : (.methodLink RL 180 yL_ofBucket : Cond) ∈ wsG := List.mem_append_left _ (wgc_6 (List.mem_of_getElem? (i := 0) rfl))
theorem wg_601 : (.static yL_ofBucket : Cond) ∈ wsG := List.mem_append_left _ (wgc_6 (List.mem_of_getElem? (i := 1) rfl))
theorem wg_602 : (.methodLink RL 183 yX15_ofBucket : Cond) ∈ wsG := List.mem_append_left _ (wgc_6 (List.mem_of_getElem? (i := 2) rfl))
theorem wg_603 : (.instanceMethod yX15_ofBucket : Cond) ∈ wsG := List.mem_append_left _ (wgc_6 (List.mem_of_getElem? (i := 3) rfl))
theorem wg_604 : (.selects RX15 yX15_ofBucket yX15_ofBucket : Cond) ∈ wsG := List.mem_append_left _ (wgc_6 (List.mem_of_getElem? (i := 4) rfl))
theorem wg_605 : (.methodLink RL 184 yL_items : Cond) ∈ wsG := List.mem_append_left _ (wgc_6 (List.mem_of_getElem? (i := 5) rfl))
theorem wg_606 : (.static yL_items : Cond) ∈ wsG := List.mem_append_left _ (wgc_6 (List.mem_of_getElem? (i := 6) rfl))
theorem wg_607 : (.methodLink RL 186 yX15_items : Cond) ∈ wsG := List.mem_append_left _ (wgc_6 (List.mem_of_getElem? (i := 7) rfl))
theorem wg_608 : (.instanceMethod yX15_items : Cond) ∈ wsG := List.mem_append_left _ (wgc_6 (List.mem_of_getElem? (i := 8) rfl))
theorem wg_609 : (.selects RX15 yX15_items yX15_items : Cond) ∈ wsG := List.mem_append_left _ (wgc_6 (List.mem_of_getElem? (i := 9) rfl))
theorem wg_610 : (.methodLink RL 192 yL_ask : Cond) ∈ wsG := List.mem_append_left _ (wgc_6 (List.mem_of_getElem? (i := 10) rfl))
theorem wg_611 : (.static yL_ask : Cond) ∈ wsG := List.mem_append_left _ (wgc_6 (List.mem_of_getElem? (i := 11) rfl))
theorem wg_612 : (.methodLink RL 194 yX15_ask : Cond) ∈ wsG := List.mem_append_left _ (wgc_6 (List.mem_of_getElem? (i := 12) rfl))
theorem wg_613 : (.instanceMethod yX15_ask : Cond) ∈ wsG := List.mem_append_left _ (wgc_6 (List.mem_of_getElem? (i := 13) rfl))
theorem wg_614 : (.selects RX15 yX15_ask yX15_ask : Cond) ∈ wsG := List.mem_append_left _ (wgc_6 (List.mem_of_getElem? (i := 14) rfl))
theorem wg_615 : (.methodLink RL 199 yL_gaps : Cond) ∈ wsG := List.mem_append_left _ (wgc_6 (List.mem_of_getElem? (i := 15) rfl))
theorem wg_616 : (.static yL_gaps : Cond) ∈ wsG := List.mem_append_left _ (wgc_6 (List.mem_of_getElem? (i := 16) rfl))
theorem wg_617 : (.methodLink RL 201 yX15_gaps : Cond) ∈ wsG := List.mem_append_left _ (wgc_6 (List.mem_of_getElem? (i := 17) rfl))
theorem wg_618 : (.instanceMethod yX15_gaps : Cond) ∈ wsG := List.mem_append_left _ (wgc_6 (List.mem_of_getElem? (i := 18) rfl))
theorem wg_619 : (.selects RX15 yX15_gaps yX15_gaps : Cond) ∈ wsG := List.mem_append_left _ (wgc_6 (List.mem_of_getElem? (i := 19) rfl))
theorem wg_620 : (.methodLink RL 202 yL_lastAt : Cond) ∈ wsG := List.mem_append_left _ (wgc_6 (List.mem_of_getElem? (i := 20) rfl))
theorem wg_621 : (.static yL_lastAt : Cond) ∈ wsG := List.mem_append_left _ (wgc_6 (List.mem_of_getElem? (i := 21) rfl))
theorem wg_622 : (.methodLink RL 204 yX15_lastAt : Cond) ∈ wsG := List.mem_append_left _ (wgc_6 (List.mem_of_getElem? (i := 22) rfl))
theorem wg_623 : (.instanceMethod yX15_lastAt : Cond) ∈ wsG := List.mem_append_left _ (wgc_6 (List.mem_of_getElem? (i := 23) rfl))
theorem wg_624 : (.selects RX15 yX15_lastAt yX15_lastAt : Cond) ∈ wsG := List.mem_append_left _ (wgc_6 (List.mem_of_getElem? (i := 24) rfl))
theorem wg_625 : (.methodLink RL 205 yL_addRule : Cond) ∈ wsG := List.mem_append_left _ (wgc_6 (List.mem_of_getElem? (i := 25) rfl))
theorem wg_626 : (.static yL_addRule : Cond) ∈ wsG := List.mem_append_left _ (wgc_6 (List.mem_of_getElem? (i := 26) rfl))
theorem wg_627 : (.methodLink RL 208 yX15_addRule : Cond) ∈ wsG := List.mem_append_left _ (wgc_6 (List.mem_of_getElem? (i := 27) rfl))
theorem wg_628 : (.instanceMethod yX15_addRule : Cond) ∈ wsG := List.mem_append_left _ (wgc_6 (List.mem_of_getElem? (i := 28) rfl))
theorem wg_629 : (.selects RX15 yX15_addRule yX15_addRule : Cond) ∈ wsG := List.mem_append_left _ (wgc_6 (List.mem_of_getElem? (i := 29) rfl))
theorem wg_630 : (.methodLink RL 225 yL_bitsWith : Cond) ∈ wsG := List.mem_append_left _ (wgc_6 (List.mem_of_getElem? (i := 30) rfl))
theorem wg_631 : (.static yL_bitsWith : Cond) ∈ wsG := List.mem_append_left _ (wgc_6 (List.mem_of_getElem? (i := 31) rfl))
theorem wg_632 : (.methodLink RL 227 yX15_bitsWith : Cond) ∈ wsG := List.mem_append_left _ (wgc_6 (List.mem_of_getElem? (i := 32) rfl))
theorem wg_633 : (.instanceMethod yX15_bitsWith : Cond) ∈ wsG := List.mem_append_left _ (wgc_6 (List.mem_of_getElem? (i := 33) rfl))
theorem wg_634 : (.selects RX15 yX15_bitsWith yX15_bitsWith : Cond) ∈ wsG := List.mem_append_left _ (wgc_6 (List.mem_of_getElem? (i := 34) rfl))
theorem wg_635 : (.methodLink RL 209 yL_stateOf : Cond) ∈ wsG := List.mem_append_left _ (wgc_6 (List.mem_of_getElem? (i := 35) rfl))
theorem wg_636 : (.static yL_stateOf : Cond) ∈ wsG := List.mem_append_left _ (wgc_6 (List.mem_of_getElem? (i := 36) rfl))
theorem wg_637 : (.methodLink RL 211 yX15_stateOf : Cond) ∈ wsG := List.mem_append_left _ (wgc_6 (List.mem_of_getElem? (i := 37) rfl))
theorem wg_638 : (.instanceMethod yX15_stateOf : Cond) ∈ wsG := List.mem_append_left _ (wgc_6 (List.mem_of_getElem? (i := 38) rfl))
theorem wg_639 : (.selects RX15 yX15_stateOf yX15_stateOf : Cond) ∈ wsG := List.mem_append_left _ (wgc_6 (List.mem_of_getElem? (i := 39) rfl))
theorem wg_640 : (.methodLink RL 212 yL_inRow : Cond) ∈ wsG := List.mem_append_left _ (wgc_6 (List.mem_of_getElem? (i := 40) rfl))
theorem wg_641 : (.static yL_inRow : Cond) ∈ wsG := List.mem_append_left _ (wgc_6 (List.mem_of_getElem? (i := 41) rfl))
theorem wg_642 : (.methodLink RL 214 yX15_inRow : Cond) ∈ wsG := List.mem_append_left _ (wgc_6 (List.mem_of_getElem? (i := 42) rfl))
theorem wg_643 : (.instanceMethod yX15_inRow : Cond) ∈ wsG := List.mem_append_left _ (wgc_6 (List.mem_of_getElem? (i := 43) rfl))
theorem wg_644 : (.selects RX15 yX15_inRow yX15_inRow : Cond) ∈ wsG := List.mem_append_left _ (wgc_6 (List.mem_of_getElem? (i := 44) rfl))
theorem wg_645 : (.methodLink RL 215 yL_seenBy : Cond) ∈ wsG := List.mem_append_left _ (wgc_6 (List.mem_of_getElem? (i := 45) rfl))
theorem wg_646 : (.static yL_seenBy : Cond) ∈ wsG := List.mem_append_left _ (wgc_6 (List.mem_of_getElem? (i := 46) rfl))
theorem wg_647 : (.methodLink RL 217 yX15_seenBy : Cond) ∈ wsG := List.mem_append_left _ (wgc_6 (List.mem_of_getElem? (i := 47) rfl))
theorem wg_648 : (.instanceMethod yX15_seenBy : Cond) ∈ wsG := List.mem_append_left _ (wgc_6 (List.mem_of_getElem? (i := 48) rfl))
theorem wg_649 : (.selects RX15 yX15_seenBy yX15_seenBy : Cond) ∈ wsG := List.mem_append_left _ (wgc_6 (List.mem_of_getElem? (i := 49) rfl))
theorem wg_650 : (.methodLink RL 222 yL_event : Cond) ∈ wsG := List.mem_append_left _ (wgc_6 (List.mem_of_getElem? (i := 50) rfl))
theorem wg_651 : (.static yL_event : Cond) ∈ wsG := List.mem_append_left _ (wgc_6 (List.mem_of_getElem? (i := 51) rfl))
theorem wg_652 : (.methodLink RL 224 yX15_event : Cond) ∈ wsG := List.mem_append_left _ (wgc_6 (List.mem_of_getElem? (i := 52) rfl))
theorem wg_653 : (.instanceMethod yX15_event : Cond) ∈ wsG := List.mem_append_left _ (wgc_6 (List.mem_of_getElem? (i := 53) rfl))
theorem wg_654 : (.selects RX15 yX15_event yX15_event : Cond) ∈ wsG := List.mem_append_left _ (wgc_6 (List.mem_of_getElem? (i := 54) rfl))
theorem wg_655 : (.methodLink RL 148 yX9_now : Cond) ∈ wsG := List.mem_append_left _ (wgc_6 (List.mem_of_getElem? (i := 55) rfl))
theorem wg_656 : (.instanceMethod yX9_now : Cond) ∈ wsG := List.mem_append_left _ (wgc_6 (List.mem_of_getElem? (i := 56) rfl))
theorem wg_657 : (.selects RX9 yX9_now yX9_now : Cond) ∈ wsG := List.mem_append_left _ (wgc_6 (List.mem_of_getElem? (i := 57) rfl))
theorem wg_658 : (.methodLink RL 151 yX15_now : Cond) ∈ wsG := List.mem_append_left _ (wgc_6 (List.mem_of_getElem? (i := 58) rfl))
theorem wg_659 : (.instanceMethod yX15_now : Cond) ∈ wsG := List.mem_append_left _ (wgc_6 (List.mem_of_getElem? (i := 59) rfl))
theorem wg_660 : (.selects RX15 yX15_now yX15_now : Cond) ∈ wsG := List.mem_append_left _ (wgc_6 (List.mem_of_getElem? (i := 60) rfl))
theorem wg_661 : (.methodLink RL 152 yX9_series : Cond) ∈ wsG := List.mem_append_left _ (wgc_6 (List.mem_of_getElem? (i := 61) rfl))
theorem wg_662 : (.instanceMethod yX9_series : Cond) ∈ wsG := List.mem_append_left _ (wgc_6 (List.mem_of_getElem? (i := 62) rfl))
theorem wg_663 : (.selects RX9 yX9_series yX9_series : Cond) ∈ wsG := List.mem_append_left _ (wgc_6 (List.mem_of_getElem? (i := 63) rfl))
theorem wg_664 : (.methodLink RL 155 yX15_series_ : Cond) ∈ wsG := List.mem_append_left _ (wgc_6 (List.mem_of_getElem? (i := 64) rfl))
theorem wg_665 : (.instanceMethod yX15_series_ : Cond) ∈ wsG := List.mem_append_left _ (wgc_6 (List.mem_of_getElem? (i := 65) rfl))
theorem wg_666 : (.selects RX15 yX15_series_ yX15_series_ : Cond) ∈ wsG := List.mem_append_left _ (wgc_6 (List.mem_of_getElem? (i := 66) rfl))
theorem wg_667 : (.methodLink RL 156 yX9_late : Cond) ∈ wsG := List.mem_append_left _ (wgc_6 (List.mem_of_getElem? (i := 67) rfl))
theorem wg_668 : (.instanceMethod yX9_late : Cond) ∈ wsG := List.mem_append_left _ (wgc_6 (List.mem_of_getElem? (i := 68) rfl))
theorem wg_669 : (.selects RX9 yX9_late yX9_late : Cond) ∈ wsG := List.mem_append_left _ (wgc_6 (List.mem_of_getElem? (i := 69) rfl))
theorem wg_670 : (.methodLink RL 159 yX15_late : Cond) ∈ wsG := List.mem_append_left _ (wgc_6 (List.mem_of_getElem? (i := 70) rfl))
theorem wg_671 : (.instanceMethod yX15_late : Cond) ∈ wsG := List.mem_append_left _ (wgc_6 (List.mem_of_getElem? (i := 71) rfl))
theorem wg_672 : (.selects RX15 yX15_late yX15_late : Cond) ∈ wsG := List.mem_append_left _ (wgc_6 (List.mem_of_getElem? (i := 72) rfl))
theorem wg_673 : (.methodLink RL 218 yX9_events : Cond) ∈ wsG := List.mem_append_left _ (wgc_6 (List.mem_of_getElem? (i := 73) rfl))
theorem wg_674 : (.instanceMethod yX9_events : Cond) ∈ wsG := List.mem_append_left _ (wgc_6 (List.mem_of_getElem? (i := 74) rfl))
theorem wg_675 : (.selects RX9 yX9_events yX9_events : Cond) ∈ wsG := List.mem_append_left _ (wgc_6 (List.mem_of_getElem? (i := 75) rfl))
theorem wg_676 : (.methodLink RL 221 yX15_events : Cond) ∈ wsG := List.mem_append_left _ (wgc_6 (List.mem_of_getElem? (i := 76) rfl))
theorem wg_677 : (.instanceMethod yX15_events : Cond) ∈ wsG := List.mem_append_left _ (wgc_6 (List.mem_of_getElem? (i := 77) rfl))
theorem wg_678 : (.selects RX15 yX15_events yX15_events : Cond) ∈ wsG := List.mem_append_left _ (wgc_6 (List.mem_of_getElem? (i := 78) rfl))
theorem wg_679 : (.methodLink RL 234 yX9_digest : Cond) ∈ wsG := List.mem_append_left _ (wgc_6 (List.mem_of_getElem? (i := 79) rfl))
theorem wg_680 : (.instanceMethod yX9_digest : Cond) ∈ wsG := List.mem_append_left _ (wgc_6 (List.mem_of_getElem? (i := 80) rfl))
theorem wg_681 : (.selects RX9 yX9_digest yX9_digest : Cond) ∈ wsG := List.mem_append_left _ (wgc_6 (List.mem_of_getElem? (i := 81) rfl))
theorem wg_682 : (.methodLink RL 238 yX15_digest : Cond) ∈ wsG := List.mem_append_left _ (wgc_6 (List.mem_of_getElem? (i := 82) rfl))
theorem wg_683 : (.instanceMethod yX15_digest : Cond) ∈ wsG := List.mem_append_left _ (wgc_6 (List.mem_of_getElem? (i := 83) rfl))
theorem wg_684 : (.selects RX15 yX15_digest yX15_digest : Cond) ∈ wsG := List.mem_append_left _ (wgc_6 (List.mem_of_getElem? (i := 84) rfl))
theorem wg_685 : (.methodLink RL 187 yX9_ratio : Cond) ∈ wsG := List.mem_append_left _ (wgc_6 (List.mem_of_getElem? (i := 85) rfl))
theorem wg_686 : (.instanceMethod yX9_ratio : Cond) ∈ wsG := List.mem_append_left _ (wgc_6 (List.mem_of_getElem? (i := 86) rfl))
theorem wg_687 : (.selects RX9 yX9_ratio yX9_ratio : Cond) ∈ wsG := List.mem_append_left _ (wgc_6 (List.mem_of_getElem? (i := 87) rfl))
theorem wg_688 : (.methodLink RL 191 yX15_ratio : Cond) ∈ wsG := List.mem_append_left _ (wgc_6 (List.mem_of_getElem? (i := 88) rfl))
theorem wg_689 : (.instanceMethod yX15_ratio : Cond) ∈ wsG := List.mem_append_left _ (wgc_6 (List.mem_of_getElem? (i := 89) rfl))
theorem wg_690 : (.selects RX15 yX15_ratio yX15_ratio : Cond) ∈ wsG := List.mem_append_left _ (wgc_6 (List.mem_of_getElem? (i := 90) rfl))
theorem wg_691 : (.classLink RL 8 RX9 : Cond) ∈ wsG := List.mem_append_left _ (wgc_6 (List.mem_of_getElem? (i := 91) rfl))
theorem wg_692 : (.instantiable RX9 9 : Cond) ∈ wsG := List.mem_append_left _ (wgc_6 (List.mem_of_getElem? (i := 92) rfl))
theorem wg_693 : (.methodLink RL 109 yX9_init : Cond) ∈ wsG := List.mem_append_left _ (wgc_6 (List.mem_of_getElem? (i := 93) rfl))
theorem wg_694 : (.instanceMethod yX9_init : Cond) ∈ wsG := List.mem_append_left _ (wgc_6 (List.mem_of_getElem? (i := 94) rfl))
theorem wg_695 : (.classLink RL 110 RX15 : Cond) ∈ wsG := List.mem_append_left _ (wgc_6 (List.mem_of_getElem? (i := 95) rfl))
theorem wg_696 : (.instantiable RX15 7 : Cond) ∈ wsG := List.mem_append_left _ (wgc_6 (List.mem_of_getElem? (i := 96) rfl))
theorem wg_697 : (.methodLink RL 112 yX15_init : Cond) ∈ wsG := List.mem_append_left _ (wgc_6 (List.mem_of_getElem? (i := 97) rfl))
theorem wg_698 : (.instanceMethod yX15_init : Cond) ∈ wsG := List.mem_append_left _ (wgc_6 (List.mem_of_getElem? (i := 98) rfl))
theorem wg_699 : (.arrayClass .long : Cond) ∈ wsG := List.mem_append_left _ (wgc_6 (List.mem_of_getElem? (i := 99) rfl))
theorem hg_Jx4a65c : ∀ w ∈ u_ws RJx4a65c TJx4a65c 3, w ∈ wsG := fun w h => List.mem_append_right _ (List.mem_append_left _ h)
theorem hg_X9 : ∀ w ∈ u_ws RX9 TX9 9, w ∈ wsG := fun w h => List.mem_append_right _ (List.mem_append_right _ (List.mem_append_left _ h))
theorem hg_X8 : ∀ w ∈ u_ws RX8 TX8 5, w ∈ wsG := fun w h => List.mem_append_right _ (List.mem_append_right _ (List.mem_append_right _ (List.mem_append_left _ h)))
theorem hg_X1 : ∀ w ∈ u_ws RX1 TX1 3, w ∈ wsG := fun w h => List.mem_append_right _ (List.mem_append_right _ (List.mem_append_right _ (List.mem_append_right _ (List.mem_append_left _ h))))
theorem hg_X7 : ∀ w ∈ u_ws RX7 TX7 5, w ∈ wsG := fun w h => List.mem_append_right _ (List.mem_append_right _ (List.mem_append_right _ (List.mem_append_right _ (List.mem_append_right _ (List.mem_append_left _ h)))))
theorem hg_X15 : ∀ w ∈ u_ws RX15 TX15 7, w ∈ wsG := fun w h => List.mem_append_right _ (List.mem_append_right _ (List.mem_append_right _ (List.mem_append_right _ (List.mem_append_right _ (List.mem_append_right _ (List.mem_append_left _ h))))))
theorem hg_X14 : ∀ w ∈ u_ws RX14 TX14 9, w ∈ wsG := fun w h => List.mem_append_right _ (List.mem_append_right _ (List.mem_append_right _ (List.mem_append_right _ (List.mem_append_right _ (List.mem_append_right _ (List.mem_append_right _ (List.mem_append_left _ h)))))))
theorem hg_X0 : ∀ w ∈ u_ws RX0 TX0 2, w ∈ wsG := fun w h => List.mem_append_right _ (List.mem_append_right _ (List.mem_append_right _ (List.mem_append_right _ (List.mem_append_right _ (List.mem_append_right _ (List.mem_append_right _ (List.mem_append_right _ (List.mem_append_left _ h))))))))
theorem hg_X4 : ∀ w ∈ u_ws RX4 TX4 7, w ∈ wsG := fun w h => List.mem_append_right _ (List.mem_append_right _ (List.mem_append_right _ (List.mem_append_right _ (List.mem_append_right _ (List.mem_append_right _ (List.mem_append_right _ (List.mem_append_right _ (List.mem_append_right _ (List.mem_append_left _ h)))))))))
theorem hg_X3 : ∀ w ∈ u_ws RX3 TX3 6, w ∈ wsG := fun w h => List.mem_append_right _ (List.mem_append_right _ (List.mem_append_right _ (List.mem_append_right _ (List.mem_append_right _ (List.mem_append_right _ (List.mem_append_right _ (List.mem_append_right _ (List.mem_append_right _ (List.mem_append_right _ (List.mem_append_left _ h))))))))))
theorem hg_X6 : ∀ w ∈ u_ws RX6 TX6 5, w ∈ wsG := fun w h => List.mem_append_right _ (List.mem_append_right _ (List.mem_append_right _ (List.mem_append_right _ (List.mem_append_right _ (List.mem_append_right _ (List.mem_append_right _ (List.mem_append_right _ (List.mem_append_right _ (List.mem_append_right _ (List.mem_append_right _ (List.mem_append_left _ h)))))))))))
theorem hg_X13 : ∀ w ∈ u_ws RX13 TX13 5, w ∈ wsG := fun w h => List.mem_append_right _ (List.mem_append_right _ (List.mem_append_right _ (List.mem_append_right _ (List.mem_append_right _ (List.mem_append_right _ (List.mem_append_right _ (List.mem_append_right _ (List.mem_append_right _ (List.mem_append_right _ (List.mem_append_right _ (List.mem_append_right _ (List.mem_append_left _ h))))))))))))
theorem hg_J0 : ∀ w ∈ u_ws RJ0 TJ0 4, w ∈ wsG := fun w h => List.mem_append_right _ (List.mem_append_right _ (List.mem_append_right _ (List.mem_append_right _ (List.mem_append_right _ (List.mem_append_right _ (List.mem_append_right _ (List.mem_append_right _ (List.mem_append_right _ (List.mem_append_right _ (List.mem_append_right _ (List.mem_append_right _ (List.mem_append_right _ (List.mem_append_left _ h)))))))))))))
theorem hg_J4 : ∀ w ∈ u_ws RJ4 TJ4 4, w ∈ wsG := fun w h => List.mem_append_right _ (List.mem_append_right _ (List.mem_append_right _ (List.mem_append_right _ (List.mem_append_right _ (List.mem_append_right _ (List.mem_append_right _ (List.mem_append_right _ (List.mem_append_right _ (List.mem_append_right _ (List.mem_append_right _ (List.mem_append_right _ (List.mem_append_right _ (List.mem_append_right _ (List.mem_append_left _ h))))))))))))))
theorem hg_X5 : ∀ w ∈ u_ws RX5 TX5 9, w ∈ wsG := fun w h => List.mem_append_right _ (List.mem_append_right _ (List.mem_append_right _ (List.mem_append_right _ (List.mem_append_right _ (List.mem_append_right _ (List.mem_append_right _ (List.mem_append_right _ (List.mem_append_right _ (List.mem_append_right _ (List.mem_append_right _ (List.mem_append_right _ (List.mem_append_right _ (List.mem_append_right _ (List.mem_append_right _ (List.mem_append_left _ h)))))))))))))))
theorem hg_X10 : ∀ w ∈ u_ws RX10 TX10 1, w ∈ wsG := fun w h => List.mem_append_right _ (List.mem_append_right _ (List.mem_append_right _ (List.mem_append_right _ (List.mem_append_right _ (List.mem_append_right _ (List.mem_append_right _ (List.mem_append_right _ (List.mem_append_right _ (List.mem_append_right _ (List.mem_append_right _ (List.mem_append_right _ (List.mem_append_right _ (List.mem_append_right _ (List.mem_append_right _ (List.mem_append_right _ (List.mem_append_left _ h))))))))))))))))
theorem hg_X11 : ∀ w ∈ u_ws RX11 TX11 7, w ∈ wsG := fun w h => List.mem_append_right _ (List.mem_append_right _ (List.mem_append_right _ (List.mem_append_right _ (List.mem_append_right _ (List.mem_append_right _ (List.mem_append_right _ (List.mem_append_right _ (List.mem_append_right _ (List.mem_append_right _ (List.mem_append_right _ (List.mem_append_right _ (List.mem_append_right _ (List.mem_append_right _ (List.mem_append_right _ (List.mem_append_right _ (List.mem_append_right _ (List.mem_append_left _ h)))))))))))))))))
theorem hg_X12 : ∀ w ∈ u_ws RX12 TX12 9, w ∈ wsG := fun w h => List.mem_append_right _ (List.mem_append_right _ (List.mem_append_right _ (List.mem_append_right _ (List.mem_append_right _ (List.mem_append_right _ (List.mem_append_right _ (List.mem_append_right _ (List.mem_append_right _ (List.mem_append_right _ (List.mem_append_right _ (List.mem_append_right _ (List.mem_append_right _ (List.mem_append_right _ (List.mem_append_right _ (List.mem_append_right _ (List.mem_append_right _ (List.mem_append_right _ (List.mem_append_left _ h))))))))))))))))))
theorem at_RX9_284 : ∀ w ∈ (vx_atS RX9 284 "java/lang/IllegalArgumentException" ["java/lang/RuntimeException", "java/lang/Exception"]).filter goodWord, w ∈ wsG := fun w h => List.mem_append_right _ (List.mem_append_right _ (List.mem_append_right _ (List.mem_append_right _ (List.mem_append_right _ (List.mem_append_right _ (List.mem_append_right _ (List.mem_append_right _ (List.mem_append_right _ (List.mem_append_right _ (List.mem_append_right _ (List.mem_append_right _ (List.mem_append_right _ (List.mem_append_right _ (List.mem_append_right _ (List.mem_append_right _ (List.mem_append_right _ (List.mem_append_right _ (List.mem_append_right _ (List.mem_append_left _ h)))))))))))))))))))
theorem at_RX9_291 : ∀ w ∈ (vx_atS RX9 291 "java/lang/IndexOutOfBoundsException" ["java/lang/RuntimeException", "java/lang/Exception"]).filter goodWord, w ∈ wsG := fun w h => List.mem_append_right _ (List.mem_append_right _ (List.mem_append_right _ (List.mem_append_right _ (List.mem_append_right _ (List.mem_append_right _ (List.mem_append_right _ (List.mem_append_right _ (List.mem_append_right _ (List.mem_append_right _ (List.mem_append_right _ (List.mem_append_right _ (List.mem_append_right _ (List.mem_append_right _ (List.mem_append_right _ (List.mem_append_right _ (List.mem_append_right _ (List.mem_append_right _ (List.mem_append_right _ (List.mem_append_right _ (List.mem_append_left _ h))))))))))))))))))))
theorem gI {c0 c1 : Cond} (h : c1 ∈ wsG) : GoodIn (gw c0) (gw c1) := fun w hw => by
  have h9 : w ∈ wsG := (List.mem_cons.mp hw).elim (fun e => by rw [e]; exact h) id
  exact ⟨gm h9, wsG_good h9⟩
theorem gV {c0 c1 : Cond} {own C : String} {idx : Nat} {y : MethodName} (h1 : Cond.methodLink own idx y ∈ wsG) (h2 : Cond.instanceMethod y ∈ wsG) (h3 : Cond.selects C y y ∈ wsG) (h4 : Cond.initialized C ∈ wsG) (h5 : c1 ∈ wsG) : GoodIn (gw c0) (wsV own idx C y (gw c1)) := fun w hw => by
  have h9 : w ∈ wsG := by
    rcases List.mem_append.mp hw with q | q
    · simp only [List.mem_cons, List.not_mem_nil, or_false] at q
      rcases q with rfl | rfl | rfl | rfl <;> assumption
    · exact (List.mem_cons.mp q).elim (fun e => by rw [e]; exact h5) id
  exact ⟨gm h9, wsG_good h9⟩
theorem gF {c0 c1 : Cond} {own C : String} {idx : Nat} {x y : MethodName} (h1 : Cond.methodLink own idx x ∈ wsG) (h2 : Cond.instanceMethod y ∈ wsG) (h3 : Cond.selects C x y ∈ wsG) (h4 : Cond.initialized y.cls ∈ wsG) (h5 : c1 ∈ wsG) : GoodIn (gw c0) (va_wsF own idx C x y (gw c1)) := fun w hw => by
  have h9 : w ∈ wsG := by
    rcases List.mem_append.mp hw with q | q
    · simp only [List.mem_cons, List.not_mem_nil, or_false] at q
      rcases q with rfl | rfl | rfl | rfl <;> assumption
    · exact (List.mem_cons.mp q).elim (fun e => by rw [e]; exact h5) id
  exact ⟨gm h9, wsG_good h9⟩
theorem gS {c0 c1 : Cond} {own : String} {idx : Nat} {y : MethodName} (h1 : Cond.methodLink own idx y ∈ wsG) (h2 : Cond.static y ∈ wsG) (h3 : Cond.initialized y.cls ∈ wsG) (h5 : c1 ∈ wsG) : GoodIn (gw c0) (va_wsS own idx y (gw c1)) := fun w hw => by
  have h9 : w ∈ wsG := by
    rcases List.mem_append.mp hw with q | q
    · simp only [List.mem_cons, List.not_mem_nil, or_false] at q
      rcases q with rfl | rfl | rfl <;> assumption
    · exact (List.mem_cons.mp q).elim (fun e => by rw [e]; exact h5) id
  exact ⟨gm h9, wsG_good h9⟩
