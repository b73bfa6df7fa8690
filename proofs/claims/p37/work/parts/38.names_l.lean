def wsL_below : List Cond := .code yL_below cL_below 2 (some .int) :: ([.constant RL 7 (2147483647)])
def wsL_cell : List Cond := .code yL_cell cL_cell 2 (some .int) :: ([.constant RL 8 (790386105)])
def wsL_isSound_r1 : List Cond := [Cond.arrayClass .int, Cond.methodLink RL 9 yX9_blocks, Cond.instanceMethod yX9_blocks, Cond.selects RX9 yX9_blocks yX9_blocks, Cond.initialized RX9, Cond.code yX9_blocks cX9_blocks 2 (some .int), Cond.fieldLink RX9 116 "MeridianSeries$Series" "points" "LMeridianSeries$Points;", Cond.methodLink RX9 101 yX9_chainAt, Cond.instanceMethod yX9_chainAt, Cond.selects RX9 yX9_chainAt yX9_chainAt, Cond.code yX9_chainAt cX9_chainAt 2 (some (.object "MeridianSeries$Series")), Cond.classLink RX9 287 "java/lang/IndexOutOfBoundsException", Cond.initialized "java/lang/IndexOutOfBoundsException", Cond.fieldLink RX9 21 "MeridianSeries" "store" "LMeridianSeries$Store;", Cond.fieldLink RX9 59 "MeridianSeries$Store" "chains" "Ljava/util/ArrayList;", Cond.classLink RX9 72 "MeridianSeries$Series", Cond.methodLink RX9 63 yJx4a65c_size_8abf5, Cond.instanceMethod yJx4a65c_size_8abf5, Cond.selects RJx4a65c yJx4a65c_size_8abf5 yJx4a65c_size_8abf5, Cond.initialized RJx4a65c, Cond.code yJx4a65c_size_8abf5 cJx4a65c_size_8abf5 1 (some .int), Cond.fieldLink RJx4a65c 48 "java/util/ArrayList" "size" "I", Cond.methodLink RX9 187 yJx4a65c_get_915e3, Cond.instanceMethod yJx4a65c_get_915e3]
def wsL_isSound_r2 : List Cond := [Cond.selects RJx4a65c yJx4a65c_get_915e3 yJx4a65c_get_915e3, Cond.code yJx4a65c_get_915e3 cJx4a65c_get_915e3 2 (some (.object "java/lang/Object")), Cond.methodLink RJx4a65c 118 yJ15_checkIndex_7cf53, Cond.static yJ15_checkIndex_7cf53, Cond.initialized RJ15, Cond.code yJ15_checkIndex_7cf53 cJ15_checkIndex_7cf53 2 (some .int), Cond.methodLink RJ15 105 yJ3_checkIndex_8e157, Cond.static yJ3_checkIndex_8e157, Cond.initialized RJ3, Cond.code yJ3_checkIndex_8e157 cJ3_checkIndex_8e157 3 (some .int), Cond.methodLink RJx4a65c 123 yJx4a65c_elementData_915e3, Cond.instanceMethod yJx4a65c_elementData_915e3, Cond.selects RJx4a65c yJx4a65c_elementData_915e3 yJx4a65c_elementData_915e3, Cond.code yJx4a65c_elementData_915e3 cJx4a65c_elementData_915e3 2 (some (.object "java/lang/Object")), Cond.fieldLink RJx4a65c 9 "java/util/ArrayList" "elementData" "[Ljava/lang/Object;", Cond.methodLink RX9 144 yX4_blockCount, Cond.instanceMethod yX4_blockCount, Cond.selects RX4 yX4_blockCount yX4_blockCount, Cond.initialized RX4, Cond.code yX4_blockCount cX4_blockCount 1 (some .int), Cond.fieldLink RX4 21 "MeridianSeries$Points" "sealedBlocks" "I", Cond.methodLink RL 15 yX9_buckets, Cond.instanceMethod yX9_buckets, Cond.selects RX9 yX9_buckets yX9_buckets]
def wsL_isSound_r3 : List Cond := [Cond.code yX9_buckets cX9_buckets 3 (some .int), Cond.fieldLink RX9 178 "MeridianSeries$Buckets" "amount" "I", Cond.sameField "MeridianSeries$Buckets" "MeridianSeries$Items" "amount" "I", Cond.methodLink RX9 174 yX6_bucketsOf, Cond.instanceMethod yX6_bucketsOf, Cond.selects RX6 yX6_bucketsOf yX6_bucketsOf, Cond.initialized RX6, Cond.code yX6_bucketsOf cX6_bucketsOf 2 (some (.object "MeridianSeries$Buckets")), Cond.fieldLink RX6 25 "MeridianSeries$Series" "coarse" "LMeridianSeries$Buckets;", Cond.fieldLink RX6 21 "MeridianSeries$Series" "fine" "LMeridianSeries$Buckets;", Cond.methodLink RL 19 yX9_size, Cond.instanceMethod yX9_size, Cond.selects RX9 yX9_size yX9_size, Cond.code yX9_size cX9_size 4 (some .int), Cond.fieldLink RX9 147 "MeridianSeries$Points" "sealedBlocks" "I", Cond.methodLink RX9 51 yX9_isIn, Cond.static yX9_isIn, Cond.code yX9_isIn cX9_isIn 4 (some .boolean), Cond.methodLink RX9 150 yX9_needIndex, Cond.static yX9_needIndex, Cond.code yX9_needIndex cX9_needIndex 1 none, Cond.methodLink RX9 153 yX4_sizeOf, Cond.instanceMethod yX4_sizeOf, Cond.selects RX4 yX4_sizeOf yX4_sizeOf]
def wsL_isSound_r4 : List Cond := [Cond.code yX4_sizeOf cX4_sizeOf 2 (some .int), Cond.fieldLink RX4 18 "MeridianSeries$Points" "sizes" "[I", Cond.methodLink RX4 34 yX4_openSize, Cond.instanceMethod yX4_openSize, Cond.selects RX4 yX4_openSize yX4_openSize, Cond.code yX4_openSize cX4_openSize 1 (some .int), Cond.fieldLink RX4 31 "MeridianSeries$Points" "amount" "I", Cond.sameField "MeridianSeries$Points" "MeridianSeries$Items" "amount" "I", Cond.fieldLink RX4 25 "MeridianSeries$Points" "sealedPoints" "I", Cond.methodLink RL 23 yX9_bits, Cond.instanceMethod yX9_bits, Cond.selects RX9 yX9_bits yX9_bits, Cond.code yX9_bits cX9_bits 4 (some .int), Cond.fieldLink RX9 31 "MeridianSeries" "packer" "LMeridianSeries$Packer;", Cond.methodLink RX9 164 yX3_pack, Cond.instanceMethod yX3_pack, Cond.selects RX3 yX3_pack yX3_pack, Cond.initialized RX3, Cond.code yX3_pack cX3_pack 6 (some .int), Cond.fieldLink RX3 31 "MeridianSeries$Points" "sealedBlocks" "I", Cond.fieldLink RX3 15 "MeridianSeries$Packer" "length" "I", Cond.methodLink RX3 36 yX4_startOf, Cond.instanceMethod yX4_startOf, Cond.selects RX4 yX4_startOf yX4_startOf]
def wsL_isSound_r5 : List Cond := [Cond.code yX4_startOf cX4_startOf 4 (some .int), Cond.methodLink RX4 38 yX4_sizeOf, Cond.methodLink RX3 40 yX4_sizeOf, Cond.methodLink RX3 43 yX3_begin, Cond.instanceMethod yX3_begin, Cond.selects RX3 yX3_begin yX3_begin, Cond.code yX3_begin cX3_begin 2 none, Cond.fieldLink RX3 11 "MeridianSeries$Packer" "words" "[I", Cond.fieldLink RX3 19 "MeridianSeries$Packer" "packed" "I", Cond.methodLink RX3 72 yJ7_fill_53178, Cond.static yJ7_fill_53178, Cond.initialized RJ7, Cond.code yJ7_fill_53178 cJ7_fill_53178 4 none, Cond.methodLink RX3 78 yX3_write, Cond.instanceMethod yX3_write, Cond.selects RX3 yX3_write yX3_write, Cond.code yX3_write cX3_write 5 none, Cond.methodLink RX3 47 yX4_number, Cond.instanceMethod yX4_number, Cond.selects RX4 yX4_number yX4_number, Cond.code yX4_number cX4_number 3 (some .int), Cond.fieldLink RX4 11 "MeridianSeries$Points" "times" "[I", Cond.fieldLink RX4 15 "MeridianSeries$Points" "values" "[I", Cond.methodLink RX3 51 yX3_add]
def wsL_isSound_r6 : List Cond := [Cond.instanceMethod yX3_add, Cond.selects RX3 yX3_add yX3_add, Cond.code yX3_add cX3_add 4 none, Cond.constant RX3 81 (1048576), Cond.fieldLink RX3 25 "MeridianSeries$Packer" "lastStep" "I", Cond.fieldLink RX3 22 "MeridianSeries$Packer" "lastTime" "I", Cond.fieldLink RX3 28 "MeridianSeries$Packer" "lastValue" "I", Cond.methodLink RX3 82 yX3_addTime, Cond.instanceMethod yX3_addTime, Cond.selects RX3 yX3_addTime yX3_addTime, Cond.code yX3_addTime cX3_addTime 2 none, Cond.methodLink RX3 85 yX3_addValue, Cond.instanceMethod yX3_addValue, Cond.selects RX3 yX3_addValue yX3_addValue, Cond.code yX3_addValue cX3_addValue 2 none, Cond.constant RX3 92 (262144), Cond.methodLink RL 26 yX9_point, Cond.instanceMethod yX9_point, Cond.selects RX9 yX9_point yX9_point, Cond.code yX9_point cX9_point 6 (some .int), Cond.methodLink RX9 157 yX4_startOf, Cond.methodLink RX9 160 yX4_number, Cond.methodLink RL 30 yX9_now, Cond.instanceMethod yX9_now]
def wsL_isSound_r7 : List Cond := [Cond.selects RX9 yX9_now yX9_now, Cond.code yX9_now cX9_now 1 (some .int), Cond.fieldLink RX9 141 "MeridianSeries$Store" "now" "I", Cond.methodLink RL 34 yX9_ofBucket, Cond.instanceMethod yX9_ofBucket, Cond.selects RX9 yX9_ofBucket yX9_ofBucket, Cond.code yX9_ofBucket cX9_ofBucket 6 (some .int), Cond.methodLink RX9 55 yX9_needArgument, Cond.static yX9_needArgument, Cond.code yX9_needArgument cX9_needArgument 1 none, Cond.classLink RX9 280 "java/lang/IllegalArgumentException", Cond.initialized "java/lang/IllegalArgumentException", Cond.methodLink RX9 183 yX0_number, Cond.instanceMethod yX0_number, Cond.selects RX0 yX0_number yX0_number, Cond.initialized RX0, Cond.code yX0_number cX0_number 4 (some .int), Cond.fieldLink RX0 11 "MeridianSeries$Buckets" "cells" "[I", Cond.methodLink RL 38 yX9_items, Cond.instanceMethod yX9_items, Cond.selects RX9 yX9_items yX9_items, Cond.code yX9_items cX9_items 2 (some .int), Cond.methodLink RX9 184 yX6_itemCount, Cond.instanceMethod yX6_itemCount]
def wsL_isSound_r8 : List Cond := [Cond.selects RX6 yX6_itemCount yX6_itemCount, Cond.code yX6_itemCount cX6_itemCount 1 (some .int), Cond.fieldLink RX6 79 "MeridianSeries$Buckets" "amount" "I", Cond.fieldLink RX6 12 "MeridianSeries$Series" "points" "LMeridianSeries$Points;", Cond.fieldLink RX6 108 "MeridianSeries$Points" "amount" "I"]
def wsL_isSound : List Cond := .code yL_isSound cL_isSound 10 (some .boolean) :: ((wsL_isSound_r1 ++ (wsL_isSound_r2 ++ (wsL_isSound_r3 ++ (wsL_isSound_r4 ++ (wsL_isSound_r5 ++ (wsL_isSound_r6 ++ (wsL_isSound_r7 ++ wsL_isSound_r8))))))) ++ wsX60 ++ wsX90 ++ wsX80 ++ wsJx4a65c0 ++ wsX40 ++ wsX00 ++ wsX30 ++ (vx_atS RX9 291 "java/lang/IndexOutOfBoundsException" ["java/lang/RuntimeException", "java/lang/Exception"]).filter goodWord ++ (vx_atS RX9 284 "java/lang/IllegalArgumentException" ["java/lang/RuntimeException", "java/lang/Exception"]).filter goodWord)
def wsL_law0_r1 : List Cond := [Cond.classLink RL 10 RX9, Cond.instantiable RX9 9, Cond.initialized RX9, Cond.methodLink RL 64 Lib.Math.max.name, Cond.static Lib.Math.max.name, Cond.initialized "java/lang/Math", Cond.code Lib.Math.max.name Lib.Math.max.code 2 (some .int), Cond.methodLink RL 105 Lib.Math.min.name, Cond.static Lib.Math.min.name, Cond.code Lib.Math.min.name Lib.Math.min.code 2 (some .int), Cond.methodLink RL 41 yX9_init, Cond.instanceMethod yX9_init, Cond.code yX9_init cX9_init 1 none, Cond.methodLink RX9 1 objectInit, Cond.instanceMethod objectInit, Cond.code objectInit ⟨#[0xb1]⟩ 1 none, Cond.classLink RX9 7 RX7, Cond.instantiable RX7 5, Cond.initialized RX7, Cond.fieldLink RX9 10 "MeridianSeries" "settings" "LMeridianSeries$Settings;", Cond.classLink RX9 16 RX8, Cond.instantiable RX8 5, Cond.initialized RX8, Cond.fieldLink RX9 21 "MeridianSeries" "store" "LMeridianSeries$Store;"]
def wsL_law0_r2 : List Cond := [Cond.fieldLink RX9 25 "MeridianSeries" "trial" "LMeridianSeries$Store;", Cond.classLink RX9 28 RX3, Cond.instantiable RX3 6, Cond.initialized RX3, Cond.fieldLink RX9 31 "MeridianSeries" "packer" "LMeridianSeries$Packer;", Cond.fieldLink RX9 35 "MeridianSeries" "queryFrom" "I", Cond.fieldLink RX9 39 "MeridianSeries" "queryStep" "I", Cond.fieldLink RX9 42 "MeridianSeries" "queryWhat" "I", Cond.fieldLink RX9 45 "MeridianSeries" "queryFill" "I", Cond.fieldLink RX9 48 "MeridianSeries" "lateCount" "I", Cond.instanceMethod yX7_init, Cond.code yX7_init cX7_init 1 none, Cond.methodLink RX7 1 objectInit, Cond.fieldLink RX7 7 "MeridianSeries$Settings" "span" "I", Cond.fieldLink RX7 13 "MeridianSeries$Settings" "width" "I", Cond.fieldLink RX7 16 "MeridianSeries$Settings" "fold" "I", Cond.fieldLink RX7 19 "MeridianSeries$Settings" "keep" "I", Cond.fieldLink RX7 22 "MeridianSeries$Settings" "longKeep" "I", Cond.methodLink RX9 18 yX8_init, Cond.instanceMethod yX8_init, Cond.code yX8_init cX8_init 2 none, Cond.methodLink RX8 1 objectInit, Cond.classLink RX8 7 RJx4a65c, Cond.instantiable RJx4a65c 3]
def wsL_law0_r3 : List Cond := [Cond.initialized RJx4a65c, Cond.fieldLink RX8 10 "MeridianSeries$Store" "chains" "Ljava/util/ArrayList;", Cond.fieldLink RX8 16 "MeridianSeries$Store" "rules" "Ljava/util/ArrayList;", Cond.classLink RX8 19 RX1, Cond.instantiable RX1 3, Cond.initialized RX1, Cond.fieldLink RX8 22 "MeridianSeries$Store" "log" "LMeridianSeries$EventLog;", Cond.fieldLink RX8 26 "MeridianSeries$Store" "now" "I", Cond.fieldLink RX8 30 "MeridianSeries$Store" "settings" "LMeridianSeries$Settings;", Cond.methodLink RX8 9 yJx4a65c_init_da8c8, Cond.instanceMethod yJx4a65c_init_da8c8, Cond.code yJx4a65c_init_da8c8 cJx4a65c_init_da8c8 1 none, Cond.fieldLink RJx4a65c 39 "java/util/ArrayList" "DEFAULTCAPACITY_EMPTY_ELEMENTDATA" "[Ljava/lang/Object;", Cond.fieldLink RJx4a65c 9 "java/util/ArrayList" "elementData" "[Ljava/lang/Object;", Cond.methodLink RJx4a65c 1 yJxc12de_init_da8c8, Cond.instanceMethod yJxc12de_init_da8c8, Cond.initialized RJxc12de, Cond.code yJxc12de_init_da8c8 cJxc12de_init_da8c8 1 none, Cond.fieldLink RJxc12de 7 "java/util/AbstractList" "modCount" "I", Cond.methodLink RJxc12de 1 yJxa1e45_init_da8c8, Cond.instanceMethod yJxa1e45_init_da8c8, Cond.initialized RJxa1e45, Cond.code yJxa1e45_init_da8c8 cJxa1e45_init_da8c8 1 none, Cond.methodLink RJxa1e45 1 objectInit]
def wsL_law0_r4 : List Cond := [Cond.instanceMethod yX1_init, Cond.code yX1_init cX1_init 1 none, Cond.methodLink RX1 3 objectInit, Cond.arrayClass .int, Cond.fieldLink RX1 9 "MeridianSeries$EventLog" "cells" "[I", Cond.fieldLink RX1 15 "MeridianSeries$EventLog" "total" "I", Cond.fieldLink RX1 19 "MeridianSeries$EventLog" "firings" "I", Cond.instanceMethod yX3_init, Cond.code yX3_init cX3_init 1 none, Cond.methodLink RX3 3 objectInit, Cond.fieldLink RX3 11 "MeridianSeries$Packer" "words" "[I", Cond.fieldLink RX3 15 "MeridianSeries$Packer" "length" "I", Cond.fieldLink RX3 19 "MeridianSeries$Packer" "packed" "I", Cond.fieldLink RX3 22 "MeridianSeries$Packer" "lastTime" "I", Cond.fieldLink RX3 25 "MeridianSeries$Packer" "lastStep" "I", Cond.fieldLink RX3 28 "MeridianSeries$Packer" "lastValue" "I", Cond.methodLink RL 42 yL_cell, Cond.static yL_cell, Cond.initialized RL, Cond.code yL_cell cL_cell 2 (some .int), Cond.constant RL 8 (790386105), Cond.methodLink RL 48 yL_below, Cond.static yL_below, Cond.code yL_below cL_below 2 (some .int)]
def wsL_law0_r5 : List Cond := [Cond.constant RL 7 (2147483647), Cond.methodLink RL 51 yX9_setSpan, Cond.instanceMethod yX9_setSpan, Cond.selects RX9 yX9_setSpan yX9_setSpan, Cond.code yX9_setSpan cX9_setSpan 3 (some .int), Cond.fieldLink RX9 81 "MeridianSeries$Settings" "span" "I", Cond.methodLink RX9 51 yX9_isIn, Cond.static yX9_isIn, Cond.code yX9_isIn cX9_isIn 4 (some .boolean), Cond.methodLink RX9 55 yX9_needArgument, Cond.static yX9_needArgument, Cond.code yX9_needArgument cX9_needArgument 1 none, Cond.classLink RX9 280 "java/lang/IllegalArgumentException", Cond.initialized "java/lang/IllegalArgumentException", Cond.methodLink RL 54 yX9_setWidths, Cond.instanceMethod yX9_setWidths, Cond.selects RX9 yX9_setWidths yX9_setWidths, Cond.code yX9_setWidths cX9_setWidths 4 (some .int), Cond.fieldLink RX9 88 "MeridianSeries$Settings" "width" "I", Cond.fieldLink RX9 91 "MeridianSeries$Settings" "fold" "I", Cond.methodLink RX9 84 yX8_hasBucket, Cond.instanceMethod yX8_hasBucket, Cond.selects RX8 yX8_hasBucket yX8_hasBucket, Cond.code yX8_hasBucket cX8_hasBucket 2 (some .boolean)]
def wsL_law0_r6 : List Cond := [Cond.classLink RX8 42 "MeridianSeries$Series", Cond.fieldLink RX8 44 "MeridianSeries$Series" "fine" "LMeridianSeries$Buckets;", Cond.fieldLink RX8 48 "MeridianSeries$Buckets" "amount" "I", Cond.sameField "MeridianSeries$Buckets" "MeridianSeries$Items" "amount" "I", Cond.fieldLink RX8 53 "MeridianSeries$Series" "coarse" "LMeridianSeries$Buckets;", Cond.methodLink RX8 34 yJx4a65c_size_8abf5, Cond.instanceMethod yJx4a65c_size_8abf5, Cond.selects RJx4a65c yJx4a65c_size_8abf5 yJx4a65c_size_8abf5, Cond.code yJx4a65c_size_8abf5 cJx4a65c_size_8abf5 1 (some .int), Cond.fieldLink RJx4a65c 48 "java/util/ArrayList" "size" "I", Cond.methodLink RX8 38 yJx4a65c_get_915e3, Cond.instanceMethod yJx4a65c_get_915e3, Cond.selects RJx4a65c yJx4a65c_get_915e3 yJx4a65c_get_915e3, Cond.code yJx4a65c_get_915e3 cJx4a65c_get_915e3 2 (some (.object "java/lang/Object")), Cond.methodLink RJx4a65c 118 yJ15_checkIndex_7cf53, Cond.static yJ15_checkIndex_7cf53, Cond.initialized RJ15, Cond.code yJ15_checkIndex_7cf53 cJ15_checkIndex_7cf53 2 (some .int), Cond.methodLink RJ15 105 yJ3_checkIndex_8e157, Cond.static yJ3_checkIndex_8e157, Cond.initialized RJ3, Cond.code yJ3_checkIndex_8e157 cJ3_checkIndex_8e157 3 (some .int), Cond.methodLink RJx4a65c 123 yJx4a65c_elementData_915e3, Cond.instanceMethod yJx4a65c_elementData_915e3]
def wsL_law0_r7 : List Cond := [Cond.selects RJx4a65c yJx4a65c_elementData_915e3 yJx4a65c_elementData_915e3, Cond.code yJx4a65c_elementData_915e3 cJx4a65c_elementData_915e3 2 (some (.object "java/lang/Object")), Cond.methodLink RX9 69 yX9_needState, Cond.static yX9_needState, Cond.code yX9_needState cX9_needState 1 none, Cond.classLink RX9 292 "java/lang/IllegalStateException", Cond.initialized "java/lang/IllegalStateException", Cond.methodLink RL 57 yX9_addSeries, Cond.instanceMethod yX9_addSeries, Cond.selects RX9 yX9_addSeries yX9_addSeries, Cond.code yX9_addSeries cX9_addSeries 4 (some .int), Cond.fieldLink RX9 59 "MeridianSeries$Store" "chains" "Ljava/util/ArrayList;", Cond.classLink RX9 72 RX6, Cond.instantiable RX6 5, Cond.initialized RX6, Cond.methodLink RX9 63 yJx4a65c_size_8abf5, Cond.methodLink RX9 74 yX6_init, Cond.instanceMethod yX6_init, Cond.code yX6_init cX6_init 3 none, Cond.methodLink RX6 3 objectInit, Cond.classLink RX6 9 RX4, Cond.instantiable RX4 7, Cond.initialized RX4, Cond.fieldLink RX6 12 "MeridianSeries$Series" "points" "LMeridianSeries$Points;"]
def wsL_law0_r8 : List Cond := [Cond.classLink RX6 18 RX0, Cond.instantiable RX0 2, Cond.initialized RX0, Cond.fieldLink RX6 21 "MeridianSeries$Series" "fine" "LMeridianSeries$Buckets;", Cond.fieldLink RX6 25 "MeridianSeries$Series" "coarse" "LMeridianSeries$Buckets;", Cond.fieldLink RX6 28 "MeridianSeries$Series" "one" "I", Cond.fieldLink RX6 32 "MeridianSeries$Series" "other" "I", Cond.instanceMethod yX4_init, Cond.code yX4_init cX4_init 1 none, Cond.fieldLink RX4 11 "MeridianSeries$Points" "times" "[I", Cond.fieldLink RX4 15 "MeridianSeries$Points" "values" "[I", Cond.fieldLink RX4 18 "MeridianSeries$Points" "sizes" "[I", Cond.fieldLink RX4 21 "MeridianSeries$Points" "sealedBlocks" "I", Cond.fieldLink RX4 25 "MeridianSeries$Points" "sealedPoints" "I", Cond.fieldLink RX4 28 "MeridianSeries$Points" "greatestSealedTime" "I", Cond.instanceMethod yX2_init, Cond.initialized RX2, Cond.code yX2_init cX2_init 1 none, Cond.methodLink RX2 1 objectInit, Cond.fieldLink RX2 7 "MeridianSeries$Items" "amount" "I", Cond.instanceMethod yX0_init, Cond.code yX0_init cX0_init 1 none, Cond.fieldLink RX0 11 "MeridianSeries$Buckets" "cells" "[I", Cond.methodLink RX9 77 yJx4a65c_add_9ea2d]
def wsL_law0_r9 : List Cond := [Cond.instanceMethod yJx4a65c_add_9ea2d, Cond.selects RJx4a65c yJx4a65c_add_9ea2d yJx4a65c_add_9ea2d, Cond.code yJx4a65c_add_9ea2d cJx4a65c_add_9ea2d 2 (some .boolean), Cond.fieldLink RJx4a65c 63 "java/util/ArrayList" "modCount" "I", Cond.sameField "java/util/ArrayList" "java/util/AbstractList" "modCount" "I", Cond.methodLink RJx4a65c 131 yJx4a65c_add_72be8, Cond.instanceMethod yJx4a65c_add_72be8, Cond.selects RJx4a65c yJx4a65c_add_72be8 yJx4a65c_add_72be8, Cond.code yJx4a65c_add_72be8 cJx4a65c_add_72be8 4 none, Cond.methodLink RJx4a65c 129 yJx4a65c_grow_d5877, Cond.instanceMethod yJx4a65c_grow_d5877, Cond.selects RJx4a65c yJx4a65c_grow_d5877 yJx4a65c_grow_d5877, Cond.code yJx4a65c_grow_d5877 cJx4a65c_grow_d5877 1 (some (.array (.object "java/lang/Object"))), Cond.methodLink RJx4a65c 69 yJx4a65c_grow_92f84, Cond.instanceMethod yJx4a65c_grow_92f84, Cond.selects RJx4a65c yJx4a65c_grow_92f84 yJx4a65c_grow_92f84, Cond.code yJx4a65c_grow_92f84 cJx4a65c_grow_92f84 4 (some (.array (.object "java/lang/Object"))), Cond.methodLink RJx4a65c 79 Lib.Math.max.name, Cond.classLink RJx4a65c 7 "java/lang/Object", Cond.methodLink RJx4a65c 73 yJ8_newLength_cabcc, Cond.static yJ8_newLength_cabcc, Cond.initialized RJ8, Cond.code yJ8_newLength_cabcc cJ8_newLength_cabcc 4 (some .int), Cond.methodLink RJ8 194 Lib.Math.max.name]
def wsL_law0_r10 : List Cond := [Cond.constant RJ8 200 (2147483639), Cond.methodLink RJ8 201 yJ8_hugeLength_7cf53, Cond.static yJ8_hugeLength_7cf53, Cond.code yJ8_hugeLength_7cf53 cJ8_hugeLength_7cf53 3 (some .int), Cond.methodLink RJx4a65c 66 yJ7_copyOf_1904c, Cond.static yJ7_copyOf_1904c, Cond.initialized RJ7, Cond.code yJ7_copyOf_1904c cJ7_copyOf_1904c 2 (some (.array (.object "java/lang/Object"))), Cond.methodLink RJ7 86 ⟨"java/lang/Object", "getClass", "()Ljava/lang/Class;"⟩, Cond.selects "[Ljava/lang/Object;" ⟨"java/lang/Object", "getClass", "()Ljava/lang/Class;"⟩ ⟨"java/lang/Object", "getClass", "()Ljava/lang/Class;"⟩, Cond.instanceMethod ⟨"java/lang/Object", "getClass", "()Ljava/lang/Class;"⟩, Cond.native ⟨"java/lang/Object", "getClass", "()Ljava/lang/Class;"⟩, Cond.methodLink RJ7 300 yJ7_copyOf_6403c, Cond.static yJ7_copyOf_6403c, Cond.code yJ7_copyOf_6403c cJ7_copyOf_6403c 4 (some (.array (.object "java/lang/Object"))), Cond.classLink RJ7 110 "[Ljava/lang/Object;", Cond.classLink RJ7 2 "java/lang/Object", Cond.methodLink RJ7 304 Lib.Math.min.name, Cond.methodLink RJ7 150 arraycopyName, Cond.native arraycopyName, Cond.static arraycopyName, Cond.initialized "java/lang/System", Cond.methodLink RL 60 yX9_addRule, Cond.instanceMethod yX9_addRule]
def wsL_law0_r11 : List Cond := [Cond.selects RX9 yX9_addRule yX9_addRule, Cond.code yX9_addRule cX9_addRule 11 (some .int), Cond.constant RX9 200 (-1000000), Cond.constant RX9 215 (1000000), Cond.fieldLink RX9 216 "MeridianSeries$Store" "rules" "Ljava/util/ArrayList;", Cond.classLink RX9 219 RX5, Cond.instantiable RX5 9, Cond.initialized RX5, Cond.classLink RX9 72 "MeridianSeries$Series", Cond.methodLink RX9 101 yX9_chainAt, Cond.instanceMethod yX9_chainAt, Cond.selects RX9 yX9_chainAt yX9_chainAt, Cond.code yX9_chainAt cX9_chainAt 2 (some (.object "MeridianSeries$Series")), Cond.classLink RX9 287 "java/lang/IndexOutOfBoundsException", Cond.initialized "java/lang/IndexOutOfBoundsException", Cond.methodLink RX9 187 yJx4a65c_get_915e3, Cond.methodLink RX9 221 yX5_init, Cond.instanceMethod yX5_init, Cond.code yX5_init cX5_init 8 none, Cond.methodLink RX5 3 objectInit, Cond.fieldLink RX5 9 "MeridianSeries$Rule" "state" "I", Cond.fieldLink RX5 15 "MeridianSeries$Rule" "timesInRow" "I", Cond.fieldLink RX5 18 "MeridianSeries$Rule" "chain" "LMeridianSeries$Series;", Cond.fieldLink RX5 22 "MeridianSeries$Rule" "what" "I"]
def wsL_law0_r12 : List Cond := [Cond.fieldLink RX5 25 "MeridianSeries$Rule" "length" "I", Cond.fieldLink RX5 28 "MeridianSeries$Rule" "every" "I", Cond.fieldLink RX5 31 "MeridianSeries$Rule" "isAbove" "Z", Cond.fieldLink RX5 35 "MeridianSeries$Rule" "limit" "I", Cond.fieldLink RX5 38 "MeridianSeries$Rule" "times" "I", Cond.methodLink RL 30 yX9_now, Cond.instanceMethod yX9_now, Cond.selects RX9 yX9_now yX9_now, Cond.code yX9_now cX9_now 1 (some .int), Cond.fieldLink RX9 141 "MeridianSeries$Store" "now" "I", Cond.methodLink RL 69 yX9_bitsWith, Cond.instanceMethod yX9_bitsWith, Cond.selects RX9 yX9_bitsWith yX9_bitsWith, Cond.code yX9_bitsWith cX9_bitsWith 5 (some .int), Cond.fieldLink RX9 116 "MeridianSeries$Series" "points" "LMeridianSeries$Points;", Cond.methodLink RX9 105 yX9_isTimeUpToNow, Cond.instanceMethod yX9_isTimeUpToNow, Cond.selects RX9 yX9_isTimeUpToNow yX9_isTimeUpToNow, Cond.code yX9_isTimeUpToNow cX9_isTimeUpToNow 3 (some .boolean), Cond.methodLink RX9 109 yX9_isValue, Cond.static yX9_isValue, Cond.code yX9_isValue cX9_isValue 2 (some .boolean), Cond.constant RX9 278 (-100000), Cond.constant RX9 279 (100000)]
def wsL_law0_r13 : List Cond := [Cond.methodLink RX9 238 yX4_isLate, Cond.instanceMethod yX4_isLate, Cond.selects RX4 yX4_isLate yX4_isLate, Cond.code yX4_isLate cX4_isLate 2 (some .boolean), Cond.methodLink RX9 241 yX3_packOpenWith, Cond.instanceMethod yX3_packOpenWith, Cond.selects RX3 yX3_packOpenWith yX3_packOpenWith, Cond.code yX3_packOpenWith cX3_packOpenWith 7 (some .int), Cond.fieldLink RX3 66 "MeridianSeries$Points" "sealedPoints" "I", Cond.fieldLink RX3 69 "MeridianSeries$Points" "amount" "I", Cond.sameField "MeridianSeries$Points" "MeridianSeries$Items" "amount" "I", Cond.methodLink RX3 55 yX4_placeOf, Cond.instanceMethod yX4_placeOf, Cond.selects RX4 yX4_placeOf yX4_placeOf, Cond.code yX4_placeOf cX4_placeOf 3 (some .int), Cond.fieldLink RX4 31 "MeridianSeries$Points" "amount" "I", Cond.methodLink RX4 42 yX4_number, Cond.instanceMethod yX4_number, Cond.selects RX4 yX4_number yX4_number, Cond.code yX4_number cX4_number 3 (some .int), Cond.methodLink RX3 58 yX4_isTakenAt, Cond.instanceMethod yX4_isTakenAt, Cond.selects RX4 yX4_isTakenAt yX4_isTakenAt, Cond.code yX4_isTakenAt cX4_isTakenAt 3 (some .boolean)]
def wsL_law0_r14 : List Cond := [Cond.methodLink RX3 62 yX4_openSize, Cond.instanceMethod yX4_openSize, Cond.selects RX4 yX4_openSize yX4_openSize, Cond.code yX4_openSize cX4_openSize 1 (some .int), Cond.methodLink RX3 43 yX3_begin, Cond.instanceMethod yX3_begin, Cond.selects RX3 yX3_begin yX3_begin, Cond.code yX3_begin cX3_begin 2 none, Cond.methodLink RX3 72 yJ7_fill_53178, Cond.static yJ7_fill_53178, Cond.code yJ7_fill_53178 cJ7_fill_53178 4 none, Cond.methodLink RX3 78 yX3_write, Cond.instanceMethod yX3_write, Cond.selects RX3 yX3_write yX3_write, Cond.code yX3_write cX3_write 5 none, Cond.methodLink RX3 47 yX4_number, Cond.methodLink RX3 51 yX3_add, Cond.instanceMethod yX3_add, Cond.selects RX3 yX3_add yX3_add, Cond.code yX3_add cX3_add 4 none, Cond.constant RX3 81 (1048576), Cond.methodLink RX3 82 yX3_addTime, Cond.instanceMethod yX3_addTime, Cond.selects RX3 yX3_addTime yX3_addTime]
def wsL_law0_r15 : List Cond := [Cond.code yX3_addTime cX3_addTime 2 none, Cond.methodLink RX3 85 yX3_addValue, Cond.instanceMethod yX3_addValue, Cond.selects RX3 yX3_addValue yX3_addValue, Cond.code yX3_addValue cX3_addValue 2 none, Cond.constant RX3 92 (262144), Cond.methodLink RL 9 yX9_blocks, Cond.instanceMethod yX9_blocks, Cond.selects RX9 yX9_blocks yX9_blocks, Cond.code yX9_blocks cX9_blocks 2 (some .int), Cond.methodLink RX9 144 yX4_blockCount, Cond.instanceMethod yX4_blockCount, Cond.selects RX4 yX4_blockCount yX4_blockCount, Cond.code yX4_blockCount cX4_blockCount 1 (some .int), Cond.methodLink RL 73 yX9_late, Cond.instanceMethod yX9_late, Cond.selects RX9 yX9_late yX9_late, Cond.code yX9_late cX9_late 1 (some .int), Cond.methodLink RL 76 yX9_put, Cond.instanceMethod yX9_put, Cond.selects RX9 yX9_put yX9_put, Cond.code yX9_put cX9_put 5 (some .int), Cond.methodLink RX9 112 yX9_putOrCountLate, Cond.instanceMethod yX9_putOrCountLate]
def wsL_law0_r16 : List Cond := [Cond.selects RX9 yX9_putOrCountLate yX9_putOrCountLate, Cond.code yX9_putOrCountLate cX9_putOrCountLate 4 (some .boolean), Cond.methodLink RX9 301 yX6_take, Cond.instanceMethod yX6_take, Cond.selects RX6 yX6_take yX6_take, Cond.code yX6_take cX6_take 4 none, Cond.fieldLink RX6 43 "MeridianSeries$Settings" "span" "I", Cond.methodLink RX6 35 yX4_add, Cond.instanceMethod yX4_add, Cond.selects RX4 yX4_add yX4_add, Cond.code yX4_add cX4_add 5 none, Cond.methodLink RX4 46 yX4_placeOf, Cond.methodLink RX4 49 yX4_isTakenAt, Cond.methodLink RX4 53 yX4_copyPoint, Cond.instanceMethod yX4_copyPoint, Cond.selects RX4 yX4_copyPoint yX4_copyPoint, Cond.code yX4_copyPoint cX4_copyPoint 3 none, Cond.methodLink RX4 57 yX4_write, Cond.instanceMethod yX4_write, Cond.selects RX4 yX4_write yX4_write, Cond.code yX4_write cX4_write 4 none, Cond.methodLink RX6 39 yX4_openSize, Cond.methodLink RX6 48 yX4_seal, Cond.instanceMethod yX4_seal]
def wsL_law0_r17 : List Cond := [Cond.selects RX4 yX4_seal yX4_seal, Cond.code yX4_seal cX4_seal 1 none, Cond.methodLink RX4 34 yX4_openSize, Cond.methodLink RX6 51 yX4_hasTooManySealed, Cond.instanceMethod yX4_hasTooManySealed, Cond.selects RX4 yX4_hasTooManySealed yX4_hasTooManySealed, Cond.code yX4_hasTooManySealed cX4_hasTooManySealed 1 (some .boolean), Cond.methodLink RX6 55 yX6_rollUpFirstBlock, Cond.instanceMethod yX6_rollUpFirstBlock, Cond.selects RX6 yX6_rollUpFirstBlock yX6_rollUpFirstBlock, Cond.code yX6_rollUpFirstBlock cX6_rollUpFirstBlock 4 none, Cond.fieldLink RX6 69 "MeridianSeries$Settings" "width" "I", Cond.methodLink RX6 85 yX4_sizeOf, Cond.instanceMethod yX4_sizeOf, Cond.selects RX4 yX4_sizeOf yX4_sizeOf, Cond.code yX4_sizeOf cX4_sizeOf 2 (some .int), Cond.methodLink RX6 88 yX4_number, Cond.methodLink RX6 89 yX6_startFor, Cond.static yX6_startFor, Cond.code yX6_startFor cX6_startFor 2 (some .int), Cond.methodLink RX6 92 yX0_take, Cond.instanceMethod yX0_take, Cond.selects RX0 yX0_take yX0_take, Cond.code yX0_take cX0_take 6 none]
def wsL_law0_r18 : List Cond := [Cond.fieldLink RX0 15 "MeridianSeries$Buckets" "amount" "I", Cond.methodLink RX0 28 Lib.Math.min.name, Cond.methodLink RX0 33 Lib.Math.max.name, Cond.methodLink RX0 19 yX0_number, Cond.instanceMethod yX0_number, Cond.selects RX0 yX0_number yX0_number, Cond.code yX0_number cX0_number 4 (some .int), Cond.methodLink RX0 23 ⟨"MeridianSeries$Items", "number", "(II)I"⟩, Cond.sameMethod "MeridianSeries$Items" "MeridianSeries$Items" "number" "(II)I", Cond.selects RX0 ⟨"MeridianSeries$Items", "number", "(II)I"⟩ yX0_number, Cond.selects RX4 ⟨"MeridianSeries$Items", "number", "(II)I"⟩ yX4_number, Cond.methodLink RX0 24 yX0_write, Cond.instanceMethod yX0_write, Cond.selects RX0 yX0_write yX0_write, Cond.code yX0_write cX0_write 5 none, Cond.methodLink RX6 96 yX0_isFull, Cond.instanceMethod yX0_isFull, Cond.selects RX0 yX0_isFull yX0_isFull, Cond.code yX0_isFull cX0_isFull 1 (some .boolean), Cond.methodLink RX6 76 yX6_rollUpFirstFine, Cond.instanceMethod yX6_rollUpFirstFine, Cond.selects RX6 yX6_rollUpFirstFine yX6_rollUpFirstFine, Cond.code yX6_rollUpFirstFine cX6_rollUpFirstFine 3 none, Cond.fieldLink RX6 102 "MeridianSeries$Settings" "fold" "I"]
def wsL_law0_r19 : List Cond := [Cond.methodLink RX6 82 yX0_number, Cond.methodLink RX6 105 yX0_dropFirst, Cond.instanceMethod yX0_dropFirst, Cond.selects RX0 yX0_dropFirst yX0_dropFirst, Cond.code yX0_dropFirst cX0_dropFirst 2 none, Cond.methodLink RX6 99 yX4_dropFirstBlock, Cond.instanceMethod yX4_dropFirstBlock, Cond.selects RX4 yX4_dropFirstBlock yX4_dropFirstBlock, Cond.code yX4_dropFirstBlock cX4_dropFirstBlock 3 none, Cond.methodLink RX4 38 yX4_sizeOf, Cond.methodLink RX9 120 yX4_openSize, Cond.methodLink RL 23 yX9_bits, Cond.instanceMethod yX9_bits, Cond.selects RX9 yX9_bits yX9_bits, Cond.code yX9_bits cX9_bits 4 (some .int), Cond.fieldLink RX9 147 "MeridianSeries$Points" "sealedBlocks" "I", Cond.methodLink RX9 150 yX9_needIndex, Cond.static yX9_needIndex, Cond.code yX9_needIndex cX9_needIndex 1 none, Cond.methodLink RX9 164 yX3_pack, Cond.instanceMethod yX3_pack, Cond.selects RX3 yX3_pack yX3_pack, Cond.code yX3_pack cX3_pack 6 (some .int), Cond.fieldLink RX3 31 "MeridianSeries$Points" "sealedBlocks" "I"]
def wsL_law0_r20 : List Cond := [Cond.methodLink RX3 36 yX4_startOf, Cond.instanceMethod yX4_startOf, Cond.selects RX4 yX4_startOf yX4_startOf, Cond.code yX4_startOf cX4_startOf 4 (some .int), Cond.methodLink RX3 40 yX4_sizeOf, Cond.methodLink RL 79 yX9_setKeep, Cond.instanceMethod yX9_setKeep, Cond.selects RX9 yX9_setKeep yX9_setKeep, Cond.code yX9_setKeep cX9_setKeep 4 (some .int), Cond.fieldLink RX9 94 "MeridianSeries$Settings" "keep" "I", Cond.fieldLink RX9 97 "MeridianSeries$Settings" "longKeep" "I", Cond.methodLink RL 82 yX9_wouldRoll, Cond.instanceMethod yX9_wouldRoll, Cond.selects RX9 yX9_wouldRoll yX9_wouldRoll, Cond.code yX9_wouldRoll cX9_wouldRoll 4 (some .int), Cond.constant RX9 100 (99999), Cond.methodLink RX9 252 yX4_blocksBelow, Cond.instanceMethod yX4_blocksBelow, Cond.selects RX4 yX4_blocksBelow yX4_blocksBelow, Cond.code yX4_blocksBelow cX4_blocksBelow 4 (some .int), Cond.methodLink RL 85 yX9_events, Cond.instanceMethod yX9_events, Cond.selects RX9 yX9_events yX9_events, Cond.code yX9_events cX9_events 1 (some .int)]
def wsL_law0_r21 : List Cond := [Cond.fieldLink RX9 129 "MeridianSeries$Store" "log" "LMeridianSeries$EventLog;", Cond.fieldLink RX9 133 "MeridianSeries$EventLog" "total" "I", Cond.methodLink RL 88 yX9_firesIn, Cond.instanceMethod yX9_firesIn, Cond.selects RX9 yX9_firesIn yX9_firesIn, Cond.code yX9_firesIn cX9_firesIn 4 (some .int), Cond.fieldLink RX9 249 "MeridianSeries$EventLog" "firings" "I", Cond.methodLink RX9 125 yX9_canGoOn, Cond.instanceMethod yX9_canGoOn, Cond.selects RX9 yX9_canGoOn yX9_canGoOn, Cond.code yX9_canGoOn cX9_canGoOn 2 (some .boolean), Cond.methodLink RX9 245 yX8_copyFrom, Cond.instanceMethod yX8_copyFrom, Cond.selects RX8 yX8_copyFrom yX8_copyFrom, Cond.code yX8_copyFrom cX8_copyFrom 3 none, Cond.classLink RX8 60 "MeridianSeries$Rule", Cond.methodLink RX8 80 yX6_copyFrom, Cond.instanceMethod yX6_copyFrom, Cond.selects RX6 yX6_copyFrom yX6_copyFrom, Cond.code yX6_copyFrom cX6_copyFrom 2 none, Cond.methodLink RX6 146 yX4_copyFrom, Cond.instanceMethod yX4_copyFrom, Cond.selects RX4 yX4_copyFrom yX4_copyFrom, Cond.code yX4_copyFrom cX4_copyFrom 3 none]
def wsL_law0_r22 : List Cond := [Cond.methodLink RX6 150 yX0_copyFrom, Cond.instanceMethod yX0_copyFrom, Cond.selects RX0 yX0_copyFrom yX0_copyFrom, Cond.code yX0_copyFrom cX0_copyFrom 4 none, Cond.methodLink RX8 84 yX5_copyFrom, Cond.instanceMethod yX5_copyFrom, Cond.selects RX5 yX5_copyFrom yX5_copyFrom, Cond.code yX5_copyFrom cX5_copyFrom 2 none, Cond.methodLink RX9 138 yX8_goOnByOne, Cond.instanceMethod yX8_goOnByOne, Cond.selects RX8 yX8_goOnByOne yX8_goOnByOne, Cond.code yX8_goOnByOne cX8_goOnByOne 3 none, Cond.fieldLink RX8 73 "MeridianSeries$Rule" "state" "I", Cond.methodLink RX8 56 yX6_rollUpBy, Cond.instanceMethod yX6_rollUpBy, Cond.selects RX6 yX6_rollUpBy yX6_rollUpBy, Cond.code yX6_rollUpBy cX6_rollUpBy 7 none, Cond.fieldLink RX6 59 "MeridianSeries$Settings" "keep" "I", Cond.fieldLink RX6 66 "MeridianSeries$Settings" "longKeep" "I", Cond.methodLink RX6 62 yX4_blocksBelow, Cond.methodLink RX6 72 yX6_fineEndingBy, Cond.instanceMethod yX6_fineEndingBy, Cond.selects RX6 yX6_fineEndingBy yX6_fineEndingBy, Cond.code yX6_fineEndingBy cX6_fineEndingBy 4 (some .int)]
def wsL_law0_r23 : List Cond := [Cond.fieldLink RX6 79 "MeridianSeries$Buckets" "amount" "I", Cond.methodLink RX8 62 yX5_isDueAt, Cond.instanceMethod yX5_isDueAt, Cond.selects RX5 yX5_isDueAt yX5_isDueAt, Cond.code yX5_isDueAt cX5_isDueAt 2 (some .boolean), Cond.methodLink RX8 66 yX5_told, Cond.instanceMethod yX5_told, Cond.selects RX5 yX5_told yX5_told, Cond.code yX5_told cX5_told 2 (some .int), Cond.methodLink RX5 41 yX6_tell, Cond.instanceMethod yX6_tell, Cond.selects RX6 yX6_tell yX6_tell, Cond.code yX6_tell cX6_tell 7 (some .int), Cond.methodLink RX6 115 yX6_firstItemFrom, Cond.instanceMethod yX6_firstItemFrom, Cond.selects RX6 yX6_firstItemFrom yX6_firstItemFrom, Cond.code yX6_firstItemFrom cX6_firstItemFrom 6 (some .int), Cond.methodLink RX6 109 yX6_itemCount, Cond.instanceMethod yX6_itemCount, Cond.selects RX6 yX6_itemCount yX6_itemCount, Cond.code yX6_itemCount cX6_itemCount 1 (some .int), Cond.fieldLink RX6 108 "MeridianSeries$Points" "amount" "I", Cond.methodLink RX6 112 yX6_ofItem, Cond.instanceMethod yX6_ofItem]
def wsL_law0_r24 : List Cond := [Cond.selects RX6 yX6_ofItem yX6_ofItem, Cond.code yX6_ofItem cX6_ofItem 4 (some .int), Cond.methodLink RX6 118 yX6_toldOfGap, Cond.instanceMethod yX6_toldOfGap, Cond.selects RX6 yX6_toldOfGap yX6_toldOfGap, Cond.code yX6_toldOfGap cX6_toldOfGap 5 (some .int), Cond.constant RX6 134 (-1000000), Cond.methodLink RX6 135 yX6_onLine, Cond.instanceMethod yX6_onLine, Cond.selects RX6 yX6_onLine yX6_onLine, Cond.code yX6_onLine cX6_onLine 9 (some .int), Cond.methodLink RX6 122 yX6_total, Cond.instanceMethod yX6_total, Cond.selects RX6 yX6_total yX6_total, Cond.code yX6_total cX6_total 6 (some .int), Cond.methodLink RX6 125 yX6_least, Cond.instanceMethod yX6_least, Cond.selects RX6 yX6_least yX6_least, Cond.code yX6_least cX6_least 5 (some .int), Cond.methodLink RX6 138 Lib.Math.min.name, Cond.methodLink RX6 128 yX6_greatest, Cond.instanceMethod yX6_greatest, Cond.selects RX6 yX6_greatest yX6_greatest, Cond.code yX6_greatest cX6_greatest 5 (some .int)]
def wsL_law0_r25 : List Cond := [Cond.methodLink RX6 143 Lib.Math.max.name, Cond.methodLink RX6 131 yX6_quotient, Cond.static yX6_quotient, Cond.code yX6_quotient cX6_quotient 2 (some .int), Cond.methodLink RX8 70 yX5_changesBy, Cond.instanceMethod yX5_changesBy, Cond.selects RX5 yX5_changesBy yX5_changesBy, Cond.code yX5_changesBy cX5_changesBy 3 (some .boolean), Cond.constant RX5 47 (-1000000), Cond.methodLink RX5 48 yX5_ceases, Cond.instanceMethod yX5_ceases, Cond.selects RX5 yX5_ceases yX5_ceases, Cond.code yX5_ceases cX5_ceases 2 (some .boolean), Cond.methodLink RX5 55 yX5_become, Cond.instanceMethod yX5_become, Cond.selects RX5 yX5_become yX5_become, Cond.code yX5_become cX5_become 2 none, Cond.methodLink RX5 52 yX5_begins, Cond.instanceMethod yX5_begins, Cond.selects RX5 yX5_begins yX5_begins, Cond.code yX5_begins cX5_begins 2 (some .boolean), Cond.methodLink RX8 76 yX1_add, Cond.instanceMethod yX1_add, Cond.selects RX1 yX1_add yX1_add]
def wsL_law0_r26 : List Cond := [Cond.code yX1_add cX1_add 5 none, Cond.methodLink RL 91 yX9_goOn, Cond.instanceMethod yX9_goOn, Cond.selects RX9 yX9_goOn yX9_goOn, Cond.code yX9_goOn cX9_goOn 4 (some .int), Cond.methodLink RL 94 yX9_event, Cond.instanceMethod yX9_event, Cond.selects RX9 yX9_event yX9_event, Cond.code yX9_event cX9_event 3 (some .int), Cond.methodLink RX9 237 yX1_number, Cond.instanceMethod yX1_number, Cond.selects RX1 yX1_number yX1_number, Cond.code yX1_number cX1_number 4 (some .int), Cond.methodLink RL 97 yX9_digest, Cond.instanceMethod yX9_digest, Cond.selects RX9 yX9_digest yX9_digest, Cond.code yX9_digest cX9_digest 5 (some .long), Cond.constantLong RX9 255 (58058), Cond.constantLong RX9 257 (31), Cond.fieldLink RX9 263 "MeridianSeries$Series" "fine" "LMeridianSeries$Buckets;", Cond.fieldLink RX9 271 "MeridianSeries$Series" "coarse" "LMeridianSeries$Buckets;", Cond.classLink RX9 219 "MeridianSeries$Rule", Cond.fieldLink RX9 228 "MeridianSeries$Rule" "state" "I", Cond.fieldLink RX9 231 "MeridianSeries$Rule" "timesInRow" "I"]
def wsL_law0_r27 : List Cond := [Cond.methodLink RX9 259 yX9_withBlocks, Cond.instanceMethod yX9_withBlocks, Cond.selects RX9 yX9_withBlocks yX9_withBlocks, Cond.code yX9_withBlocks cX9_withBlocks 10 (some .long), Cond.methodLink RX9 153 yX4_sizeOf, Cond.methodLink RX9 160 yX4_number, Cond.methodLink RX9 267 yX9_withBuckets, Cond.static yX9_withBuckets, Cond.code yX9_withBuckets cX9_withBuckets 7 (some .long), Cond.fieldLink RX9 178 "MeridianSeries$Buckets" "amount" "I", Cond.methodLink RX9 183 yX0_number, Cond.methodLink RX9 274 yX9_withWindows, Cond.instanceMethod yX9_withWindows, Cond.selects RX9 yX9_withWindows yX9_withWindows, Cond.code yX9_withWindows cX9_withWindows 7 (some .long), Cond.methodLink RX9 196 yX9_toldByQuery, Cond.instanceMethod yX9_toldByQuery, Cond.selects RX9 yX9_toldByQuery yX9_toldByQuery, Cond.code yX9_toldByQuery cX9_toldByQuery 4 (some .int), Cond.methodLink RX9 305 yX6_tell, Cond.methodLink RX9 234 yX5_told, Cond.methodLink RL 101 yX9_setQuery, Cond.instanceMethod yX9_setQuery, Cond.selects RX9 yX9_setQuery yX9_setQuery]
def wsL_law0_r28 : List Cond := [Cond.code yX9_setQuery cX9_setQuery 6 (some .int), Cond.methodLink RL 108 yX9_ask, Cond.instanceMethod yX9_ask, Cond.selects RX9 yX9_ask yX9_ask, Cond.code yX9_ask cX9_ask 4 (some .int), Cond.methodLink RL 15 yX9_buckets, Cond.instanceMethod yX9_buckets, Cond.selects RX9 yX9_buckets yX9_buckets, Cond.code yX9_buckets cX9_buckets 3 (some .int), Cond.methodLink RX9 174 yX6_bucketsOf, Cond.instanceMethod yX6_bucketsOf, Cond.selects RX6 yX6_bucketsOf yX6_bucketsOf, Cond.code yX6_bucketsOf cX6_bucketsOf 2 (some (.object "MeridianSeries$Buckets")), Cond.methodLink RL 34 yX9_ofBucket, Cond.instanceMethod yX9_ofBucket, Cond.selects RX9 yX9_ofBucket yX9_ofBucket, Cond.code yX9_ofBucket cX9_ofBucket 6 (some .int), Cond.methodLink RL 19 yX9_size, Cond.instanceMethod yX9_size, Cond.selects RX9 yX9_size yX9_size, Cond.code yX9_size cX9_size 4 (some .int), Cond.methodLink RL 26 yX9_point, Cond.instanceMethod yX9_point, Cond.selects RX9 yX9_point yX9_point]
def wsL_law0_r29 : List Cond := [Cond.code yX9_point cX9_point 6 (some .int), Cond.methodLink RX9 157 yX4_startOf, Cond.methodLink RL 111 yX9_lastAt, Cond.instanceMethod yX9_lastAt, Cond.selects RX9 yX9_lastAt yX9_lastAt, Cond.code yX9_lastAt cX9_lastAt 5 (some .int), Cond.methodLink RX9 209 yX6_firstItemFrom, Cond.methodLink RX9 212 yX6_ofItem, Cond.methodLink RL 114 yL_isSound, Cond.static yL_isSound, Cond.code yL_isSound cL_isSound 10 (some .boolean), Cond.methodLink RL 38 yX9_items, Cond.instanceMethod yX9_items, Cond.selects RX9 yX9_items yX9_items, Cond.code yX9_items cX9_items 2 (some .int), Cond.methodLink RX9 184 yX6_itemCount]
def wsL_law0 : List Cond := (wsL_law0_r1 ++ (wsL_law0_r2 ++ (wsL_law0_r3 ++ (wsL_law0_r4 ++ (wsL_law0_r5 ++ (wsL_law0_r6 ++ (wsL_law0_r7 ++ (wsL_law0_r8 ++ (wsL_law0_r9 ++ (wsL_law0_r10 ++ (wsL_law0_r11 ++ (wsL_law0_r12 ++ (wsL_law0_r13 ++ (wsL_law0_r14 ++ (wsL_law0_r15 ++ (wsL_law0_r16 ++ (wsL_law0_r17 ++ (wsL_law0_r18 ++ (wsL_law0_r19 ++ (wsL_law0_r20 ++ (wsL_law0_r21 ++ (wsL_law0_r22 ++ (wsL_law0_r23 ++ (wsL_law0_r24 ++ (wsL_law0_r25 ++ (wsL_law0_r26 ++ (wsL_law0_r27 ++ (wsL_law0_r28 ++ wsL_law0_r29)))))))))))))))))))))))))))) ++ wsX90 ++ wsX70 ++ wsX80 ++ wsX30 ++ wsJx4a65c0 ++ wsX10 ++ wsX60 ++ wsX00 ++ wsX40 ++ wsX50 ++ ([] : List Cond)
def wsL_law : List Cond := wsL_law0 ++ (vx_atS RX9 284 "java/lang/IllegalArgumentException" ["java/lang/RuntimeException", "java/lang/Exception"]).filter goodWord ++ (vx_atS RX9 296 "java/lang/IllegalStateException" ["java/lang/RuntimeException", "java/lang/Exception"]).filter goodWord ++ (vx_atS RX9 291 "java/lang/IndexOutOfBoundsException" ["java/lang/RuntimeException", "java/lang/Exception"]).filter goodWord
theorem wsL_law_x0 : ∀ w ∈ (vx_atS RX9 284 "java/lang/IllegalArgumentException" ["java/lang/RuntimeException", "java/lang/Exception"]).filter goodWord, w ∈ lw_tbl := by decide +kernel
theorem wsL_law_x1 : ∀ w ∈ (vx_atS RX9 296 "java/lang/IllegalStateException" ["java/lang/RuntimeException", "java/lang/Exception"]).filter goodWord, w ∈ lw_tbl := by decide +kernel
theorem wsL_law_x2 : ∀ w ∈ (vx_atS RX9 291 "java/lang/IndexOutOfBoundsException" ["java/lang/RuntimeException", "java/lang/Exception"]).filter goodWord, w ∈ lw_tbl := by decide +kernel
theorem inlX0 : ∀ w ∈ wsX00, w ∈ wsL_law := fun _ h => List.mem_append_left _ (List.mem_append_left _ (List.mem_append_left _ (List.mem_append_left _ (List.mem_append_left _ (List.mem_append_left _ (List.mem_append_right _ h))))))
theorem inlX1 : ∀ w ∈ wsX10, w ∈ wsL_law := fun _ h => List.mem_append_left _ (List.mem_append_left _ (List.mem_append_left _ (List.mem_append_left _ (List.mem_append_left _ (List.mem_append_left _ (List.mem_append_left _ (List.mem_append_left _ (List.mem_append_right _ h))))))))
theorem inlX3 : ∀ w ∈ wsX30, w ∈ wsL_law := fun _ h => List.mem_append_left _ (List.mem_append_left _ (List.mem_append_left _ (List.mem_append_left _ (List.mem_append_left _ (List.mem_append_left _ (List.mem_append_left _ (List.mem_append_left _ (List.mem_append_left _ (List.mem_append_left _ (List.mem_append_right _ h))))))))))
theorem inlX4 : ∀ w ∈ wsX40, w ∈ wsL_law := fun _ h => List.mem_append_left _ (List.mem_append_left _ (List.mem_append_left _ (List.mem_append_left _ (List.mem_append_left _ (List.mem_append_right _ h)))))
theorem inlX5 : ∀ w ∈ wsX50, w ∈ wsL_law := fun _ h => List.mem_append_left _ (List.mem_append_left _ (List.mem_append_left _ (List.mem_append_left _ (List.mem_append_right _ h))))
theorem inlX6 : ∀ w ∈ wsX60, w ∈ wsL_law := fun _ h => List.mem_append_left _ (List.mem_append_left _ (List.mem_append_left _ (List.mem_append_left _ (List.mem_append_left _ (List.mem_append_left _ (List.mem_append_left _ (List.mem_append_right _ h)))))))
theorem inlX7 : ∀ w ∈ wsX70, w ∈ wsL_law := fun _ h => List.mem_append_left _ (List.mem_append_left _ (List.mem_append_left _ (List.mem_append_left _ (List.mem_append_left _ (List.mem_append_left _ (List.mem_append_left _ (List.mem_append_left _ (List.mem_append_left _ (List.mem_append_left _ (List.mem_append_left _ (List.mem_append_left _ (List.mem_append_right _ h))))))))))))
theorem inlX8 : ∀ w ∈ wsX80, w ∈ wsL_law := fun _ h => List.mem_append_left _ (List.mem_append_left _ (List.mem_append_left _ (List.mem_append_left _ (List.mem_append_left _ (List.mem_append_left _ (List.mem_append_left _ (List.mem_append_left _ (List.mem_append_left _ (List.mem_append_left _ (List.mem_append_left _ (List.mem_append_right _ h)))))))))))
theorem inlX9 : ∀ w ∈ wsX90, w ∈ wsL_law := fun _ h => List.mem_append_left _ (List.mem_append_left _ (List.mem_append_left _ (List.mem_append_left _ (List.mem_append_left _ (List.mem_append_left _ (List.mem_append_left _ (List.mem_append_left _ (List.mem_append_left _ (List.mem_append_left _ (List.mem_append_left _ (List.mem_append_left _ (List.mem_append_left _ (List.mem_append_right _ h)))))))))))))
theorem inlJx4a65c : ∀ w ∈ wsJx4a65c0, w ∈ wsL_law := fun _ h => List.mem_append_left _ (List.mem_append_left _ (List.mem_append_left _ (List.mem_append_left _ (List.mem_append_left _ (List.mem_append_left _ (List.mem_append_left _ (List.mem_append_left _ (List.mem_append_left _ (List.mem_append_right _ h)))))))))
theorem dL_below_0 : decode cL_below 0 = .ok (.iload_n 0, 1) := by decide +kernel
theorem dL_below_1 : decode cL_below 1 = .ok (.ldc 7, 2) := by decide +kernel
theorem dL_below_3 : decode cL_below 3 = .ok (.iand, 1) := by decide +kernel
theorem dL_below_4 : decode cL_below 4 = .ok (.iload_n 1, 1) := by decide +kernel
theorem dL_below_5 : decode cL_below 5 = .ok (.irem, 1) := by decide +kernel
theorem dL_below_6 : decode cL_below 6 = .ok (.ireturn, 1) := by decide +kernel
theorem dL_cell_0 : decode cL_cell 0 = .ok (.iload_n 1, 1) := by decide +kernel
theorem dL_cell_1 : decode cL_cell 1 = .ok (.aload_n 0, 1) := by decide +kernel
theorem dL_cell_2 : decode cL_cell 2 = .ok (.arraylength, 1) := by decide +kernel
theorem dL_cell_3 : decode cL_cell 3 = .ok (.if_icmp .ge 9, 3) := by decide +kernel
theorem dL_cell_6 : decode cL_cell 6 = .ok (.aload_n 0, 1) := by decide +kernel
theorem dL_cell_7 : decode cL_cell 7 = .ok (.iload_n 1, 1) := by decide +kernel
theorem dL_cell_8 : decode cL_cell 8 = .ok (.iaload, 1) := by decide +kernel
theorem dL_cell_9 : decode cL_cell 9 = .ok (.goto 9, 3) := by decide +kernel
theorem dL_cell_12 : decode cL_cell 12 = .ok (.ldc 8, 2) := by decide +kernel
theorem dL_cell_14 : decode cL_cell 14 = .ok (.iload_n 1, 1) := by decide +kernel
theorem dL_cell_15 : decode cL_cell 15 = .ok (.iconst 3, 1) := by decide +kernel
theorem dL_cell_16 : decode cL_cell 16 = .ok (.iadd, 1) := by decide +kernel
theorem dL_cell_17 : decode cL_cell 17 = .ok (.imul, 1) := by decide +kernel
theorem dL_cell_18 : decode cL_cell 18 = .ok (.ireturn, 1) := by decide +kernel
theorem ggL_isSound_X9_blocks : GoodIn wsL_isSound wsX9_blocks := goodIn_ca (goodIn_r _ [6, 7, 8, 9, 10, 5, 11, 12, 13, 14, 15, 16, 17, 18, 19, 20, 21, 22, 23, 24, 25, 26, 27, 28, 29, 30, 31, 32, 33, 34, 35, 36, 37, 38, 39, 40, 41, 42, 43, 44, 45, 174, 175, 176, 177, 178, 179, 180, 181, 182, 183, 184, 185, 186, 187, 188, 189, 190, 191, 192, 193, 194, 195, 196, 197, 198, 199, 200, 201, 202] (by decide +kernel) (by decide +kernel)) (goodIn_sub (fun _ h => List.mem_cons_of_mem _ (List.mem_append_left _ (List.mem_append_right _ h))) (by decide +kernel))
theorem gL_isSound_X9_blocks : GoodIn wsL_isSound (wsV RL 9 RX9 yX9_blocks wsX9_blocks) := goodIn_app (goodIn_of _ (by decide +kernel)) ggL_isSound_X9_blocks
theorem ggL_isSound_X9_buckets : GoodIn wsL_isSound wsX9_buckets := goodIn_ca (goodIn_r _ [49, 50, 51, 8, 9, 10, 5, 11, 12, 13, 14, 15, 16, 17, 18, 19, 20, 21, 22, 23, 24, 25, 26, 27, 28, 29, 30, 31, 32, 33, 34, 35, 36, 37, 38, 39, 52, 53, 54, 55, 56, 57, 58, 203, 204, 196, 197, 198, 199, 200, 201, 202, 179, 180, 181, 182, 183, 184, 185, 186, 187, 188, 189, 190, 191, 192, 193, 194, 195, 174, 175, 176, 177, 178] (by decide +kernel) (by decide +kernel)) (goodIn_sub (fun _ h => List.mem_cons_of_mem _ (List.mem_append_left _ (List.mem_append_right _ h))) (by decide +kernel))
theorem gL_isSound_X9_buckets : GoodIn wsL_isSound (wsV RL 15 RX9 yX9_buckets wsX9_buckets) := goodIn_app (goodIn_of _ (by decide +kernel)) ggL_isSound_X9_buckets
theorem ggL_isSound_X9_size : GoodIn wsL_isSound wsX9_size := goodIn_ca (goodIn_r _ [62, 7, 63, 8, 9, 10, 5, 11, 12, 13, 14, 15, 16, 17, 18, 19, 20, 21, 22, 23, 24, 25, 26, 27, 28, 29, 30, 31, 32, 33, 34, 35, 36, 37, 38, 39, 64, 65, 66, 67, 68, 69, 70, 71, 72, 43, 73, 45, 74, 75, 76, 77, 78, 79, 80, 81, 174, 175, 176, 177, 178, 196, 197, 198, 199, 200, 201, 202, 179, 180, 181, 182, 183, 184, 185, 186, 187, 188, 189, 190, 191, 192, 193, 194, 195, 203, 204] (by decide +kernel) (by decide +kernel)) (goodIn_sub (fun _ h => List.mem_cons_of_mem _ (List.mem_append_left _ (List.mem_append_right _ h))) (by decide +kernel))
theorem gL_isSound_X9_size : GoodIn wsL_isSound (wsV RL 19 RX9 yX9_size wsX9_size) := goodIn_app (goodIn_of _ (by decide +kernel)) ggL_isSound_X9_size
theorem ggL_isSound_X9_bits : GoodIn wsL_isSound wsX9_bits := goodIn_ca (goodIn_r _ [85, 7, 63, 86, 8, 9, 10, 5, 11, 12, 13, 14, 15, 16, 17, 18, 19, 20, 21, 22, 23, 24, 25, 26, 27, 28, 29, 30, 31, 32, 33, 34, 35, 36, 37, 38, 39, 64, 65, 66, 67, 68, 69, 87, 88, 89, 90, 91, 92, 93, 94, 95, 96, 43, 97, 45, 98, 71, 72, 73, 74, 75, 76, 77, 78, 79, 80, 81, 99, 100, 101, 102, 103, 104, 105, 106, 107, 108, 109, 110, 111, 112, 113, 114, 115, 116, 117, 118, 119, 120, 121, 122, 123, 124, 125, 126, 127, 128, 129, 130, 131, 132, 133, 134, 135, 136, 174, 175, 176, 177, 178, 196, 197, 198, 199, 200, 201, 202, 179, 180, 181, 182, 183, 184, 185, 186, 187, 188, 189, 190, 191, 192, 193, 194, 195, 205, 206, 207, 208, 209, 210, 203, 204] (by decide +kernel) (by decide +kernel)) (goodIn_sub (fun _ h => List.mem_cons_of_mem _ (List.mem_append_left _ (List.mem_append_right _ h))) (by decide +kernel))
theorem gL_isSound_X9_bits : GoodIn wsL_isSound (wsV RL 23 RX9 yX9_bits wsX9_bits) := goodIn_app (goodIn_of _ (by decide +kernel)) ggL_isSound_X9_bits
theorem ggL_isSound_X9_point : GoodIn wsL_isSound wsX9_point := goodIn_ca (goodIn_r _ [140, 7, 63, 8, 9, 10, 5, 11, 12, 13, 14, 15, 16, 17, 18, 19, 20, 21, 22, 23, 24, 25, 26, 27, 28, 29, 30, 31, 32, 33, 34, 35, 36, 37, 38, 39, 64, 65, 66, 67, 68, 69, 70, 71, 72, 43, 73, 45, 74, 75, 76, 77, 78, 79, 80, 81, 141, 95, 96, 97, 98, 142, 115, 116, 117, 118, 119, 174, 175, 176, 177, 178, 196, 197, 198, 199, 200, 201, 202, 179, 180, 181, 182, 183, 184, 185, 186, 187, 188, 189, 190, 191, 192, 193, 194, 195, 203, 204] (by decide +kernel) (by decide +kernel)) (goodIn_sub (fun _ h => List.mem_cons_of_mem _ (List.mem_append_left _ (List.mem_append_right _ h))) (by decide +kernel))
theorem gL_isSound_X9_point : GoodIn wsL_isSound (wsV RL 26 RX9 yX9_point wsX9_point) := goodIn_app (goodIn_of _ (by decide +kernel)) ggL_isSound_X9_point
theorem ggL_isSound_X9_now : GoodIn wsL_isSound wsX9_now := goodIn_r _ [146, 14, 147, 179, 180, 181, 182, 183, 184, 185, 186, 187, 188, 189, 190, 191, 192] (by decide +kernel) (by decide +kernel)
theorem gL_isSound_X9_now : GoodIn wsL_isSound (wsV RL 30 RX9 yX9_now wsX9_now) := goodIn_app (goodIn_of _ (by decide +kernel)) ggL_isSound_X9_now
theorem ggL_isSound_X9_ofBucket : GoodIn wsL_isSound wsX9_ofBucket := goodIn_ca (goodIn_ca (goodIn_r _ [151, 50, 51, 8, 9, 10, 5, 11, 12, 13, 14, 15, 16, 17, 18, 19, 20, 21, 22, 23, 24, 25, 26, 27, 28, 29, 30, 31, 32, 33, 34, 35, 36, 37, 38, 39, 52, 53, 54, 55, 56, 57, 58, 64, 65, 66, 67, 68, 69, 152, 153, 154, 155, 156, 157, 158, 159, 160, 161, 162, 203, 204, 196, 197, 198, 199, 200, 201, 202, 179, 180, 181, 182, 183, 184, 185, 186, 187, 188, 189, 190, 191, 192, 193, 194, 195, 174, 175, 176, 177, 178] (by decide +kernel) (by decide +kernel)) (goodIn_sub (fun _ h => List.mem_cons_of_mem _ (List.mem_append_left _ (List.mem_append_right _ h))) (by decide +kernel))) (goodIn_sub (fun _ h => List.mem_cons_of_mem _ (List.mem_append_right _ h)) (by decide +kernel))
theorem gL_isSound_X9_ofBucket : GoodIn wsL_isSound (wsV RL 34 RX9 yX9_ofBucket wsX9_ofBucket) := goodIn_app (goodIn_of _ (by decide +kernel)) ggL_isSound_X9_ofBucket
theorem ggL_isSound_X9_items : GoodIn wsL_isSound wsX9_items := goodIn_ca (goodIn_r _ [166, 8, 9, 10, 5, 11, 12, 13, 14, 15, 16, 17, 18, 19, 20, 21, 22, 23, 24, 25, 26, 27, 28, 29, 30, 31, 32, 33, 34, 35, 36, 37, 38, 39, 167, 168, 169, 55, 170, 57, 171, 51, 58, 172, 173, 80, 179, 180, 181, 182, 183, 184, 185, 186, 187, 188, 189, 190, 191, 192, 193, 194, 195, 174, 175, 176, 177, 178, 203, 204, 196, 197, 198, 199, 200, 201, 202] (by decide +kernel) (by decide +kernel)) (goodIn_sub (fun _ h => List.mem_cons_of_mem _ (List.mem_append_left _ (List.mem_append_right _ h))) (by decide +kernel))
theorem gL_isSound_X9_items : GoodIn wsL_isSound (wsV RL 38 RX9 yX9_items wsX9_items) := goodIn_app (goodIn_of _ (by decide +kernel)) ggL_isSound_X9_items
theorem dL_isSound_0 : decode cL_isSound 0 = .ok (.aload_n 0, 1) := by decide +kernel
theorem dL_isSound_1 : decode cL_isSound 1 = .ok (.iload_n 1, 1) := by decide +kernel
theorem dL_isSound_2 : decode cL_isSound 2 = .ok (.invokevirtual 9, 3) := by decide +kernel
theorem dL_isSound_5 : decode cL_isSound 5 = .ok (.istore_n 2, 1) := by decide +kernel
theorem dL_isSound_6 : decode cL_isSound 6 = .ok (.aload_n 0, 1) := by decide +kernel
theorem dL_isSound_7 : decode cL_isSound 7 = .ok (.iload_n 1, 1) := by decide +kernel
theorem dL_isSound_8 : decode cL_isSound 8 = .ok (.iconst 0, 1) := by decide +kernel
theorem dL_isSound_9 : decode cL_isSound 9 = .ok (.invokevirtual 15, 3) := by decide +kernel
theorem dL_isSound_12 : decode cL_isSound 12 = .ok (.aload_n 0, 1) := by decide +kernel
theorem dL_isSound_13 : decode cL_isSound 13 = .ok (.iload_n 1, 1) := by decide +kernel
theorem dL_isSound_14 : decode cL_isSound 14 = .ok (.iconst 1, 1) := by decide +kernel
theorem dL_isSound_15 : decode cL_isSound 15 = .ok (.invokevirtual 15, 3) := by decide +kernel
theorem dL_isSound_18 : decode cL_isSound 18 = .ok (.iadd, 1) := by decide +kernel
theorem dL_isSound_19 : decode cL_isSound 19 = .ok (.istore_n 3, 1) := by decide +kernel
theorem dL_isSound_20 : decode cL_isSound 20 = .ok (.iconst (-1), 1) := by decide +kernel
theorem dL_isSound_21 : decode cL_isSound 21 = .ok (.istore 4, 2) := by decide +kernel
theorem dL_isSound_23 : decode cL_isSound 23 = .ok (.iload_n 2, 1) := by decide +kernel
theorem dL_isSound_24 : decode cL_isSound 24 = .ok (.iconst 1, 1) := by decide +kernel
theorem dL_isSound_25 : decode cL_isSound 25 = .ok (.if_icmp .lt 31, 3) := by decide +kernel
theorem dL_isSound_28 : decode cL_isSound 28 = .ok (.iload_n 2, 1) := by decide +kernel
theorem dL_isSound_29 : decode cL_isSound 29 = .ok (.bipush 9, 2) := by decide +kernel
theorem dL_isSound_31 : decode cL_isSound 31 = .ok (.if_icmp .gt 25, 3) := by decide +kernel
theorem dL_isSound_34 : decode cL_isSound 34 = .ok (.aload_n 0, 1) := by decide +kernel
theorem dL_isSound_35 : decode cL_isSound 35 = .ok (.iload_n 1, 1) := by decide +kernel
theorem dL_isSound_36 : decode cL_isSound 36 = .ok (.iconst 0, 1) := by decide +kernel
theorem dL_isSound_37 : decode cL_isSound 37 = .ok (.invokevirtual 15, 3) := by decide +kernel
theorem dL_isSound_40 : decode cL_isSound 40 = .ok (.bipush 24, 2) := by decide +kernel
theorem dL_isSound_42 : decode cL_isSound 42 = .ok (.if_icmp .gt 14, 3) := by decide +kernel
theorem dL_isSound_45 : decode cL_isSound 45 = .ok (.aload_n 0, 1) := by decide +kernel
theorem dL_isSound_46 : decode cL_isSound 46 = .ok (.iload_n 1, 1) := by decide +kernel
theorem dL_isSound_47 : decode cL_isSound 47 = .ok (.iconst 1, 1) := by decide +kernel
theorem dL_isSound_48 : decode cL_isSound 48 = .ok (.invokevirtual 15, 3) := by decide +kernel
theorem dL_isSound_51 : decode cL_isSound 51 = .ok (.bipush 24, 2) := by decide +kernel
theorem dL_isSound_53 : decode cL_isSound 53 = .ok (.if_icmp .le 5, 3) := by decide +kernel
theorem dL_isSound_56 : decode cL_isSound 56 = .ok (.iconst 0, 1) := by decide +kernel
theorem dL_isSound_57 : decode cL_isSound 57 = .ok (.ireturn, 1) := by decide +kernel
theorem dL_isSound_58 : decode cL_isSound 58 = .ok (.iconst 0, 1) := by decide +kernel
theorem dL_isSound_59 : decode cL_isSound 59 = .ok (.istore 5, 2) := by decide +kernel
theorem dL_isSound_61 : decode cL_isSound 61 = .ok (.iload 5, 2) := by decide +kernel
theorem dL_isSound_63 : decode cL_isSound 63 = .ok (.iload_n 2, 1) := by decide +kernel
theorem dL_isSound_64 : decode cL_isSound 64 = .ok (.if_icmp .ge 120, 3) := by decide +kernel
theorem dL_isSound_67 : decode cL_isSound 67 = .ok (.aload_n 0, 1) := by decide +kernel
theorem dL_isSound_68 : decode cL_isSound 68 = .ok (.iload_n 1, 1) := by decide +kernel
theorem dL_isSound_69 : decode cL_isSound 69 = .ok (.iload 5, 2) := by decide +kernel
theorem dL_isSound_71 : decode cL_isSound 71 = .ok (.invokevirtual 19, 3) := by decide +kernel
theorem dL_isSound_74 : decode cL_isSound 74 = .ok (.istore 6, 2) := by decide +kernel
theorem dL_isSound_76 : decode cL_isSound 76 = .ok (.iload_n 3, 1) := by decide +kernel
theorem dL_isSound_77 : decode cL_isSound 77 = .ok (.iload 6, 2) := by decide +kernel
theorem dL_isSound_79 : decode cL_isSound 79 = .ok (.iadd, 1) := by decide +kernel
theorem dL_isSound_80 : decode cL_isSound 80 = .ok (.istore_n 3, 1) := by decide +kernel
theorem dL_isSound_81 : decode cL_isSound 81 = .ok (.aload_n 0, 1) := by decide +kernel
theorem dL_isSound_82 : decode cL_isSound 82 = .ok (.iload_n 1, 1) := by decide +kernel
theorem dL_isSound_83 : decode cL_isSound 83 = .ok (.iload 5, 2) := by decide +kernel
theorem dL_isSound_85 : decode cL_isSound 85 = .ok (.invokevirtual 23, 3) := by decide +kernel
theorem dL_isSound_88 : decode cL_isSound 88 = .ok (.ifCond .le 7, 3) := by decide +kernel
theorem dL_isSound_91 : decode cL_isSound 91 = .ok (.iconst 1, 1) := by decide +kernel
theorem dL_isSound_92 : decode cL_isSound 92 = .ok (.goto 4, 3) := by decide +kernel
theorem dL_isSound_95 : decode cL_isSound 95 = .ok (.iconst 0, 1) := by decide +kernel
theorem dL_isSound_96 : decode cL_isSound 96 = .ok (.iload 5, 2) := by decide +kernel
theorem dL_isSound_98 : decode cL_isSound 98 = .ok (.iload_n 2, 1) := by decide +kernel
theorem dL_isSound_99 : decode cL_isSound 99 = .ok (.iconst 1, 1) := by decide +kernel
theorem dL_isSound_100 : decode cL_isSound 100 = .ok (.isub, 1) := by decide +kernel
theorem dL_isSound_101 : decode cL_isSound 101 = .ok (.if_icmp .ge 7, 3) := by decide +kernel
theorem dL_isSound_104 : decode cL_isSound 104 = .ok (.iconst 1, 1) := by decide +kernel
theorem dL_isSound_105 : decode cL_isSound 105 = .ok (.goto 4, 3) := by decide +kernel
theorem dL_isSound_108 : decode cL_isSound 108 = .ok (.iconst 0, 1) := by decide +kernel
theorem dL_isSound_109 : decode cL_isSound 109 = .ok (.if_icmp .ne 17, 3) := by decide +kernel
theorem dL_isSound_112 : decode cL_isSound 112 = .ok (.iload 5, 2) := by decide +kernel
theorem dL_isSound_114 : decode cL_isSound 114 = .ok (.iload_n 2, 1) := by decide +kernel
theorem dL_isSound_115 : decode cL_isSound 115 = .ok (.iconst 1, 1) := by decide +kernel
theorem dL_isSound_116 : decode cL_isSound 116 = .ok (.isub, 1) := by decide +kernel
theorem dL_isSound_117 : decode cL_isSound 117 = .ok (.if_icmp .ge 11, 3) := by decide +kernel
theorem dL_isSound_120 : decode cL_isSound 120 = .ok (.iload 6, 2) := by decide +kernel
theorem dL_isSound_122 : decode cL_isSound 122 = .ok (.iconst 2, 1) := by decide +kernel
theorem dL_isSound_123 : decode cL_isSound 123 = .ok (.if_icmp .ge 5, 3) := by decide +kernel
theorem dL_isSound_126 : decode cL_isSound 126 = .ok (.iconst 0, 1) := by decide +kernel
theorem dL_isSound_127 : decode cL_isSound 127 = .ok (.ireturn, 1) := by decide +kernel
theorem dL_isSound_128 : decode cL_isSound 128 = .ok (.iconst 0, 1) := by decide +kernel
theorem dL_isSound_129 : decode cL_isSound 129 = .ok (.istore 7, 2) := by decide +kernel
theorem dL_isSound_131 : decode cL_isSound 131 = .ok (.iload 7, 2) := by decide +kernel
theorem dL_isSound_133 : decode cL_isSound 133 = .ok (.iload 6, 2) := by decide +kernel
theorem dL_isSound_135 : decode cL_isSound 135 = .ok (.if_icmp .ge 43, 3) := by decide +kernel
theorem dL_isSound_138 : decode cL_isSound 138 = .ok (.aload_n 0, 1) := by decide +kernel
theorem dL_isSound_139 : decode cL_isSound 139 = .ok (.iload_n 1, 1) := by decide +kernel
theorem dL_isSound_140 : decode cL_isSound 140 = .ok (.iload 5, 2) := by decide +kernel
theorem dL_isSound_142 : decode cL_isSound 142 = .ok (.iload 7, 2) := by decide +kernel
theorem dL_isSound_144 : decode cL_isSound 144 = .ok (.iconst 0, 1) := by decide +kernel
theorem dL_isSound_145 : decode cL_isSound 145 = .ok (.invokevirtual 26, 3) := by decide +kernel
theorem dL_isSound_148 : decode cL_isSound 148 = .ok (.istore 8, 2) := by decide +kernel
theorem dL_isSound_150 : decode cL_isSound 150 = .ok (.iload 8, 2) := by decide +kernel
theorem dL_isSound_152 : decode cL_isSound 152 = .ok (.iload 4, 2) := by decide +kernel
theorem dL_isSound_154 : decode cL_isSound 154 = .ok (.if_icmp .le 12, 3) := by decide +kernel
theorem dL_isSound_157 : decode cL_isSound 157 = .ok (.iload 8, 2) := by decide +kernel
theorem dL_isSound_159 : decode cL_isSound 159 = .ok (.aload_n 0, 1) := by decide +kernel
theorem dL_isSound_160 : decode cL_isSound 160 = .ok (.invokevirtual 30, 3) := by decide +kernel
theorem dL_isSound_163 : decode cL_isSound 163 = .ok (.if_icmp .le 5, 3) := by decide +kernel
theorem dL_isSound_166 : decode cL_isSound 166 = .ok (.iconst 0, 1) := by decide +kernel
theorem dL_isSound_167 : decode cL_isSound 167 = .ok (.ireturn, 1) := by decide +kernel
theorem dL_isSound_168 : decode cL_isSound 168 = .ok (.iload 8, 2) := by decide +kernel
theorem dL_isSound_170 : decode cL_isSound 170 = .ok (.istore 4, 2) := by decide +kernel
theorem dL_isSound_172 : decode cL_isSound 172 = .ok (.iinc 7 1, 3) := by decide +kernel
theorem dL_isSound_175 : decode cL_isSound 175 = .ok (.goto (-44), 3) := by decide +kernel
theorem dL_isSound_178 : decode cL_isSound 178 = .ok (.iinc 5 1, 3) := by decide +kernel
theorem dL_isSound_181 : decode cL_isSound 181 = .ok (.goto (-120), 3) := by decide +kernel
theorem dL_isSound_184 : decode cL_isSound 184 = .ok (.iconst 0, 1) := by decide +kernel
theorem dL_isSound_185 : decode cL_isSound 185 = .ok (.istore 5, 2) := by decide +kernel
theorem dL_isSound_187 : decode cL_isSound 187 = .ok (.iload 5, 2) := by decide +kernel
theorem dL_isSound_189 : decode cL_isSound 189 = .ok (.iconst 2, 1) := by decide +kernel
theorem dL_isSound_190 : decode cL_isSound 190 = .ok (.if_icmp .ge 211, 3) := by decide +kernel
theorem dL_isSound_193 : decode cL_isSound 193 = .ok (.iconst (-1), 1) := by decide +kernel
theorem dL_isSound_194 : decode cL_isSound 194 = .ok (.istore 6, 2) := by decide +kernel
theorem dL_isSound_196 : decode cL_isSound 196 = .ok (.iconst 0, 1) := by decide +kernel
theorem dL_isSound_197 : decode cL_isSound 197 = .ok (.istore 7, 2) := by decide +kernel
theorem dL_isSound_199 : decode cL_isSound 199 = .ok (.iload 7, 2) := by decide +kernel
theorem dL_isSound_201 : decode cL_isSound 201 = .ok (.aload_n 0, 1) := by decide +kernel
theorem dL_isSound_202 : decode cL_isSound 202 = .ok (.iload_n 1, 1) := by decide +kernel
theorem dL_isSound_203 : decode cL_isSound 203 = .ok (.iload 5, 2) := by decide +kernel
theorem dL_isSound_205 : decode cL_isSound 205 = .ok (.iconst 1, 1) := by decide +kernel
theorem dL_isSound_206 : decode cL_isSound 206 = .ok (.if_icmp .ne 7, 3) := by decide +kernel
theorem dL_isSound_209 : decode cL_isSound 209 = .ok (.iconst 1, 1) := by decide +kernel
theorem dL_isSound_210 : decode cL_isSound 210 = .ok (.goto 4, 3) := by decide +kernel
theorem dL_isSound_213 : decode cL_isSound 213 = .ok (.iconst 0, 1) := by decide +kernel
theorem dL_isSound_214 : decode cL_isSound 214 = .ok (.invokevirtual 15, 3) := by decide +kernel
theorem dL_isSound_217 : decode cL_isSound 217 = .ok (.if_icmp .ge 178, 3) := by decide +kernel
theorem dL_isSound_220 : decode cL_isSound 220 = .ok (.bipush 7, 2) := by decide +kernel
theorem dL_isSound_222 : decode cL_isSound 222 = .ok (.newarray .int, 2) := by decide +kernel
theorem dL_isSound_224 : decode cL_isSound 224 = .ok (.astore 8, 2) := by decide +kernel
theorem dL_isSound_226 : decode cL_isSound 226 = .ok (.iconst 0, 1) := by decide +kernel
theorem dL_isSound_227 : decode cL_isSound 227 = .ok (.istore 9, 2) := by decide +kernel
theorem dL_isSound_229 : decode cL_isSound 229 = .ok (.iload 9, 2) := by decide +kernel
theorem dL_isSound_231 : decode cL_isSound 231 = .ok (.bipush 7, 2) := by decide +kernel
theorem dL_isSound_233 : decode cL_isSound 233 = .ok (.if_icmp .ge 34, 3) := by decide +kernel
theorem dL_isSound_236 : decode cL_isSound 236 = .ok (.aload 8, 2) := by decide +kernel
theorem dL_isSound_238 : decode cL_isSound 238 = .ok (.iload 9, 2) := by decide +kernel
theorem dL_isSound_240 : decode cL_isSound 240 = .ok (.aload_n 0, 1) := by decide +kernel
theorem dL_isSound_241 : decode cL_isSound 241 = .ok (.iload_n 1, 1) := by decide +kernel
theorem dL_isSound_242 : decode cL_isSound 242 = .ok (.iload 5, 2) := by decide +kernel
theorem dL_isSound_244 : decode cL_isSound 244 = .ok (.iconst 1, 1) := by decide +kernel
theorem dL_isSound_245 : decode cL_isSound 245 = .ok (.if_icmp .ne 7, 3) := by decide +kernel
theorem dL_isSound_248 : decode cL_isSound 248 = .ok (.iconst 1, 1) := by decide +kernel
theorem dL_isSound_249 : decode cL_isSound 249 = .ok (.goto 4, 3) := by decide +kernel
theorem dL_isSound_252 : decode cL_isSound 252 = .ok (.iconst 0, 1) := by decide +kernel
theorem dL_isSound_253 : decode cL_isSound 253 = .ok (.iload 7, 2) := by decide +kernel
theorem dL_isSound_255 : decode cL_isSound 255 = .ok (.iload 9, 2) := by decide +kernel
theorem dL_isSound_257 : decode cL_isSound 257 = .ok (.invokevirtual 34, 3) := by decide +kernel
theorem dL_isSound_260 : decode cL_isSound 260 = .ok (.iastore, 1) := by decide +kernel
theorem dL_isSound_261 : decode cL_isSound 261 = .ok (.iinc 9 1, 3) := by decide +kernel
theorem dL_isSound_264 : decode cL_isSound 264 = .ok (.goto (-35), 3) := by decide +kernel
theorem dL_isSound_267 : decode cL_isSound 267 = .ok (.aload 8, 2) := by decide +kernel
theorem dL_isSound_269 : decode cL_isSound 269 = .ok (.iconst 0, 1) := by decide +kernel
theorem dL_isSound_270 : decode cL_isSound 270 = .ok (.iaload, 1) := by decide +kernel
theorem dL_isSound_271 : decode cL_isSound 271 = .ok (.iload 6, 2) := by decide +kernel
theorem dL_isSound_273 : decode cL_isSound 273 = .ok (.if_icmp .le 108, 3) := by decide +kernel
theorem dL_isSound_276 : decode cL_isSound 276 = .ok (.aload 8, 2) := by decide +kernel
theorem dL_isSound_278 : decode cL_isSound 278 = .ok (.iconst 1, 1) := by decide +kernel
theorem dL_isSound_279 : decode cL_isSound 279 = .ok (.iaload, 1) := by decide +kernel
theorem dL_isSound_280 : decode cL_isSound 280 = .ok (.iconst 1, 1) := by decide +kernel
theorem dL_isSound_281 : decode cL_isSound 281 = .ok (.if_icmp .lt 100, 3) := by decide +kernel
theorem dL_isSound_284 : decode cL_isSound 284 = .ok (.aload 8, 2) := by decide +kernel
theorem dL_isSound_286 : decode cL_isSound 286 = .ok (.iconst 3, 1) := by decide +kernel
theorem dL_isSound_287 : decode cL_isSound 287 = .ok (.iaload, 1) := by decide +kernel
theorem dL_isSound_288 : decode cL_isSound 288 = .ok (.aload 8, 2) := by decide +kernel
theorem dL_isSound_290 : decode cL_isSound 290 = .ok (.iconst 4, 1) := by decide +kernel
theorem dL_isSound_291 : decode cL_isSound 291 = .ok (.iaload, 1) := by decide +kernel
theorem dL_isSound_292 : decode cL_isSound 292 = .ok (.if_icmp .gt 89, 3) := by decide +kernel
theorem dL_isSound_295 : decode cL_isSound 295 = .ok (.aload 8, 2) := by decide +kernel
theorem dL_isSound_297 : decode cL_isSound 297 = .ok (.iconst 5, 1) := by decide +kernel
theorem dL_isSound_298 : decode cL_isSound 298 = .ok (.iaload, 1) := by decide +kernel
theorem dL_isSound_299 : decode cL_isSound 299 = .ok (.aload 8, 2) := by decide +kernel
theorem dL_isSound_301 : decode cL_isSound 301 = .ok (.iconst 3, 1) := by decide +kernel
theorem dL_isSound_302 : decode cL_isSound 302 = .ok (.iaload, 1) := by decide +kernel
theorem dL_isSound_303 : decode cL_isSound 303 = .ok (.if_icmp .lt 78, 3) := by decide +kernel
theorem dL_isSound_306 : decode cL_isSound 306 = .ok (.aload 8, 2) := by decide +kernel
theorem dL_isSound_308 : decode cL_isSound 308 = .ok (.iconst 5, 1) := by decide +kernel
theorem dL_isSound_309 : decode cL_isSound 309 = .ok (.iaload, 1) := by decide +kernel
theorem dL_isSound_310 : decode cL_isSound 310 = .ok (.aload 8, 2) := by decide +kernel
theorem dL_isSound_312 : decode cL_isSound 312 = .ok (.iconst 4, 1) := by decide +kernel
theorem dL_isSound_313 : decode cL_isSound 313 = .ok (.iaload, 1) := by decide +kernel
theorem dL_isSound_314 : decode cL_isSound 314 = .ok (.if_icmp .gt 67, 3) := by decide +kernel
theorem dL_isSound_317 : decode cL_isSound 317 = .ok (.aload 8, 2) := by decide +kernel
theorem dL_isSound_319 : decode cL_isSound 319 = .ok (.bipush 6, 2) := by decide +kernel
theorem dL_isSound_321 : decode cL_isSound 321 = .ok (.iaload, 1) := by decide +kernel
theorem dL_isSound_322 : decode cL_isSound 322 = .ok (.aload 8, 2) := by decide +kernel
theorem dL_isSound_324 : decode cL_isSound 324 = .ok (.iconst 3, 1) := by decide +kernel
theorem dL_isSound_325 : decode cL_isSound 325 = .ok (.iaload, 1) := by decide +kernel
theorem dL_isSound_326 : decode cL_isSound 326 = .ok (.if_icmp .lt 55, 3) := by decide +kernel
theorem dL_isSound_329 : decode cL_isSound 329 = .ok (.aload 8, 2) := by decide +kernel
theorem dL_isSound_331 : decode cL_isSound 331 = .ok (.bipush 6, 2) := by decide +kernel
theorem dL_isSound_333 : decode cL_isSound 333 = .ok (.iaload, 1) := by decide +kernel
theorem dL_isSound_334 : decode cL_isSound 334 = .ok (.aload 8, 2) := by decide +kernel
theorem dL_isSound_336 : decode cL_isSound 336 = .ok (.iconst 4, 1) := by decide +kernel
theorem dL_isSound_337 : decode cL_isSound 337 = .ok (.iaload, 1) := by decide +kernel
theorem dL_isSound_338 : decode cL_isSound 338 = .ok (.if_icmp .gt 43, 3) := by decide +kernel
theorem dL_isSound_341 : decode cL_isSound 341 = .ok (.aload 8, 2) := by decide +kernel
theorem dL_isSound_343 : decode cL_isSound 343 = .ok (.iconst 2, 1) := by decide +kernel
theorem dL_isSound_344 : decode cL_isSound 344 = .ok (.iaload, 1) := by decide +kernel
theorem dL_isSound_345 : decode cL_isSound 345 = .ok (.i2l, 1) := by decide +kernel
theorem dL_isSound_346 : decode cL_isSound 346 = .ok (.aload 8, 2) := by decide +kernel
theorem dL_isSound_348 : decode cL_isSound 348 = .ok (.iconst 1, 1) := by decide +kernel
theorem dL_isSound_349 : decode cL_isSound 349 = .ok (.iaload, 1) := by decide +kernel
theorem dL_isSound_350 : decode cL_isSound 350 = .ok (.i2l, 1) := by decide +kernel
theorem dL_isSound_351 : decode cL_isSound 351 = .ok (.aload 8, 2) := by decide +kernel
theorem dL_isSound_353 : decode cL_isSound 353 = .ok (.iconst 3, 1) := by decide +kernel
theorem dL_isSound_354 : decode cL_isSound 354 = .ok (.iaload, 1) := by decide +kernel
theorem dL_isSound_355 : decode cL_isSound 355 = .ok (.i2l, 1) := by decide +kernel
theorem dL_isSound_356 : decode cL_isSound 356 = .ok (.lmul, 1) := by decide +kernel
theorem dL_isSound_357 : decode cL_isSound 357 = .ok (.lcmp, 1) := by decide +kernel
theorem dL_isSound_358 : decode cL_isSound 358 = .ok (.ifCond .lt 23, 3) := by decide +kernel
theorem dL_isSound_361 : decode cL_isSound 361 = .ok (.aload 8, 2) := by decide +kernel
theorem dL_isSound_363 : decode cL_isSound 363 = .ok (.iconst 2, 1) := by decide +kernel
theorem dL_isSound_364 : decode cL_isSound 364 = .ok (.iaload, 1) := by decide +kernel
theorem dL_isSound_365 : decode cL_isSound 365 = .ok (.i2l, 1) := by decide +kernel
theorem dL_isSound_366 : decode cL_isSound 366 = .ok (.aload 8, 2) := by decide +kernel
theorem dL_isSound_368 : decode cL_isSound 368 = .ok (.iconst 1, 1) := by decide +kernel
theorem dL_isSound_369 : decode cL_isSound 369 = .ok (.iaload, 1) := by decide +kernel
theorem dL_isSound_370 : decode cL_isSound 370 = .ok (.i2l, 1) := by decide +kernel
theorem dL_isSound_371 : decode cL_isSound 371 = .ok (.aload 8, 2) := by decide +kernel
theorem dL_isSound_373 : decode cL_isSound 373 = .ok (.iconst 4, 1) := by decide +kernel
theorem dL_isSound_374 : decode cL_isSound 374 = .ok (.iaload, 1) := by decide +kernel
theorem dL_isSound_375 : decode cL_isSound 375 = .ok (.i2l, 1) := by decide +kernel
theorem dL_isSound_376 : decode cL_isSound 376 = .ok (.lmul, 1) := by decide +kernel
theorem dL_isSound_377 : decode cL_isSound 377 = .ok (.lcmp, 1) := by decide +kernel
theorem dL_isSound_378 : decode cL_isSound 378 = .ok (.ifCond .le 5, 3) := by decide +kernel
theorem dL_isSound_381 : decode cL_isSound 381 = .ok (.iconst 0, 1) := by decide +kernel
theorem dL_isSound_382 : decode cL_isSound 382 = .ok (.ireturn, 1) := by decide +kernel
theorem dL_isSound_383 : decode cL_isSound 383 = .ok (.aload 8, 2) := by decide +kernel
theorem dL_isSound_385 : decode cL_isSound 385 = .ok (.iconst 0, 1) := by decide +kernel
theorem dL_isSound_386 : decode cL_isSound 386 = .ok (.iaload, 1) := by decide +kernel
theorem dL_isSound_387 : decode cL_isSound 387 = .ok (.istore 6, 2) := by decide +kernel
theorem dL_isSound_389 : decode cL_isSound 389 = .ok (.iinc 7 1, 3) := by decide +kernel
theorem dL_isSound_392 : decode cL_isSound 392 = .ok (.goto (-193), 3) := by decide +kernel
theorem dL_isSound_395 : decode cL_isSound 395 = .ok (.iinc 5 1, 3) := by decide +kernel
theorem dL_isSound_398 : decode cL_isSound 398 = .ok (.goto (-211), 3) := by decide +kernel
theorem dL_isSound_401 : decode cL_isSound 401 = .ok (.iload_n 3, 1) := by decide +kernel
theorem dL_isSound_402 : decode cL_isSound 402 = .ok (.aload_n 0, 1) := by decide +kernel
theorem dL_isSound_403 : decode cL_isSound 403 = .ok (.iload_n 1, 1) := by decide +kernel
theorem dL_isSound_404 : decode cL_isSound 404 = .ok (.invokevirtual 38, 3) := by decide +kernel
theorem dL_isSound_407 : decode cL_isSound 407 = .ok (.if_icmp .ne 7, 3) := by decide +kernel
theorem dL_isSound_410 : decode cL_isSound 410 = .ok (.iconst 1, 1) := by decide +kernel
theorem dL_isSound_411 : decode cL_isSound 411 = .ok (.goto 4, 3) := by decide +kernel
theorem dL_isSound_414 : decode cL_isSound 414 = .ok (.iconst 0, 1) := by decide +kernel
theorem dL_isSound_415 : decode cL_isSound 415 = .ok (.ireturn, 1) := by decide +kernel
theorem ggL_law_X9_init : GoodIn wsL_law wsX9_init := goodIn_r _ [12, 13, 14, 15, 16, 17, 18, 19, 20, 21, 22, 23, 24, 25, 26, 27, 28, 29, 30, 31, 32, 33, 34, 35, 36, 37, 38, 39, 40, 41, 42, 43, 44, 45, 46, 47, 48, 49, 50, 51, 52, 53, 54, 55, 56, 57, 58, 59, 60, 61, 62, 63, 64, 65, 66, 67, 68, 69, 70, 71, 72, 73, 74, 75, 76, 77, 78, 79, 80, 81, 82, 83, 84, 85, 86, 87, 697, 698, 699, 700, 701, 688, 689, 690, 691, 692, 693, 694, 695, 696, 702, 703, 704, 705, 706, 707, 708, 709, 710, 711, 712, 713, 714, 715, 716, 717, 718] (by decide +kernel) (by decide +kernel)
theorem gL_law_X9_init : GoodIn wsL_law (wsX9_init) := ggL_law_X9_init
theorem ggL_law_L_cell : GoodIn wsL_law wsL_cell := goodIn_r _ [91, 92] (by decide +kernel) (by decide +kernel)
theorem gL_law_L_cell : GoodIn wsL_law (va_wsS RL 42 yL_cell wsL_cell) := goodIn_app (goodIn_of _ (by decide +kernel)) ggL_law_L_cell
theorem ggL_law_L_below : GoodIn wsL_law wsL_below := goodIn_r _ [95, 96] (by decide +kernel) (by decide +kernel)
theorem gL_law_L_below : GoodIn wsL_law (va_wsS RL 48 yL_below wsL_below) := goodIn_app (goodIn_of _ (by decide +kernel)) ggL_law_L_below
theorem ggL_law_X9_setSpan : GoodIn wsL_law wsX9_setSpan := goodIn_ca (goodIn_r _ [100, 19, 101, 102, 103, 2, 104, 105, 106, 107, 108, 109, 688, 689, 690, 691, 692, 693, 694, 695, 696, 697, 698, 699, 700, 701] (by decide +kernel) (by decide +kernel)) (goodIn_sub (fun _ h => List.mem_append_left _ (List.mem_append_left _ (List.mem_append_right _ h))) (by decide +kernel))
theorem gL_law_X9_setSpan : GoodIn wsL_law (wsV RL 51 RX9 yX9_setSpan wsX9_setSpan) := goodIn_app (goodIn_of _ (by decide +kernel)) ggL_law_X9_setSpan
theorem ggL_law_X9_setWidths : GoodIn wsL_law wsX9_setWidths := goodIn_ca (goodIn_ca (goodIn_r _ [113, 23, 19, 114, 115, 102, 103, 2, 104, 105, 106, 107, 108, 109, 116, 117, 118, 22, 119, 49, 120, 121, 122, 123, 124, 125, 126, 127, 48, 128, 129, 130, 131, 132, 133, 134, 135, 136, 137, 138, 139, 140, 141, 142, 143, 144, 145, 61, 146, 147, 148, 149, 150, 688, 689, 690, 691, 692, 693, 694, 695, 696, 697, 698, 699, 700, 701, 702, 703, 704, 705, 706, 719, 720, 721, 722, 723, 724, 725, 726, 727, 728, 729, 730, 731, 732, 713, 714, 715] (by decide +kernel) (by decide +kernel)) (goodIn_sub (fun _ h => List.mem_append_left _ (List.mem_append_left _ (List.mem_append_right _ h))) (by decide +kernel))) (goodIn_sub (fun _ h => List.mem_append_left _ (List.mem_append_right _ h)) (by decide +kernel))
theorem gL_law_X9_setWidths : GoodIn wsL_law (wsV RL 54 RX9 yX9_setWidths wsX9_setWidths) := goodIn_app (goodIn_of _ (by decide +kernel)) ggL_law_X9_setWidths
theorem ggL_law_X9_addSeries : GoodIn wsL_law wsX9_addSeries := goodIn_ca (goodIn_ca (goodIn_r _ [154, 23, 155, 156, 157, 158, 24, 102, 103, 2, 104, 105, 106, 107, 108, 109, 159, 126, 127, 48, 128, 129, 146, 147, 148, 149, 150, 160, 161, 162, 163, 14, 15, 164, 165, 166, 167, 168, 169, 170, 171, 172, 173, 174, 175, 176, 75, 177, 178, 179, 180, 181, 182, 183, 184, 185, 186, 187, 188, 189, 190, 191, 192, 193, 194, 195, 196, 61, 197, 198, 199, 200, 201, 202, 203, 204, 205, 206, 207, 208, 60, 209, 4, 5, 6, 210, 211, 212, 213, 214, 215, 216, 217, 218, 219, 220, 221, 222, 223, 224, 225, 226, 227, 228, 229, 230, 231, 232, 233, 8, 9, 234, 235, 236, 237, 688, 689, 690, 691, 692, 693, 694, 695, 696, 702, 703, 704, 705, 706, 719, 720, 721, 722, 723, 713, 714, 715, 726, 727, 728, 729, 730, 731, 732, 724, 725] (by decide +kernel) (by decide +kernel)) (goodIn_sub (fun _ h => List.mem_append_left _ (List.mem_append_left _ (List.mem_append_right _ h))) (by decide +kernel))) (goodIn_sub (fun _ h => List.mem_append_left _ (List.mem_append_right _ h)) (by decide +kernel))
theorem gL_law_X9_addSeries : GoodIn wsL_law (wsV RL 57 RX9 yX9_addSeries wsX9_addSeries) := goodIn_app (goodIn_of _ (by decide +kernel)) ggL_law_X9_addSeries
theorem ggL_law_X9_addRule : GoodIn wsL_law wsX9_addRule := goodIn_ca (goodIn_ca (goodIn_ca (goodIn_r _ [241, 242, 243, 23, 244, 245, 246, 247, 24, 155, 248, 249, 250, 251, 2, 252, 253, 254, 159, 126, 127, 48, 128, 129, 255, 131, 132, 133, 134, 135, 136, 137, 138, 139, 140, 141, 142, 143, 144, 145, 61, 102, 103, 104, 105, 106, 107, 108, 109, 146, 147, 148, 149, 150, 256, 257, 258, 259, 14, 15, 260, 261, 262, 263, 264, 265, 266, 267, 268, 191, 192, 193, 194, 195, 196, 197, 198, 199, 200, 201, 202, 203, 204, 205, 206, 207, 208, 60, 209, 4, 5, 6, 210, 211, 212, 213, 214, 215, 216, 217, 218, 219, 220, 221, 222, 223, 224, 225, 226, 227, 228, 229, 230, 231, 232, 233, 8, 9, 234, 235, 236, 237, 688, 689, 690, 691, 692, 693, 694, 695, 696, 702, 703, 704, 705, 706, 733, 734, 735, 736, 737, 738, 739, 740, 741, 713, 714, 715] (by decide +kernel) (by decide +kernel)) (goodIn_sub (fun _ h => List.mem_append_right _ h) (by decide +kernel))) (goodIn_sub (fun _ h => List.mem_append_left _ (List.mem_append_left _ (List.mem_append_right _ h))) (by decide +kernel))) (goodIn_sub (fun _ h => List.mem_append_left _ (List.mem_append_right _ h)) (by decide +kernel))
theorem gL_law_X9_addRule : GoodIn wsL_law (wsV RL 60 RX9 yX9_addRule wsX9_addRule) := goodIn_app (goodIn_of _ (by decide +kernel)) ggL_law_X9_addRule
theorem ggL_law_X9_now : GoodIn wsL_law wsX9_now := goodIn_r _ [272, 23, 273, 688, 689, 690, 691, 692, 693, 694, 695, 696, 702, 703, 704, 705, 706] (by decide +kernel) (by decide +kernel)
theorem gL_law_X9_now : GoodIn wsL_law (wsV RL 30 RX9 yX9_now wsX9_now) := goodIn_app (goodIn_of _ (by decide +kernel)) ggL_law_X9_now
theorem ggL_law_X9_bitsWith : GoodIn wsL_law wsX9_bitsWith := goodIn_ca (goodIn_ca (goodIn_r _ [277, 278, 28, 249, 250, 251, 2, 252, 253, 254, 23, 155, 248, 159, 126, 127, 48, 128, 129, 255, 131, 132, 133, 134, 135, 136, 137, 138, 139, 140, 141, 142, 143, 144, 145, 61, 279, 280, 281, 282, 273, 102, 103, 104, 283, 284, 285, 286, 287, 105, 106, 107, 108, 109, 288, 289, 290, 166, 291, 182, 292, 293, 294, 27, 295, 296, 297, 298, 83, 299, 300, 301, 302, 181, 303, 304, 305, 306, 307, 177, 178, 308, 309, 310, 311, 312, 313, 314, 315, 316, 317, 318, 319, 82, 84, 320, 321, 222, 322, 323, 324, 325, 326, 327, 328, 329, 330, 331, 332, 86, 85, 87, 333, 334, 335, 336, 337, 338, 339, 340, 341, 719, 720, 721, 722, 723, 688, 689, 690, 691, 692, 693, 694, 695, 696, 702, 703, 704, 705, 706, 713, 714, 715, 726, 727, 728, 729, 730, 731, 732, 724, 725, 707, 708, 709, 710, 711, 712] (by decide +kernel) (by decide +kernel)) (goodIn_sub (fun _ h => List.mem_append_right _ h) (by decide +kernel))) (goodIn_sub (fun _ h => List.mem_append_left _ (List.mem_append_left _ (List.mem_append_right _ h))) (by decide +kernel))
theorem gL_law_X9_bitsWith : GoodIn wsL_law (wsV RL 69 RX9 yX9_bitsWith wsX9_bitsWith) := goodIn_app (goodIn_of _ (by decide +kernel)) ggL_law_X9_bitsWith
theorem ggL_law_X9_blocks : GoodIn wsL_law wsX9_blocks := goodIn_ca (goodIn_r _ [345, 278, 249, 250, 251, 2, 252, 253, 254, 23, 155, 248, 159, 126, 127, 48, 128, 129, 255, 131, 132, 133, 134, 135, 136, 137, 138, 139, 140, 141, 142, 143, 144, 145, 61, 346, 347, 348, 166, 349, 180, 719, 720, 721, 722, 723, 688, 689, 690, 691, 692, 693, 694, 695, 696, 702, 703, 704, 705, 706, 713, 714, 715, 726, 727, 728, 729, 730, 731, 732] (by decide +kernel) (by decide +kernel)) (goodIn_sub (fun _ h => List.mem_append_right _ h) (by decide +kernel))
theorem gL_law_X9_blocks : GoodIn wsL_law (wsV RL 9 RX9 yX9_blocks wsX9_blocks) := goodIn_app (goodIn_of _ (by decide +kernel)) ggL_law_X9_blocks
theorem ggL_law_X9_late : GoodIn wsL_law wsX9_late := goodIn_r _ [353, 33, 688, 689, 690, 691, 692, 693, 694, 695, 696] (by decide +kernel) (by decide +kernel)
theorem gL_law_X9_late : GoodIn wsL_law (wsV RL 73 RX9 yX9_late wsX9_late) := goodIn_app (goodIn_of _ (by decide +kernel)) ggL_law_X9_late
theorem ggL_law_X9_put : GoodIn wsL_law wsX9_put := goodIn_ca (goodIn_ca (goodIn_r _ [357, 278, 249, 250, 251, 2, 252, 253, 254, 23, 155, 248, 159, 126, 127, 48, 128, 129, 255, 131, 132, 133, 134, 135, 136, 137, 138, 139, 140, 141, 142, 143, 144, 145, 61, 279, 280, 281, 282, 273, 102, 103, 104, 283, 284, 285, 286, 287, 105, 106, 107, 108, 109, 358, 359, 360, 361, 33, 19, 288, 289, 290, 166, 291, 182, 362, 363, 364, 158, 365, 167, 366, 367, 368, 369, 370, 303, 298, 371, 300, 301, 302, 181, 304, 305, 306, 307, 177, 178, 372, 309, 310, 311, 373, 374, 375, 376, 377, 378, 379, 380, 381, 313, 314, 315, 382, 383, 384, 385, 180, 179, 386, 387, 388, 389, 390, 391, 392, 393, 394, 171, 395, 396, 397, 398, 399, 400, 401, 402, 403, 404, 405, 406, 170, 407, 408, 123, 409, 8, 5, 9, 410, 4, 6, 411, 412, 413, 414, 190, 415, 416, 417, 418, 419, 420, 421, 422, 423, 424, 425, 426, 427, 428, 429, 430, 431, 172, 432, 433, 434, 435, 436, 437, 438, 439, 440, 441, 442, 719, 720, 721, 722, 723, 688, 689, 690, 691, 692, 693, 694, 695, 696, 702, 703, 704, 705, 706, 713, 714, 715, 726, 727, 728, 729, 730, 731, 732, 697, 698, 699, 700, 701, 724, 725] (by decide +kernel) (by decide +kernel)) (goodIn_sub (fun _ h => List.mem_append_right _ h) (by decide +kernel))) (goodIn_sub (fun _ h => List.mem_append_left _ (List.mem_append_left _ (List.mem_append_right _ h))) (by decide +kernel))
theorem gL_law_X9_put : GoodIn wsL_law (wsV RL 76 RX9 yX9_put wsX9_put) := goodIn_app (goodIn_of _ (by decide +kernel)) ggL_law_X9_put
theorem ggL_law_X9_bits : GoodIn wsL_law wsX9_bits := goodIn_ca (goodIn_r _ [446, 278, 447, 28, 249, 250, 251, 2, 252, 253, 254, 23, 155, 248, 159, 126, 127, 48, 128, 129, 255, 131, 132, 133, 134, 135, 136, 137, 138, 139, 140, 141, 142, 143, 144, 145, 61, 102, 103, 104, 448, 449, 450, 451, 452, 453, 27, 454, 455, 83, 456, 457, 458, 166, 459, 180, 441, 397, 398, 399, 179, 386, 313, 314, 315, 303, 298, 181, 460, 316, 317, 318, 319, 82, 84, 320, 321, 222, 322, 323, 324, 325, 326, 327, 305, 306, 307, 177, 178, 328, 329, 330, 331, 332, 86, 85, 87, 333, 334, 335, 336, 337, 338, 339, 340, 341, 719, 720, 721, 722, 723, 726, 727, 728, 729, 730, 731, 732, 688, 689, 690, 691, 692, 693, 694, 695, 696, 702, 703, 704, 705, 706, 713, 714, 715, 707, 708, 709, 710, 711, 712, 724, 725] (by decide +kernel) (by decide +kernel)) (goodIn_sub (fun _ h => List.mem_append_right _ h) (by decide +kernel))
theorem gL_law_X9_bits : GoodIn wsL_law (wsV RL 23 RX9 yX9_bits wsX9_bits) := goodIn_app (goodIn_of _ (by decide +kernel)) ggL_law_X9_bits
theorem ggL_law_X9_setKeep : GoodIn wsL_law wsX9_setKeep := goodIn_ca (goodIn_r _ [464, 19, 465, 466, 102, 103, 2, 104, 105, 106, 107, 108, 109, 688, 689, 690, 691, 692, 693, 694, 695, 696, 697, 698, 699, 700, 701] (by decide +kernel) (by decide +kernel)) (goodIn_sub (fun _ h => List.mem_append_left _ (List.mem_append_left _ (List.mem_append_right _ h))) (by decide +kernel))
theorem gL_law_X9_setKeep : GoodIn wsL_law (wsV RL 79 RX9 yX9_setKeep wsX9_setKeep) := goodIn_app (goodIn_of _ (by decide +kernel)) ggL_law_X9_setKeep
theorem ggL_law_X9_wouldRoll : GoodIn wsL_law wsX9_wouldRoll := goodIn_ca (goodIn_r _ [470, 23, 273, 471, 155, 248, 278, 102, 103, 2, 104, 105, 106, 107, 108, 109, 159, 126, 127, 48, 128, 129, 255, 131, 132, 133, 134, 135, 136, 137, 138, 139, 140, 141, 142, 143, 144, 145, 61, 472, 473, 474, 166, 475, 180, 441, 397, 398, 399, 179, 386, 313, 314, 315, 303, 298, 181, 304, 305, 306, 307, 177, 178, 688, 689, 690, 691, 692, 693, 694, 695, 696, 702, 703, 704, 705, 706, 719, 720, 721, 722, 723, 713, 714, 715, 726, 727, 728, 729, 730, 731, 732, 724, 725] (by decide +kernel) (by decide +kernel)) (goodIn_sub (fun _ h => List.mem_append_left _ (List.mem_append_left _ (List.mem_append_right _ h))) (by decide +kernel))
theorem gL_law_X9_wouldRoll : GoodIn wsL_law (wsV RL 82 RX9 yX9_wouldRoll wsX9_wouldRoll) := goodIn_app (goodIn_of _ (by decide +kernel)) ggL_law_X9_wouldRoll
theorem ggL_law_X9_events : GoodIn wsL_law wsX9_events := goodIn_r _ [479, 23, 480, 481, 688, 689, 690, 691, 692, 693, 694, 695, 696, 702, 703, 704, 705, 706, 716, 717, 718] (by decide +kernel) (by decide +kernel)
theorem gL_law_X9_events : GoodIn wsL_law (wsV RL 85 RX9 yX9_events wsX9_events) := goodIn_app (goodIn_of _ (by decide +kernel)) ggL_law_X9_events
theorem ggL_law_X9_firesIn : GoodIn wsL_law wsX9_firesIn := goodIn_ca (goodIn_r _ [485, 24, 23, 480, 486, 487, 488, 489, 2, 490, 273, 471, 102, 103, 104, 105, 106, 107, 108, 109, 491, 492, 493, 22, 494, 55, 49, 120, 50, 495, 125, 126, 127, 48, 128, 129, 130, 131, 132, 133, 134, 135, 136, 137, 138, 139, 140, 141, 142, 143, 144, 145, 61, 496, 497, 498, 158, 499, 167, 171, 172, 500, 501, 502, 166, 503, 303, 298, 180, 179, 181, 182, 304, 305, 306, 307, 177, 178, 377, 378, 379, 380, 441, 397, 398, 399, 386, 313, 314, 315, 504, 505, 506, 170, 507, 408, 123, 411, 412, 413, 414, 190, 419, 420, 421, 422, 508, 509, 510, 247, 511, 260, 261, 512, 513, 514, 515, 56, 54, 516, 517, 518, 519, 520, 521, 522, 395, 523, 473, 474, 475, 391, 392, 393, 394, 396, 400, 401, 402, 403, 404, 405, 406, 407, 409, 8, 5, 9, 410, 4, 6, 415, 416, 417, 418, 423, 424, 425, 426, 427, 428, 429, 430, 431, 432, 433, 434, 435, 436, 437, 438, 439, 440, 373, 374, 375, 376, 524, 525, 526, 527, 528, 529, 530, 531, 532, 265, 533, 534, 535, 536, 262, 264, 263, 537, 538, 539, 540, 541, 542, 543, 544, 545, 546, 547, 548, 549, 550, 551, 552, 553, 554, 555, 556, 557, 558, 559, 560, 561, 562, 563, 564, 565, 566, 567, 568, 569, 570, 571, 572, 573, 574, 575, 576, 577, 578, 579, 580, 581, 582, 583, 584, 266, 267, 585, 586, 587, 588, 268, 589, 590, 591, 592, 593, 594, 595, 596, 597, 598, 599, 53, 600, 77, 76, 78, 688, 689, 690, 691, 692, 693, 694, 695, 696, 702, 703, 704, 705, 706, 716, 717, 718, 713, 714, 715, 719, 720, 721, 722, 723, 724, 725, 726, 727, 728, 729, 730, 731, 732, 733, 734, 735, 736, 737, 738, 739, 740, 741, 697, 698, 699, 700, 701] (by decide +kernel) (by decide +kernel)) (goodIn_sub (fun _ h => List.mem_append_left _ (List.mem_append_left _ (List.mem_append_right _ h))) (by decide +kernel))
theorem gL_law_X9_firesIn : GoodIn wsL_law (wsV RL 88 RX9 yX9_firesIn wsX9_firesIn) := goodIn_app (goodIn_of _ (by decide +kernel)) ggL_law_X9_firesIn
theorem ggL_law_X9_goOn : GoodIn wsL_law wsX9_goOn := goodIn_ca (goodIn_r _ [604, 23, 480, 481, 487, 488, 489, 2, 490, 273, 471, 102, 103, 104, 105, 106, 107, 108, 109, 512, 513, 514, 22, 515, 55, 49, 120, 56, 50, 495, 54, 516, 125, 126, 127, 48, 128, 129, 130, 131, 132, 133, 134, 135, 136, 137, 138, 139, 140, 141, 142, 143, 144, 145, 61, 517, 518, 519, 158, 520, 521, 167, 522, 395, 523, 473, 474, 166, 475, 180, 441, 397, 398, 399, 179, 386, 313, 314, 315, 303, 298, 181, 304, 305, 306, 307, 177, 178, 391, 392, 393, 394, 171, 396, 400, 401, 402, 403, 404, 405, 406, 170, 407, 408, 123, 409, 8, 5, 9, 410, 4, 6, 411, 412, 413, 414, 190, 415, 416, 417, 418, 419, 420, 421, 422, 423, 424, 425, 426, 427, 428, 429, 430, 431, 172, 432, 433, 434, 435, 436, 437, 438, 439, 440, 373, 374, 375, 376, 377, 378, 379, 380, 524, 525, 526, 527, 528, 529, 530, 531, 247, 532, 265, 533, 534, 535, 536, 262, 264, 263, 537, 538, 539, 540, 541, 542, 543, 544, 545, 546, 547, 548, 549, 550, 551, 552, 553, 554, 555, 556, 557, 558, 559, 560, 561, 562, 563, 564, 565, 566, 567, 568, 569, 570, 571, 572, 573, 574, 575, 576, 577, 578, 579, 580, 581, 582, 583, 584, 266, 267, 260, 585, 586, 587, 588, 261, 268, 589, 590, 591, 592, 593, 594, 595, 596, 597, 598, 599, 53, 600, 77, 76, 78, 688, 689, 690, 691, 692, 693, 694, 695, 696, 702, 703, 704, 705, 706, 716, 717, 718, 733, 734, 735, 736, 737, 738, 739, 740, 741, 713, 714, 715, 697, 698, 699, 700, 701, 719, 720, 721, 722, 723, 726, 727, 728, 729, 730, 731, 732, 724, 725] (by decide +kernel) (by decide +kernel)) (goodIn_sub (fun _ h => List.mem_append_left _ (List.mem_append_left _ (List.mem_append_right _ h))) (by decide +kernel))
theorem gL_law_X9_goOn : GoodIn wsL_law (wsV RL 91 RX9 yX9_goOn wsX9_goOn) := goodIn_app (goodIn_of _ (by decide +kernel)) ggL_law_X9_goOn
theorem ggL_law_X9_event : GoodIn wsL_law wsX9_event := goodIn_ca (goodIn_ca (goodIn_r _ [608, 23, 480, 481, 102, 103, 2, 104, 448, 449, 450, 253, 254, 105, 106, 107, 108, 109, 609, 610, 611, 53, 612, 77, 76, 688, 689, 690, 691, 692, 693, 694, 695, 696, 702, 703, 704, 705, 706, 716, 717, 718] (by decide +kernel) (by decide +kernel)) (goodIn_sub (fun _ h => List.mem_append_right _ h) (by decide +kernel))) (goodIn_sub (fun _ h => List.mem_append_left _ (List.mem_append_left _ (List.mem_append_right _ h))) (by decide +kernel))
theorem gL_law_X9_event : GoodIn wsL_law (wsV RL 94 RX9 yX9_event wsX9_event) := goodIn_app (goodIn_of _ (by decide +kernel)) ggL_law_X9_event
theorem ggL_law_X9_digest : GoodIn wsL_law wsX9_digest := goodIn_r _ [616, 617, 618, 23, 273, 155, 33, 480, 481, 248, 278, 619, 620, 244, 621, 622, 623, 159, 126, 127, 48, 128, 129, 255, 131, 132, 133, 134, 135, 136, 137, 138, 139, 140, 141, 142, 143, 144, 145, 61, 624, 625, 626, 2, 627, 28, 346, 347, 348, 166, 349, 180, 628, 397, 398, 399, 179, 386, 313, 314, 315, 303, 298, 181, 451, 452, 453, 27, 454, 455, 83, 456, 457, 458, 459, 441, 460, 316, 317, 318, 319, 82, 84, 320, 321, 222, 322, 323, 324, 325, 326, 327, 305, 306, 307, 177, 178, 328, 329, 330, 331, 332, 86, 85, 87, 333, 334, 335, 336, 103, 104, 337, 338, 339, 340, 341, 629, 630, 631, 632, 633, 123, 634, 412, 413, 170, 414, 190, 635, 636, 637, 638, 639, 640, 641, 642, 29, 30, 31, 32, 643, 538, 539, 158, 540, 541, 542, 543, 544, 545, 546, 547, 548, 172, 528, 171, 167, 549, 550, 551, 552, 553, 432, 400, 554, 555, 556, 557, 558, 559, 560, 561, 562, 563, 564, 565, 566, 567, 568, 569, 570, 571, 8, 5, 9, 572, 573, 574, 575, 576, 4, 6, 577, 578, 579, 644, 534, 535, 247, 536, 262, 264, 263, 537, 609, 610, 611, 53, 612, 77, 76, 688, 689, 690, 691, 692, 693, 694, 695, 696, 702, 703, 704, 705, 706, 716, 717, 718, 719, 720, 721, 722, 723, 733, 734, 735, 736, 737, 738, 739, 740, 741, 713, 714, 715, 726, 727, 728, 729, 730, 731, 732, 724, 725, 707, 708, 709, 710, 711, 712] (by decide +kernel) (by decide +kernel)
theorem gL_law_X9_digest : GoodIn wsL_law (wsV RL 97 RX9 yX9_digest wsX9_digest) := goodIn_app (goodIn_of _ (by decide +kernel)) ggL_law_X9_digest
theorem ggL_law_X9_setQuery : GoodIn wsL_law wsX9_setQuery := goodIn_ca (goodIn_r _ [648, 471, 30, 29, 31, 32, 102, 103, 2, 104, 105, 106, 107, 108, 109, 688, 689, 690, 691, 692, 693, 694, 695, 696] (by decide +kernel) (by decide +kernel)) (goodIn_sub (fun _ h => List.mem_append_left _ (List.mem_append_left _ (List.mem_append_right _ h))) (by decide +kernel))
theorem gL_law_X9_setQuery : GoodIn wsL_law (wsV RL 101 RX9 yX9_setQuery wsX9_setQuery) := goodIn_app (goodIn_of _ (by decide +kernel)) ggL_law_X9_setQuery
theorem ggL_law_X9_ask : GoodIn wsL_law wsX9_ask := goodIn_ca (goodIn_ca (goodIn_r _ [652, 249, 250, 251, 2, 252, 253, 254, 23, 155, 248, 159, 126, 127, 48, 128, 129, 255, 131, 132, 133, 134, 135, 136, 137, 138, 139, 140, 141, 142, 143, 144, 145, 61, 102, 103, 104, 105, 106, 107, 108, 109, 639, 640, 641, 642, 29, 30, 31, 32, 643, 538, 539, 158, 540, 541, 542, 543, 544, 545, 546, 547, 548, 172, 528, 123, 171, 167, 549, 298, 550, 551, 552, 553, 432, 412, 413, 170, 414, 190, 400, 305, 306, 166, 307, 177, 178, 554, 555, 556, 557, 558, 559, 560, 561, 562, 563, 564, 565, 566, 567, 568, 569, 570, 571, 8, 5, 9, 572, 573, 574, 575, 576, 4, 6, 577, 578, 579, 688, 689, 690, 691, 692, 693, 694, 695, 696, 702, 703, 704, 705, 706, 713, 714, 715, 719, 720, 721, 722, 723, 724, 725, 726, 727, 728, 729, 730, 731, 732] (by decide +kernel) (by decide +kernel)) (goodIn_sub (fun _ h => List.mem_append_right _ h) (by decide +kernel))) (goodIn_sub (fun _ h => List.mem_append_left _ (List.mem_append_left _ (List.mem_append_right _ h))) (by decide +kernel))
theorem gL_law_X9_ask : GoodIn wsL_law (wsV RL 108 RX9 yX9_ask wsX9_ask) := goodIn_app (goodIn_of _ (by decide +kernel)) ggL_law_X9_ask
theorem ggL_law_X9_buckets : GoodIn wsL_law wsX9_buckets := goodIn_ca (goodIn_r _ [656, 633, 123, 249, 250, 251, 2, 252, 253, 254, 23, 155, 248, 159, 126, 127, 48, 128, 129, 255, 131, 132, 133, 134, 135, 136, 137, 138, 139, 140, 141, 142, 143, 144, 145, 61, 657, 658, 659, 158, 660, 172, 171, 724, 725, 726, 727, 728, 729, 730, 731, 732, 688, 689, 690, 691, 692, 693, 694, 695, 696, 702, 703, 704, 705, 706, 713, 714, 715, 719, 720, 721, 722, 723] (by decide +kernel) (by decide +kernel)) (goodIn_sub (fun _ h => List.mem_append_right _ h) (by decide +kernel))
theorem gL_law_X9_buckets : GoodIn wsL_law (wsV RL 15 RX9 yX9_buckets wsX9_buckets) := goodIn_app (goodIn_of _ (by decide +kernel)) ggL_law_X9_buckets
theorem ggL_law_X9_ofBucket : GoodIn wsL_law wsX9_ofBucket := goodIn_ca (goodIn_ca (goodIn_r _ [664, 633, 123, 249, 250, 251, 2, 252, 253, 254, 23, 155, 248, 159, 126, 127, 48, 128, 129, 255, 131, 132, 133, 134, 135, 136, 137, 138, 139, 140, 141, 142, 143, 144, 145, 61, 657, 658, 659, 158, 660, 172, 171, 102, 103, 104, 448, 449, 450, 105, 106, 107, 108, 109, 634, 412, 413, 170, 414, 190, 724, 725, 726, 727, 728, 729, 730, 731, 732, 688, 689, 690, 691, 692, 693, 694, 695, 696, 702, 703, 704, 705, 706, 713, 714, 715, 719, 720, 721, 722, 723] (by decide +kernel) (by decide +kernel)) (goodIn_sub (fun _ h => List.mem_append_right _ h) (by decide +kernel))) (goodIn_sub (fun _ h => List.mem_append_left _ (List.mem_append_left _ (List.mem_append_right _ h))) (by decide +kernel))
theorem gL_law_X9_ofBucket : GoodIn wsL_law (wsV RL 34 RX9 yX9_ofBucket wsX9_ofBucket) := goodIn_app (goodIn_of _ (by decide +kernel)) ggL_law_X9_ofBucket
theorem ggL_law_X9_size : GoodIn wsL_law wsX9_size := goodIn_ca (goodIn_r _ [668, 278, 447, 249, 250, 251, 2, 252, 253, 254, 23, 155, 248, 159, 126, 127, 48, 128, 129, 255, 131, 132, 133, 134, 135, 136, 137, 138, 139, 140, 141, 142, 143, 144, 145, 61, 102, 103, 104, 448, 449, 450, 628, 397, 398, 166, 399, 180, 179, 386, 313, 314, 315, 303, 298, 181, 719, 720, 721, 722, 723, 726, 727, 728, 729, 730, 731, 732, 688, 689, 690, 691, 692, 693, 694, 695, 696, 702, 703, 704, 705, 706, 713, 714, 715, 724, 725] (by decide +kernel) (by decide +kernel)) (goodIn_sub (fun _ h => List.mem_append_right _ h) (by decide +kernel))
theorem gL_law_X9_size : GoodIn wsL_law (wsV RL 19 RX9 yX9_size wsX9_size) := goodIn_app (goodIn_of _ (by decide +kernel)) ggL_law_X9_size
theorem ggL_law_X9_point : GoodIn wsL_law wsX9_point := goodIn_ca (goodIn_r _ [672, 278, 447, 249, 250, 251, 2, 252, 253, 254, 23, 155, 248, 159, 126, 127, 48, 128, 129, 255, 131, 132, 133, 134, 135, 136, 137, 138, 139, 140, 141, 142, 143, 144, 145, 61, 102, 103, 104, 448, 449, 450, 628, 397, 398, 166, 399, 180, 179, 386, 313, 314, 315, 303, 298, 181, 673, 457, 458, 459, 441, 629, 305, 306, 307, 177, 178, 719, 720, 721, 722, 723, 726, 727, 728, 729, 730, 731, 732, 688, 689, 690, 691, 692, 693, 694, 695, 696, 702, 703, 704, 705, 706, 713, 714, 715, 724, 725] (by decide +kernel) (by decide +kernel)) (goodIn_sub (fun _ h => List.mem_append_right _ h) (by decide +kernel))
theorem gL_law_X9_point : GoodIn wsL_law (wsV RL 26 RX9 yX9_point wsX9_point) := goodIn_app (goodIn_of _ (by decide +kernel)) ggL_law_X9_point
theorem ggL_law_X9_lastAt : GoodIn wsL_law wsX9_lastAt := goodIn_ca (goodIn_ca (goodIn_r _ [677, 471, 249, 250, 251, 2, 252, 253, 254, 23, 155, 248, 159, 126, 127, 48, 128, 129, 255, 131, 132, 133, 134, 135, 136, 137, 138, 139, 140, 141, 142, 143, 144, 145, 61, 102, 103, 104, 105, 106, 107, 108, 109, 678, 542, 543, 158, 544, 545, 546, 547, 548, 172, 528, 123, 171, 167, 549, 298, 550, 551, 552, 553, 432, 412, 413, 170, 414, 190, 400, 305, 306, 166, 307, 177, 178, 679, 688, 689, 690, 691, 692, 693, 694, 695, 696, 702, 703, 704, 705, 706, 713, 714, 715, 719, 720, 721, 722, 723, 724, 725, 726, 727, 728, 729, 730, 731, 732] (by decide +kernel) (by decide +kernel)) (goodIn_sub (fun _ h => List.mem_append_right _ h) (by decide +kernel))) (goodIn_sub (fun _ h => List.mem_append_left _ (List.mem_append_left _ (List.mem_append_right _ h))) (by decide +kernel))
theorem gL_law_X9_lastAt : GoodIn wsL_law (wsV RL 111 RX9 yX9_lastAt wsX9_lastAt) := goodIn_app (goodIn_of _ (by decide +kernel)) ggL_law_X9_lastAt
theorem ggL_law_L_isSound : GoodIn wsL_law wsL_isSound := goodIn_ca (goodIn_ca (goodIn_r _ [682, 75, 342, 343, 344, 2, 345, 278, 249, 250, 251, 252, 253, 254, 23, 155, 248, 159, 126, 127, 48, 128, 129, 255, 131, 132, 133, 134, 135, 136, 137, 138, 139, 140, 141, 142, 143, 144, 145, 61, 346, 347, 348, 166, 349, 180, 653, 654, 655, 656, 633, 123, 657, 658, 659, 158, 660, 172, 171, 665, 666, 667, 668, 447, 102, 103, 104, 448, 449, 450, 628, 397, 398, 399, 179, 386, 313, 314, 315, 303, 298, 181, 443, 444, 445, 446, 28, 451, 452, 453, 27, 454, 455, 83, 456, 457, 458, 459, 441, 460, 316, 317, 318, 319, 82, 84, 320, 321, 222, 322, 323, 324, 325, 326, 327, 305, 306, 307, 177, 178, 328, 329, 330, 331, 332, 86, 85, 87, 333, 334, 335, 336, 337, 338, 339, 340, 341, 669, 670, 671, 672, 673, 629, 269, 270, 271, 272, 273, 661, 662, 663, 664, 105, 106, 107, 108, 109, 634, 412, 413, 170, 414, 190, 683, 684, 685, 686, 687, 546, 547, 548, 528, 167, 549, 719, 720, 721, 722, 723, 688, 689, 690, 691, 692, 693, 694, 695, 696, 702, 703, 704, 705, 706, 713, 714, 715, 726, 727, 728, 729, 730, 731, 732, 724, 725, 707, 708, 709, 710, 711, 712] (by decide +kernel) (by decide +kernel)) (goodIn_sub (fun _ h => List.mem_append_right _ h) (by decide +kernel))) (goodIn_sub (fun _ h => List.mem_append_left _ (List.mem_append_left _ (List.mem_append_right _ h))) (by decide +kernel))
theorem gL_law_L_isSound : GoodIn wsL_law (va_wsS RL 114 yL_isSound wsL_isSound) := goodIn_app (goodIn_of _ (by decide +kernel)) ggL_law_L_isSound
theorem dL_law_0 : decode cL_law 0 = .ok (.new 10, 3) := by decide +kernel
theorem dL_law_3 : decode cL_law 3 = .ok (.dup, 1) := by decide +kernel
theorem dL_law_4 : decode cL_law 4 = .ok (.invokespecial 41, 3) := by decide +kernel
theorem dL_law_7 : decode cL_law 7 = .ok (.astore_n 1, 1) := by decide +kernel
theorem dL_law_8 : decode cL_law 8 = .ok (.aload_n 1, 1) := by decide +kernel
theorem dL_law_9 : decode cL_law 9 = .ok (.iconst 2, 1) := by decide +kernel
theorem dL_law_10 : decode cL_law 10 = .ok (.aload_n 0, 1) := by decide +kernel
theorem dL_law_11 : decode cL_law 11 = .ok (.iconst 0, 1) := by decide +kernel
theorem dL_law_12 : decode cL_law 12 = .ok (.invokestatic 42, 3) := by decide +kernel
theorem dL_law_15 : decode cL_law 15 = .ok (.iconst 5, 1) := by decide +kernel
theorem dL_law_16 : decode cL_law 16 = .ok (.invokestatic 48, 3) := by decide +kernel
theorem dL_law_19 : decode cL_law 19 = .ok (.iadd, 1) := by decide +kernel
theorem dL_law_20 : decode cL_law 20 = .ok (.invokevirtual 51, 3) := by decide +kernel
theorem dL_law_23 : decode cL_law 23 = .ok (.pop, 1) := by decide +kernel
theorem dL_law_24 : decode cL_law 24 = .ok (.aload_n 1, 1) := by decide +kernel
theorem dL_law_25 : decode cL_law 25 = .ok (.iconst 2, 1) := by decide +kernel
theorem dL_law_26 : decode cL_law 26 = .ok (.aload_n 0, 1) := by decide +kernel
theorem dL_law_27 : decode cL_law 27 = .ok (.iconst 1, 1) := by decide +kernel
theorem dL_law_28 : decode cL_law 28 = .ok (.invokestatic 42, 3) := by decide +kernel
theorem dL_law_31 : decode cL_law 31 = .ok (.bipush 9, 2) := by decide +kernel
theorem dL_law_33 : decode cL_law 33 = .ok (.invokestatic 48, 3) := by decide +kernel
theorem dL_law_36 : decode cL_law 36 = .ok (.iadd, 1) := by decide +kernel
theorem dL_law_37 : decode cL_law 37 = .ok (.iconst 2, 1) := by decide +kernel
theorem dL_law_38 : decode cL_law 38 = .ok (.aload_n 0, 1) := by decide +kernel
theorem dL_law_39 : decode cL_law 39 = .ok (.iconst 1, 1) := by decide +kernel
theorem dL_law_40 : decode cL_law 40 = .ok (.invokestatic 42, 3) := by decide +kernel
theorem dL_law_43 : decode cL_law 43 = .ok (.iconst 4, 1) := by decide +kernel
theorem dL_law_44 : decode cL_law 44 = .ok (.ishr, 1) := by decide +kernel
theorem dL_law_45 : decode cL_law 45 = .ok (.iconst 4, 1) := by decide +kernel
theorem dL_law_46 : decode cL_law 46 = .ok (.invokestatic 48, 3) := by decide +kernel
theorem dL_law_49 : decode cL_law 49 = .ok (.iadd, 1) := by decide +kernel
theorem dL_law_50 : decode cL_law 50 = .ok (.invokevirtual 54, 3) := by decide +kernel
theorem dL_law_53 : decode cL_law 53 = .ok (.pop, 1) := by decide +kernel
theorem dL_law_54 : decode cL_law 54 = .ok (.aload_n 1, 1) := by decide +kernel
theorem dL_law_55 : decode cL_law 55 = .ok (.iconst 0, 1) := by decide +kernel
theorem dL_law_56 : decode cL_law 56 = .ok (.iconst 1, 1) := by decide +kernel
theorem dL_law_57 : decode cL_law 57 = .ok (.invokevirtual 57, 3) := by decide +kernel
theorem dL_law_60 : decode cL_law 60 = .ok (.pop, 1) := by decide +kernel
theorem dL_law_61 : decode cL_law 61 = .ok (.aload_n 1, 1) := by decide +kernel
theorem dL_law_62 : decode cL_law 62 = .ok (.iconst 0, 1) := by decide +kernel
theorem dL_law_63 : decode cL_law 63 = .ok (.iconst 2, 1) := by decide +kernel
theorem dL_law_64 : decode cL_law 64 = .ok (.invokevirtual 57, 3) := by decide +kernel
theorem dL_law_67 : decode cL_law 67 = .ok (.pop, 1) := by decide +kernel
theorem dL_law_68 : decode cL_law 68 = .ok (.aload_n 1, 1) := by decide +kernel
theorem dL_law_69 : decode cL_law 69 = .ok (.iconst 0, 1) := by decide +kernel
theorem dL_law_70 : decode cL_law 70 = .ok (.aload_n 0, 1) := by decide +kernel
theorem dL_law_71 : decode cL_law 71 = .ok (.iconst 2, 1) := by decide +kernel
theorem dL_law_72 : decode cL_law 72 = .ok (.invokestatic 42, 3) := by decide +kernel
theorem dL_law_75 : decode cL_law 75 = .ok (.bipush 8, 2) := by decide +kernel
theorem dL_law_77 : decode cL_law 77 = .ok (.invokestatic 48, 3) := by decide +kernel
theorem dL_law_80 : decode cL_law 80 = .ok (.iconst 1, 1) := by decide +kernel
theorem dL_law_81 : decode cL_law 81 = .ok (.aload_n 0, 1) := by decide +kernel
theorem dL_law_82 : decode cL_law 82 = .ok (.iconst 2, 1) := by decide +kernel
theorem dL_law_83 : decode cL_law 83 = .ok (.invokestatic 42, 3) := by decide +kernel
theorem dL_law_86 : decode cL_law 86 = .ok (.iconst 3, 1) := by decide +kernel
theorem dL_law_87 : decode cL_law 87 = .ok (.ishr, 1) := by decide +kernel
theorem dL_law_88 : decode cL_law 88 = .ok (.bipush 30, 2) := by decide +kernel
theorem dL_law_90 : decode cL_law 90 = .ok (.invokestatic 48, 3) := by decide +kernel
theorem dL_law_93 : decode cL_law 93 = .ok (.iadd, 1) := by decide +kernel
theorem dL_law_94 : decode cL_law 94 = .ok (.iconst 1, 1) := by decide +kernel
theorem dL_law_95 : decode cL_law 95 = .ok (.aload_n 0, 1) := by decide +kernel
theorem dL_law_96 : decode cL_law 96 = .ok (.iconst 2, 1) := by decide +kernel
theorem dL_law_97 : decode cL_law 97 = .ok (.invokestatic 42, 3) := by decide +kernel
theorem dL_law_100 : decode cL_law 100 = .ok (.bipush 6, 2) := by decide +kernel
theorem dL_law_102 : decode cL_law 102 = .ok (.ishr, 1) := by decide +kernel
theorem dL_law_103 : decode cL_law 103 = .ok (.iconst 5, 1) := by decide +kernel
theorem dL_law_104 : decode cL_law 104 = .ok (.invokestatic 48, 3) := by decide +kernel
theorem dL_law_107 : decode cL_law 107 = .ok (.iadd, 1) := by decide +kernel
theorem dL_law_108 : decode cL_law 108 = .ok (.aload_n 0, 1) := by decide +kernel
theorem dL_law_109 : decode cL_law 109 = .ok (.iconst 2, 1) := by decide +kernel
theorem dL_law_110 : decode cL_law 110 = .ok (.invokestatic 42, 3) := by decide +kernel
theorem dL_law_113 : decode cL_law 113 = .ok (.iconst 2, 1) := by decide +kernel
theorem dL_law_114 : decode cL_law 114 = .ok (.invokestatic 48, 3) := by decide +kernel
theorem dL_law_117 : decode cL_law 117 = .ok (.ifCond .ne 7, 3) := by decide +kernel
theorem dL_law_120 : decode cL_law 120 = .ok (.iconst 1, 1) := by decide +kernel
theorem dL_law_121 : decode cL_law 121 = .ok (.goto 4, 3) := by decide +kernel
theorem dL_law_124 : decode cL_law 124 = .ok (.iconst 0, 1) := by decide +kernel
theorem dL_law_125 : decode cL_law 125 = .ok (.aload_n 0, 1) := by decide +kernel
theorem dL_law_126 : decode cL_law 126 = .ok (.iconst 2, 1) := by decide +kernel
theorem dL_law_127 : decode cL_law 127 = .ok (.invokestatic 42, 3) := by decide +kernel
theorem dL_law_130 : decode cL_law 130 = .ok (.iconst 5, 1) := by decide +kernel
theorem dL_law_131 : decode cL_law 131 = .ok (.ishr, 1) := by decide +kernel
theorem dL_law_132 : decode cL_law 132 = .ok (.bipush 40, 2) := by decide +kernel
theorem dL_law_134 : decode cL_law 134 = .ok (.invokestatic 48, 3) := by decide +kernel
theorem dL_law_137 : decode cL_law 137 = .ok (.bipush 20, 2) := by decide +kernel
theorem dL_law_139 : decode cL_law 139 = .ok (.isub, 1) := by decide +kernel
theorem dL_law_140 : decode cL_law 140 = .ok (.iconst 1, 1) := by decide +kernel
theorem dL_law_141 : decode cL_law 141 = .ok (.aload_n 0, 1) := by decide +kernel
theorem dL_law_142 : decode cL_law 142 = .ok (.iconst 2, 1) := by decide +kernel
theorem dL_law_143 : decode cL_law 143 = .ok (.invokestatic 42, 3) := by decide +kernel
theorem dL_law_146 : decode cL_law 146 = .ok (.iconst 4, 1) := by decide +kernel
theorem dL_law_147 : decode cL_law 147 = .ok (.ishr, 1) := by decide +kernel
theorem dL_law_148 : decode cL_law 148 = .ok (.iconst 3, 1) := by decide +kernel
theorem dL_law_149 : decode cL_law 149 = .ok (.invokestatic 48, 3) := by decide +kernel
theorem dL_law_152 : decode cL_law 152 = .ok (.iadd, 1) := by decide +kernel
theorem dL_law_153 : decode cL_law 153 = .ok (.invokevirtual 60, 3) := by decide +kernel
theorem dL_law_156 : decode cL_law 156 = .ok (.pop, 1) := by decide +kernel
theorem dL_law_157 : decode cL_law 157 = .ok (.iconst 0, 1) := by decide +kernel
theorem dL_law_158 : decode cL_law 158 = .ok (.istore_n 2, 1) := by decide +kernel
theorem dL_law_159 : decode cL_law 159 = .ok (.iload_n 2, 1) := by decide +kernel
theorem dL_law_160 : decode cL_law 160 = .ok (.bipush 40, 2) := by decide +kernel
theorem dL_law_162 : decode cL_law 162 = .ok (.if_icmp .ge 709, 3) := by decide +kernel
theorem dL_law_165 : decode cL_law 165 = .ok (.aload_n 0, 1) := by decide +kernel
theorem dL_law_166 : decode cL_law 166 = .ok (.iload_n 2, 1) := by decide +kernel
theorem dL_law_167 : decode cL_law 167 = .ok (.bipush 16, 2) := by decide +kernel
theorem dL_law_169 : decode cL_law 169 = .ok (.irem, 1) := by decide +kernel
theorem dL_law_170 : decode cL_law 170 = .ok (.invokestatic 42, 3) := by decide +kernel
theorem dL_law_173 : decode cL_law 173 = .ok (.iload_n 2, 1) := by decide +kernel
theorem dL_law_174 : decode cL_law 174 = .ok (.bipush 16, 2) := by decide +kernel
theorem dL_law_176 : decode cL_law 176 = .ok (.idiv, 1) := by decide +kernel
theorem dL_law_177 : decode cL_law 177 = .ok (.iconst 4, 1) := by decide +kernel
theorem dL_law_178 : decode cL_law 178 = .ok (.imul, 1) := by decide +kernel
theorem dL_law_179 : decode cL_law 179 = .ok (.ishr, 1) := by decide +kernel
theorem dL_law_180 : decode cL_law 180 = .ok (.iconst 3, 1) := by decide +kernel
theorem dL_law_181 : decode cL_law 181 = .ok (.iload_n 2, 1) := by decide +kernel
theorem dL_law_182 : decode cL_law 182 = .ok (.imul, 1) := by decide +kernel
theorem dL_law_183 : decode cL_law 183 = .ok (.iadd, 1) := by decide +kernel
theorem dL_law_184 : decode cL_law 184 = .ok (.istore_n 3, 1) := by decide +kernel
theorem dL_law_185 : decode cL_law 185 = .ok (.iload_n 3, 1) := by decide +kernel
theorem dL_law_186 : decode cL_law 186 = .ok (.iconst 1, 1) := by decide +kernel
theorem dL_law_187 : decode cL_law 187 = .ok (.ishr, 1) := by decide +kernel
theorem dL_law_188 : decode cL_law 188 = .ok (.iconst 2, 1) := by decide +kernel
theorem dL_law_189 : decode cL_law 189 = .ok (.invokestatic 48, 3) := by decide +kernel
theorem dL_law_192 : decode cL_law 192 = .ok (.istore 4, 2) := by decide +kernel
theorem dL_law_194 : decode cL_law 194 = .ok (.iload_n 3, 1) := by decide +kernel
theorem dL_law_195 : decode cL_law 195 = .ok (.iconst 5, 1) := by decide +kernel
theorem dL_law_196 : decode cL_law 196 = .ok (.invokestatic 48, 3) := by decide +kernel
theorem dL_law_199 : decode cL_law 199 = .ok (.istore 5, 2) := by decide +kernel
theorem dL_law_201 : decode cL_law 201 = .ok (.iload 5, 2) := by decide +kernel
theorem dL_law_203 : decode cL_law 203 = .ok (.iconst 2, 1) := by decide +kernel
theorem dL_law_204 : decode cL_law 204 = .ok (.if_icmp .ge 164, 3) := by decide +kernel
theorem dL_law_207 : decode cL_law 207 = .ok (.iconst 0, 1) := by decide +kernel
theorem dL_law_208 : decode cL_law 208 = .ok (.aload_n 1, 1) := by decide +kernel
theorem dL_law_209 : decode cL_law 209 = .ok (.invokevirtual 30, 3) := by decide +kernel
theorem dL_law_212 : decode cL_law 212 = .ok (.iload_n 3, 1) := by decide +kernel
theorem dL_law_213 : decode cL_law 213 = .ok (.iconst 3, 1) := by decide +kernel
theorem dL_law_214 : decode cL_law 214 = .ok (.ishr, 1) := by decide +kernel
theorem dL_law_215 : decode cL_law 215 = .ok (.bipush 9, 2) := by decide +kernel
theorem dL_law_217 : decode cL_law 217 = .ok (.invokestatic 48, 3) := by decide +kernel
theorem dL_law_220 : decode cL_law 220 = .ok (.isub, 1) := by decide +kernel
theorem dL_law_221 : decode cL_law 221 = .ok (.invokestatic 64, 3) := by decide +kernel
theorem dL_law_224 : decode cL_law 224 = .ok (.istore 6, 2) := by decide +kernel
theorem dL_law_226 : decode cL_law 226 = .ok (.iload_n 3, 1) := by decide +kernel
theorem dL_law_227 : decode cL_law 227 = .ok (.iconst 2, 1) := by decide +kernel
theorem dL_law_228 : decode cL_law 228 = .ok (.ishr, 1) := by decide +kernel
theorem dL_law_229 : decode cL_law 229 = .ok (.bipush 60, 2) := by decide +kernel
theorem dL_law_231 : decode cL_law 231 = .ok (.invokestatic 48, 3) := by decide +kernel
theorem dL_law_234 : decode cL_law 234 = .ok (.bipush 30, 2) := by decide +kernel
theorem dL_law_236 : decode cL_law 236 = .ok (.isub, 1) := by decide +kernel
theorem dL_law_237 : decode cL_law 237 = .ok (.istore 7, 2) := by decide +kernel
theorem dL_law_239 : decode cL_law 239 = .ok (.aload_n 1, 1) := by decide +kernel
theorem dL_law_240 : decode cL_law 240 = .ok (.iload 4, 2) := by decide +kernel
theorem dL_law_242 : decode cL_law 242 = .ok (.iload 6, 2) := by decide +kernel
theorem dL_law_244 : decode cL_law 244 = .ok (.iload 7, 2) := by decide +kernel
theorem dL_law_246 : decode cL_law 246 = .ok (.invokevirtual 69, 3) := by decide +kernel
theorem dL_law_249 : decode cL_law 249 = .ok (.istore 8, 2) := by decide +kernel
theorem dL_law_251 : decode cL_law 251 = .ok (.aload_n 1, 1) := by decide +kernel
theorem dL_law_252 : decode cL_law 252 = .ok (.iload 4, 2) := by decide +kernel
theorem dL_law_254 : decode cL_law 254 = .ok (.invokevirtual 9, 3) := by decide +kernel
theorem dL_law_257 : decode cL_law 257 = .ok (.istore 9, 2) := by decide +kernel
theorem dL_law_259 : decode cL_law 259 = .ok (.aload_n 1, 1) := by decide +kernel
theorem dL_law_260 : decode cL_law 260 = .ok (.invokevirtual 73, 3) := by decide +kernel
theorem dL_law_263 : decode cL_law 263 = .ok (.istore 10, 2) := by decide +kernel
theorem dL_law_265 : decode cL_law 265 = .ok (.aload_n 1, 1) := by decide +kernel
theorem dL_law_266 : decode cL_law 266 = .ok (.iload 4, 2) := by decide +kernel
theorem dL_law_268 : decode cL_law 268 = .ok (.iload 6, 2) := by decide +kernel
theorem dL_law_270 : decode cL_law 270 = .ok (.iload 7, 2) := by decide +kernel
theorem dL_law_272 : decode cL_law 272 = .ok (.invokevirtual 76, 3) := by decide +kernel
theorem dL_law_275 : decode cL_law 275 = .ok (.istore 11, 2) := by decide +kernel
theorem dL_law_277 : decode cL_law 277 = .ok (.iload 11, 2) := by decide +kernel
theorem dL_law_279 : decode cL_law 279 = .ok (.iconst (-1), 1) := by decide +kernel
theorem dL_law_280 : decode cL_law 280 = .ok (.if_icmp .ne 7, 3) := by decide +kernel
theorem dL_law_283 : decode cL_law 283 = .ok (.iconst 1, 1) := by decide +kernel
theorem dL_law_284 : decode cL_law 284 = .ok (.goto 4, 3) := by decide +kernel
theorem dL_law_287 : decode cL_law 287 = .ok (.iconst 0, 1) := by decide +kernel
theorem dL_law_288 : decode cL_law 288 = .ok (.iload 8, 2) := by decide +kernel
theorem dL_law_290 : decode cL_law 290 = .ok (.iconst (-1), 1) := by decide +kernel
theorem dL_law_291 : decode cL_law 291 = .ok (.if_icmp .ne 7, 3) := by decide +kernel
theorem dL_law_294 : decode cL_law 294 = .ok (.iconst 1, 1) := by decide +kernel
theorem dL_law_295 : decode cL_law 295 = .ok (.goto 4, 3) := by decide +kernel
theorem dL_law_298 : decode cL_law 298 = .ok (.iconst 0, 1) := by decide +kernel
theorem dL_law_299 : decode cL_law 299 = .ok (.if_icmp .ne 64, 3) := by decide +kernel
theorem dL_law_302 : decode cL_law 302 = .ok (.aload_n 1, 1) := by decide +kernel
theorem dL_law_303 : decode cL_law 303 = .ok (.invokevirtual 73, 3) := by decide +kernel
theorem dL_law_306 : decode cL_law 306 = .ok (.iload 10, 2) := by decide +kernel
theorem dL_law_308 : decode cL_law 308 = .ok (.iload 11, 2) := by decide +kernel
theorem dL_law_310 : decode cL_law 310 = .ok (.iconst (-1), 1) := by decide +kernel
theorem dL_law_311 : decode cL_law 311 = .ok (.if_icmp .ne 7, 3) := by decide +kernel
theorem dL_law_314 : decode cL_law 314 = .ok (.iconst 1, 1) := by decide +kernel
theorem dL_law_315 : decode cL_law 315 = .ok (.goto 4, 3) := by decide +kernel
theorem dL_law_318 : decode cL_law 318 = .ok (.iconst 0, 1) := by decide +kernel
theorem dL_law_319 : decode cL_law 319 = .ok (.iadd, 1) := by decide +kernel
theorem dL_law_320 : decode cL_law 320 = .ok (.if_icmp .ne 43, 3) := by decide +kernel
theorem dL_law_323 : decode cL_law 323 = .ok (.iload 11, 2) := by decide +kernel
theorem dL_law_325 : decode cL_law 325 = .ok (.ifCond .ne 22, 3) := by decide +kernel
theorem dL_law_328 : decode cL_law 328 = .ok (.aload_n 1, 1) := by decide +kernel
theorem dL_law_329 : decode cL_law 329 = .ok (.iload 4, 2) := by decide +kernel
theorem dL_law_331 : decode cL_law 331 = .ok (.aload_n 1, 1) := by decide +kernel
theorem dL_law_332 : decode cL_law 332 = .ok (.iload 4, 2) := by decide +kernel
theorem dL_law_334 : decode cL_law 334 = .ok (.invokevirtual 9, 3) := by decide +kernel
theorem dL_law_337 : decode cL_law 337 = .ok (.iconst 2, 1) := by decide +kernel
theorem dL_law_338 : decode cL_law 338 = .ok (.isub, 1) := by decide +kernel
theorem dL_law_339 : decode cL_law 339 = .ok (.invokevirtual 23, 3) := by decide +kernel
theorem dL_law_342 : decode cL_law 342 = .ok (.iload 8, 2) := by decide +kernel
theorem dL_law_344 : decode cL_law 344 = .ok (.if_icmp .ne 19, 3) := by decide +kernel
theorem dL_law_347 : decode cL_law 347 = .ok (.iload 11, 2) := by decide +kernel
theorem dL_law_349 : decode cL_law 349 = .ok (.ifCond .le 16, 3) := by decide +kernel
theorem dL_law_352 : decode cL_law 352 = .ok (.aload_n 1, 1) := by decide +kernel
theorem dL_law_353 : decode cL_law 353 = .ok (.iload 4, 2) := by decide +kernel
theorem dL_law_355 : decode cL_law 355 = .ok (.invokevirtual 9, 3) := by decide +kernel
theorem dL_law_358 : decode cL_law 358 = .ok (.iload 9, 2) := by decide +kernel
theorem dL_law_360 : decode cL_law 360 = .ok (.if_icmp .eq 5, 3) := by decide +kernel
theorem dL_law_363 : decode cL_law 363 = .ok (.iconst 0, 1) := by decide +kernel
theorem dL_law_364 : decode cL_law 364 = .ok (.ireturn, 1) := by decide +kernel
theorem dL_law_365 : decode cL_law 365 = .ok (.goto 180, 3) := by decide +kernel
theorem dL_law_368 : decode cL_law 368 = .ok (.iload 5, 2) := by decide +kernel
theorem dL_law_370 : decode cL_law 370 = .ok (.iconst 2, 1) := by decide +kernel
theorem dL_law_371 : decode cL_law 371 = .ok (.if_icmp .ne 27, 3) := by decide +kernel
theorem dL_law_374 : decode cL_law 374 = .ok (.aload_n 1, 1) := by decide +kernel
theorem dL_law_375 : decode cL_law 375 = .ok (.iload_n 3, 1) := by decide +kernel
theorem dL_law_376 : decode cL_law 376 = .ok (.iconst 3, 1) := by decide +kernel
theorem dL_law_377 : decode cL_law 377 = .ok (.ishr, 1) := by decide +kernel
theorem dL_law_378 : decode cL_law 378 = .ok (.bipush 60, 2) := by decide +kernel
theorem dL_law_380 : decode cL_law 380 = .ok (.invokestatic 48, 3) := by decide +kernel
theorem dL_law_383 : decode cL_law 383 = .ok (.iload_n 3, 1) := by decide +kernel
theorem dL_law_384 : decode cL_law 384 = .ok (.iconst 5, 1) := by decide +kernel
theorem dL_law_385 : decode cL_law 385 = .ok (.ishr, 1) := by decide +kernel
theorem dL_law_386 : decode cL_law 386 = .ok (.bipush 90, 2) := by decide +kernel
theorem dL_law_388 : decode cL_law 388 = .ok (.invokestatic 48, 3) := by decide +kernel
theorem dL_law_391 : decode cL_law 391 = .ok (.invokevirtual 79, 3) := by decide +kernel
theorem dL_law_394 : decode cL_law 394 = .ok (.pop, 1) := by decide +kernel
theorem dL_law_395 : decode cL_law 395 = .ok (.goto 150, 3) := by decide +kernel
theorem dL_law_398 : decode cL_law 398 = .ok (.iload_n 3, 1) := by decide +kernel
theorem dL_law_399 : decode cL_law 399 = .ok (.iconst 4, 1) := by decide +kernel
theorem dL_law_400 : decode cL_law 400 = .ok (.ishr, 1) := by decide +kernel
theorem dL_law_401 : decode cL_law 401 = .ok (.bipush 60, 2) := by decide +kernel
theorem dL_law_403 : decode cL_law 403 = .ok (.invokestatic 48, 3) := by decide +kernel
theorem dL_law_406 : decode cL_law 406 = .ok (.istore 6, 2) := by decide +kernel
theorem dL_law_408 : decode cL_law 408 = .ok (.aload_n 1, 1) := by decide +kernel
theorem dL_law_409 : decode cL_law 409 = .ok (.iload 6, 2) := by decide +kernel
theorem dL_law_411 : decode cL_law 411 = .ok (.invokevirtual 82, 3) := by decide +kernel
theorem dL_law_414 : decode cL_law 414 = .ok (.istore 7, 2) := by decide +kernel
theorem dL_law_416 : decode cL_law 416 = .ok (.aload_n 1, 1) := by decide +kernel
theorem dL_law_417 : decode cL_law 417 = .ok (.invokevirtual 85, 3) := by decide +kernel
theorem dL_law_420 : decode cL_law 420 = .ok (.istore 8, 2) := by decide +kernel
theorem dL_law_422 : decode cL_law 422 = .ok (.aload_n 1, 1) := by decide +kernel
theorem dL_law_423 : decode cL_law 423 = .ok (.iload 6, 2) := by decide +kernel
theorem dL_law_425 : decode cL_law 425 = .ok (.iconst 0, 1) := by decide +kernel
theorem dL_law_426 : decode cL_law 426 = .ok (.invokevirtual 79, 3) := by decide +kernel
theorem dL_law_429 : decode cL_law 429 = .ok (.pop, 1) := by decide +kernel
theorem dL_law_430 : decode cL_law 430 = .ok (.aload_n 1, 1) := by decide +kernel
theorem dL_law_431 : decode cL_law 431 = .ok (.iconst 1, 1) := by decide +kernel
theorem dL_law_432 : decode cL_law 432 = .ok (.invokevirtual 88, 3) := by decide +kernel
theorem dL_law_435 : decode cL_law 435 = .ok (.istore 9, 2) := by decide +kernel
theorem dL_law_437 : decode cL_law 437 = .ok (.aload_n 1, 1) := by decide +kernel
theorem dL_law_438 : decode cL_law 438 = .ok (.iconst 0, 1) := by decide +kernel
theorem dL_law_439 : decode cL_law 439 = .ok (.invokevirtual 9, 3) := by decide +kernel
theorem dL_law_442 : decode cL_law 442 = .ok (.aload_n 1, 1) := by decide +kernel
theorem dL_law_443 : decode cL_law 443 = .ok (.iconst 1, 1) := by decide +kernel
theorem dL_law_444 : decode cL_law 444 = .ok (.invokevirtual 9, 3) := by decide +kernel
theorem dL_law_447 : decode cL_law 447 = .ok (.iadd, 1) := by decide +kernel
theorem dL_law_448 : decode cL_law 448 = .ok (.istore 10, 2) := by decide +kernel
theorem dL_law_450 : decode cL_law 450 = .ok (.aload_n 1, 1) := by decide +kernel
theorem dL_law_451 : decode cL_law 451 = .ok (.iconst 1, 1) := by decide +kernel
theorem dL_law_452 : decode cL_law 452 = .ok (.invokevirtual 91, 3) := by decide +kernel
theorem dL_law_455 : decode cL_law 455 = .ok (.istore 11, 2) := by decide +kernel
theorem dL_law_457 : decode cL_law 457 = .ok (.aload_n 1, 1) := by decide +kernel
theorem dL_law_458 : decode cL_law 458 = .ok (.iconst 0, 1) := by decide +kernel
theorem dL_law_459 : decode cL_law 459 = .ok (.invokevirtual 9, 3) := by decide +kernel
theorem dL_law_462 : decode cL_law 462 = .ok (.aload_n 1, 1) := by decide +kernel
theorem dL_law_463 : decode cL_law 463 = .ok (.iconst 1, 1) := by decide +kernel
theorem dL_law_464 : decode cL_law 464 = .ok (.invokevirtual 9, 3) := by decide +kernel
theorem dL_law_467 : decode cL_law 467 = .ok (.iadd, 1) := by decide +kernel
theorem dL_law_468 : decode cL_law 468 = .ok (.iload 10, 2) := by decide +kernel
theorem dL_law_470 : decode cL_law 470 = .ok (.iload 7, 2) := by decide +kernel
theorem dL_law_472 : decode cL_law 472 = .ok (.isub, 1) := by decide +kernel
theorem dL_law_473 : decode cL_law 473 = .ok (.if_icmp .ne 49, 3) := by decide +kernel
theorem dL_law_476 : decode cL_law 476 = .ok (.aload_n 1, 1) := by decide +kernel
theorem dL_law_477 : decode cL_law 477 = .ok (.invokevirtual 85, 3) := by decide +kernel
theorem dL_law_480 : decode cL_law 480 = .ok (.iload 8, 2) := by decide +kernel
theorem dL_law_482 : decode cL_law 482 = .ok (.iload 11, 2) := by decide +kernel
theorem dL_law_484 : decode cL_law 484 = .ok (.iadd, 1) := by decide +kernel
theorem dL_law_485 : decode cL_law 485 = .ok (.if_icmp .ne 37, 3) := by decide +kernel
theorem dL_law_488 : decode cL_law 488 = .ok (.iload 9, 2) := by decide +kernel
theorem dL_law_490 : decode cL_law 490 = .ok (.iconst 1, 1) := by decide +kernel
theorem dL_law_491 : decode cL_law 491 = .ok (.if_icmp .ne 7, 3) := by decide +kernel
theorem dL_law_494 : decode cL_law 494 = .ok (.iconst 1, 1) := by decide +kernel
theorem dL_law_495 : decode cL_law 495 = .ok (.goto 4, 3) := by decide +kernel
theorem dL_law_498 : decode cL_law 498 = .ok (.iconst 0, 1) := by decide +kernel
theorem dL_law_499 : decode cL_law 499 = .ok (.iload 11, 2) := by decide +kernel
theorem dL_law_501 : decode cL_law 501 = .ok (.ifCond .le 17, 3) := by decide +kernel
theorem dL_law_504 : decode cL_law 504 = .ok (.aload_n 1, 1) := by decide +kernel
theorem dL_law_505 : decode cL_law 505 = .ok (.iconst 0, 1) := by decide +kernel
theorem dL_law_506 : decode cL_law 506 = .ok (.iconst 2, 1) := by decide +kernel
theorem dL_law_507 : decode cL_law 507 = .ok (.invokevirtual 94, 3) := by decide +kernel
theorem dL_law_510 : decode cL_law 510 = .ok (.iconst 2, 1) := by decide +kernel
theorem dL_law_511 : decode cL_law 511 = .ok (.if_icmp .ne 7, 3) := by decide +kernel
theorem dL_law_514 : decode cL_law 514 = .ok (.iconst 1, 1) := by decide +kernel
theorem dL_law_515 : decode cL_law 515 = .ok (.goto 4, 3) := by decide +kernel
theorem dL_law_518 : decode cL_law 518 = .ok (.iconst 0, 1) := by decide +kernel
theorem dL_law_519 : decode cL_law 519 = .ok (.if_icmp .eq 5, 3) := by decide +kernel
theorem dL_law_522 : decode cL_law 522 = .ok (.iconst 0, 1) := by decide +kernel
theorem dL_law_523 : decode cL_law 523 = .ok (.ireturn, 1) := by decide +kernel
theorem dL_law_524 : decode cL_law 524 = .ok (.iload 5, 2) := by decide +kernel
theorem dL_law_526 : decode cL_law 526 = .ok (.iconst 4, 1) := by decide +kernel
theorem dL_law_527 : decode cL_law 527 = .ok (.if_icmp .ne 18, 3) := by decide +kernel
theorem dL_law_530 : decode cL_law 530 = .ok (.aload_n 1, 1) := by decide +kernel
theorem dL_law_531 : decode cL_law 531 = .ok (.iconst 1, 1) := by decide +kernel
theorem dL_law_532 : decode cL_law 532 = .ok (.iload_n 3, 1) := by decide +kernel
theorem dL_law_533 : decode cL_law 533 = .ok (.iconst 3, 1) := by decide +kernel
theorem dL_law_534 : decode cL_law 534 = .ok (.ishr, 1) := by decide +kernel
theorem dL_law_535 : decode cL_law 535 = .ok (.bipush 12, 2) := by decide +kernel
theorem dL_law_537 : decode cL_law 537 = .ok (.invokestatic 48, 3) := by decide +kernel
theorem dL_law_540 : decode cL_law 540 = .ok (.iadd, 1) := by decide +kernel
theorem dL_law_541 : decode cL_law 541 = .ok (.invokevirtual 91, 3) := by decide +kernel
theorem dL_law_544 : decode cL_law 544 = .ok (.pop, 1) := by decide +kernel
theorem dL_law_545 : decode cL_law 545 = .ok (.aload_n 1, 1) := by decide +kernel
theorem dL_law_546 : decode cL_law 546 = .ok (.invokevirtual 97, 3) := by decide +kernel
theorem dL_law_549 : decode cL_law 549 = .ok (.lstore 6, 2) := by decide +kernel
theorem dL_law_551 : decode cL_law 551 = .ok (.iconst 0, 1) := by decide +kernel
theorem dL_law_552 : decode cL_law 552 = .ok (.istore 8, 2) := by decide +kernel
theorem dL_law_554 : decode cL_law 554 = .ok (.iconst 1, 1) := by decide +kernel
theorem dL_law_555 : decode cL_law 555 = .ok (.iload_n 3, 1) := by decide +kernel
theorem dL_law_556 : decode cL_law 556 = .ok (.iconst 4, 1) := by decide +kernel
theorem dL_law_557 : decode cL_law 557 = .ok (.ishr, 1) := by decide +kernel
theorem dL_law_558 : decode cL_law 558 = .ok (.bipush 40, 2) := by decide +kernel
theorem dL_law_560 : decode cL_law 560 = .ok (.invokestatic 48, 3) := by decide +kernel
theorem dL_law_563 : decode cL_law 563 = .ok (.iadd, 1) := by decide +kernel
theorem dL_law_564 : decode cL_law 564 = .ok (.istore 9, 2) := by decide +kernel
theorem dL_law_566 : decode cL_law 566 = .ok (.aload_n 1, 1) := by decide +kernel
theorem dL_law_567 : decode cL_law 567 = .ok (.invokevirtual 30, 3) := by decide +kernel
theorem dL_law_570 : decode cL_law 570 = .ok (.iload 9, 2) := by decide +kernel
theorem dL_law_572 : decode cL_law 572 = .ok (.idiv, 1) := by decide +kernel
theorem dL_law_573 : decode cL_law 573 = .ok (.istore 10, 2) := by decide +kernel
theorem dL_law_575 : decode cL_law 575 = .ok (.aload_n 1, 1) := by decide +kernel
theorem dL_law_576 : decode cL_law 576 = .ok (.iconst 0, 1) := by decide +kernel
theorem dL_law_577 : decode cL_law 577 = .ok (.iload 9, 2) := by decide +kernel
theorem dL_law_579 : decode cL_law 579 = .ok (.iconst 0, 1) := by decide +kernel
theorem dL_law_580 : decode cL_law 580 = .ok (.iconst 0, 1) := by decide +kernel
theorem dL_law_581 : decode cL_law 581 = .ok (.invokevirtual 101, 3) := by decide +kernel
theorem dL_law_584 : decode cL_law 584 = .ok (.pop, 1) := by decide +kernel
theorem dL_law_585 : decode cL_law 585 = .ok (.iconst 0, 1) := by decide +kernel
theorem dL_law_586 : decode cL_law 586 = .ok (.istore 11, 2) := by decide +kernel
theorem dL_law_588 : decode cL_law 588 = .ok (.iload 11, 2) := by decide +kernel
theorem dL_law_590 : decode cL_law 590 = .ok (.iload 10, 2) := by decide +kernel
theorem dL_law_592 : decode cL_law 592 = .ok (.bipush 60, 2) := by decide +kernel
theorem dL_law_594 : decode cL_law 594 = .ok (.invokestatic 105, 3) := by decide +kernel
theorem dL_law_597 : decode cL_law 597 = .ok (.if_icmp .gt 22, 3) := by decide +kernel
theorem dL_law_600 : decode cL_law 600 = .ok (.iload 8, 2) := by decide +kernel
theorem dL_law_602 : decode cL_law 602 = .ok (.aload_n 1, 1) := by decide +kernel
theorem dL_law_603 : decode cL_law 603 = .ok (.iload 4, 2) := by decide +kernel
theorem dL_law_605 : decode cL_law 605 = .ok (.iload 11, 2) := by decide +kernel
theorem dL_law_607 : decode cL_law 607 = .ok (.invokevirtual 108, 3) := by decide +kernel
theorem dL_law_610 : decode cL_law 610 = .ok (.iadd, 1) := by decide +kernel
theorem dL_law_611 : decode cL_law 611 = .ok (.istore 8, 2) := by decide +kernel
theorem dL_law_613 : decode cL_law 613 = .ok (.iinc 11 1, 3) := by decide +kernel
theorem dL_law_616 : decode cL_law 616 = .ok (.goto (-28), 3) := by decide +kernel
theorem dL_law_619 : decode cL_law 619 = .ok (.iconst 0, 1) := by decide +kernel
theorem dL_law_620 : decode cL_law 620 = .ok (.istore 11, 2) := by decide +kernel
theorem dL_law_622 : decode cL_law 622 = .ok (.iconst 0, 1) := by decide +kernel
theorem dL_law_623 : decode cL_law 623 = .ok (.istore 12, 2) := by decide +kernel
theorem dL_law_625 : decode cL_law 625 = .ok (.iload 12, 2) := by decide +kernel
theorem dL_law_627 : decode cL_law 627 = .ok (.iconst 2, 1) := by decide +kernel
theorem dL_law_628 : decode cL_law 628 = .ok (.if_icmp .ge 104, 3) := by decide +kernel
theorem dL_law_631 : decode cL_law 631 = .ok (.iconst 0, 1) := by decide +kernel
theorem dL_law_632 : decode cL_law 632 = .ok (.istore 13, 2) := by decide +kernel
theorem dL_law_634 : decode cL_law 634 = .ok (.iload 13, 2) := by decide +kernel
theorem dL_law_636 : decode cL_law 636 = .ok (.aload_n 1, 1) := by decide +kernel
theorem dL_law_637 : decode cL_law 637 = .ok (.iload 4, 2) := by decide +kernel
theorem dL_law_639 : decode cL_law 639 = .ok (.iload 12, 2) := by decide +kernel
theorem dL_law_641 : decode cL_law 641 = .ok (.iconst 1, 1) := by decide +kernel
theorem dL_law_642 : decode cL_law 642 = .ok (.if_icmp .ne 7, 3) := by decide +kernel
theorem dL_law_645 : decode cL_law 645 = .ok (.iconst 1, 1) := by decide +kernel
theorem dL_law_646 : decode cL_law 646 = .ok (.goto 4, 3) := by decide +kernel
theorem dL_law_649 : decode cL_law 649 = .ok (.iconst 0, 1) := by decide +kernel
theorem dL_law_650 : decode cL_law 650 = .ok (.invokevirtual 15, 3) := by decide +kernel
theorem dL_law_653 : decode cL_law 653 = .ok (.if_icmp .ge 73, 3) := by decide +kernel
theorem dL_law_656 : decode cL_law 656 = .ok (.iload 11, 2) := by decide +kernel
theorem dL_law_658 : decode cL_law 658 = .ok (.aload_n 1, 1) := by decide +kernel
theorem dL_law_659 : decode cL_law 659 = .ok (.iload 4, 2) := by decide +kernel
theorem dL_law_661 : decode cL_law 661 = .ok (.iload 12, 2) := by decide +kernel
theorem dL_law_663 : decode cL_law 663 = .ok (.iconst 1, 1) := by decide +kernel
theorem dL_law_664 : decode cL_law 664 = .ok (.if_icmp .ne 7, 3) := by decide +kernel
theorem dL_law_667 : decode cL_law 667 = .ok (.iconst 1, 1) := by decide +kernel
theorem dL_law_668 : decode cL_law 668 = .ok (.goto 4, 3) := by decide +kernel
theorem dL_law_671 : decode cL_law 671 = .ok (.iconst 0, 1) := by decide +kernel
theorem dL_law_672 : decode cL_law 672 = .ok (.iload 13, 2) := by decide +kernel
theorem dL_law_674 : decode cL_law 674 = .ok (.iconst 0, 1) := by decide +kernel
theorem dL_law_675 : decode cL_law 675 = .ok (.invokevirtual 34, 3) := by decide +kernel
theorem dL_law_678 : decode cL_law 678 = .ok (.iload 10, 2) := by decide +kernel
theorem dL_law_680 : decode cL_law 680 = .ok (.bipush 60, 2) := by decide +kernel
theorem dL_law_682 : decode cL_law 682 = .ok (.invokestatic 105, 3) := by decide +kernel
theorem dL_law_685 : decode cL_law 685 = .ok (.iconst 1, 1) := by decide +kernel
theorem dL_law_686 : decode cL_law 686 = .ok (.iadd, 1) := by decide +kernel
theorem dL_law_687 : decode cL_law 687 = .ok (.iload 9, 2) := by decide +kernel
theorem dL_law_689 : decode cL_law 689 = .ok (.imul, 1) := by decide +kernel
theorem dL_law_690 : decode cL_law 690 = .ok (.if_icmp .ge 26, 3) := by decide +kernel
theorem dL_law_693 : decode cL_law 693 = .ok (.aload_n 1, 1) := by decide +kernel
theorem dL_law_694 : decode cL_law 694 = .ok (.iload 4, 2) := by decide +kernel
theorem dL_law_696 : decode cL_law 696 = .ok (.iload 12, 2) := by decide +kernel
theorem dL_law_698 : decode cL_law 698 = .ok (.iconst 1, 1) := by decide +kernel
theorem dL_law_699 : decode cL_law 699 = .ok (.if_icmp .ne 7, 3) := by decide +kernel
theorem dL_law_702 : decode cL_law 702 = .ok (.iconst 1, 1) := by decide +kernel
theorem dL_law_703 : decode cL_law 703 = .ok (.goto 4, 3) := by decide +kernel
theorem dL_law_706 : decode cL_law 706 = .ok (.iconst 0, 1) := by decide +kernel
theorem dL_law_707 : decode cL_law 707 = .ok (.iload 13, 2) := by decide +kernel
theorem dL_law_709 : decode cL_law 709 = .ok (.iconst 1, 1) := by decide +kernel
theorem dL_law_710 : decode cL_law 710 = .ok (.invokevirtual 34, 3) := by decide +kernel
theorem dL_law_713 : decode cL_law 713 = .ok (.goto 4, 3) := by decide +kernel
theorem dL_law_716 : decode cL_law 716 = .ok (.iconst 0, 1) := by decide +kernel
theorem dL_law_717 : decode cL_law 717 = .ok (.iadd, 1) := by decide +kernel
theorem dL_law_718 : decode cL_law 718 = .ok (.istore 11, 2) := by decide +kernel
theorem dL_law_720 : decode cL_law 720 = .ok (.iinc 13 1, 3) := by decide +kernel
theorem dL_law_723 : decode cL_law 723 = .ok (.goto (-89), 3) := by decide +kernel
theorem dL_law_726 : decode cL_law 726 = .ok (.iinc 12 1, 3) := by decide +kernel
theorem dL_law_729 : decode cL_law 729 = .ok (.goto (-104), 3) := by decide +kernel
theorem dL_law_732 : decode cL_law 732 = .ok (.iconst 0, 1) := by decide +kernel
theorem dL_law_733 : decode cL_law 733 = .ok (.istore 12, 2) := by decide +kernel
theorem dL_law_735 : decode cL_law 735 = .ok (.iload 12, 2) := by decide +kernel
theorem dL_law_737 : decode cL_law 737 = .ok (.aload_n 1, 1) := by decide +kernel
theorem dL_law_738 : decode cL_law 738 = .ok (.iload 4, 2) := by decide +kernel
theorem dL_law_740 : decode cL_law 740 = .ok (.invokevirtual 9, 3) := by decide +kernel
theorem dL_law_743 : decode cL_law 743 = .ok (.if_icmp .ge 67, 3) := by decide +kernel
theorem dL_law_746 : decode cL_law 746 = .ok (.iconst 0, 1) := by decide +kernel
theorem dL_law_747 : decode cL_law 747 = .ok (.istore 13, 2) := by decide +kernel
theorem dL_law_749 : decode cL_law 749 = .ok (.iload 13, 2) := by decide +kernel
theorem dL_law_751 : decode cL_law 751 = .ok (.aload_n 1, 1) := by decide +kernel
theorem dL_law_752 : decode cL_law 752 = .ok (.iload 4, 2) := by decide +kernel
theorem dL_law_754 : decode cL_law 754 = .ok (.iload 12, 2) := by decide +kernel
theorem dL_law_756 : decode cL_law 756 = .ok (.invokevirtual 19, 3) := by decide +kernel
theorem dL_law_759 : decode cL_law 759 = .ok (.if_icmp .ge 45, 3) := by decide +kernel
theorem dL_law_762 : decode cL_law 762 = .ok (.iload 11, 2) := by decide +kernel
theorem dL_law_764 : decode cL_law 764 = .ok (.aload_n 1, 1) := by decide +kernel
theorem dL_law_765 : decode cL_law 765 = .ok (.iload 4, 2) := by decide +kernel
theorem dL_law_767 : decode cL_law 767 = .ok (.iload 12, 2) := by decide +kernel
theorem dL_law_769 : decode cL_law 769 = .ok (.iload 13, 2) := by decide +kernel
theorem dL_law_771 : decode cL_law 771 = .ok (.iconst 0, 1) := by decide +kernel
theorem dL_law_772 : decode cL_law 772 = .ok (.invokevirtual 26, 3) := by decide +kernel
theorem dL_law_775 : decode cL_law 775 = .ok (.iload 10, 2) := by decide +kernel
theorem dL_law_777 : decode cL_law 777 = .ok (.bipush 60, 2) := by decide +kernel
theorem dL_law_779 : decode cL_law 779 = .ok (.invokestatic 105, 3) := by decide +kernel
theorem dL_law_782 : decode cL_law 782 = .ok (.iconst 1, 1) := by decide +kernel
theorem dL_law_783 : decode cL_law 783 = .ok (.iadd, 1) := by decide +kernel
theorem dL_law_784 : decode cL_law 784 = .ok (.iload 9, 2) := by decide +kernel
theorem dL_law_786 : decode cL_law 786 = .ok (.imul, 1) := by decide +kernel
theorem dL_law_787 : decode cL_law 787 = .ok (.if_icmp .ge 7, 3) := by decide +kernel
theorem dL_law_790 : decode cL_law 790 = .ok (.iconst 1, 1) := by decide +kernel
theorem dL_law_791 : decode cL_law 791 = .ok (.goto 4, 3) := by decide +kernel
theorem dL_law_794 : decode cL_law 794 = .ok (.iconst 0, 1) := by decide +kernel
theorem dL_law_795 : decode cL_law 795 = .ok (.iadd, 1) := by decide +kernel
theorem dL_law_796 : decode cL_law 796 = .ok (.istore 11, 2) := by decide +kernel
theorem dL_law_798 : decode cL_law 798 = .ok (.iinc 13 1, 3) := by decide +kernel
theorem dL_law_801 : decode cL_law 801 = .ok (.goto (-52), 3) := by decide +kernel
theorem dL_law_804 : decode cL_law 804 = .ok (.iinc 12 1, 3) := by decide +kernel
theorem dL_law_807 : decode cL_law 807 = .ok (.goto (-72), 3) := by decide +kernel
theorem dL_law_810 : decode cL_law 810 = .ok (.aload_n 1, 1) := by decide +kernel
theorem dL_law_811 : decode cL_law 811 = .ok (.iconst 0, 1) := by decide +kernel
theorem dL_law_812 : decode cL_law 812 = .ok (.bipush 10, 2) := by decide +kernel
theorem dL_law_814 : decode cL_law 814 = .ok (.iconst 1, 1) := by decide +kernel
theorem dL_law_815 : decode cL_law 815 = .ok (.iconst 0, 1) := by decide +kernel
theorem dL_law_816 : decode cL_law 816 = .ok (.invokevirtual 101, 3) := by decide +kernel
theorem dL_law_819 : decode cL_law 819 = .ok (.pop, 1) := by decide +kernel
theorem dL_law_820 : decode cL_law 820 = .ok (.iload 8, 2) := by decide +kernel
theorem dL_law_822 : decode cL_law 822 = .ok (.iload 11, 2) := by decide +kernel
theorem dL_law_824 : decode cL_law 824 = .ok (.if_icmp .ne 39, 3) := by decide +kernel
theorem dL_law_827 : decode cL_law 827 = .ok (.aload_n 1, 1) := by decide +kernel
theorem dL_law_828 : decode cL_law 828 = .ok (.iload 4, 2) := by decide +kernel
theorem dL_law_830 : decode cL_law 830 = .ok (.aload_n 1, 1) := by decide +kernel
theorem dL_law_831 : decode cL_law 831 = .ok (.invokevirtual 30, 3) := by decide +kernel
theorem dL_law_834 : decode cL_law 834 = .ok (.invokevirtual 111, 3) := by decide +kernel
theorem dL_law_837 : decode cL_law 837 = .ok (.aload_n 1, 1) := by decide +kernel
theorem dL_law_838 : decode cL_law 838 = .ok (.invokevirtual 30, 3) := by decide +kernel
theorem dL_law_841 : decode cL_law 841 = .ok (.if_icmp .gt 22, 3) := by decide +kernel
theorem dL_law_844 : decode cL_law 844 = .ok (.aload_n 1, 1) := by decide +kernel
theorem dL_law_845 : decode cL_law 845 = .ok (.invokevirtual 97, 3) := by decide +kernel
theorem dL_law_848 : decode cL_law 848 = .ok (.lload 6, 2) := by decide +kernel
theorem dL_law_850 : decode cL_law 850 = .ok (.lcmp, 1) := by decide +kernel
theorem dL_law_851 : decode cL_law 851 = .ok (.ifCond .ne 12, 3) := by decide +kernel
theorem dL_law_854 : decode cL_law 854 = .ok (.aload_n 1, 1) := by decide +kernel
theorem dL_law_855 : decode cL_law 855 = .ok (.iload 4, 2) := by decide +kernel
theorem dL_law_857 : decode cL_law 857 = .ok (.invokestatic 114, 3) := by decide +kernel
theorem dL_law_860 : decode cL_law 860 = .ok (.ifCond .ne 5, 3) := by decide +kernel
theorem dL_law_863 : decode cL_law 863 = .ok (.iconst 0, 1) := by decide +kernel
theorem dL_law_864 : decode cL_law 864 = .ok (.ireturn, 1) := by decide +kernel
theorem dL_law_865 : decode cL_law 865 = .ok (.iinc 2 1, 3) := by decide +kernel
theorem dL_law_868 : decode cL_law 868 = .ok (.goto (-709), 3) := by decide +kernel
theorem dL_law_871 : decode cL_law 871 = .ok (.iconst 1, 1) := by decide +kernel
theorem dL_law_872 : decode cL_law 872 = .ok (.ireturn, 1) := by decide +kernel

