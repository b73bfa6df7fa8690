theorem ggX9_init_X7_init : GoodIn wsX9_init wsX7_init := goodIn_r _ [23, 24, 2, 3, 25, 26, 27, 28, 29, 76, 77, 78, 79, 80] (by decide +kernel) (by decide +kernel)
theorem gX9_init_X7_init_n9 : GoodIn wsX9_init (wsX7_init) := ggX9_init_X7_init
theorem ggX9_init_X8_init : GoodIn wsX9_init wsX8_init := goodIn_r _ [32, 33, 2, 3, 34, 35, 36, 37, 38, 39, 40, 41, 42, 43, 44, 45, 46, 47, 48, 49, 50, 51, 52, 53, 54, 55, 56, 57, 58, 59, 60, 61, 62, 63, 64, 65, 66, 101, 102, 103, 90, 91, 92, 93, 94, 104, 105, 106] (by decide +kernel) (by decide +kernel)
theorem gX9_init_X8_init : GoodIn wsX9_init (wsX8_init) := ggX9_init_X8_init
theorem ggX9_init_X3_init : GoodIn wsX9_init wsX3_init := goodIn_r _ [68, 69, 2, 3, 63, 70, 71, 72, 73, 74, 75, 95, 96, 97, 98, 99, 100] (by decide +kernel) (by decide +kernel)
theorem gX9_init_X3_init_n30 : GoodIn wsX9_init (wsX3_init) := ggX9_init_X3_init
theorem dX9_init_0 : decode cX9_init 0 = .ok (.aload_n 0, 1) := by decide +kernel
theorem dX9_init_1 : decode cX9_init 1 = .ok (.invokespecial 1, 3) := by decide +kernel
theorem dX9_init_4 : decode cX9_init 4 = .ok (.aload_n 0, 1) := by decide +kernel
theorem dX9_init_5 : decode cX9_init 5 = .ok (.new 7, 3) := by decide +kernel
theorem dX9_init_8 : decode cX9_init 8 = .ok (.dup, 1) := by decide +kernel
theorem dX9_init_9 : decode cX9_init 9 = .ok (.invokespecial 9, 3) := by decide +kernel
theorem dX9_init_12 : decode cX9_init 12 = .ok (.putfield 10, 3) := by decide +kernel
theorem dX9_init_15 : decode cX9_init 15 = .ok (.aload_n 0, 1) := by decide +kernel
theorem dX9_init_16 : decode cX9_init 16 = .ok (.new 16, 3) := by decide +kernel
theorem dX9_init_19 : decode cX9_init 19 = .ok (.dup, 1) := by decide +kernel
theorem dX9_init_20 : decode cX9_init 20 = .ok (.aload_n 0, 1) := by decide +kernel
theorem dX9_init_21 : decode cX9_init 21 = .ok (.getfield 10, 3) := by decide +kernel
theorem dX9_init_24 : decode cX9_init 24 = .ok (.invokespecial 18, 3) := by decide +kernel
theorem dX9_init_27 : decode cX9_init 27 = .ok (.putfield 21, 3) := by decide +kernel
theorem dX9_init_30 : decode cX9_init 30 = .ok (.aload_n 0, 1) := by decide +kernel
theorem dX9_init_31 : decode cX9_init 31 = .ok (.new 16, 3) := by decide +kernel
theorem dX9_init_34 : decode cX9_init 34 = .ok (.dup, 1) := by decide +kernel
theorem dX9_init_35 : decode cX9_init 35 = .ok (.aload_n 0, 1) := by decide +kernel
theorem dX9_init_36 : decode cX9_init 36 = .ok (.getfield 10, 3) := by decide +kernel
theorem dX9_init_39 : decode cX9_init 39 = .ok (.invokespecial 18, 3) := by decide +kernel
theorem dX9_init_42 : decode cX9_init 42 = .ok (.putfield 25, 3) := by decide +kernel
theorem dX9_init_45 : decode cX9_init 45 = .ok (.aload_n 0, 1) := by decide +kernel
theorem dX9_init_46 : decode cX9_init 46 = .ok (.new 28, 3) := by decide +kernel
theorem dX9_init_49 : decode cX9_init 49 = .ok (.dup, 1) := by decide +kernel
theorem dX9_init_50 : decode cX9_init 50 = .ok (.invokespecial 30, 3) := by decide +kernel
theorem dX9_init_53 : decode cX9_init 53 = .ok (.putfield 31, 3) := by decide +kernel
theorem dX9_init_56 : decode cX9_init 56 = .ok (.aload_n 0, 1) := by decide +kernel
theorem dX9_init_57 : decode cX9_init 57 = .ok (.iconst 0, 1) := by decide +kernel
theorem dX9_init_58 : decode cX9_init 58 = .ok (.putfield 35, 3) := by decide +kernel
theorem dX9_init_61 : decode cX9_init 61 = .ok (.aload_n 0, 1) := by decide +kernel
theorem dX9_init_62 : decode cX9_init 62 = .ok (.bipush 10, 2) := by decide +kernel
theorem dX9_init_64 : decode cX9_init 64 = .ok (.putfield 39, 3) := by decide +kernel
theorem dX9_init_67 : decode cX9_init 67 = .ok (.aload_n 0, 1) := by decide +kernel
theorem dX9_init_68 : decode cX9_init 68 = .ok (.iconst 1, 1) := by decide +kernel
theorem dX9_init_69 : decode cX9_init 69 = .ok (.putfield 42, 3) := by decide +kernel
theorem dX9_init_72 : decode cX9_init 72 = .ok (.aload_n 0, 1) := by decide +kernel
theorem dX9_init_73 : decode cX9_init 73 = .ok (.iconst 0, 1) := by decide +kernel
theorem dX9_init_74 : decode cX9_init 74 = .ok (.putfield 45, 3) := by decide +kernel
theorem dX9_init_77 : decode cX9_init 77 = .ok (.aload_n 0, 1) := by decide +kernel
theorem dX9_init_78 : decode cX9_init 78 = .ok (.iconst 0, 1) := by decide +kernel
theorem dX9_init_79 : decode cX9_init 79 = .ok (.putfield 48, 3) := by decide +kernel
theorem dX9_init_82 : decode cX9_init 82 = .ok (.return_, 1) := by decide +kernel
theorem ggX9_addSeries_X9_isIn : GoodIn wsX9_addSeries wsX9_isIn := goodIn_r _ [10] (by decide +kernel) (by decide +kernel)
theorem gX9_addSeries_X9_isIn : GoodIn wsX9_addSeries (va_wsS RX9 51 yX9_isIn wsX9_isIn) := goodIn_app (goodIn_of _ (by decide +kernel)) ggX9_addSeries_X9_isIn
theorem ggX9_addSeries_X9_needArgument : GoodIn wsX9_addSeries wsX9_needArgument := goodIn_ca (goodIn_r _ [13, 14, 15] (by decide +kernel) (by decide +kernel)) (goodIn_sub (fun _ h => List.mem_cons_of_mem _ (List.mem_append_left _ (List.mem_append_right _ h))) (by decide +kernel))
theorem gX9_addSeries_X9_needArgument : GoodIn wsX9_addSeries (va_wsS RX9 55 yX9_needArgument wsX9_needArgument) := goodIn_app (goodIn_of _ (by decide +kernel)) ggX9_addSeries_X9_needArgument
theorem ggX9_addSeries_Jx4a65c_size_8abf5 : GoodIn wsX9_addSeries wsJx4a65c_size_8abf5 := goodIn_r _ [20, 21, 134, 135, 136] (by decide +kernel) (by decide +kernel)
theorem gX9_addSeries_Jx4a65c_size_8abf5 : GoodIn wsX9_addSeries (wsV RX9 63 RJx4a65c yJx4a65c_size_8abf5 wsJx4a65c_size_8abf5) := goodIn_app (goodIn_of _ (by decide +kernel)) ggX9_addSeries_Jx4a65c_size_8abf5
theorem ggX9_addSeries_X9_needState : GoodIn wsX9_addSeries wsX9_needState := goodIn_ca (goodIn_r _ [24, 25, 26] (by decide +kernel) (by decide +kernel)) (goodIn_sub (fun _ h => List.mem_cons_of_mem _ (List.mem_append_right _ h)) (by decide +kernel))
theorem gX9_addSeries_X9_needState : GoodIn wsX9_addSeries (va_wsS RX9 69 yX9_needState wsX9_needState) := goodIn_app (goodIn_of _ (by decide +kernel)) ggX9_addSeries_X9_needState
theorem ggX9_addSeries_X6_init : GoodIn wsX9_addSeries wsX6_init := goodIn_r _ [29, 30, 31, 32, 33, 34, 35, 36, 37, 38, 39, 40, 41, 42, 43, 44, 45, 46, 47, 48, 49, 50, 51, 52, 53, 54, 55, 56, 57, 58, 59, 60, 137, 138, 139, 140, 141, 142, 143, 129, 130, 131, 132, 133, 144, 145] (by decide +kernel) (by decide +kernel)
theorem gX9_addSeries_X6_init : GoodIn wsX9_addSeries (wsX6_init) := ggX9_addSeries_X6_init
theorem ggX9_addSeries_Jx4a65c_add_9ea2d : GoodIn wsX9_addSeries wsJx4a65c_add_9ea2d := goodIn_r _ [64, 65, 66, 67, 21, 68, 69, 70, 19, 71, 72, 73, 74, 75, 76, 77, 78, 79, 80, 81, 82, 83, 84, 85, 86, 87, 88, 89, 90, 91, 92, 93, 94, 95, 96, 97, 98, 99, 100, 101, 102, 103, 104, 105, 106, 107, 108, 109, 110, 111, 112, 113, 114, 134, 135, 136] (by decide +kernel) (by decide +kernel)
theorem gX9_addSeries_Jx4a65c_add_9ea2d : GoodIn wsX9_addSeries (wsV RX9 77 RJx4a65c yJx4a65c_add_9ea2d wsJx4a65c_add_9ea2d) := goodIn_app (goodIn_of _ (by decide +kernel)) ggX9_addSeries_Jx4a65c_add_9ea2d
theorem dX9_addSeries_0 : decode cX9_addSeries 0 = .ok (.iload_n 1, 1) := by decide +kernel
theorem dX9_addSeries_1 : decode cX9_addSeries 1 = .ok (.i2l, 1) := by decide +kernel
theorem dX9_addSeries_2 : decode cX9_addSeries 2 = .ok (.iconst 0, 1) := by decide +kernel
theorem dX9_addSeries_3 : decode cX9_addSeries 3 = .ok (.bipush 9, 2) := by decide +kernel
theorem dX9_addSeries_5 : decode cX9_addSeries 5 = .ok (.invokestatic 51, 3) := by decide +kernel
theorem dX9_addSeries_8 : decode cX9_addSeries 8 = .ok (.ifCond .eq 18, 3) := by decide +kernel
theorem dX9_addSeries_11 : decode cX9_addSeries 11 = .ok (.iload_n 2, 1) := by decide +kernel
theorem dX9_addSeries_12 : decode cX9_addSeries 12 = .ok (.i2l, 1) := by decide +kernel
theorem dX9_addSeries_13 : decode cX9_addSeries 13 = .ok (.iconst 0, 1) := by decide +kernel
theorem dX9_addSeries_14 : decode cX9_addSeries 14 = .ok (.bipush 9, 2) := by decide +kernel
theorem dX9_addSeries_16 : decode cX9_addSeries 16 = .ok (.invokestatic 51, 3) := by decide +kernel
theorem dX9_addSeries_19 : decode cX9_addSeries 19 = .ok (.ifCond .eq 7, 3) := by decide +kernel
theorem dX9_addSeries_22 : decode cX9_addSeries 22 = .ok (.iconst 1, 1) := by decide +kernel
theorem dX9_addSeries_23 : decode cX9_addSeries 23 = .ok (.goto 4, 3) := by decide +kernel
theorem dX9_addSeries_26 : decode cX9_addSeries 26 = .ok (.iconst 0, 1) := by decide +kernel
theorem dX9_addSeries_27 : decode cX9_addSeries 27 = .ok (.invokestatic 55, 3) := by decide +kernel
theorem dX9_addSeries_30 : decode cX9_addSeries 30 = .ok (.aload_n 0, 1) := by decide +kernel
theorem dX9_addSeries_31 : decode cX9_addSeries 31 = .ok (.getfield 21, 3) := by decide +kernel
theorem dX9_addSeries_34 : decode cX9_addSeries 34 = .ok (.getfield 59, 3) := by decide +kernel
theorem dX9_addSeries_37 : decode cX9_addSeries 37 = .ok (.invokevirtual 63, 3) := by decide +kernel
theorem dX9_addSeries_40 : decode cX9_addSeries 40 = .ok (.istore_n 3, 1) := by decide +kernel
theorem dX9_addSeries_41 : decode cX9_addSeries 41 = .ok (.iload_n 3, 1) := by decide +kernel
theorem dX9_addSeries_42 : decode cX9_addSeries 42 = .ok (.bipush 6, 2) := by decide +kernel
theorem dX9_addSeries_44 : decode cX9_addSeries 44 = .ok (.if_icmp .ge 7, 3) := by decide +kernel
theorem dX9_addSeries_47 : decode cX9_addSeries 47 = .ok (.iconst 1, 1) := by decide +kernel
theorem dX9_addSeries_48 : decode cX9_addSeries 48 = .ok (.goto 4, 3) := by decide +kernel
theorem dX9_addSeries_51 : decode cX9_addSeries 51 = .ok (.iconst 0, 1) := by decide +kernel
theorem dX9_addSeries_52 : decode cX9_addSeries 52 = .ok (.invokestatic 69, 3) := by decide +kernel
theorem dX9_addSeries_55 : decode cX9_addSeries 55 = .ok (.aload_n 0, 1) := by decide +kernel
theorem dX9_addSeries_56 : decode cX9_addSeries 56 = .ok (.getfield 21, 3) := by decide +kernel
theorem dX9_addSeries_59 : decode cX9_addSeries 59 = .ok (.getfield 59, 3) := by decide +kernel
theorem dX9_addSeries_62 : decode cX9_addSeries 62 = .ok (.new 72, 3) := by decide +kernel
theorem dX9_addSeries_65 : decode cX9_addSeries 65 = .ok (.dup, 1) := by decide +kernel
theorem dX9_addSeries_66 : decode cX9_addSeries 66 = .ok (.iload_n 1, 1) := by decide +kernel
theorem dX9_addSeries_67 : decode cX9_addSeries 67 = .ok (.iload_n 2, 1) := by decide +kernel
theorem dX9_addSeries_68 : decode cX9_addSeries 68 = .ok (.invokespecial 74, 3) := by decide +kernel
theorem dX9_addSeries_71 : decode cX9_addSeries 71 = .ok (.invokevirtual 77, 3) := by decide +kernel
theorem dX9_addSeries_74 : decode cX9_addSeries 74 = .ok (.pop, 1) := by decide +kernel
theorem dX9_addSeries_75 : decode cX9_addSeries 75 = .ok (.aload_n 0, 1) := by decide +kernel
theorem dX9_addSeries_76 : decode cX9_addSeries 76 = .ok (.getfield 25, 3) := by decide +kernel
theorem dX9_addSeries_79 : decode cX9_addSeries 79 = .ok (.getfield 59, 3) := by decide +kernel
theorem dX9_addSeries_82 : decode cX9_addSeries 82 = .ok (.new 72, 3) := by decide +kernel
theorem dX9_addSeries_85 : decode cX9_addSeries 85 = .ok (.dup, 1) := by decide +kernel
theorem dX9_addSeries_86 : decode cX9_addSeries 86 = .ok (.iload_n 1, 1) := by decide +kernel
theorem dX9_addSeries_87 : decode cX9_addSeries 87 = .ok (.iload_n 2, 1) := by decide +kernel
theorem dX9_addSeries_88 : decode cX9_addSeries 88 = .ok (.invokespecial 74, 3) := by decide +kernel
theorem dX9_addSeries_91 : decode cX9_addSeries 91 = .ok (.invokevirtual 77, 3) := by decide +kernel
theorem dX9_addSeries_94 : decode cX9_addSeries 94 = .ok (.pop, 1) := by decide +kernel
theorem dX9_addSeries_95 : decode cX9_addSeries 95 = .ok (.iload_n 3, 1) := by decide +kernel
theorem dX9_addSeries_96 : decode cX9_addSeries 96 = .ok (.ireturn, 1) := by decide +kernel
theorem ggX9_setSpan_X9_isIn : GoodIn wsX9_setSpan wsX9_isIn := goodIn_r _ [6] (by decide +kernel) (by decide +kernel)
theorem gX9_setSpan_X9_isIn : GoodIn wsX9_setSpan (va_wsS RX9 51 yX9_isIn wsX9_isIn) := goodIn_app (goodIn_of _ (by decide +kernel)) ggX9_setSpan_X9_isIn
theorem ggX9_setSpan_X9_needArgument : GoodIn wsX9_setSpan wsX9_needArgument := goodIn_ca (goodIn_r _ [9, 10, 11] (by decide +kernel) (by decide +kernel)) (goodIn_sub (fun _ h => List.mem_cons_of_mem _ (List.mem_append_right _ h)) (by decide +kernel))
theorem gX9_setSpan_X9_needArgument : GoodIn wsX9_setSpan (va_wsS RX9 55 yX9_needArgument wsX9_needArgument) := goodIn_app (goodIn_of _ (by decide +kernel)) ggX9_setSpan_X9_needArgument
theorem dX9_setSpan_0 : decode cX9_setSpan 0 = .ok (.iload_n 1, 1) := by decide +kernel
theorem dX9_setSpan_1 : decode cX9_setSpan 1 = .ok (.i2l, 1) := by decide +kernel
theorem dX9_setSpan_2 : decode cX9_setSpan 2 = .ok (.iconst 2, 1) := by decide +kernel
theorem dX9_setSpan_3 : decode cX9_setSpan 3 = .ok (.bipush 16, 2) := by decide +kernel
theorem dX9_setSpan_5 : decode cX9_setSpan 5 = .ok (.invokestatic 51, 3) := by decide +kernel
theorem dX9_setSpan_8 : decode cX9_setSpan 8 = .ok (.invokestatic 55, 3) := by decide +kernel
theorem dX9_setSpan_11 : decode cX9_setSpan 11 = .ok (.aload_n 0, 1) := by decide +kernel
theorem dX9_setSpan_12 : decode cX9_setSpan 12 = .ok (.getfield 10, 3) := by decide +kernel
theorem dX9_setSpan_15 : decode cX9_setSpan 15 = .ok (.getfield 81, 3) := by decide +kernel
theorem dX9_setSpan_18 : decode cX9_setSpan 18 = .ok (.istore_n 2, 1) := by decide +kernel
theorem dX9_setSpan_19 : decode cX9_setSpan 19 = .ok (.aload_n 0, 1) := by decide +kernel
theorem dX9_setSpan_20 : decode cX9_setSpan 20 = .ok (.getfield 10, 3) := by decide +kernel
theorem dX9_setSpan_23 : decode cX9_setSpan 23 = .ok (.iload_n 1, 1) := by decide +kernel
theorem dX9_setSpan_24 : decode cX9_setSpan 24 = .ok (.putfield 81, 3) := by decide +kernel
theorem dX9_setSpan_27 : decode cX9_setSpan 27 = .ok (.iload_n 2, 1) := by decide +kernel
theorem dX9_setSpan_28 : decode cX9_setSpan 28 = .ok (.ireturn, 1) := by decide +kernel
theorem ggX9_setWidths_X9_isIn : GoodIn wsX9_setWidths wsX9_isIn := goodIn_r _ [8] (by decide +kernel) (by decide +kernel)
theorem gX9_setWidths_X9_isIn : GoodIn wsX9_setWidths (va_wsS RX9 51 yX9_isIn wsX9_isIn) := goodIn_app (goodIn_of _ (by decide +kernel)) ggX9_setWidths_X9_isIn
theorem ggX9_setWidths_X9_needArgument : GoodIn wsX9_setWidths wsX9_needArgument := goodIn_ca (goodIn_r _ [11, 12, 13] (by decide +kernel) (by decide +kernel)) (goodIn_sub (fun _ h => List.mem_cons_of_mem _ (List.mem_append_left _ (List.mem_append_right _ h))) (by decide +kernel))
theorem gX9_setWidths_X9_needArgument : GoodIn wsX9_setWidths (va_wsS RX9 55 yX9_needArgument wsX9_needArgument) := goodIn_app (goodIn_of _ (by decide +kernel)) ggX9_setWidths_X9_needArgument
theorem ggX9_setWidths_X8_hasBucket : GoodIn wsX9_setWidths wsX8_hasBucket := goodIn_r _ [18, 19, 20, 21, 22, 23, 24, 25, 26, 27, 28, 29, 30, 31, 32, 33, 34, 35, 36, 37, 38, 39, 40, 41, 42, 43, 44, 45, 46, 47, 67, 68, 69, 70, 71, 72, 73, 74, 75, 76, 77, 78, 79, 80, 81, 82, 83, 84, 85, 86, 87, 88] (by decide +kernel) (by decide +kernel)
theorem gX9_setWidths_X8_hasBucket : GoodIn wsX9_setWidths (wsV RX9 84 RX8 yX8_hasBucket wsX8_hasBucket) := goodIn_app (goodIn_of _ (by decide +kernel)) ggX9_setWidths_X8_hasBucket
theorem ggX9_setWidths_X9_needState : GoodIn wsX9_setWidths wsX9_needState := goodIn_ca (goodIn_r _ [50, 51, 52] (by decide +kernel) (by decide +kernel)) (goodIn_sub (fun _ h => List.mem_cons_of_mem _ (List.mem_append_right _ h)) (by decide +kernel))
theorem gX9_setWidths_X9_needState : GoodIn wsX9_setWidths (va_wsS RX9 69 yX9_needState wsX9_needState) := goodIn_app (goodIn_of _ (by decide +kernel)) ggX9_setWidths_X9_needState
theorem dX9_setWidths_0 : decode cX9_setWidths 0 = .ok (.iload_n 1, 1) := by decide +kernel
theorem dX9_setWidths_1 : decode cX9_setWidths 1 = .ok (.i2l, 1) := by decide +kernel
theorem dX9_setWidths_2 : decode cX9_setWidths 2 = .ok (.iconst 2, 1) := by decide +kernel
theorem dX9_setWidths_3 : decode cX9_setWidths 3 = .ok (.bipush 100, 2) := by decide +kernel
theorem dX9_setWidths_5 : decode cX9_setWidths 5 = .ok (.invokestatic 51, 3) := by decide +kernel
theorem dX9_setWidths_8 : decode cX9_setWidths 8 = .ok (.ifCond .eq 18, 3) := by decide +kernel
theorem dX9_setWidths_11 : decode cX9_setWidths 11 = .ok (.iload_n 2, 1) := by decide +kernel
theorem dX9_setWidths_12 : decode cX9_setWidths 12 = .ok (.i2l, 1) := by decide +kernel
theorem dX9_setWidths_13 : decode cX9_setWidths 13 = .ok (.iconst 2, 1) := by decide +kernel
theorem dX9_setWidths_14 : decode cX9_setWidths 14 = .ok (.bipush 20, 2) := by decide +kernel
theorem dX9_setWidths_16 : decode cX9_setWidths 16 = .ok (.invokestatic 51, 3) := by decide +kernel
theorem dX9_setWidths_19 : decode cX9_setWidths 19 = .ok (.ifCond .eq 7, 3) := by decide +kernel
theorem dX9_setWidths_22 : decode cX9_setWidths 22 = .ok (.iconst 1, 1) := by decide +kernel
theorem dX9_setWidths_23 : decode cX9_setWidths 23 = .ok (.goto 4, 3) := by decide +kernel
theorem dX9_setWidths_26 : decode cX9_setWidths 26 = .ok (.iconst 0, 1) := by decide +kernel
theorem dX9_setWidths_27 : decode cX9_setWidths 27 = .ok (.invokestatic 55, 3) := by decide +kernel
theorem dX9_setWidths_30 : decode cX9_setWidths 30 = .ok (.aload_n 0, 1) := by decide +kernel
theorem dX9_setWidths_31 : decode cX9_setWidths 31 = .ok (.getfield 21, 3) := by decide +kernel
theorem dX9_setWidths_34 : decode cX9_setWidths 34 = .ok (.invokevirtual 84, 3) := by decide +kernel
theorem dX9_setWidths_37 : decode cX9_setWidths 37 = .ok (.ifCond .ne 7, 3) := by decide +kernel
theorem dX9_setWidths_40 : decode cX9_setWidths 40 = .ok (.iconst 1, 1) := by decide +kernel
theorem dX9_setWidths_41 : decode cX9_setWidths 41 = .ok (.goto 4, 3) := by decide +kernel
theorem dX9_setWidths_44 : decode cX9_setWidths 44 = .ok (.iconst 0, 1) := by decide +kernel
theorem dX9_setWidths_45 : decode cX9_setWidths 45 = .ok (.invokestatic 69, 3) := by decide +kernel
theorem dX9_setWidths_48 : decode cX9_setWidths 48 = .ok (.aload_n 0, 1) := by decide +kernel
theorem dX9_setWidths_49 : decode cX9_setWidths 49 = .ok (.getfield 10, 3) := by decide +kernel
theorem dX9_setWidths_52 : decode cX9_setWidths 52 = .ok (.getfield 88, 3) := by decide +kernel
theorem dX9_setWidths_55 : decode cX9_setWidths 55 = .ok (.istore_n 3, 1) := by decide +kernel
theorem dX9_setWidths_56 : decode cX9_setWidths 56 = .ok (.aload_n 0, 1) := by decide +kernel
theorem dX9_setWidths_57 : decode cX9_setWidths 57 = .ok (.getfield 10, 3) := by decide +kernel
theorem dX9_setWidths_60 : decode cX9_setWidths 60 = .ok (.iload_n 1, 1) := by decide +kernel
theorem dX9_setWidths_61 : decode cX9_setWidths 61 = .ok (.putfield 88, 3) := by decide +kernel
theorem dX9_setWidths_64 : decode cX9_setWidths 64 = .ok (.aload_n 0, 1) := by decide +kernel
theorem dX9_setWidths_65 : decode cX9_setWidths 65 = .ok (.getfield 10, 3) := by decide +kernel
theorem dX9_setWidths_68 : decode cX9_setWidths 68 = .ok (.iload_n 2, 1) := by decide +kernel
theorem dX9_setWidths_69 : decode cX9_setWidths 69 = .ok (.putfield 91, 3) := by decide +kernel
theorem dX9_setWidths_72 : decode cX9_setWidths 72 = .ok (.iload_n 3, 1) := by decide +kernel
theorem dX9_setWidths_73 : decode cX9_setWidths 73 = .ok (.ireturn, 1) := by decide +kernel
theorem ggX9_setKeep_X9_isIn : GoodIn wsX9_setKeep wsX9_isIn := goodIn_r _ [7] (by decide +kernel) (by decide +kernel)
theorem gX9_setKeep_X9_isIn : GoodIn wsX9_setKeep (va_wsS RX9 51 yX9_isIn wsX9_isIn) := goodIn_app (goodIn_of _ (by decide +kernel)) ggX9_setKeep_X9_isIn
theorem ggX9_setKeep_X9_needArgument : GoodIn wsX9_setKeep wsX9_needArgument := goodIn_ca (goodIn_r _ [10, 11, 12] (by decide +kernel) (by decide +kernel)) (goodIn_sub (fun _ h => List.mem_cons_of_mem _ (List.mem_append_right _ h)) (by decide +kernel))
theorem gX9_setKeep_X9_needArgument : GoodIn wsX9_setKeep (va_wsS RX9 55 yX9_needArgument wsX9_needArgument) := goodIn_app (goodIn_of _ (by decide +kernel)) ggX9_setKeep_X9_needArgument
theorem dX9_setKeep_0 : decode cX9_setKeep 0 = .ok (.iload_n 1, 1) := by decide +kernel
theorem dX9_setKeep_1 : decode cX9_setKeep 1 = .ok (.i2l, 1) := by decide +kernel
theorem dX9_setKeep_2 : decode cX9_setKeep 2 = .ok (.iconst 0, 1) := by decide +kernel
theorem dX9_setKeep_3 : decode cX9_setKeep 3 = .ok (.sipush 10000, 3) := by decide +kernel
theorem dX9_setKeep_6 : decode cX9_setKeep 6 = .ok (.invokestatic 51, 3) := by decide +kernel
theorem dX9_setKeep_9 : decode cX9_setKeep 9 = .ok (.ifCond .eq 19, 3) := by decide +kernel
theorem dX9_setKeep_12 : decode cX9_setKeep 12 = .ok (.iload_n 2, 1) := by decide +kernel
theorem dX9_setKeep_13 : decode cX9_setKeep 13 = .ok (.i2l, 1) := by decide +kernel
theorem dX9_setKeep_14 : decode cX9_setKeep 14 = .ok (.iconst 0, 1) := by decide +kernel
theorem dX9_setKeep_15 : decode cX9_setKeep 15 = .ok (.sipush 10000, 3) := by decide +kernel
theorem dX9_setKeep_18 : decode cX9_setKeep 18 = .ok (.invokestatic 51, 3) := by decide +kernel
theorem dX9_setKeep_21 : decode cX9_setKeep 21 = .ok (.ifCond .eq 7, 3) := by decide +kernel
theorem dX9_setKeep_24 : decode cX9_setKeep 24 = .ok (.iconst 1, 1) := by decide +kernel
theorem dX9_setKeep_25 : decode cX9_setKeep 25 = .ok (.goto 4, 3) := by decide +kernel
theorem dX9_setKeep_28 : decode cX9_setKeep 28 = .ok (.iconst 0, 1) := by decide +kernel
theorem dX9_setKeep_29 : decode cX9_setKeep 29 = .ok (.invokestatic 55, 3) := by decide +kernel
theorem dX9_setKeep_32 : decode cX9_setKeep 32 = .ok (.aload_n 0, 1) := by decide +kernel
theorem dX9_setKeep_33 : decode cX9_setKeep 33 = .ok (.getfield 10, 3) := by decide +kernel
theorem dX9_setKeep_36 : decode cX9_setKeep 36 = .ok (.getfield 94, 3) := by decide +kernel
theorem dX9_setKeep_39 : decode cX9_setKeep 39 = .ok (.istore_n 3, 1) := by decide +kernel
theorem dX9_setKeep_40 : decode cX9_setKeep 40 = .ok (.aload_n 0, 1) := by decide +kernel
theorem dX9_setKeep_41 : decode cX9_setKeep 41 = .ok (.getfield 10, 3) := by decide +kernel
theorem dX9_setKeep_44 : decode cX9_setKeep 44 = .ok (.iload_n 1, 1) := by decide +kernel
theorem dX9_setKeep_45 : decode cX9_setKeep 45 = .ok (.putfield 94, 3) := by decide +kernel
theorem dX9_setKeep_48 : decode cX9_setKeep 48 = .ok (.aload_n 0, 1) := by decide +kernel
theorem dX9_setKeep_49 : decode cX9_setKeep 49 = .ok (.getfield 10, 3) := by decide +kernel
theorem dX9_setKeep_52 : decode cX9_setKeep 52 = .ok (.iload_n 2, 1) := by decide +kernel
theorem dX9_setKeep_53 : decode cX9_setKeep 53 = .ok (.putfield 97, 3) := by decide +kernel
theorem dX9_setKeep_56 : decode cX9_setKeep 56 = .ok (.iload_n 3, 1) := by decide +kernel
theorem dX9_setKeep_57 : decode cX9_setKeep 57 = .ok (.ireturn, 1) := by decide +kernel
theorem ggX9_setQuery_X9_isIn : GoodIn wsX9_setQuery wsX9_isIn := goodIn_r _ [9] (by decide +kernel) (by decide +kernel)
theorem gX9_setQuery_X9_isIn : GoodIn wsX9_setQuery (va_wsS RX9 51 yX9_isIn wsX9_isIn) := goodIn_app (goodIn_of _ (by decide +kernel)) ggX9_setQuery_X9_isIn
theorem ggX9_setQuery_X9_needArgument : GoodIn wsX9_setQuery wsX9_needArgument := goodIn_ca (goodIn_r _ [12, 13, 14] (by decide +kernel) (by decide +kernel)) (goodIn_sub (fun _ h => List.mem_cons_of_mem _ (List.mem_append_right _ h)) (by decide +kernel))
theorem gX9_setQuery_X9_needArgument : GoodIn wsX9_setQuery (va_wsS RX9 55 yX9_needArgument wsX9_needArgument) := goodIn_app (goodIn_of _ (by decide +kernel)) ggX9_setQuery_X9_needArgument
theorem dX9_setQuery_0 : decode cX9_setQuery 0 = .ok (.iload_n 1, 1) := by decide +kernel
theorem dX9_setQuery_1 : decode cX9_setQuery 1 = .ok (.i2l, 1) := by decide +kernel
theorem dX9_setQuery_2 : decode cX9_setQuery 2 = .ok (.iconst 0, 1) := by decide +kernel
theorem dX9_setQuery_3 : decode cX9_setQuery 3 = .ok (.ldc 100, 2) := by decide +kernel
theorem dX9_setQuery_5 : decode cX9_setQuery 5 = .ok (.invokestatic 51, 3) := by decide +kernel
theorem dX9_setQuery_8 : decode cX9_setQuery 8 = .ok (.ifCond .eq 19, 3) := by decide +kernel
theorem dX9_setQuery_11 : decode cX9_setQuery 11 = .ok (.iload_n 2, 1) := by decide +kernel
theorem dX9_setQuery_12 : decode cX9_setQuery 12 = .ok (.i2l, 1) := by decide +kernel
theorem dX9_setQuery_13 : decode cX9_setQuery 13 = .ok (.iconst 1, 1) := by decide +kernel
theorem dX9_setQuery_14 : decode cX9_setQuery 14 = .ok (.sipush 10000, 3) := by decide +kernel
theorem dX9_setQuery_17 : decode cX9_setQuery 17 = .ok (.invokestatic 51, 3) := by decide +kernel
theorem dX9_setQuery_20 : decode cX9_setQuery 20 = .ok (.ifCond .eq 7, 3) := by decide +kernel
theorem dX9_setQuery_23 : decode cX9_setQuery 23 = .ok (.iconst 1, 1) := by decide +kernel
theorem dX9_setQuery_24 : decode cX9_setQuery 24 = .ok (.goto 4, 3) := by decide +kernel
theorem dX9_setQuery_27 : decode cX9_setQuery 27 = .ok (.iconst 0, 1) := by decide +kernel
theorem dX9_setQuery_28 : decode cX9_setQuery 28 = .ok (.invokestatic 55, 3) := by decide +kernel
theorem dX9_setQuery_31 : decode cX9_setQuery 31 = .ok (.iload_n 3, 1) := by decide +kernel
theorem dX9_setQuery_32 : decode cX9_setQuery 32 = .ok (.i2l, 1) := by decide +kernel
theorem dX9_setQuery_33 : decode cX9_setQuery 33 = .ok (.iconst 0, 1) := by decide +kernel
theorem dX9_setQuery_34 : decode cX9_setQuery 34 = .ok (.bipush 7, 2) := by decide +kernel
theorem dX9_setQuery_36 : decode cX9_setQuery 36 = .ok (.invokestatic 51, 3) := by decide +kernel
theorem dX9_setQuery_39 : decode cX9_setQuery 39 = .ok (.ifCond .eq 18, 3) := by decide +kernel
theorem dX9_setQuery_42 : decode cX9_setQuery 42 = .ok (.iload 4, 2) := by decide +kernel
theorem dX9_setQuery_44 : decode cX9_setQuery 44 = .ok (.i2l, 1) := by decide +kernel
theorem dX9_setQuery_45 : decode cX9_setQuery 45 = .ok (.iconst 0, 1) := by decide +kernel
theorem dX9_setQuery_46 : decode cX9_setQuery 46 = .ok (.iconst 3, 1) := by decide +kernel
theorem dX9_setQuery_47 : decode cX9_setQuery 47 = .ok (.invokestatic 51, 3) := by decide +kernel
theorem dX9_setQuery_50 : decode cX9_setQuery 50 = .ok (.ifCond .eq 7, 3) := by decide +kernel
theorem dX9_setQuery_53 : decode cX9_setQuery 53 = .ok (.iconst 1, 1) := by decide +kernel
theorem dX9_setQuery_54 : decode cX9_setQuery 54 = .ok (.goto 4, 3) := by decide +kernel
theorem dX9_setQuery_57 : decode cX9_setQuery 57 = .ok (.iconst 0, 1) := by decide +kernel
theorem dX9_setQuery_58 : decode cX9_setQuery 58 = .ok (.invokestatic 55, 3) := by decide +kernel
theorem dX9_setQuery_61 : decode cX9_setQuery 61 = .ok (.aload_n 0, 1) := by decide +kernel
theorem dX9_setQuery_62 : decode cX9_setQuery 62 = .ok (.getfield 39, 3) := by decide +kernel
theorem dX9_setQuery_65 : decode cX9_setQuery 65 = .ok (.istore 5, 2) := by decide +kernel
theorem dX9_setQuery_67 : decode cX9_setQuery 67 = .ok (.aload_n 0, 1) := by decide +kernel
theorem dX9_setQuery_68 : decode cX9_setQuery 68 = .ok (.iload_n 1, 1) := by decide +kernel
theorem dX9_setQuery_69 : decode cX9_setQuery 69 = .ok (.putfield 35, 3) := by decide +kernel
theorem dX9_setQuery_72 : decode cX9_setQuery 72 = .ok (.aload_n 0, 1) := by decide +kernel
theorem dX9_setQuery_73 : decode cX9_setQuery 73 = .ok (.iload_n 2, 1) := by decide +kernel
theorem dX9_setQuery_74 : decode cX9_setQuery 74 = .ok (.putfield 39, 3) := by decide +kernel
theorem dX9_setQuery_77 : decode cX9_setQuery 77 = .ok (.aload_n 0, 1) := by decide +kernel
theorem dX9_setQuery_78 : decode cX9_setQuery 78 = .ok (.iload_n 3, 1) := by decide +kernel
theorem dX9_setQuery_79 : decode cX9_setQuery 79 = .ok (.putfield 42, 3) := by decide +kernel
theorem dX9_setQuery_82 : decode cX9_setQuery 82 = .ok (.aload_n 0, 1) := by decide +kernel
theorem dX9_setQuery_83 : decode cX9_setQuery 83 = .ok (.iload 4, 2) := by decide +kernel
theorem dX9_setQuery_85 : decode cX9_setQuery 85 = .ok (.putfield 45, 3) := by decide +kernel
theorem dX9_setQuery_88 : decode cX9_setQuery 88 = .ok (.iload 5, 2) := by decide +kernel
theorem dX9_setQuery_90 : decode cX9_setQuery 90 = .ok (.ireturn, 1) := by decide +kernel
theorem ggX9_put_X9_chainAt : GoodIn wsX9_put wsX9_chainAt := goodIn_ca (goodIn_r _ [6, 7, 8, 9, 10, 11, 12, 13, 14, 15, 16, 17, 18, 19, 20, 21, 22, 23, 24, 25, 26, 27, 28, 29, 30, 31, 32, 33, 34, 183, 184, 185, 186, 187, 188, 189, 190, 191, 192, 193, 194, 195, 196, 197, 198, 199] (by decide +kernel) (by decide +kernel)) (goodIn_sub (fun _ h => List.mem_cons_of_mem _ (List.mem_append_left _ (List.mem_append_right _ h))) (by decide +kernel))
theorem gX9_put_X9_chainAt : GoodIn wsX9_put (wsV RX9 101 RX9 yX9_chainAt wsX9_chainAt) := goodIn_app (goodIn_of _ (by decide +kernel)) ggX9_put_X9_chainAt
theorem ggX9_put_X9_isTimeUpToNow : GoodIn wsX9_put wsX9_isTimeUpToNow := goodIn_r _ [38, 9, 39, 40, 41, 5, 42, 183, 184, 185, 186, 187, 188, 189, 190, 191, 192, 193, 194, 195, 196] (by decide +kernel) (by decide +kernel)
theorem gX9_put_X9_isTimeUpToNow : GoodIn wsX9_put (wsV RX9 105 RX9 yX9_isTimeUpToNow wsX9_isTimeUpToNow) := goodIn_app (goodIn_of _ (by decide +kernel)) ggX9_put_X9_isTimeUpToNow
theorem ggX9_put_X9_isValue : GoodIn wsX9_put wsX9_isValue := goodIn_r _ [45, 46, 47, 40, 41, 5, 42] (by decide +kernel) (by decide +kernel)
theorem gX9_put_X9_isValue : GoodIn wsX9_put (va_wsS RX9 109 yX9_isValue wsX9_isValue) := goodIn_app (goodIn_of _ (by decide +kernel)) ggX9_put_X9_isValue
theorem ggX9_put_X9_needArgument : GoodIn wsX9_put wsX9_needArgument := goodIn_ca (goodIn_r _ [50, 51, 52] (by decide +kernel) (by decide +kernel)) (goodIn_sub (fun _ h => List.mem_cons_of_mem _ (List.mem_append_right _ h)) (by decide +kernel))
theorem gX9_put_X9_needArgument : GoodIn wsX9_put (va_wsS RX9 55 yX9_needArgument wsX9_needArgument) := goodIn_app (goodIn_of _ (by decide +kernel)) ggX9_put_X9_needArgument
theorem ggX9_put_X9_putOrCountLate : GoodIn wsX9_put wsX9_putOrCountLate := goodIn_r _ [56, 1, 57, 58, 59, 60, 61, 62, 63, 64, 65, 66, 67, 68, 69, 70, 71, 72, 73, 74, 75, 76, 77, 78, 79, 80, 81, 82, 83, 84, 85, 86, 87, 88, 89, 90, 91, 92, 93, 94, 95, 96, 97, 98, 99, 100, 101, 102, 103, 104, 105, 106, 107, 108, 109, 110, 111, 112, 113, 114, 115, 116, 117, 118, 119, 120, 121, 122, 123, 124, 125, 126, 127, 128, 129, 130, 131, 132, 133, 134, 135, 136, 137, 138, 139, 140, 141, 142, 143, 144, 145, 146, 147, 148, 149, 150, 151, 152, 153, 154, 155, 156, 157, 158, 159, 160, 161, 162, 163, 164, 165, 166, 167, 168, 169, 170, 171, 172, 173, 174, 175, 176, 178, 179, 180, 181, 182, 183, 184, 185, 186, 187, 188, 189, 190, 191, 200, 201, 202, 203, 204, 205, 206, 207, 208, 209, 210, 211, 212, 213] (by decide +kernel) (by decide +kernel)
theorem gX9_put_X9_putOrCountLate : GoodIn wsX9_put (wsV RX9 112 RX9 yX9_putOrCountLate wsX9_putOrCountLate) := goodIn_app (goodIn_of _ (by decide +kernel)) ggX9_put_X9_putOrCountLate
theorem ggX9_put_X4_openSize : GoodIn wsX9_put wsX4_openSize := goodIn_r _ [104, 76, 77, 82, 212, 213, 200, 201, 202, 203, 204, 205, 206] (by decide +kernel) (by decide +kernel)
theorem gX9_put_X4_openSize : GoodIn wsX9_put (wsV RX9 120 RX4 yX4_openSize wsX4_openSize) := goodIn_app (goodIn_of _ (by decide +kernel)) ggX9_put_X4_openSize
theorem dX9_put_0 : decode cX9_put 0 = .ok (.aload_n 0, 1) := by decide +kernel
theorem dX9_put_1 : decode cX9_put 1 = .ok (.iload_n 1, 1) := by decide +kernel
theorem dX9_put_2 : decode cX9_put 2 = .ok (.invokevirtual 101, 3) := by decide +kernel
theorem dX9_put_5 : decode cX9_put 5 = .ok (.astore 4, 2) := by decide +kernel
theorem dX9_put_7 : decode cX9_put 7 = .ok (.aload_n 0, 1) := by decide +kernel
theorem dX9_put_8 : decode cX9_put 8 = .ok (.iload_n 2, 1) := by decide +kernel
theorem dX9_put_9 : decode cX9_put 9 = .ok (.i2l, 1) := by decide +kernel
theorem dX9_put_10 : decode cX9_put 10 = .ok (.invokevirtual 105, 3) := by decide +kernel
theorem dX9_put_13 : decode cX9_put 13 = .ok (.ifCond .eq 15, 3) := by decide +kernel
theorem dX9_put_16 : decode cX9_put 16 = .ok (.iload_n 3, 1) := by decide +kernel
theorem dX9_put_17 : decode cX9_put 17 = .ok (.i2l, 1) := by decide +kernel
theorem dX9_put_18 : decode cX9_put 18 = .ok (.invokestatic 109, 3) := by decide +kernel
theorem dX9_put_21 : decode cX9_put 21 = .ok (.ifCond .eq 7, 3) := by decide +kernel
theorem dX9_put_24 : decode cX9_put 24 = .ok (.iconst 1, 1) := by decide +kernel
theorem dX9_put_25 : decode cX9_put 25 = .ok (.goto 4, 3) := by decide +kernel
theorem dX9_put_28 : decode cX9_put 28 = .ok (.iconst 0, 1) := by decide +kernel
theorem dX9_put_29 : decode cX9_put 29 = .ok (.invokestatic 55, 3) := by decide +kernel
theorem dX9_put_32 : decode cX9_put 32 = .ok (.aload_n 0, 1) := by decide +kernel
theorem dX9_put_33 : decode cX9_put 33 = .ok (.aload 4, 2) := by decide +kernel
theorem dX9_put_35 : decode cX9_put 35 = .ok (.iload_n 2, 1) := by decide +kernel
theorem dX9_put_36 : decode cX9_put 36 = .ok (.iload_n 3, 1) := by decide +kernel
theorem dX9_put_37 : decode cX9_put 37 = .ok (.invokevirtual 112, 3) := by decide +kernel
theorem dX9_put_40 : decode cX9_put 40 = .ok (.ifCond .ne 5, 3) := by decide +kernel
theorem dX9_put_43 : decode cX9_put 43 = .ok (.iconst (-1), 1) := by decide +kernel
theorem dX9_put_44 : decode cX9_put 44 = .ok (.ireturn, 1) := by decide +kernel
theorem dX9_put_45 : decode cX9_put 45 = .ok (.aload 4, 2) := by decide +kernel
theorem dX9_put_47 : decode cX9_put 47 = .ok (.getfield 116, 3) := by decide +kernel
theorem dX9_put_50 : decode cX9_put 50 = .ok (.invokevirtual 120, 3) := by decide +kernel
theorem dX9_put_53 : decode cX9_put 53 = .ok (.ireturn, 1) := by decide +kernel
theorem ggX9_goOn_X9_canGoOn : GoodIn wsX9_goOn wsX9_canGoOn := goodIn_r _ [8, 1, 9, 10, 11, 12, 7, 13, 243, 244, 245, 246, 247, 248, 249, 250, 251, 252, 253, 254, 255, 256] (by decide +kernel) (by decide +kernel)
theorem gX9_goOn_X9_canGoOn : GoodIn wsX9_goOn (wsV RX9 125 RX9 yX9_canGoOn wsX9_canGoOn) := goodIn_app (goodIn_of _ (by decide +kernel)) ggX9_goOn_X9_canGoOn
theorem ggX9_goOn_X9_needArgument : GoodIn wsX9_goOn wsX9_needArgument := goodIn_ca (goodIn_r _ [16, 17, 18] (by decide +kernel) (by decide +kernel)) (goodIn_sub (fun _ h => List.mem_cons_of_mem _ (List.mem_append_right _ h)) (by decide +kernel))
theorem gX9_goOn_X9_needArgument : GoodIn wsX9_goOn (va_wsS RX9 55 yX9_needArgument wsX9_needArgument) := goodIn_app (goodIn_of _ (by decide +kernel)) ggX9_goOn_X9_needArgument
theorem ggX9_goOn_X8_goOnByOne : GoodIn wsX9_goOn wsX8_goOnByOne := goodIn_r _ [23, 24, 25, 26, 27, 28, 29, 30, 31, 32, 33, 34, 35, 36, 37, 38, 39, 40, 41, 42, 43, 44, 45, 46, 47, 48, 49, 50, 51, 52, 53, 54, 55, 56, 57, 58, 59, 60, 61, 62, 63, 64, 65, 66, 67, 68, 69, 70, 71, 72, 73, 74, 75, 76, 77, 78, 79, 80, 81, 82, 83, 84, 85, 86, 87, 88, 89, 90, 91, 92, 93, 94, 95, 96, 97, 98, 99, 100, 101, 102, 103, 104, 105, 106, 107, 108, 109, 110, 111, 112, 113, 114, 115, 116, 117, 118, 119, 120, 121, 122, 123, 124, 125, 126, 127, 128, 129, 130, 131, 132, 133, 134, 135, 136, 137, 138, 139, 140, 141, 142, 143, 144, 145, 146, 147, 148, 149, 150, 151, 152, 153, 154, 155, 156, 157, 158, 159, 160, 161, 162, 163, 164, 165, 166, 167, 168, 169, 170, 171, 172, 173, 174, 175, 176, 177, 178, 179, 180, 181, 182, 183, 184, 185, 186, 187, 188, 189, 190, 191, 192, 193, 194, 195, 196, 197, 198, 199, 200, 201, 202, 203, 204, 205, 206, 207, 208, 209, 210, 211, 212, 213, 214, 215, 216, 217, 218, 219, 220, 221, 222, 223, 224, 225, 226, 227, 228, 229, 230, 231, 232, 233, 234, 235, 236, 237, 238, 239, 240, 241, 242, 252, 253, 254, 255, 256, 260, 261, 262, 263, 264, 265, 266, 267, 268, 269, 270, 271, 272, 273, 274, 275, 276, 277, 278, 279, 280, 281, 282, 283, 284, 285, 286, 287, 288, 289, 290, 257, 258, 259] (by decide +kernel) (by decide +kernel)
theorem gX9_goOn_X8_goOnByOne : GoodIn wsX9_goOn (wsV RX9 138 RX8 yX8_goOnByOne wsX8_goOnByOne) := goodIn_app (goodIn_of _ (by decide +kernel)) ggX9_goOn_X8_goOnByOne
theorem dX9_goOn_0 : decode cX9_goOn 0 = .ok (.aload_n 0, 1) := by decide +kernel
theorem dX9_goOn_1 : decode cX9_goOn 1 = .ok (.iload_n 1, 1) := by decide +kernel
theorem dX9_goOn_2 : decode cX9_goOn 2 = .ok (.invokevirtual 125, 3) := by decide +kernel
theorem dX9_goOn_5 : decode cX9_goOn 5 = .ok (.invokestatic 55, 3) := by decide +kernel
theorem dX9_goOn_8 : decode cX9_goOn 8 = .ok (.aload_n 0, 1) := by decide +kernel
theorem dX9_goOn_9 : decode cX9_goOn 9 = .ok (.getfield 21, 3) := by decide +kernel
theorem dX9_goOn_12 : decode cX9_goOn 12 = .ok (.getfield 129, 3) := by decide +kernel
theorem dX9_goOn_15 : decode cX9_goOn 15 = .ok (.getfield 133, 3) := by decide +kernel
theorem dX9_goOn_18 : decode cX9_goOn 18 = .ok (.istore_n 2, 1) := by decide +kernel
theorem dX9_goOn_19 : decode cX9_goOn 19 = .ok (.iconst 0, 1) := by decide +kernel
theorem dX9_goOn_20 : decode cX9_goOn 20 = .ok (.istore_n 3, 1) := by decide +kernel
theorem dX9_goOn_21 : decode cX9_goOn 21 = .ok (.iload_n 3, 1) := by decide +kernel
theorem dX9_goOn_22 : decode cX9_goOn 22 = .ok (.iload_n 1, 1) := by decide +kernel
theorem dX9_goOn_23 : decode cX9_goOn 23 = .ok (.if_icmp .ge 16, 3) := by decide +kernel
theorem dX9_goOn_26 : decode cX9_goOn 26 = .ok (.aload_n 0, 1) := by decide +kernel
theorem dX9_goOn_27 : decode cX9_goOn 27 = .ok (.getfield 21, 3) := by decide +kernel
theorem dX9_goOn_30 : decode cX9_goOn 30 = .ok (.invokevirtual 138, 3) := by decide +kernel
theorem dX9_goOn_33 : decode cX9_goOn 33 = .ok (.iinc 3 1, 3) := by decide +kernel
theorem dX9_goOn_36 : decode cX9_goOn 36 = .ok (.goto (-15), 3) := by decide +kernel
theorem dX9_goOn_39 : decode cX9_goOn 39 = .ok (.aload_n 0, 1) := by decide +kernel
theorem dX9_goOn_40 : decode cX9_goOn 40 = .ok (.getfield 21, 3) := by decide +kernel
theorem dX9_goOn_43 : decode cX9_goOn 43 = .ok (.getfield 129, 3) := by decide +kernel
theorem dX9_goOn_46 : decode cX9_goOn 46 = .ok (.getfield 133, 3) := by decide +kernel
theorem dX9_goOn_49 : decode cX9_goOn 49 = .ok (.iload_n 2, 1) := by decide +kernel
theorem dX9_goOn_50 : decode cX9_goOn 50 = .ok (.isub, 1) := by decide +kernel
theorem dX9_goOn_51 : decode cX9_goOn 51 = .ok (.ireturn, 1) := by decide +kernel
theorem dX9_now_0 : decode cX9_now 0 = .ok (.aload_n 0, 1) := by decide +kernel
theorem dX9_now_1 : decode cX9_now 1 = .ok (.getfield 21, 3) := by decide +kernel
theorem dX9_now_4 : decode cX9_now 4 = .ok (.getfield 141, 3) := by decide +kernel
theorem dX9_now_7 : decode cX9_now 7 = .ok (.ireturn, 1) := by decide +kernel
theorem dX9_late_0 : decode cX9_late 0 = .ok (.aload_n 0, 1) := by decide +kernel
theorem dX9_late_1 : decode cX9_late 1 = .ok (.getfield 48, 3) := by decide +kernel
theorem dX9_late_4 : decode cX9_late 4 = .ok (.ireturn, 1) := by decide +kernel
theorem ggX9_blocks_X9_chainAt : GoodIn wsX9_blocks wsX9_chainAt := goodIn_ca (goodIn_r _ [6, 7, 8, 9, 10, 11, 12, 13, 14, 15, 16, 17, 18, 19, 20, 21, 22, 23, 24, 25, 26, 27, 28, 29, 30, 31, 32, 33, 34, 46, 47, 48, 49, 50, 51, 52, 53, 54, 55, 56, 57, 58, 59, 60, 61, 62] (by decide +kernel) (by decide +kernel)) (goodIn_sub (fun _ h => List.mem_cons_of_mem _ (List.mem_append_right _ h)) (by decide +kernel))
theorem gX9_blocks_X9_chainAt : GoodIn wsX9_blocks (wsV RX9 101 RX9 yX9_chainAt wsX9_chainAt) := goodIn_app (goodIn_of _ (by decide +kernel)) ggX9_blocks_X9_chainAt
theorem ggX9_blocks_X4_blockCount : GoodIn wsX9_blocks wsX4_blockCount := goodIn_r _ [39, 40, 63, 64, 65, 66, 67, 68, 69] (by decide +kernel) (by decide +kernel)
theorem gX9_blocks_X4_blockCount : GoodIn wsX9_blocks (wsV RX9 144 RX4 yX4_blockCount wsX4_blockCount) := goodIn_app (goodIn_of _ (by decide +kernel)) ggX9_blocks_X4_blockCount
theorem dX9_blocks_0 : decode cX9_blocks 0 = .ok (.aload_n 0, 1) := by decide +kernel
theorem dX9_blocks_1 : decode cX9_blocks 1 = .ok (.iload_n 1, 1) := by decide +kernel
theorem dX9_blocks_2 : decode cX9_blocks 2 = .ok (.invokevirtual 101, 3) := by decide +kernel
theorem dX9_blocks_5 : decode cX9_blocks 5 = .ok (.getfield 116, 3) := by decide +kernel
theorem dX9_blocks_8 : decode cX9_blocks 8 = .ok (.invokevirtual 144, 3) := by decide +kernel
theorem dX9_blocks_11 : decode cX9_blocks 11 = .ok (.ireturn, 1) := by decide +kernel
theorem ggX9_size_X9_chainAt : GoodIn wsX9_size wsX9_chainAt := goodIn_ca (goodIn_r _ [7, 8, 9, 10, 11, 12, 13, 14, 15, 16, 17, 18, 19, 20, 21, 22, 23, 24, 25, 26, 27, 28, 29, 30, 31, 32, 33, 34, 35, 68, 69, 70, 71, 72, 73, 74, 75, 76, 77, 78, 79, 80, 81, 82, 83, 84] (by decide +kernel) (by decide +kernel)) (goodIn_sub (fun _ h => List.mem_cons_of_mem _ (List.mem_append_right _ h)) (by decide +kernel))
theorem gX9_size_X9_chainAt : GoodIn wsX9_size (wsV RX9 101 RX9 yX9_chainAt wsX9_chainAt) := goodIn_app (goodIn_of _ (by decide +kernel)) ggX9_size_X9_chainAt
theorem ggX9_size_X9_isIn : GoodIn wsX9_size wsX9_isIn := goodIn_r _ [38] (by decide +kernel) (by decide +kernel)
theorem gX9_size_X9_isIn : GoodIn wsX9_size (va_wsS RX9 51 yX9_isIn wsX9_isIn) := goodIn_app (goodIn_of _ (by decide +kernel)) ggX9_size_X9_isIn
theorem ggX9_size_X9_needIndex : GoodIn wsX9_size wsX9_needIndex := goodIn_ca (goodIn_r _ [41, 8, 9] (by decide +kernel) (by decide +kernel)) (goodIn_sub (fun _ h => List.mem_cons_of_mem _ (List.mem_append_right _ h)) (by decide +kernel))
theorem gX9_size_X9_needIndex : GoodIn wsX9_size (va_wsS RX9 150 yX9_needIndex wsX9_needIndex) := goodIn_app (goodIn_of _ (by decide +kernel)) ggX9_size_X9_needIndex
theorem ggX9_size_X4_sizeOf : GoodIn wsX9_size wsX4_sizeOf := goodIn_r _ [46, 47, 48, 49, 50, 51, 45, 52, 53, 54, 55, 61, 62, 63, 64, 65, 66, 67, 85, 86] (by decide +kernel) (by decide +kernel)
theorem gX9_size_X4_sizeOf : GoodIn wsX9_size (wsV RX9 153 RX4 yX4_sizeOf wsX4_sizeOf) := goodIn_app (goodIn_of _ (by decide +kernel)) ggX9_size_X4_sizeOf
theorem dX9_size_0 : decode cX9_size 0 = .ok (.aload_n 0, 1) := by decide +kernel
theorem dX9_size_1 : decode cX9_size 1 = .ok (.iload_n 1, 1) := by decide +kernel
theorem dX9_size_2 : decode cX9_size 2 = .ok (.invokevirtual 101, 3) := by decide +kernel
theorem dX9_size_5 : decode cX9_size 5 = .ok (.getfield 116, 3) := by decide +kernel
theorem dX9_size_8 : decode cX9_size 8 = .ok (.astore_n 3, 1) := by decide +kernel
theorem dX9_size_9 : decode cX9_size 9 = .ok (.iload_n 2, 1) := by decide +kernel
theorem dX9_size_10 : decode cX9_size 10 = .ok (.i2l, 1) := by decide +kernel
theorem dX9_size_11 : decode cX9_size 11 = .ok (.iconst 0, 1) := by decide +kernel
theorem dX9_size_12 : decode cX9_size 12 = .ok (.aload_n 3, 1) := by decide +kernel
theorem dX9_size_13 : decode cX9_size 13 = .ok (.getfield 147, 3) := by decide +kernel
theorem dX9_size_16 : decode cX9_size 16 = .ok (.invokestatic 51, 3) := by decide +kernel
theorem dX9_size_19 : decode cX9_size 19 = .ok (.invokestatic 150, 3) := by decide +kernel
theorem dX9_size_22 : decode cX9_size 22 = .ok (.aload_n 3, 1) := by decide +kernel
theorem dX9_size_23 : decode cX9_size 23 = .ok (.iload_n 2, 1) := by decide +kernel
theorem dX9_size_24 : decode cX9_size 24 = .ok (.invokevirtual 153, 3) := by decide +kernel
theorem dX9_size_27 : decode cX9_size 27 = .ok (.ireturn, 1) := by decide +kernel
theorem ggX9_point_X9_chainAt : GoodIn wsX9_point wsX9_chainAt := goodIn_ca (goodIn_r _ [7, 8, 9, 10, 11, 12, 13, 14, 15, 16, 17, 18, 19, 20, 21, 22, 23, 24, 25, 26, 27, 28, 29, 30, 31, 32, 33, 34, 35, 79, 80, 81, 82, 83, 84, 85, 86, 87, 88, 89, 90, 91, 92, 93, 94, 95] (by decide +kernel) (by decide +kernel)) (goodIn_sub (fun _ h => List.mem_cons_of_mem _ (List.mem_append_right _ h)) (by decide +kernel))
theorem gX9_point_X9_chainAt : GoodIn wsX9_point (wsV RX9 101 RX9 yX9_chainAt wsX9_chainAt) := goodIn_app (goodIn_of _ (by decide +kernel)) ggX9_point_X9_chainAt
theorem ggX9_point_X9_isIn : GoodIn wsX9_point wsX9_isIn := goodIn_r _ [38] (by decide +kernel) (by decide +kernel)
theorem gX9_point_X9_isIn : GoodIn wsX9_point (va_wsS RX9 51 yX9_isIn wsX9_isIn) := goodIn_app (goodIn_of _ (by decide +kernel)) ggX9_point_X9_isIn
theorem ggX9_point_X9_needIndex : GoodIn wsX9_point wsX9_needIndex := goodIn_ca (goodIn_r _ [41, 8, 9] (by decide +kernel) (by decide +kernel)) (goodIn_sub (fun _ h => List.mem_cons_of_mem _ (List.mem_append_right _ h)) (by decide +kernel))
theorem gX9_point_X9_needIndex : GoodIn wsX9_point (va_wsS RX9 150 yX9_needIndex wsX9_needIndex) := goodIn_app (goodIn_of _ (by decide +kernel)) ggX9_point_X9_needIndex
theorem ggX9_point_X4_sizeOf : GoodIn wsX9_point wsX4_sizeOf := goodIn_r _ [46, 47, 48, 49, 50, 51, 45, 52, 53, 54, 55, 72, 73, 74, 75, 76, 77, 78, 96, 97] (by decide +kernel) (by decide +kernel)
theorem gX9_point_X4_sizeOf : GoodIn wsX9_point (wsV RX9 153 RX4 yX4_sizeOf wsX4_sizeOf) := goodIn_app (goodIn_of _ (by decide +kernel)) ggX9_point_X4_sizeOf
theorem ggX9_point_X4_startOf : GoodIn wsX9_point wsX4_startOf := goodIn_r _ [59, 47, 60, 43, 44, 45, 46, 48, 49, 50, 51, 52, 53, 54, 55, 72, 73, 74, 75, 76, 77, 78, 96, 97] (by decide +kernel) (by decide +kernel)
theorem gX9_point_X4_startOf : GoodIn wsX9_point (wsV RX9 157 RX4 yX4_startOf wsX4_startOf) := goodIn_app (goodIn_of _ (by decide +kernel)) ggX9_point_X4_startOf
theorem ggX9_point_X4_number : GoodIn wsX9_point wsX4_number := goodIn_r _ [64, 65, 66, 72, 73, 74, 75, 76, 77, 78] (by decide +kernel) (by decide +kernel)
theorem gX9_point_X4_number : GoodIn wsX9_point (wsV RX9 160 RX4 yX4_number wsX4_number) := goodIn_app (goodIn_of _ (by decide +kernel)) ggX9_point_X4_number
theorem dX9_point_0 : decode cX9_point 0 = .ok (.aload_n 0, 1) := by decide +kernel
theorem dX9_point_1 : decode cX9_point 1 = .ok (.iload_n 1, 1) := by decide +kernel
theorem dX9_point_2 : decode cX9_point 2 = .ok (.invokevirtual 101, 3) := by decide +kernel
theorem dX9_point_5 : decode cX9_point 5 = .ok (.getfield 116, 3) := by decide +kernel
theorem dX9_point_8 : decode cX9_point 8 = .ok (.astore 5, 2) := by decide +kernel
theorem dX9_point_10 : decode cX9_point 10 = .ok (.iload_n 2, 1) := by decide +kernel
theorem dX9_point_11 : decode cX9_point 11 = .ok (.i2l, 1) := by decide +kernel
theorem dX9_point_12 : decode cX9_point 12 = .ok (.iconst 0, 1) := by decide +kernel
theorem dX9_point_13 : decode cX9_point 13 = .ok (.aload 5, 2) := by decide +kernel
theorem dX9_point_15 : decode cX9_point 15 = .ok (.getfield 147, 3) := by decide +kernel
theorem dX9_point_18 : decode cX9_point 18 = .ok (.invokestatic 51, 3) := by decide +kernel
theorem dX9_point_21 : decode cX9_point 21 = .ok (.invokestatic 150, 3) := by decide +kernel
theorem dX9_point_24 : decode cX9_point 24 = .ok (.iload_n 3, 1) := by decide +kernel
theorem dX9_point_25 : decode cX9_point 25 = .ok (.i2l, 1) := by decide +kernel
theorem dX9_point_26 : decode cX9_point 26 = .ok (.iconst 0, 1) := by decide +kernel
theorem dX9_point_27 : decode cX9_point 27 = .ok (.aload 5, 2) := by decide +kernel
theorem dX9_point_29 : decode cX9_point 29 = .ok (.iload_n 2, 1) := by decide +kernel
theorem dX9_point_30 : decode cX9_point 30 = .ok (.invokevirtual 153, 3) := by decide +kernel
theorem dX9_point_33 : decode cX9_point 33 = .ok (.iconst 1, 1) := by decide +kernel
theorem dX9_point_34 : decode cX9_point 34 = .ok (.isub, 1) := by decide +kernel
theorem dX9_point_35 : decode cX9_point 35 = .ok (.invokestatic 51, 3) := by decide +kernel
theorem dX9_point_38 : decode cX9_point 38 = .ok (.invokestatic 150, 3) := by decide +kernel
theorem dX9_point_41 : decode cX9_point 41 = .ok (.aload 5, 2) := by decide +kernel
theorem dX9_point_43 : decode cX9_point 43 = .ok (.aload 5, 2) := by decide +kernel
theorem dX9_point_45 : decode cX9_point 45 = .ok (.iload_n 2, 1) := by decide +kernel
theorem dX9_point_46 : decode cX9_point 46 = .ok (.invokevirtual 157, 3) := by decide +kernel
theorem dX9_point_49 : decode cX9_point 49 = .ok (.iload_n 3, 1) := by decide +kernel
theorem dX9_point_50 : decode cX9_point 50 = .ok (.iadd, 1) := by decide +kernel
theorem dX9_point_51 : decode cX9_point 51 = .ok (.iload 4, 2) := by decide +kernel
theorem dX9_point_53 : decode cX9_point 53 = .ok (.ifCond .eq 7, 3) := by decide +kernel
theorem dX9_point_56 : decode cX9_point 56 = .ok (.iconst 5, 1) := by decide +kernel
theorem dX9_point_57 : decode cX9_point 57 = .ok (.goto 4, 3) := by decide +kernel
theorem dX9_point_60 : decode cX9_point 60 = .ok (.iconst 0, 1) := by decide +kernel
theorem dX9_point_61 : decode cX9_point 61 = .ok (.invokevirtual 160, 3) := by decide +kernel
theorem dX9_point_64 : decode cX9_point 64 = .ok (.ireturn, 1) := by decide +kernel
theorem ggX9_bits_X9_chainAt : GoodIn wsX9_bits wsX9_chainAt := goodIn_ca (goodIn_r _ [8, 9, 10, 11, 12, 13, 14, 15, 16, 17, 18, 19, 20, 21, 22, 23, 24, 25, 26, 27, 28, 29, 30, 31, 32, 33, 34, 35, 36, 118, 119, 120, 121, 122, 123, 124, 125, 126, 127, 128, 129, 130, 131, 132, 133, 134] (by decide +kernel) (by decide +kernel)) (goodIn_sub (fun _ h => List.mem_cons_of_mem _ (List.mem_append_right _ h)) (by decide +kernel))
theorem gX9_bits_X9_chainAt : GoodIn wsX9_bits (wsV RX9 101 RX9 yX9_chainAt wsX9_chainAt) := goodIn_app (goodIn_of _ (by decide +kernel)) ggX9_bits_X9_chainAt
theorem ggX9_bits_X9_isIn : GoodIn wsX9_bits wsX9_isIn := goodIn_r _ [39] (by decide +kernel) (by decide +kernel)
theorem gX9_bits_X9_isIn : GoodIn wsX9_bits (va_wsS RX9 51 yX9_isIn wsX9_isIn) := goodIn_app (goodIn_of _ (by decide +kernel)) ggX9_bits_X9_isIn
theorem ggX9_bits_X9_needIndex : GoodIn wsX9_bits wsX9_needIndex := goodIn_ca (goodIn_r _ [42, 9, 10] (by decide +kernel) (by decide +kernel)) (goodIn_sub (fun _ h => List.mem_cons_of_mem _ (List.mem_append_right _ h)) (by decide +kernel))
theorem gX9_bits_X9_needIndex : GoodIn wsX9_bits (va_wsS RX9 150 yX9_needIndex wsX9_needIndex) := goodIn_app (goodIn_of _ (by decide +kernel)) ggX9_bits_X9_needIndex
theorem ggX9_bits_X3_pack : GoodIn wsX9_bits wsX3_pack := goodIn_r _ [47, 48, 49, 50, 51, 52, 53, 54, 55, 56, 57, 58, 59, 60, 61, 62, 63, 64, 65, 66, 67, 68, 69, 70, 71, 46, 72, 73, 74, 75, 76, 77, 78, 79, 80, 81, 82, 83, 84, 85, 86, 87, 88, 89, 90, 91, 92, 93, 94, 95, 96, 97, 98, 99, 100, 38, 7, 39, 101, 102, 103, 104, 105, 111, 112, 113, 114, 115, 116, 117, 135, 136, 137, 138, 139, 140, 141, 142] (by decide +kernel) (by decide +kernel)
theorem gX9_bits_X3_pack : GoodIn wsX9_bits (wsV RX9 164 RX3 yX3_pack wsX3_pack) := goodIn_app (goodIn_of _ (by decide +kernel)) ggX9_bits_X3_pack
theorem dX9_bits_0 : decode cX9_bits 0 = .ok (.aload_n 0, 1) := by decide +kernel
theorem dX9_bits_1 : decode cX9_bits 1 = .ok (.iload_n 1, 1) := by decide +kernel
theorem dX9_bits_2 : decode cX9_bits 2 = .ok (.invokevirtual 101, 3) := by decide +kernel
theorem dX9_bits_5 : decode cX9_bits 5 = .ok (.getfield 116, 3) := by decide +kernel
theorem dX9_bits_8 : decode cX9_bits 8 = .ok (.astore_n 3, 1) := by decide +kernel
theorem dX9_bits_9 : decode cX9_bits 9 = .ok (.iload_n 2, 1) := by decide +kernel
theorem dX9_bits_10 : decode cX9_bits 10 = .ok (.i2l, 1) := by decide +kernel
theorem dX9_bits_11 : decode cX9_bits 11 = .ok (.iconst 0, 1) := by decide +kernel
theorem dX9_bits_12 : decode cX9_bits 12 = .ok (.aload_n 3, 1) := by decide +kernel
theorem dX9_bits_13 : decode cX9_bits 13 = .ok (.getfield 147, 3) := by decide +kernel
theorem dX9_bits_16 : decode cX9_bits 16 = .ok (.invokestatic 51, 3) := by decide +kernel
theorem dX9_bits_19 : decode cX9_bits 19 = .ok (.invokestatic 150, 3) := by decide +kernel
theorem dX9_bits_22 : decode cX9_bits 22 = .ok (.aload_n 0, 1) := by decide +kernel
theorem dX9_bits_23 : decode cX9_bits 23 = .ok (.getfield 31, 3) := by decide +kernel
theorem dX9_bits_26 : decode cX9_bits 26 = .ok (.aload_n 3, 1) := by decide +kernel
theorem dX9_bits_27 : decode cX9_bits 27 = .ok (.iload_n 2, 1) := by decide +kernel
theorem dX9_bits_28 : decode cX9_bits 28 = .ok (.invokevirtual 164, 3) := by decide +kernel
theorem dX9_bits_31 : decode cX9_bits 31 = .ok (.ireturn, 1) := by decide +kernel
theorem ggX9_buckets_X9_chainAt : GoodIn wsX9_buckets wsX9_chainAt := goodIn_ca (goodIn_r _ [7, 8, 9, 10, 11, 12, 13, 14, 15, 16, 17, 18, 19, 20, 21, 22, 23, 24, 25, 26, 27, 28, 29, 30, 31, 32, 33, 34, 35, 52, 53, 54, 55, 56, 57, 58, 59, 60, 61, 62, 63, 64, 65, 66, 67, 68] (by decide +kernel) (by decide +kernel)) (goodIn_sub (fun _ h => List.mem_cons_of_mem _ (List.mem_append_right _ h)) (by decide +kernel))
theorem gX9_buckets_X9_chainAt : GoodIn wsX9_buckets (wsV RX9 101 RX9 yX9_chainAt wsX9_chainAt) := goodIn_app (goodIn_of _ (by decide +kernel)) ggX9_buckets_X9_chainAt
theorem ggX9_buckets_X6_bucketsOf : GoodIn wsX9_buckets wsX6_bucketsOf := goodIn_r _ [40, 41, 42, 69, 70, 71, 72, 73] (by decide +kernel) (by decide +kernel)
theorem gX9_buckets_X6_bucketsOf : GoodIn wsX9_buckets (wsV RX9 174 RX6 yX6_bucketsOf wsX6_bucketsOf) := goodIn_app (goodIn_of _ (by decide +kernel)) ggX9_buckets_X6_bucketsOf
theorem dX9_buckets_0 : decode cX9_buckets 0 = .ok (.aload_n 0, 1) := by decide +kernel
theorem dX9_buckets_1 : decode cX9_buckets 1 = .ok (.iload_n 1, 1) := by decide +kernel
theorem dX9_buckets_2 : decode cX9_buckets 2 = .ok (.invokevirtual 101, 3) := by decide +kernel
theorem dX9_buckets_5 : decode cX9_buckets 5 = .ok (.iload_n 2, 1) := by decide +kernel
theorem dX9_buckets_6 : decode cX9_buckets 6 = .ok (.invokevirtual 174, 3) := by decide +kernel
theorem dX9_buckets_9 : decode cX9_buckets 9 = .ok (.getfield 178, 3) := by decide +kernel
theorem dX9_buckets_12 : decode cX9_buckets 12 = .ok (.ireturn, 1) := by decide +kernel
theorem ggX9_ofBucket_X9_chainAt : GoodIn wsX9_ofBucket wsX9_chainAt := goodIn_ca (goodIn_r _ [7, 8, 9, 10, 11, 12, 13, 14, 15, 16, 17, 18, 19, 20, 21, 22, 23, 24, 25, 26, 27, 28, 29, 30, 31, 32, 33, 34, 35, 69, 70, 71, 72, 73, 74, 75, 76, 77, 78, 79, 80, 81, 82, 83, 84, 85] (by decide +kernel) (by decide +kernel)) (goodIn_sub (fun _ h => List.mem_cons_of_mem _ (List.mem_append_left _ (List.mem_append_right _ h))) (by decide +kernel))
theorem gX9_ofBucket_X9_chainAt : GoodIn wsX9_ofBucket (wsV RX9 101 RX9 yX9_chainAt wsX9_chainAt) := goodIn_app (goodIn_of _ (by decide +kernel)) ggX9_ofBucket_X9_chainAt
theorem ggX9_ofBucket_X6_bucketsOf : GoodIn wsX9_ofBucket wsX6_bucketsOf := goodIn_r _ [40, 41, 42, 86, 87, 88, 89, 90] (by decide +kernel) (by decide +kernel)
theorem gX9_ofBucket_X6_bucketsOf : GoodIn wsX9_ofBucket (wsV RX9 174 RX6 yX6_bucketsOf wsX6_bucketsOf) := goodIn_app (goodIn_of _ (by decide +kernel)) ggX9_ofBucket_X6_bucketsOf
theorem ggX9_ofBucket_X9_isIn : GoodIn wsX9_ofBucket wsX9_isIn := goodIn_r _ [45] (by decide +kernel) (by decide +kernel)
theorem gX9_ofBucket_X9_isIn : GoodIn wsX9_ofBucket (va_wsS RX9 51 yX9_isIn wsX9_isIn) := goodIn_app (goodIn_of _ (by decide +kernel)) ggX9_ofBucket_X9_isIn
theorem ggX9_ofBucket_X9_needIndex : GoodIn wsX9_ofBucket wsX9_needIndex := goodIn_ca (goodIn_r _ [48, 8, 9] (by decide +kernel) (by decide +kernel)) (goodIn_sub (fun _ h => List.mem_cons_of_mem _ (List.mem_append_left _ (List.mem_append_right _ h))) (by decide +kernel))
theorem gX9_ofBucket_X9_needIndex : GoodIn wsX9_ofBucket (va_wsS RX9 150 yX9_needIndex wsX9_needIndex) := goodIn_app (goodIn_of _ (by decide +kernel)) ggX9_ofBucket_X9_needIndex
theorem ggX9_ofBucket_X9_needArgument : GoodIn wsX9_ofBucket wsX9_needArgument := goodIn_ca (goodIn_r _ [51, 52, 53] (by decide +kernel) (by decide +kernel)) (goodIn_sub (fun _ h => List.mem_cons_of_mem _ (List.mem_append_right _ h)) (by decide +kernel))
theorem gX9_ofBucket_X9_needArgument : GoodIn wsX9_ofBucket (va_wsS RX9 55 yX9_needArgument wsX9_needArgument) := goodIn_app (goodIn_of _ (by decide +kernel)) ggX9_ofBucket_X9_needArgument
theorem ggX9_ofBucket_X0_number : GoodIn wsX9_ofBucket wsX0_number := goodIn_r _ [58, 59, 60, 61] (by decide +kernel) (by decide +kernel)
theorem gX9_ofBucket_X0_number : GoodIn wsX9_ofBucket (wsV RX9 183 RX0 yX0_number wsX0_number) := goodIn_app (goodIn_of _ (by decide +kernel)) ggX9_ofBucket_X0_number
theorem dX9_ofBucket_0 : decode cX9_ofBucket 0 = .ok (.aload_n 0, 1) := by decide +kernel
theorem dX9_ofBucket_1 : decode cX9_ofBucket 1 = .ok (.iload_n 1, 1) := by decide +kernel
theorem dX9_ofBucket_2 : decode cX9_ofBucket 2 = .ok (.invokevirtual 101, 3) := by decide +kernel
theorem dX9_ofBucket_5 : decode cX9_ofBucket 5 = .ok (.iload_n 2, 1) := by decide +kernel
theorem dX9_ofBucket_6 : decode cX9_ofBucket 6 = .ok (.invokevirtual 174, 3) := by decide +kernel
theorem dX9_ofBucket_9 : decode cX9_ofBucket 9 = .ok (.astore 5, 2) := by decide +kernel
theorem dX9_ofBucket_11 : decode cX9_ofBucket 11 = .ok (.iload_n 3, 1) := by decide +kernel
theorem dX9_ofBucket_12 : decode cX9_ofBucket 12 = .ok (.i2l, 1) := by decide +kernel
theorem dX9_ofBucket_13 : decode cX9_ofBucket 13 = .ok (.iconst 0, 1) := by decide +kernel
theorem dX9_ofBucket_14 : decode cX9_ofBucket 14 = .ok (.aload 5, 2) := by decide +kernel
theorem dX9_ofBucket_16 : decode cX9_ofBucket 16 = .ok (.getfield 178, 3) := by decide +kernel
theorem dX9_ofBucket_19 : decode cX9_ofBucket 19 = .ok (.iconst 1, 1) := by decide +kernel
theorem dX9_ofBucket_20 : decode cX9_ofBucket 20 = .ok (.isub, 1) := by decide +kernel
theorem dX9_ofBucket_21 : decode cX9_ofBucket 21 = .ok (.invokestatic 51, 3) := by decide +kernel
theorem dX9_ofBucket_24 : decode cX9_ofBucket 24 = .ok (.invokestatic 150, 3) := by decide +kernel
theorem dX9_ofBucket_27 : decode cX9_ofBucket 27 = .ok (.iload 4, 2) := by decide +kernel
theorem dX9_ofBucket_29 : decode cX9_ofBucket 29 = .ok (.i2l, 1) := by decide +kernel
theorem dX9_ofBucket_30 : decode cX9_ofBucket 30 = .ok (.iconst 0, 1) := by decide +kernel
theorem dX9_ofBucket_31 : decode cX9_ofBucket 31 = .ok (.bipush 6, 2) := by decide +kernel
theorem dX9_ofBucket_33 : decode cX9_ofBucket 33 = .ok (.invokestatic 51, 3) := by decide +kernel
theorem dX9_ofBucket_36 : decode cX9_ofBucket 36 = .ok (.invokestatic 55, 3) := by decide +kernel
theorem dX9_ofBucket_39 : decode cX9_ofBucket 39 = .ok (.aload 5, 2) := by decide +kernel
theorem dX9_ofBucket_41 : decode cX9_ofBucket 41 = .ok (.iload_n 3, 1) := by decide +kernel
theorem dX9_ofBucket_42 : decode cX9_ofBucket 42 = .ok (.iload 4, 2) := by decide +kernel
theorem dX9_ofBucket_44 : decode cX9_ofBucket 44 = .ok (.invokevirtual 183, 3) := by decide +kernel
theorem dX9_ofBucket_47 : decode cX9_ofBucket 47 = .ok (.ireturn, 1) := by decide +kernel
theorem ggX9_items_X9_chainAt : GoodIn wsX9_items wsX9_chainAt := goodIn_ca (goodIn_r _ [5, 6, 7, 8, 9, 10, 11, 12, 13, 14, 15, 16, 17, 18, 19, 20, 21, 22, 23, 24, 25, 26, 27, 28, 29, 30, 31, 32, 33, 46, 47, 48, 49, 50, 51, 52, 53, 54, 55, 56, 57, 58, 59, 60, 61, 62] (by decide +kernel) (by decide +kernel)) (goodIn_sub (fun _ h => List.mem_cons_of_mem _ (List.mem_append_right _ h)) (by decide +kernel))
theorem gX9_items_X9_chainAt : GoodIn wsX9_items (wsV RX9 101 RX9 yX9_chainAt wsX9_chainAt) := goodIn_app (goodIn_of _ (by decide +kernel)) ggX9_items_X9_chainAt
theorem ggX9_items_X6_itemCount : GoodIn wsX9_items wsX6_itemCount := goodIn_r _ [38, 39, 40, 41, 42, 43, 44, 45, 63, 64, 65, 66, 67, 68, 69, 70, 71, 72, 73, 74, 75, 76] (by decide +kernel) (by decide +kernel)
theorem gX9_items_X6_itemCount : GoodIn wsX9_items (wsV RX9 184 RX6 yX6_itemCount wsX6_itemCount) := goodIn_app (goodIn_of _ (by decide +kernel)) ggX9_items_X6_itemCount
theorem dX9_items_0 : decode cX9_items 0 = .ok (.aload_n 0, 1) := by decide +kernel
theorem dX9_items_1 : decode cX9_items 1 = .ok (.iload_n 1, 1) := by decide +kernel
theorem dX9_items_2 : decode cX9_items 2 = .ok (.invokevirtual 101, 3) := by decide +kernel
theorem dX9_items_5 : decode cX9_items 5 = .ok (.invokevirtual 184, 3) := by decide +kernel
theorem dX9_items_8 : decode cX9_items 8 = .ok (.ireturn, 1) := by decide +kernel
theorem ggX9_ask_X9_chainAt : GoodIn wsX9_ask wsX9_chainAt := goodIn_ca (goodIn_r _ [5, 6, 7, 8, 9, 10, 11, 12, 13, 14, 15, 16, 17, 18, 19, 20, 21, 22, 23, 24, 25, 26, 27, 28, 29, 30, 31, 32, 33, 118, 119, 120, 121, 122, 123, 124, 125, 126, 127, 128, 129, 130, 131, 132, 133, 134] (by decide +kernel) (by decide +kernel)) (goodIn_sub (fun _ h => List.mem_cons_of_mem _ (List.mem_append_left _ (List.mem_append_right _ h))) (by decide +kernel))
theorem gX9_ask_X9_chainAt : GoodIn wsX9_ask (wsV RX9 101 RX9 yX9_chainAt wsX9_chainAt) := goodIn_app (goodIn_of _ (by decide +kernel)) ggX9_ask_X9_chainAt
theorem ggX9_ask_X9_isIn : GoodIn wsX9_ask wsX9_isIn := goodIn_r _ [36] (by decide +kernel) (by decide +kernel)
theorem gX9_ask_X9_isIn : GoodIn wsX9_ask (va_wsS RX9 51 yX9_isIn wsX9_isIn) := goodIn_app (goodIn_of _ (by decide +kernel)) ggX9_ask_X9_isIn
theorem ggX9_ask_X9_needArgument : GoodIn wsX9_ask wsX9_needArgument := goodIn_ca (goodIn_r _ [39, 40, 41] (by decide +kernel) (by decide +kernel)) (goodIn_sub (fun _ h => List.mem_cons_of_mem _ (List.mem_append_right _ h)) (by decide +kernel))
theorem gX9_ask_X9_needArgument : GoodIn wsX9_ask (va_wsS RX9 55 yX9_needArgument wsX9_needArgument) := goodIn_app (goodIn_of _ (by decide +kernel)) ggX9_ask_X9_needArgument
theorem ggX9_ask_X9_toldByQuery : GoodIn wsX9_ask wsX9_toldByQuery := goodIn_r _ [45, 46, 47, 48, 49, 50, 51, 52, 53, 54, 55, 56, 57, 58, 59, 60, 61, 62, 63, 64, 65, 66, 67, 68, 69, 70, 71, 72, 73, 74, 75, 76, 77, 78, 79, 80, 81, 82, 83, 84, 85, 86, 87, 88, 89, 90, 91, 92, 93, 94, 95, 96, 97, 98, 99, 100, 101, 102, 103, 104, 105, 106, 107, 108, 109, 110, 111, 112, 113, 114, 115, 116, 117, 118, 119, 120, 121, 122, 123, 124, 125, 126, 135, 136, 137, 138, 139, 140, 141, 142, 143, 144, 145, 146, 147, 148] (by decide +kernel) (by decide +kernel)
theorem gX9_ask_X9_toldByQuery : GoodIn wsX9_ask (wsV RX9 196 RX9 yX9_toldByQuery wsX9_toldByQuery) := goodIn_app (goodIn_of _ (by decide +kernel)) ggX9_ask_X9_toldByQuery
theorem dX9_ask_0 : decode cX9_ask 0 = .ok (.aload_n 0, 1) := by decide +kernel
theorem dX9_ask_1 : decode cX9_ask 1 = .ok (.iload_n 1, 1) := by decide +kernel
theorem dX9_ask_2 : decode cX9_ask 2 = .ok (.invokevirtual 101, 3) := by decide +kernel
theorem dX9_ask_5 : decode cX9_ask 5 = .ok (.astore_n 3, 1) := by decide +kernel
theorem dX9_ask_6 : decode cX9_ask 6 = .ok (.iload_n 2, 1) := by decide +kernel
theorem dX9_ask_7 : decode cX9_ask 7 = .ok (.i2l, 1) := by decide +kernel
theorem dX9_ask_8 : decode cX9_ask 8 = .ok (.iconst 0, 1) := by decide +kernel
theorem dX9_ask_9 : decode cX9_ask 9 = .ok (.sipush 1000, 3) := by decide +kernel
theorem dX9_ask_12 : decode cX9_ask 12 = .ok (.invokestatic 51, 3) := by decide +kernel
theorem dX9_ask_15 : decode cX9_ask 15 = .ok (.invokestatic 55, 3) := by decide +kernel
theorem dX9_ask_18 : decode cX9_ask 18 = .ok (.aload_n 0, 1) := by decide +kernel
theorem dX9_ask_19 : decode cX9_ask 19 = .ok (.aload_n 3, 1) := by decide +kernel
theorem dX9_ask_20 : decode cX9_ask 20 = .ok (.iload_n 2, 1) := by decide +kernel
theorem dX9_ask_21 : decode cX9_ask 21 = .ok (.invokevirtual 196, 3) := by decide +kernel
theorem dX9_ask_24 : decode cX9_ask 24 = .ok (.ireturn, 1) := by decide +kernel
theorem ggX9_lastAt_X9_chainAt : GoodIn wsX9_lastAt wsX9_chainAt := goodIn_ca (goodIn_r _ [6, 7, 8, 9, 10, 11, 12, 13, 14, 15, 16, 17, 18, 19, 20, 21, 22, 23, 24, 25, 26, 27, 28, 29, 30, 31, 32, 33, 34, 77, 78, 79, 80, 81, 82, 83, 84, 85, 86, 87, 88, 89, 90, 91, 92, 93] (by decide +kernel) (by decide +kernel)) (goodIn_sub (fun _ h => List.mem_cons_of_mem _ (List.mem_append_left _ (List.mem_append_right _ h))) (by decide +kernel))
theorem gX9_lastAt_X9_chainAt : GoodIn wsX9_lastAt (wsV RX9 101 RX9 yX9_chainAt wsX9_chainAt) := goodIn_app (goodIn_of _ (by decide +kernel)) ggX9_lastAt_X9_chainAt
theorem ggX9_lastAt_X9_isIn : GoodIn wsX9_lastAt wsX9_isIn := goodIn_r _ [37] (by decide +kernel) (by decide +kernel)
theorem gX9_lastAt_X9_isIn : GoodIn wsX9_lastAt (va_wsS RX9 51 yX9_isIn wsX9_isIn) := goodIn_app (goodIn_of _ (by decide +kernel)) ggX9_lastAt_X9_isIn
theorem ggX9_lastAt_X9_needArgument : GoodIn wsX9_lastAt wsX9_needArgument := goodIn_ca (goodIn_r _ [40, 41, 42] (by decide +kernel) (by decide +kernel)) (goodIn_sub (fun _ h => List.mem_cons_of_mem _ (List.mem_append_right _ h)) (by decide +kernel))
theorem gX9_lastAt_X9_needArgument : GoodIn wsX9_lastAt (va_wsS RX9 55 yX9_needArgument wsX9_needArgument) := goodIn_app (goodIn_of _ (by decide +kernel)) ggX9_lastAt_X9_needArgument
theorem ggX9_lastAt_X6_firstItemFrom : GoodIn wsX9_lastAt wsX6_firstItemFrom := goodIn_r _ [47, 48, 49, 50, 46, 51, 52, 53, 54, 55, 56, 57, 58, 59, 60, 61, 62, 63, 64, 65, 66, 67, 68, 69, 70, 71, 72, 73, 74, 75, 94, 95, 96, 97, 98, 99, 100, 101, 102, 103, 104, 105, 106, 107] (by decide +kernel) (by decide +kernel)
theorem gX9_lastAt_X6_firstItemFrom : GoodIn wsX9_lastAt (wsV RX9 209 RX6 yX6_firstItemFrom wsX6_firstItemFrom) := goodIn_app (goodIn_of _ (by decide +kernel)) ggX9_lastAt_X6_firstItemFrom
theorem ggX9_lastAt_X6_ofItem : GoodIn wsX9_lastAt wsX6_ofItem := goodIn_r _ [62, 52, 53, 54, 55, 56, 63, 64, 65, 66, 67, 68, 69, 70, 71, 72, 73, 74, 75, 94, 95, 96, 97, 98, 99, 100, 101, 102, 103, 104, 105, 106, 107] (by decide +kernel) (by decide +kernel)
theorem gX9_lastAt_X6_ofItem : GoodIn wsX9_lastAt (wsV RX9 212 RX6 yX6_ofItem wsX6_ofItem) := goodIn_app (goodIn_of _ (by decide +kernel)) ggX9_lastAt_X6_ofItem
theorem dX9_lastAt_0 : decode cX9_lastAt 0 = .ok (.aload_n 0, 1) := by decide +kernel
theorem dX9_lastAt_1 : decode cX9_lastAt 1 = .ok (.iload_n 1, 1) := by decide +kernel
theorem dX9_lastAt_2 : decode cX9_lastAt 2 = .ok (.invokevirtual 101, 3) := by decide +kernel
theorem dX9_lastAt_5 : decode cX9_lastAt 5 = .ok (.astore_n 3, 1) := by decide +kernel
theorem dX9_lastAt_6 : decode cX9_lastAt 6 = .ok (.iload_n 2, 1) := by decide +kernel
theorem dX9_lastAt_7 : decode cX9_lastAt 7 = .ok (.i2l, 1) := by decide +kernel
theorem dX9_lastAt_8 : decode cX9_lastAt 8 = .ok (.iconst 0, 1) := by decide +kernel
theorem dX9_lastAt_9 : decode cX9_lastAt 9 = .ok (.ldc 100, 2) := by decide +kernel
theorem dX9_lastAt_11 : decode cX9_lastAt 11 = .ok (.invokestatic 51, 3) := by decide +kernel
theorem dX9_lastAt_14 : decode cX9_lastAt 14 = .ok (.invokestatic 55, 3) := by decide +kernel
theorem dX9_lastAt_17 : decode cX9_lastAt 17 = .ok (.aload_n 3, 1) := by decide +kernel
theorem dX9_lastAt_18 : decode cX9_lastAt 18 = .ok (.iload_n 2, 1) := by decide +kernel
theorem dX9_lastAt_19 : decode cX9_lastAt 19 = .ok (.iconst 1, 1) := by decide +kernel
theorem dX9_lastAt_20 : decode cX9_lastAt 20 = .ok (.iadd, 1) := by decide +kernel
theorem dX9_lastAt_21 : decode cX9_lastAt 21 = .ok (.invokevirtual 209, 3) := by decide +kernel
theorem dX9_lastAt_24 : decode cX9_lastAt 24 = .ok (.iconst 1, 1) := by decide +kernel
theorem dX9_lastAt_25 : decode cX9_lastAt 25 = .ok (.isub, 1) := by decide +kernel
theorem dX9_lastAt_26 : decode cX9_lastAt 26 = .ok (.istore 4, 2) := by decide +kernel
theorem dX9_lastAt_28 : decode cX9_lastAt 28 = .ok (.iload 4, 2) := by decide +kernel
theorem dX9_lastAt_30 : decode cX9_lastAt 30 = .ok (.ifCond .ge 7, 3) := by decide +kernel
theorem dX9_lastAt_33 : decode cX9_lastAt 33 = .ok (.iconst (-1), 1) := by decide +kernel
theorem dX9_lastAt_34 : decode cX9_lastAt 34 = .ok (.goto 10, 3) := by decide +kernel
theorem dX9_lastAt_37 : decode cX9_lastAt 37 = .ok (.aload_n 3, 1) := by decide +kernel
theorem dX9_lastAt_38 : decode cX9_lastAt 38 = .ok (.iload 4, 2) := by decide +kernel
theorem dX9_lastAt_40 : decode cX9_lastAt 40 = .ok (.iconst 0, 1) := by decide +kernel
theorem dX9_lastAt_41 : decode cX9_lastAt 41 = .ok (.invokevirtual 212, 3) := by decide +kernel
theorem dX9_lastAt_44 : decode cX9_lastAt 44 = .ok (.ireturn, 1) := by decide +kernel
theorem ggX9_addRule_X9_chainAt : GoodIn wsX9_addRule wsX9_chainAt := goodIn_ca (goodIn_r _ [15, 16, 17, 3, 9, 10, 18, 19, 20, 21, 22, 23, 24, 25, 26, 27, 28, 29, 30, 31, 32, 33, 34, 35, 36, 37, 38, 39, 40, 122, 123, 124, 125, 126, 127, 128, 129, 130, 131, 132, 133, 134, 135, 145, 146, 147] (by decide +kernel) (by decide +kernel)) (goodIn_sub (fun _ h => List.mem_cons_of_mem _ (List.mem_append_left _ (List.mem_append_left _ (List.mem_append_right _ h)))) (by decide +kernel))
theorem gX9_addRule_X9_chainAt : GoodIn wsX9_addRule (wsV RX9 101 RX9 yX9_chainAt wsX9_chainAt) := goodIn_app (goodIn_of _ (by decide +kernel)) ggX9_addRule_X9_chainAt
theorem ggX9_addRule_X9_isIn : GoodIn wsX9_addRule wsX9_isIn := goodIn_r _ [43] (by decide +kernel) (by decide +kernel)
theorem gX9_addRule_X9_isIn : GoodIn wsX9_addRule (va_wsS RX9 51 yX9_isIn wsX9_isIn) := goodIn_app (goodIn_of _ (by decide +kernel)) ggX9_addRule_X9_isIn
theorem ggX9_addRule_X9_needArgument : GoodIn wsX9_addRule wsX9_needArgument := goodIn_ca (goodIn_r _ [46, 47, 48] (by decide +kernel) (by decide +kernel)) (goodIn_sub (fun _ h => List.mem_cons_of_mem _ (List.mem_append_left _ (List.mem_append_right _ h))) (by decide +kernel))
theorem gX9_addRule_X9_needArgument : GoodIn wsX9_addRule (va_wsS RX9 55 yX9_needArgument wsX9_needArgument) := goodIn_app (goodIn_of _ (by decide +kernel)) ggX9_addRule_X9_needArgument
theorem ggX9_addRule_Jx4a65c_size_8abf5 : GoodIn wsX9_addRule wsJx4a65c_size_8abf5 := goodIn_r _ [22, 23, 145, 146, 147] (by decide +kernel) (by decide +kernel)
theorem gX9_addRule_Jx4a65c_size_8abf5 : GoodIn wsX9_addRule (wsV RX9 63 RJx4a65c yJx4a65c_size_8abf5 wsJx4a65c_size_8abf5) := goodIn_app (goodIn_of _ (by decide +kernel)) ggX9_addRule_Jx4a65c_size_8abf5
theorem ggX9_addRule_X9_needState : GoodIn wsX9_addRule wsX9_needState := goodIn_ca (goodIn_r _ [51, 52, 53] (by decide +kernel) (by decide +kernel)) (goodIn_sub (fun _ h => List.mem_cons_of_mem _ (List.mem_append_right _ h)) (by decide +kernel))
theorem gX9_addRule_X9_needState : GoodIn wsX9_addRule (va_wsS RX9 69 yX9_needState wsX9_needState) := goodIn_app (goodIn_of _ (by decide +kernel)) ggX9_addRule_X9_needState
theorem ggX9_addRule_X5_init : GoodIn wsX9_addRule wsX5_init := goodIn_r _ [56, 57, 58, 59, 60, 61, 62, 63, 64, 65, 66, 67, 68, 136, 137, 138, 139, 140, 141, 142, 143, 144] (by decide +kernel) (by decide +kernel)
theorem gX9_addRule_X5_init : GoodIn wsX9_addRule (wsX5_init) := ggX9_addRule_X5_init
theorem ggX9_addRule_Jx4a65c_add_9ea2d : GoodIn wsX9_addRule wsJx4a65c_add_9ea2d := goodIn_r _ [72, 73, 74, 40, 23, 75, 76, 77, 21, 78, 79, 80, 81, 82, 83, 84, 85, 86, 87, 88, 89, 90, 91, 92, 93, 94, 95, 96, 97, 98, 99, 100, 101, 102, 103, 104, 105, 106, 107, 108, 109, 110, 111, 112, 113, 114, 115, 116, 117, 118, 119, 120, 121, 145, 146, 147] (by decide +kernel) (by decide +kernel)
theorem gX9_addRule_Jx4a65c_add_9ea2d : GoodIn wsX9_addRule (wsV RX9 77 RJx4a65c yJx4a65c_add_9ea2d wsJx4a65c_add_9ea2d) := goodIn_app (goodIn_of _ (by decide +kernel)) ggX9_addRule_Jx4a65c_add_9ea2d
theorem ggX9_addRule_Jx4a65c_get_915e3 : GoodIn wsX9_addRule wsJx4a65c_get_915e3 := goodIn_r _ [27, 23, 28, 29, 30, 31, 32, 33, 34, 35, 36, 37, 38, 21, 39, 40, 145, 146, 147] (by decide +kernel) (by decide +kernel)
theorem gX9_addRule_Jx4a65c_get_915e3 : GoodIn wsX9_addRule (wsV RX9 187 RJx4a65c yJx4a65c_get_915e3 wsJx4a65c_get_915e3) := goodIn_app (goodIn_of _ (by decide +kernel)) ggX9_addRule_Jx4a65c_get_915e3
theorem dX9_addRule_0 : decode cX9_addRule 0 = .ok (.aload_n 0, 1) := by decide +kernel
theorem dX9_addRule_1 : decode cX9_addRule 1 = .ok (.iload_n 1, 1) := by decide +kernel
theorem dX9_addRule_2 : decode cX9_addRule 2 = .ok (.invokevirtual 101, 3) := by decide +kernel
theorem dX9_addRule_5 : decode cX9_addRule 5 = .ok (.astore 8, 2) := by decide +kernel
theorem dX9_addRule_7 : decode cX9_addRule 7 = .ok (.iload_n 2, 1) := by decide +kernel
theorem dX9_addRule_8 : decode cX9_addRule 8 = .ok (.i2l, 1) := by decide +kernel
theorem dX9_addRule_9 : decode cX9_addRule 9 = .ok (.iconst 0, 1) := by decide +kernel
theorem dX9_addRule_10 : decode cX9_addRule 10 = .ok (.bipush 7, 2) := by decide +kernel
theorem dX9_addRule_12 : decode cX9_addRule 12 = .ok (.invokestatic 51, 3) := by decide +kernel
theorem dX9_addRule_15 : decode cX9_addRule 15 = .ok (.ifCond .eq 19, 3) := by decide +kernel
theorem dX9_addRule_18 : decode cX9_addRule 18 = .ok (.iload_n 3, 1) := by decide +kernel
theorem dX9_addRule_19 : decode cX9_addRule 19 = .ok (.i2l, 1) := by decide +kernel
theorem dX9_addRule_20 : decode cX9_addRule 20 = .ok (.iconst 1, 1) := by decide +kernel
theorem dX9_addRule_21 : decode cX9_addRule 21 = .ok (.sipush 500, 3) := by decide +kernel
theorem dX9_addRule_24 : decode cX9_addRule 24 = .ok (.invokestatic 51, 3) := by decide +kernel
theorem dX9_addRule_27 : decode cX9_addRule 27 = .ok (.ifCond .eq 7, 3) := by decide +kernel
theorem dX9_addRule_30 : decode cX9_addRule 30 = .ok (.iconst 1, 1) := by decide +kernel
theorem dX9_addRule_31 : decode cX9_addRule 31 = .ok (.goto 4, 3) := by decide +kernel
theorem dX9_addRule_34 : decode cX9_addRule 34 = .ok (.iconst 0, 1) := by decide +kernel
theorem dX9_addRule_35 : decode cX9_addRule 35 = .ok (.invokestatic 55, 3) := by decide +kernel
theorem dX9_addRule_38 : decode cX9_addRule 38 = .ok (.iload 4, 2) := by decide +kernel
theorem dX9_addRule_40 : decode cX9_addRule 40 = .ok (.i2l, 1) := by decide +kernel
theorem dX9_addRule_41 : decode cX9_addRule 41 = .ok (.iconst 1, 1) := by decide +kernel
theorem dX9_addRule_42 : decode cX9_addRule 42 = .ok (.bipush 60, 2) := by decide +kernel
theorem dX9_addRule_44 : decode cX9_addRule 44 = .ok (.invokestatic 51, 3) := by decide +kernel
theorem dX9_addRule_47 : decode cX9_addRule 47 = .ok (.ifCond .eq 31, 3) := by decide +kernel
theorem dX9_addRule_50 : decode cX9_addRule 50 = .ok (.iload 6, 2) := by decide +kernel
theorem dX9_addRule_52 : decode cX9_addRule 52 = .ok (.i2l, 1) := by decide +kernel
theorem dX9_addRule_53 : decode cX9_addRule 53 = .ok (.ldc 200, 2) := by decide +kernel
theorem dX9_addRule_55 : decode cX9_addRule 55 = .ok (.ldc 215, 2) := by decide +kernel
theorem dX9_addRule_57 : decode cX9_addRule 57 = .ok (.invokestatic 51, 3) := by decide +kernel
theorem dX9_addRule_60 : decode cX9_addRule 60 = .ok (.ifCond .eq 18, 3) := by decide +kernel
theorem dX9_addRule_63 : decode cX9_addRule 63 = .ok (.iload 7, 2) := by decide +kernel
theorem dX9_addRule_65 : decode cX9_addRule 65 = .ok (.i2l, 1) := by decide +kernel
theorem dX9_addRule_66 : decode cX9_addRule 66 = .ok (.iconst 1, 1) := by decide +kernel
theorem dX9_addRule_67 : decode cX9_addRule 67 = .ok (.iconst 5, 1) := by decide +kernel
theorem dX9_addRule_68 : decode cX9_addRule 68 = .ok (.invokestatic 51, 3) := by decide +kernel
theorem dX9_addRule_71 : decode cX9_addRule 71 = .ok (.ifCond .eq 7, 3) := by decide +kernel
theorem dX9_addRule_74 : decode cX9_addRule 74 = .ok (.iconst 1, 1) := by decide +kernel
theorem dX9_addRule_75 : decode cX9_addRule 75 = .ok (.goto 4, 3) := by decide +kernel
theorem dX9_addRule_78 : decode cX9_addRule 78 = .ok (.iconst 0, 1) := by decide +kernel
theorem dX9_addRule_79 : decode cX9_addRule 79 = .ok (.invokestatic 55, 3) := by decide +kernel
theorem dX9_addRule_82 : decode cX9_addRule 82 = .ok (.aload_n 0, 1) := by decide +kernel
theorem dX9_addRule_83 : decode cX9_addRule 83 = .ok (.getfield 21, 3) := by decide +kernel
theorem dX9_addRule_86 : decode cX9_addRule 86 = .ok (.getfield 216, 3) := by decide +kernel
theorem dX9_addRule_89 : decode cX9_addRule 89 = .ok (.invokevirtual 63, 3) := by decide +kernel
theorem dX9_addRule_92 : decode cX9_addRule 92 = .ok (.istore 9, 2) := by decide +kernel
theorem dX9_addRule_94 : decode cX9_addRule 94 = .ok (.iload 9, 2) := by decide +kernel
theorem dX9_addRule_96 : decode cX9_addRule 96 = .ok (.bipush 8, 2) := by decide +kernel
theorem dX9_addRule_98 : decode cX9_addRule 98 = .ok (.if_icmp .ge 7, 3) := by decide +kernel
theorem dX9_addRule_101 : decode cX9_addRule 101 = .ok (.iconst 1, 1) := by decide +kernel
theorem dX9_addRule_102 : decode cX9_addRule 102 = .ok (.goto 4, 3) := by decide +kernel
theorem dX9_addRule_105 : decode cX9_addRule 105 = .ok (.iconst 0, 1) := by decide +kernel
theorem dX9_addRule_106 : decode cX9_addRule 106 = .ok (.invokestatic 69, 3) := by decide +kernel
theorem dX9_addRule_109 : decode cX9_addRule 109 = .ok (.aload_n 0, 1) := by decide +kernel
theorem dX9_addRule_110 : decode cX9_addRule 110 = .ok (.getfield 21, 3) := by decide +kernel
theorem dX9_addRule_113 : decode cX9_addRule 113 = .ok (.getfield 216, 3) := by decide +kernel
theorem dX9_addRule_116 : decode cX9_addRule 116 = .ok (.new 219, 3) := by decide +kernel
theorem dX9_addRule_119 : decode cX9_addRule 119 = .ok (.dup, 1) := by decide +kernel
theorem dX9_addRule_120 : decode cX9_addRule 120 = .ok (.aload 8, 2) := by decide +kernel
theorem dX9_addRule_122 : decode cX9_addRule 122 = .ok (.iload_n 2, 1) := by decide +kernel
theorem dX9_addRule_123 : decode cX9_addRule 123 = .ok (.iload_n 3, 1) := by decide +kernel
theorem dX9_addRule_124 : decode cX9_addRule 124 = .ok (.iload 4, 2) := by decide +kernel
theorem dX9_addRule_126 : decode cX9_addRule 126 = .ok (.iload 5, 2) := by decide +kernel
theorem dX9_addRule_128 : decode cX9_addRule 128 = .ok (.iload 6, 2) := by decide +kernel
theorem dX9_addRule_130 : decode cX9_addRule 130 = .ok (.iload 7, 2) := by decide +kernel
theorem dX9_addRule_132 : decode cX9_addRule 132 = .ok (.invokespecial 221, 3) := by decide +kernel
theorem dX9_addRule_135 : decode cX9_addRule 135 = .ok (.invokevirtual 77, 3) := by decide +kernel
theorem dX9_addRule_138 : decode cX9_addRule 138 = .ok (.pop, 1) := by decide +kernel
theorem dX9_addRule_139 : decode cX9_addRule 139 = .ok (.iload_n 1, 1) := by decide +kernel
theorem dX9_addRule_140 : decode cX9_addRule 140 = .ok (.aload_n 0, 1) := by decide +kernel
theorem dX9_addRule_141 : decode cX9_addRule 141 = .ok (.getfield 25, 3) := by decide +kernel
theorem dX9_addRule_144 : decode cX9_addRule 144 = .ok (.getfield 59, 3) := by decide +kernel
theorem dX9_addRule_147 : decode cX9_addRule 147 = .ok (.invokevirtual 63, 3) := by decide +kernel
theorem dX9_addRule_150 : decode cX9_addRule 150 = .ok (.if_icmp .ge 49, 3) := by decide +kernel
theorem dX9_addRule_153 : decode cX9_addRule 153 = .ok (.aload_n 0, 1) := by decide +kernel
theorem dX9_addRule_154 : decode cX9_addRule 154 = .ok (.getfield 25, 3) := by decide +kernel
theorem dX9_addRule_157 : decode cX9_addRule 157 = .ok (.getfield 59, 3) := by decide +kernel
theorem dX9_addRule_160 : decode cX9_addRule 160 = .ok (.iload_n 1, 1) := by decide +kernel
theorem dX9_addRule_161 : decode cX9_addRule 161 = .ok (.invokevirtual 187, 3) := by decide +kernel
theorem dX9_addRule_164 : decode cX9_addRule 164 = .ok (.checkcast 72, 3) := by decide +kernel
theorem dX9_addRule_167 : decode cX9_addRule 167 = .ok (.astore 10, 2) := by decide +kernel
theorem dX9_addRule_169 : decode cX9_addRule 169 = .ok (.aload_n 0, 1) := by decide +kernel
theorem dX9_addRule_170 : decode cX9_addRule 170 = .ok (.getfield 25, 3) := by decide +kernel
theorem dX9_addRule_173 : decode cX9_addRule 173 = .ok (.getfield 216, 3) := by decide +kernel
theorem dX9_addRule_176 : decode cX9_addRule 176 = .ok (.new 219, 3) := by decide +kernel
theorem dX9_addRule_179 : decode cX9_addRule 179 = .ok (.dup, 1) := by decide +kernel
theorem dX9_addRule_180 : decode cX9_addRule 180 = .ok (.aload 10, 2) := by decide +kernel
theorem dX9_addRule_182 : decode cX9_addRule 182 = .ok (.iload_n 2, 1) := by decide +kernel
theorem dX9_addRule_183 : decode cX9_addRule 183 = .ok (.iload_n 3, 1) := by decide +kernel
theorem dX9_addRule_184 : decode cX9_addRule 184 = .ok (.iload 4, 2) := by decide +kernel
theorem dX9_addRule_186 : decode cX9_addRule 186 = .ok (.iload 5, 2) := by decide +kernel
theorem dX9_addRule_188 : decode cX9_addRule 188 = .ok (.iload 6, 2) := by decide +kernel
theorem dX9_addRule_190 : decode cX9_addRule 190 = .ok (.iload 7, 2) := by decide +kernel
theorem dX9_addRule_192 : decode cX9_addRule 192 = .ok (.invokespecial 221, 3) := by decide +kernel
theorem dX9_addRule_195 : decode cX9_addRule 195 = .ok (.invokevirtual 77, 3) := by decide +kernel
theorem dX9_addRule_198 : decode cX9_addRule 198 = .ok (.pop, 1) := by decide +kernel
theorem dX9_addRule_199 : decode cX9_addRule 199 = .ok (.iload 9, 2) := by decide +kernel
theorem dX9_addRule_201 : decode cX9_addRule 201 = .ok (.ireturn, 1) := by decide +kernel
theorem dX9_events_0 : decode cX9_events 0 = .ok (.aload_n 0, 1) := by decide +kernel
theorem dX9_events_1 : decode cX9_events 1 = .ok (.getfield 21, 3) := by decide +kernel
theorem dX9_events_4 : decode cX9_events 4 = .ok (.getfield 129, 3) := by decide +kernel
theorem dX9_events_7 : decode cX9_events 7 = .ok (.getfield 133, 3) := by decide +kernel
theorem dX9_events_10 : decode cX9_events 10 = .ok (.ireturn, 1) := by decide +kernel
theorem ggX9_event_X9_isIn : GoodIn wsX9_event wsX9_isIn := goodIn_r _ [7] (by decide +kernel) (by decide +kernel)
theorem gX9_event_X9_isIn : GoodIn wsX9_event (va_wsS RX9 51 yX9_isIn wsX9_isIn) := goodIn_app (goodIn_of _ (by decide +kernel)) ggX9_event_X9_isIn
theorem ggX9_event_X9_needIndex : GoodIn wsX9_event wsX9_needIndex := goodIn_ca (goodIn_r _ [10, 11, 12] (by decide +kernel) (by decide +kernel)) (goodIn_sub (fun _ h => List.mem_cons_of_mem _ (List.mem_append_left _ (List.mem_append_right _ h))) (by decide +kernel))
theorem gX9_event_X9_needIndex : GoodIn wsX9_event (va_wsS RX9 150 yX9_needIndex wsX9_needIndex) := goodIn_app (goodIn_of _ (by decide +kernel)) ggX9_event_X9_needIndex
theorem ggX9_event_X9_needArgument : GoodIn wsX9_event wsX9_needArgument := goodIn_ca (goodIn_r _ [15, 16, 17] (by decide +kernel) (by decide +kernel)) (goodIn_sub (fun _ h => List.mem_cons_of_mem _ (List.mem_append_right _ h)) (by decide +kernel))
theorem gX9_event_X9_needArgument : GoodIn wsX9_event (va_wsS RX9 55 yX9_needArgument wsX9_needArgument) := goodIn_app (goodIn_of _ (by decide +kernel)) ggX9_event_X9_needArgument
theorem ggX9_event_X1_number : GoodIn wsX9_event wsX1_number := goodIn_r _ [22, 23, 24, 39, 40, 41] (by decide +kernel) (by decide +kernel)
theorem gX9_event_X1_number : GoodIn wsX9_event (wsV RX9 237 RX1 yX1_number wsX1_number) := goodIn_app (goodIn_of _ (by decide +kernel)) ggX9_event_X1_number
theorem dX9_event_0 : decode cX9_event 0 = .ok (.iload_n 1, 1) := by decide +kernel
theorem dX9_event_1 : decode cX9_event 1 = .ok (.i2l, 1) := by decide +kernel
theorem dX9_event_2 : decode cX9_event 2 = .ok (.iconst 0, 1) := by decide +kernel
theorem dX9_event_3 : decode cX9_event 3 = .ok (.bipush 19, 2) := by decide +kernel
theorem dX9_event_5 : decode cX9_event 5 = .ok (.invokestatic 51, 3) := by decide +kernel
theorem dX9_event_8 : decode cX9_event 8 = .ok (.ifCond .eq 21, 3) := by decide +kernel
theorem dX9_event_11 : decode cX9_event 11 = .ok (.iload_n 1, 1) := by decide +kernel
theorem dX9_event_12 : decode cX9_event 12 = .ok (.aload_n 0, 1) := by decide +kernel
theorem dX9_event_13 : decode cX9_event 13 = .ok (.getfield 21, 3) := by decide +kernel
theorem dX9_event_16 : decode cX9_event 16 = .ok (.getfield 129, 3) := by decide +kernel
theorem dX9_event_19 : decode cX9_event 19 = .ok (.getfield 133, 3) := by decide +kernel
theorem dX9_event_22 : decode cX9_event 22 = .ok (.if_icmp .ge 7, 3) := by decide +kernel
theorem dX9_event_25 : decode cX9_event 25 = .ok (.iconst 1, 1) := by decide +kernel
theorem dX9_event_26 : decode cX9_event 26 = .ok (.goto 4, 3) := by decide +kernel
theorem dX9_event_29 : decode cX9_event 29 = .ok (.iconst 0, 1) := by decide +kernel
theorem dX9_event_30 : decode cX9_event 30 = .ok (.invokestatic 150, 3) := by decide +kernel
theorem dX9_event_33 : decode cX9_event 33 = .ok (.iload_n 2, 1) := by decide +kernel
theorem dX9_event_34 : decode cX9_event 34 = .ok (.i2l, 1) := by decide +kernel
theorem dX9_event_35 : decode cX9_event 35 = .ok (.iconst 0, 1) := by decide +kernel
theorem dX9_event_36 : decode cX9_event 36 = .ok (.iconst 2, 1) := by decide +kernel
theorem dX9_event_37 : decode cX9_event 37 = .ok (.invokestatic 51, 3) := by decide +kernel
theorem dX9_event_40 : decode cX9_event 40 = .ok (.invokestatic 55, 3) := by decide +kernel
theorem dX9_event_43 : decode cX9_event 43 = .ok (.aload_n 0, 1) := by decide +kernel
theorem dX9_event_44 : decode cX9_event 44 = .ok (.getfield 21, 3) := by decide +kernel
theorem dX9_event_47 : decode cX9_event 47 = .ok (.getfield 129, 3) := by decide +kernel
theorem dX9_event_50 : decode cX9_event 50 = .ok (.iload_n 1, 1) := by decide +kernel
theorem dX9_event_51 : decode cX9_event 51 = .ok (.iload_n 2, 1) := by decide +kernel
theorem dX9_event_52 : decode cX9_event 52 = .ok (.invokevirtual 237, 3) := by decide +kernel
theorem dX9_event_55 : decode cX9_event 55 = .ok (.ireturn, 1) := by decide +kernel
theorem ggX9_bitsWith_X9_chainAt : GoodIn wsX9_bitsWith wsX9_chainAt := goodIn_ca (goodIn_r _ [7, 8, 9, 10, 11, 12, 13, 14, 15, 16, 17, 18, 19, 20, 21, 22, 23, 24, 25, 26, 27, 28, 29, 30, 31, 32, 33, 34, 35, 126, 127, 128, 129, 130, 131, 132, 133, 134, 135, 136, 137, 138, 139, 140, 141, 142] (by decide +kernel) (by decide +kernel)) (goodIn_sub (fun _ h => List.mem_cons_of_mem _ (List.mem_append_left _ (List.mem_append_right _ h))) (by decide +kernel))
theorem gX9_bitsWith_X9_chainAt : GoodIn wsX9_bitsWith (wsV RX9 101 RX9 yX9_chainAt wsX9_chainAt) := goodIn_app (goodIn_of _ (by decide +kernel)) ggX9_bitsWith_X9_chainAt
theorem ggX9_bitsWith_X9_isTimeUpToNow : GoodIn wsX9_bitsWith wsX9_isTimeUpToNow := goodIn_r _ [39, 10, 40, 41, 42, 6, 43, 126, 127, 128, 129, 130, 131, 132, 133, 134, 135, 136, 137, 138, 139] (by decide +kernel) (by decide +kernel)
theorem gX9_bitsWith_X9_isTimeUpToNow : GoodIn wsX9_bitsWith (wsV RX9 105 RX9 yX9_isTimeUpToNow wsX9_isTimeUpToNow) := goodIn_app (goodIn_of _ (by decide +kernel)) ggX9_bitsWith_X9_isTimeUpToNow
theorem ggX9_bitsWith_X9_isValue : GoodIn wsX9_bitsWith wsX9_isValue := goodIn_r _ [46, 47, 48, 41, 42, 6, 43] (by decide +kernel) (by decide +kernel)
theorem gX9_bitsWith_X9_isValue : GoodIn wsX9_bitsWith (va_wsS RX9 109 yX9_isValue wsX9_isValue) := goodIn_app (goodIn_of _ (by decide +kernel)) ggX9_bitsWith_X9_isValue
theorem ggX9_bitsWith_X9_needArgument : GoodIn wsX9_bitsWith wsX9_needArgument := goodIn_ca (goodIn_r _ [51, 52, 53] (by decide +kernel) (by decide +kernel)) (goodIn_sub (fun _ h => List.mem_cons_of_mem _ (List.mem_append_right _ h)) (by decide +kernel))
theorem gX9_bitsWith_X9_needArgument : GoodIn wsX9_bitsWith (va_wsS RX9 55 yX9_needArgument wsX9_needArgument) := goodIn_app (goodIn_of _ (by decide +kernel)) ggX9_bitsWith_X9_needArgument
theorem ggX9_bitsWith_X4_isLate : GoodIn wsX9_bitsWith wsX4_isLate := goodIn_r _ [58, 59, 143, 144, 145, 146, 147, 148, 149] (by decide +kernel) (by decide +kernel)
theorem gX9_bitsWith_X4_isLate : GoodIn wsX9_bitsWith (wsV RX9 238 RX4 yX4_isLate wsX4_isLate) := goodIn_app (goodIn_of _ (by decide +kernel)) ggX9_bitsWith_X4_isLate
theorem ggX9_bitsWith_X3_packOpenWith : GoodIn wsX9_bitsWith wsX3_packOpenWith := goodIn_r _ [64, 65, 66, 67, 68, 69, 70, 71, 57, 72, 73, 74, 75, 76, 77, 78, 79, 80, 81, 82, 83, 84, 85, 86, 87, 88, 89, 90, 91, 63, 92, 93, 94, 95, 96, 97, 98, 99, 100, 101, 102, 103, 104, 105, 106, 107, 108, 109, 110, 111, 112, 113, 114, 115, 42, 6, 43, 116, 117, 118, 119, 120, 143, 144, 145, 146, 147, 148, 149, 150, 151, 152, 153, 154, 155, 156, 157] (by decide +kernel) (by decide +kernel)
theorem gX9_bitsWith_X3_packOpenWith : GoodIn wsX9_bitsWith (wsV RX9 241 RX3 yX3_packOpenWith wsX3_packOpenWith) := goodIn_app (goodIn_of _ (by decide +kernel)) ggX9_bitsWith_X3_packOpenWith
theorem dX9_bitsWith_0 : decode cX9_bitsWith 0 = .ok (.aload_n 0, 1) := by decide +kernel
theorem dX9_bitsWith_1 : decode cX9_bitsWith 1 = .ok (.iload_n 1, 1) := by decide +kernel
theorem dX9_bitsWith_2 : decode cX9_bitsWith 2 = .ok (.invokevirtual 101, 3) := by decide +kernel
theorem dX9_bitsWith_5 : decode cX9_bitsWith 5 = .ok (.astore 4, 2) := by decide +kernel
theorem dX9_bitsWith_7 : decode cX9_bitsWith 7 = .ok (.aload_n 0, 1) := by decide +kernel
theorem dX9_bitsWith_8 : decode cX9_bitsWith 8 = .ok (.iload_n 2, 1) := by decide +kernel
theorem dX9_bitsWith_9 : decode cX9_bitsWith 9 = .ok (.i2l, 1) := by decide +kernel
theorem dX9_bitsWith_10 : decode cX9_bitsWith 10 = .ok (.invokevirtual 105, 3) := by decide +kernel
theorem dX9_bitsWith_13 : decode cX9_bitsWith 13 = .ok (.ifCond .eq 15, 3) := by decide +kernel
theorem dX9_bitsWith_16 : decode cX9_bitsWith 16 = .ok (.iload_n 3, 1) := by decide +kernel
theorem dX9_bitsWith_17 : decode cX9_bitsWith 17 = .ok (.i2l, 1) := by decide +kernel
theorem dX9_bitsWith_18 : decode cX9_bitsWith 18 = .ok (.invokestatic 109, 3) := by decide +kernel
theorem dX9_bitsWith_21 : decode cX9_bitsWith 21 = .ok (.ifCond .eq 7, 3) := by decide +kernel
theorem dX9_bitsWith_24 : decode cX9_bitsWith 24 = .ok (.iconst 1, 1) := by decide +kernel
theorem dX9_bitsWith_25 : decode cX9_bitsWith 25 = .ok (.goto 4, 3) := by decide +kernel
theorem dX9_bitsWith_28 : decode cX9_bitsWith 28 = .ok (.iconst 0, 1) := by decide +kernel
theorem dX9_bitsWith_29 : decode cX9_bitsWith 29 = .ok (.invokestatic 55, 3) := by decide +kernel
theorem dX9_bitsWith_32 : decode cX9_bitsWith 32 = .ok (.aload 4, 2) := by decide +kernel
theorem dX9_bitsWith_34 : decode cX9_bitsWith 34 = .ok (.getfield 116, 3) := by decide +kernel
theorem dX9_bitsWith_37 : decode cX9_bitsWith 37 = .ok (.iload_n 2, 1) := by decide +kernel
theorem dX9_bitsWith_38 : decode cX9_bitsWith 38 = .ok (.invokevirtual 238, 3) := by decide +kernel
theorem dX9_bitsWith_41 : decode cX9_bitsWith 41 = .ok (.ifCond .eq 5, 3) := by decide +kernel
theorem dX9_bitsWith_44 : decode cX9_bitsWith 44 = .ok (.iconst (-1), 1) := by decide +kernel
theorem dX9_bitsWith_45 : decode cX9_bitsWith 45 = .ok (.ireturn, 1) := by decide +kernel
theorem dX9_bitsWith_46 : decode cX9_bitsWith 46 = .ok (.aload_n 0, 1) := by decide +kernel
theorem dX9_bitsWith_47 : decode cX9_bitsWith 47 = .ok (.getfield 31, 3) := by decide +kernel
theorem dX9_bitsWith_50 : decode cX9_bitsWith 50 = .ok (.aload 4, 2) := by decide +kernel
theorem dX9_bitsWith_52 : decode cX9_bitsWith 52 = .ok (.getfield 116, 3) := by decide +kernel
theorem dX9_bitsWith_55 : decode cX9_bitsWith 55 = .ok (.iload_n 2, 1) := by decide +kernel
theorem dX9_bitsWith_56 : decode cX9_bitsWith 56 = .ok (.iload_n 3, 1) := by decide +kernel
theorem dX9_bitsWith_57 : decode cX9_bitsWith 57 = .ok (.invokevirtual 241, 3) := by decide +kernel
theorem dX9_bitsWith_60 : decode cX9_bitsWith 60 = .ok (.ireturn, 1) := by decide +kernel
theorem ggX9_firesIn_X9_canGoOn : GoodIn wsX9_firesIn wsX9_canGoOn := goodIn_r _ [9, 2, 10, 11, 12, 13, 8, 14, 265, 266, 267, 268, 269, 270, 271, 272, 273, 274, 275, 276, 277, 278] (by decide +kernel) (by decide +kernel)
theorem gX9_firesIn_X9_canGoOn : GoodIn wsX9_firesIn (wsV RX9 125 RX9 yX9_canGoOn wsX9_canGoOn) := goodIn_app (goodIn_of _ (by decide +kernel)) ggX9_firesIn_X9_canGoOn
theorem ggX9_firesIn_X9_needArgument : GoodIn wsX9_firesIn wsX9_needArgument := goodIn_ca (goodIn_r _ [17, 18, 19] (by decide +kernel) (by decide +kernel)) (goodIn_sub (fun _ h => List.mem_cons_of_mem _ (List.mem_append_right _ h)) (by decide +kernel))
theorem gX9_firesIn_X9_needArgument : GoodIn wsX9_firesIn (va_wsS RX9 55 yX9_needArgument wsX9_needArgument) := goodIn_app (goodIn_of _ (by decide +kernel)) ggX9_firesIn_X9_needArgument
theorem ggX9_firesIn_X8_copyFrom : GoodIn wsX9_firesIn wsX8_copyFrom := goodIn_r _ [24, 25, 26, 27, 28, 29, 30, 31, 32, 33, 34, 35, 36, 37, 38, 39, 40, 41, 42, 43, 44, 45, 46, 47, 48, 49, 50, 51, 52, 53, 54, 55, 56, 57, 58, 59, 60, 61, 62, 63, 64, 65, 66, 67, 68, 69, 70, 71, 72, 73, 74, 75, 76, 77, 78, 79, 80, 81, 82, 83, 84, 85, 86, 87, 88, 89, 90, 91, 92, 93, 94, 95, 96, 97, 98, 99, 100, 101, 102, 103, 104, 105, 106, 107, 108, 109, 110, 111, 112, 274, 275, 276, 277, 278, 282, 283, 284, 285, 286, 287, 288, 289, 290, 291, 292, 293, 294, 295, 296, 297, 298, 299, 300, 301, 302, 303, 304, 305, 306, 307] (by decide +kernel) (by decide +kernel)
theorem gX9_firesIn_X8_copyFrom : GoodIn wsX9_firesIn (wsV RX9 245 RX8 yX8_copyFrom wsX8_copyFrom) := goodIn_app (goodIn_of _ (by decide +kernel)) ggX9_firesIn_X8_copyFrom
theorem ggX9_firesIn_X8_goOnByOne : GoodIn wsX9_firesIn wsX8_goOnByOne := goodIn_r _ [116, 25, 26, 27, 117, 28, 29, 118, 119, 30, 31, 32, 33, 34, 35, 36, 37, 38, 39, 40, 41, 42, 43, 44, 45, 46, 47, 48, 49, 50, 51, 52, 120, 121, 122, 56, 123, 124, 58, 125, 126, 127, 128, 129, 64, 130, 68, 82, 83, 84, 85, 69, 86, 87, 88, 89, 66, 67, 70, 72, 73, 74, 75, 76, 77, 131, 132, 133, 134, 59, 135, 136, 137, 138, 139, 140, 141, 142, 93, 143, 95, 96, 144, 145, 146, 147, 148, 149, 150, 97, 98, 99, 100, 101, 151, 152, 153, 154, 102, 103, 104, 105, 155, 156, 157, 158, 159, 160, 161, 162, 163, 60, 164, 165, 166, 167, 168, 169, 170, 171, 172, 173, 174, 175, 176, 78, 79, 80, 81, 177, 178, 179, 180, 181, 182, 183, 184, 109, 185, 186, 187, 188, 189, 190, 191, 192, 193, 194, 195, 196, 197, 198, 199, 200, 201, 202, 203, 204, 205, 206, 207, 208, 209, 210, 211, 212, 213, 214, 215, 216, 217, 218, 219, 220, 221, 222, 223, 224, 225, 226, 227, 228, 229, 230, 231, 232, 233, 234, 235, 236, 237, 238, 239, 240, 241, 242, 243, 111, 244, 245, 246, 247, 112, 248, 249, 250, 251, 252, 253, 254, 255, 256, 257, 258, 259, 260, 261, 262, 263, 264, 274, 275, 276, 277, 278, 299, 300, 301, 302, 303, 304, 305, 306, 307, 282, 283, 284, 308, 309, 310, 311, 312, 285, 286, 287, 288, 289, 292, 293, 294, 295, 296, 297, 298, 290, 291, 279, 280, 281] (by decide +kernel) (by decide +kernel)
theorem gX9_firesIn_X8_goOnByOne : GoodIn wsX9_firesIn (wsV RX9 138 RX8 yX8_goOnByOne wsX8_goOnByOne) := goodIn_app (goodIn_of _ (by decide +kernel)) ggX9_firesIn_X8_goOnByOne
theorem dX9_firesIn_0 : decode cX9_firesIn 0 = .ok (.aload_n 0, 1) := by decide +kernel
theorem dX9_firesIn_1 : decode cX9_firesIn 1 = .ok (.iload_n 1, 1) := by decide +kernel
theorem dX9_firesIn_2 : decode cX9_firesIn 2 = .ok (.invokevirtual 125, 3) := by decide +kernel
theorem dX9_firesIn_5 : decode cX9_firesIn 5 = .ok (.invokestatic 55, 3) := by decide +kernel
theorem dX9_firesIn_8 : decode cX9_firesIn 8 = .ok (.aload_n 0, 1) := by decide +kernel
theorem dX9_firesIn_9 : decode cX9_firesIn 9 = .ok (.getfield 25, 3) := by decide +kernel
theorem dX9_firesIn_12 : decode cX9_firesIn 12 = .ok (.aload_n 0, 1) := by decide +kernel
theorem dX9_firesIn_13 : decode cX9_firesIn 13 = .ok (.getfield 21, 3) := by decide +kernel
theorem dX9_firesIn_16 : decode cX9_firesIn 16 = .ok (.invokevirtual 245, 3) := by decide +kernel
theorem dX9_firesIn_19 : decode cX9_firesIn 19 = .ok (.aload_n 0, 1) := by decide +kernel
theorem dX9_firesIn_20 : decode cX9_firesIn 20 = .ok (.getfield 25, 3) := by decide +kernel
theorem dX9_firesIn_23 : decode cX9_firesIn 23 = .ok (.getfield 129, 3) := by decide +kernel
theorem dX9_firesIn_26 : decode cX9_firesIn 26 = .ok (.getfield 249, 3) := by decide +kernel
theorem dX9_firesIn_29 : decode cX9_firesIn 29 = .ok (.istore_n 2, 1) := by decide +kernel
theorem dX9_firesIn_30 : decode cX9_firesIn 30 = .ok (.iconst 1, 1) := by decide +kernel
theorem dX9_firesIn_31 : decode cX9_firesIn 31 = .ok (.istore_n 3, 1) := by decide +kernel
theorem dX9_firesIn_32 : decode cX9_firesIn 32 = .ok (.iload_n 3, 1) := by decide +kernel
theorem dX9_firesIn_33 : decode cX9_firesIn 33 = .ok (.iload_n 1, 1) := by decide +kernel
theorem dX9_firesIn_34 : decode cX9_firesIn 34 = .ok (.if_icmp .gt 32, 3) := by decide +kernel
theorem dX9_firesIn_37 : decode cX9_firesIn 37 = .ok (.aload_n 0, 1) := by decide +kernel
theorem dX9_firesIn_38 : decode cX9_firesIn 38 = .ok (.getfield 25, 3) := by decide +kernel
theorem dX9_firesIn_41 : decode cX9_firesIn 41 = .ok (.invokevirtual 138, 3) := by decide +kernel
theorem dX9_firesIn_44 : decode cX9_firesIn 44 = .ok (.aload_n 0, 1) := by decide +kernel
theorem dX9_firesIn_45 : decode cX9_firesIn 45 = .ok (.getfield 25, 3) := by decide +kernel
theorem dX9_firesIn_48 : decode cX9_firesIn 48 = .ok (.getfield 129, 3) := by decide +kernel
theorem dX9_firesIn_51 : decode cX9_firesIn 51 = .ok (.getfield 249, 3) := by decide +kernel
theorem dX9_firesIn_54 : decode cX9_firesIn 54 = .ok (.iload_n 2, 1) := by decide +kernel
theorem dX9_firesIn_55 : decode cX9_firesIn 55 = .ok (.if_icmp .le 5, 3) := by decide +kernel
theorem dX9_firesIn_58 : decode cX9_firesIn 58 = .ok (.iload_n 3, 1) := by decide +kernel
theorem dX9_firesIn_59 : decode cX9_firesIn 59 = .ok (.ireturn, 1) := by decide +kernel
theorem dX9_firesIn_60 : decode cX9_firesIn 60 = .ok (.iinc 3 1, 3) := by decide +kernel
theorem dX9_firesIn_63 : decode cX9_firesIn 63 = .ok (.goto (-31), 3) := by decide +kernel
theorem dX9_firesIn_66 : decode cX9_firesIn 66 = .ok (.iconst (-1), 1) := by decide +kernel
theorem dX9_firesIn_67 : decode cX9_firesIn 67 = .ok (.ireturn, 1) := by decide +kernel
theorem ggX9_wouldRoll_X9_isIn : GoodIn wsX9_wouldRoll wsX9_isIn := goodIn_r _ [10] (by decide +kernel) (by decide +kernel)
theorem gX9_wouldRoll_X9_isIn : GoodIn wsX9_wouldRoll (va_wsS RX9 51 yX9_isIn wsX9_isIn) := goodIn_app (goodIn_of _ (by decide +kernel)) ggX9_wouldRoll_X9_isIn
theorem ggX9_wouldRoll_X9_needArgument : GoodIn wsX9_wouldRoll wsX9_needArgument := goodIn_ca (goodIn_r _ [13, 14, 15] (by decide +kernel) (by decide +kernel)) (goodIn_sub (fun _ h => List.mem_cons_of_mem _ (List.mem_append_right _ h)) (by decide +kernel))
theorem gX9_wouldRoll_X9_needArgument : GoodIn wsX9_wouldRoll (va_wsS RX9 55 yX9_needArgument wsX9_needArgument) := goodIn_app (goodIn_of _ (by decide +kernel)) ggX9_wouldRoll_X9_needArgument
theorem ggX9_wouldRoll_Jx4a65c_size_8abf5 : GoodIn wsX9_wouldRoll wsJx4a65c_size_8abf5 := goodIn_r _ [20, 21, 82, 83, 84] (by decide +kernel) (by decide +kernel)
theorem gX9_wouldRoll_Jx4a65c_size_8abf5 : GoodIn wsX9_wouldRoll (wsV RX9 63 RJx4a65c yJx4a65c_size_8abf5 wsJx4a65c_size_8abf5) := goodIn_app (goodIn_of _ (by decide +kernel)) ggX9_wouldRoll_Jx4a65c_size_8abf5
theorem ggX9_wouldRoll_Jx4a65c_get_915e3 : GoodIn wsX9_wouldRoll wsJx4a65c_get_915e3 := goodIn_r _ [25, 21, 26, 27, 28, 29, 30, 31, 32, 33, 34, 35, 36, 19, 37, 38, 82, 83, 84] (by decide +kernel) (by decide +kernel)
theorem gX9_wouldRoll_Jx4a65c_get_915e3 : GoodIn wsX9_wouldRoll (wsV RX9 187 RJx4a65c yJx4a65c_get_915e3 wsJx4a65c_get_915e3) := goodIn_app (goodIn_of _ (by decide +kernel)) ggX9_wouldRoll_Jx4a65c_get_915e3
theorem ggX9_wouldRoll_X4_blocksBelow : GoodIn wsX9_wouldRoll wsX4_blocksBelow := goodIn_r _ [43, 44, 45, 46, 47, 42, 48, 49, 50, 51, 52, 53, 54, 55, 56, 57, 58, 59, 60, 61, 62, 85, 86, 87, 88, 89, 90, 91, 92, 93] (by decide +kernel) (by decide +kernel)
theorem gX9_wouldRoll_X4_blocksBelow : GoodIn wsX9_wouldRoll (wsV RX9 252 RX4 yX4_blocksBelow wsX4_blocksBelow) := goodIn_app (goodIn_of _ (by decide +kernel)) ggX9_wouldRoll_X4_blocksBelow
theorem dX9_wouldRoll_0 : decode cX9_wouldRoll 0 = .ok (.iload_n 1, 1) := by decide +kernel
theorem dX9_wouldRoll_1 : decode cX9_wouldRoll 1 = .ok (.i2l, 1) := by decide +kernel
theorem dX9_wouldRoll_2 : decode cX9_wouldRoll 2 = .ok (.iconst 0, 1) := by decide +kernel
theorem dX9_wouldRoll_3 : decode cX9_wouldRoll 3 = .ok (.sipush 10000, 3) := by decide +kernel
theorem dX9_wouldRoll_6 : decode cX9_wouldRoll 6 = .ok (.invokestatic 51, 3) := by decide +kernel
theorem dX9_wouldRoll_9 : decode cX9_wouldRoll 9 = .ok (.invokestatic 55, 3) := by decide +kernel
theorem dX9_wouldRoll_12 : decode cX9_wouldRoll 12 = .ok (.iload_n 1, 1) := by decide +kernel
theorem dX9_wouldRoll_13 : decode cX9_wouldRoll 13 = .ok (.ifCond .eq 15, 3) := by decide +kernel
theorem dX9_wouldRoll_16 : decode cX9_wouldRoll 16 = .ok (.aload_n 0, 1) := by decide +kernel
theorem dX9_wouldRoll_17 : decode cX9_wouldRoll 17 = .ok (.getfield 21, 3) := by decide +kernel
theorem dX9_wouldRoll_20 : decode cX9_wouldRoll 20 = .ok (.getfield 141, 3) := by decide +kernel
theorem dX9_wouldRoll_23 : decode cX9_wouldRoll 23 = .ok (.ldc 100, 2) := by decide +kernel
theorem dX9_wouldRoll_25 : decode cX9_wouldRoll 25 = .ok (.if_icmp .lt 5, 3) := by decide +kernel
theorem dX9_wouldRoll_28 : decode cX9_wouldRoll 28 = .ok (.iconst 0, 1) := by decide +kernel
theorem dX9_wouldRoll_29 : decode cX9_wouldRoll 29 = .ok (.ireturn, 1) := by decide +kernel
theorem dX9_wouldRoll_30 : decode cX9_wouldRoll 30 = .ok (.iconst 0, 1) := by decide +kernel
theorem dX9_wouldRoll_31 : decode cX9_wouldRoll 31 = .ok (.istore_n 2, 1) := by decide +kernel
theorem dX9_wouldRoll_32 : decode cX9_wouldRoll 32 = .ok (.iconst 0, 1) := by decide +kernel
theorem dX9_wouldRoll_33 : decode cX9_wouldRoll 33 = .ok (.istore_n 3, 1) := by decide +kernel
theorem dX9_wouldRoll_34 : decode cX9_wouldRoll 34 = .ok (.iload_n 3, 1) := by decide +kernel
theorem dX9_wouldRoll_35 : decode cX9_wouldRoll 35 = .ok (.aload_n 0, 1) := by decide +kernel
theorem dX9_wouldRoll_36 : decode cX9_wouldRoll 36 = .ok (.getfield 21, 3) := by decide +kernel
theorem dX9_wouldRoll_39 : decode cX9_wouldRoll 39 = .ok (.getfield 59, 3) := by decide +kernel
theorem dX9_wouldRoll_42 : decode cX9_wouldRoll 42 = .ok (.invokevirtual 63, 3) := by decide +kernel
theorem dX9_wouldRoll_45 : decode cX9_wouldRoll 45 = .ok (.if_icmp .ge 43, 3) := by decide +kernel
theorem dX9_wouldRoll_48 : decode cX9_wouldRoll 48 = .ok (.iload_n 2, 1) := by decide +kernel
theorem dX9_wouldRoll_49 : decode cX9_wouldRoll 49 = .ok (.aload_n 0, 1) := by decide +kernel
theorem dX9_wouldRoll_50 : decode cX9_wouldRoll 50 = .ok (.getfield 21, 3) := by decide +kernel
theorem dX9_wouldRoll_53 : decode cX9_wouldRoll 53 = .ok (.getfield 59, 3) := by decide +kernel
theorem dX9_wouldRoll_56 : decode cX9_wouldRoll 56 = .ok (.iload_n 3, 1) := by decide +kernel
theorem dX9_wouldRoll_57 : decode cX9_wouldRoll 57 = .ok (.invokevirtual 187, 3) := by decide +kernel
theorem dX9_wouldRoll_60 : decode cX9_wouldRoll 60 = .ok (.checkcast 72, 3) := by decide +kernel
theorem dX9_wouldRoll_63 : decode cX9_wouldRoll 63 = .ok (.getfield 116, 3) := by decide +kernel
theorem dX9_wouldRoll_66 : decode cX9_wouldRoll 66 = .ok (.aload_n 0, 1) := by decide +kernel
theorem dX9_wouldRoll_67 : decode cX9_wouldRoll 67 = .ok (.getfield 21, 3) := by decide +kernel
theorem dX9_wouldRoll_70 : decode cX9_wouldRoll 70 = .ok (.getfield 141, 3) := by decide +kernel
theorem dX9_wouldRoll_73 : decode cX9_wouldRoll 73 = .ok (.iconst 1, 1) := by decide +kernel
theorem dX9_wouldRoll_74 : decode cX9_wouldRoll 74 = .ok (.iadd, 1) := by decide +kernel
theorem dX9_wouldRoll_75 : decode cX9_wouldRoll 75 = .ok (.iload_n 1, 1) := by decide +kernel
theorem dX9_wouldRoll_76 : decode cX9_wouldRoll 76 = .ok (.isub, 1) := by decide +kernel
theorem dX9_wouldRoll_77 : decode cX9_wouldRoll 77 = .ok (.invokevirtual 252, 3) := by decide +kernel
theorem dX9_wouldRoll_80 : decode cX9_wouldRoll 80 = .ok (.iadd, 1) := by decide +kernel
theorem dX9_wouldRoll_81 : decode cX9_wouldRoll 81 = .ok (.istore_n 2, 1) := by decide +kernel
theorem dX9_wouldRoll_82 : decode cX9_wouldRoll 82 = .ok (.iinc 3 1, 3) := by decide +kernel
theorem dX9_wouldRoll_85 : decode cX9_wouldRoll 85 = .ok (.goto (-51), 3) := by decide +kernel
theorem dX9_wouldRoll_88 : decode cX9_wouldRoll 88 = .ok (.iload_n 2, 1) := by decide +kernel
theorem dX9_wouldRoll_89 : decode cX9_wouldRoll 89 = .ok (.ireturn, 1) := by decide +kernel
theorem ggX9_digest_Jx4a65c_size_8abf5 : GoodIn wsX9_digest wsJx4a65c_size_8abf5 := goodIn_r _ [21, 22, 242, 243, 244] (by decide +kernel) (by decide +kernel)
theorem gX9_digest_Jx4a65c_size_8abf5 : GoodIn wsX9_digest (wsV RX9 63 RJx4a65c yJx4a65c_size_8abf5 wsJx4a65c_size_8abf5) := goodIn_app (goodIn_of _ (by decide +kernel)) ggX9_digest_Jx4a65c_size_8abf5
theorem ggX9_digest_Jx4a65c_get_915e3 : GoodIn wsX9_digest wsJx4a65c_get_915e3 := goodIn_r _ [26, 22, 27, 28, 29, 30, 31, 32, 33, 34, 35, 36, 37, 20, 38, 39, 242, 243, 244] (by decide +kernel) (by decide +kernel)
theorem gX9_digest_Jx4a65c_get_915e3 : GoodIn wsX9_digest (wsV RX9 187 RJx4a65c yJx4a65c_get_915e3 wsJx4a65c_get_915e3) := goodIn_app (goodIn_of _ (by decide +kernel)) ggX9_digest_Jx4a65c_get_915e3
theorem ggX9_digest_X9_withBlocks : GoodIn wsX9_digest wsX9_withBlocks := goodIn_r _ [44, 2, 45, 46, 47, 48, 49, 50, 51, 52, 53, 54, 55, 56, 57, 58, 59, 60, 61, 62, 63, 64, 65, 66, 67, 68, 69, 70, 71, 72, 73, 74, 75, 76, 77, 78, 79, 80, 81, 82, 83, 84, 85, 86, 87, 88, 89, 90, 91, 92, 93, 94, 95, 96, 97, 98, 99, 100, 101, 102, 103, 104, 105, 106, 107, 108, 109, 43, 110, 111, 112, 113, 114, 115, 116, 211, 212, 213, 214, 215, 216, 217, 218, 219, 245, 246, 247, 248, 249, 250, 251, 252, 253, 254, 255, 256, 257, 258, 259] (by decide +kernel) (by decide +kernel)
theorem gX9_digest_X9_withBlocks : GoodIn wsX9_digest (wsV RX9 259 RX9 yX9_withBlocks wsX9_withBlocks) := goodIn_app (goodIn_of _ (by decide +kernel)) ggX9_digest_X9_withBlocks
theorem ggX9_digest_X9_withBuckets : GoodIn wsX9_digest wsX9_withBuckets := goodIn_r _ [119, 2, 120, 121, 122, 123, 124, 125, 126, 127, 252, 253, 245, 246, 247, 248, 249, 250, 251] (by decide +kernel) (by decide +kernel)
theorem gX9_digest_X9_withBuckets : GoodIn wsX9_digest (va_wsS RX9 267 yX9_withBuckets wsX9_withBuckets) := goodIn_app (goodIn_of _ (by decide +kernel)) ggX9_digest_X9_withBuckets
theorem ggX9_digest_X9_withWindows : GoodIn wsX9_digest wsX9_withWindows := goodIn_r _ [131, 2, 132, 133, 134, 43, 135, 136, 137, 138, 139, 140, 141, 142, 143, 144, 145, 146, 147, 148, 149, 150, 151, 152, 153, 154, 121, 155, 156, 157, 62, 158, 159, 160, 161, 162, 123, 124, 125, 126, 127, 163, 92, 93, 49, 94, 95, 96, 164, 165, 166, 167, 168, 169, 170, 171, 172, 173, 174, 175, 176, 177, 178, 179, 180, 181, 182, 183, 184, 185, 186, 187, 188, 189, 190, 191, 192, 193, 194, 211, 212, 213, 214, 215, 216, 217, 218, 219, 228, 229, 230, 231, 232, 252, 253, 245, 246, 247, 248, 249, 250, 251] (by decide +kernel) (by decide +kernel)
theorem gX9_digest_X9_withWindows : GoodIn wsX9_digest (wsV RX9 274 RX9 yX9_withWindows wsX9_withWindows) := goodIn_app (goodIn_of _ (by decide +kernel)) ggX9_digest_X9_withWindows
theorem ggX9_digest_X5_told : GoodIn wsX9_digest wsX5_told := goodIn_r _ [199, 200, 201, 202, 203, 141, 142, 143, 144, 145, 146, 147, 148, 149, 150, 151, 152, 153, 154, 121, 155, 156, 157, 62, 158, 159, 160, 161, 162, 123, 124, 125, 126, 127, 163, 92, 93, 49, 94, 95, 96, 164, 165, 166, 167, 168, 169, 170, 171, 172, 173, 174, 175, 176, 177, 178, 179, 180, 181, 182, 183, 184, 185, 186, 187, 188, 189, 190, 191, 192, 193, 194, 233, 234, 235, 236, 237, 238, 239, 240, 241, 228, 229, 230, 231, 232, 252, 253, 245, 246, 247, 248, 249, 250, 251] (by decide +kernel) (by decide +kernel)
theorem gX9_digest_X5_told : GoodIn wsX9_digest (wsV RX9 234 RX5 yX5_told wsX5_told) := goodIn_app (goodIn_of _ (by decide +kernel)) ggX9_digest_X5_told
theorem ggX9_digest_X1_number : GoodIn wsX9_digest wsX1_number := goodIn_r _ [208, 209, 210, 225, 226, 227] (by decide +kernel) (by decide +kernel)
theorem gX9_digest_X1_number : GoodIn wsX9_digest (wsV RX9 237 RX1 yX1_number wsX1_number) := goodIn_app (goodIn_of _ (by decide +kernel)) ggX9_digest_X1_number
theorem dX9_digest_0 : decode cX9_digest 0 = .ok (.ldc2_w 255, 3) := by decide +kernel
theorem dX9_digest_3 : decode cX9_digest 3 = .ok (.lstore_n 1, 1) := by decide +kernel
theorem dX9_digest_4 : decode cX9_digest 4 = .ok (.lload_n 1, 1) := by decide +kernel
theorem dX9_digest_5 : decode cX9_digest 5 = .ok (.ldc2_w 257, 3) := by decide +kernel
theorem dX9_digest_8 : decode cX9_digest 8 = .ok (.lmul, 1) := by decide +kernel
theorem dX9_digest_9 : decode cX9_digest 9 = .ok (.aload_n 0, 1) := by decide +kernel
theorem dX9_digest_10 : decode cX9_digest 10 = .ok (.getfield 21, 3) := by decide +kernel
theorem dX9_digest_13 : decode cX9_digest 13 = .ok (.getfield 141, 3) := by decide +kernel
theorem dX9_digest_16 : decode cX9_digest 16 = .ok (.i2l, 1) := by decide +kernel
theorem dX9_digest_17 : decode cX9_digest 17 = .ok (.ladd, 1) := by decide +kernel
theorem dX9_digest_18 : decode cX9_digest 18 = .ok (.lstore_n 1, 1) := by decide +kernel
theorem dX9_digest_19 : decode cX9_digest 19 = .ok (.lload_n 1, 1) := by decide +kernel
theorem dX9_digest_20 : decode cX9_digest 20 = .ok (.ldc2_w 257, 3) := by decide +kernel
theorem dX9_digest_23 : decode cX9_digest 23 = .ok (.lmul, 1) := by decide +kernel
theorem dX9_digest_24 : decode cX9_digest 24 = .ok (.aload_n 0, 1) := by decide +kernel
theorem dX9_digest_25 : decode cX9_digest 25 = .ok (.getfield 21, 3) := by decide +kernel
theorem dX9_digest_28 : decode cX9_digest 28 = .ok (.getfield 59, 3) := by decide +kernel
theorem dX9_digest_31 : decode cX9_digest 31 = .ok (.invokevirtual 63, 3) := by decide +kernel
theorem dX9_digest_34 : decode cX9_digest 34 = .ok (.i2l, 1) := by decide +kernel
theorem dX9_digest_35 : decode cX9_digest 35 = .ok (.ladd, 1) := by decide +kernel
theorem dX9_digest_36 : decode cX9_digest 36 = .ok (.lstore_n 1, 1) := by decide +kernel
theorem dX9_digest_37 : decode cX9_digest 37 = .ok (.lload_n 1, 1) := by decide +kernel
theorem dX9_digest_38 : decode cX9_digest 38 = .ok (.ldc2_w 257, 3) := by decide +kernel
theorem dX9_digest_41 : decode cX9_digest 41 = .ok (.lmul, 1) := by decide +kernel
theorem dX9_digest_42 : decode cX9_digest 42 = .ok (.aload_n 0, 1) := by decide +kernel
theorem dX9_digest_43 : decode cX9_digest 43 = .ok (.getfield 48, 3) := by decide +kernel
theorem dX9_digest_46 : decode cX9_digest 46 = .ok (.i2l, 1) := by decide +kernel
theorem dX9_digest_47 : decode cX9_digest 47 = .ok (.ladd, 1) := by decide +kernel
theorem dX9_digest_48 : decode cX9_digest 48 = .ok (.lstore_n 1, 1) := by decide +kernel
theorem dX9_digest_49 : decode cX9_digest 49 = .ok (.lload_n 1, 1) := by decide +kernel
theorem dX9_digest_50 : decode cX9_digest 50 = .ok (.ldc2_w 257, 3) := by decide +kernel
theorem dX9_digest_53 : decode cX9_digest 53 = .ok (.lmul, 1) := by decide +kernel
theorem dX9_digest_54 : decode cX9_digest 54 = .ok (.aload_n 0, 1) := by decide +kernel
theorem dX9_digest_55 : decode cX9_digest 55 = .ok (.getfield 21, 3) := by decide +kernel
theorem dX9_digest_58 : decode cX9_digest 58 = .ok (.getfield 129, 3) := by decide +kernel
theorem dX9_digest_61 : decode cX9_digest 61 = .ok (.getfield 133, 3) := by decide +kernel
theorem dX9_digest_64 : decode cX9_digest 64 = .ok (.i2l, 1) := by decide +kernel
theorem dX9_digest_65 : decode cX9_digest 65 = .ok (.ladd, 1) := by decide +kernel
theorem dX9_digest_66 : decode cX9_digest 66 = .ok (.lstore_n 1, 1) := by decide +kernel
theorem dX9_digest_67 : decode cX9_digest 67 = .ok (.iconst 0, 1) := by decide +kernel
theorem dX9_digest_68 : decode cX9_digest 68 = .ok (.istore_n 3, 1) := by decide +kernel
theorem dX9_digest_69 : decode cX9_digest 69 = .ok (.iload_n 3, 1) := by decide +kernel
theorem dX9_digest_70 : decode cX9_digest 70 = .ok (.aload_n 0, 1) := by decide +kernel
theorem dX9_digest_71 : decode cX9_digest 71 = .ok (.getfield 21, 3) := by decide +kernel
theorem dX9_digest_74 : decode cX9_digest 74 = .ok (.getfield 59, 3) := by decide +kernel
theorem dX9_digest_77 : decode cX9_digest 77 = .ok (.invokevirtual 63, 3) := by decide +kernel
theorem dX9_digest_80 : decode cX9_digest 80 = .ok (.if_icmp .ge 64, 3) := by decide +kernel
theorem dX9_digest_83 : decode cX9_digest 83 = .ok (.aload_n 0, 1) := by decide +kernel
theorem dX9_digest_84 : decode cX9_digest 84 = .ok (.getfield 21, 3) := by decide +kernel
theorem dX9_digest_87 : decode cX9_digest 87 = .ok (.getfield 59, 3) := by decide +kernel
theorem dX9_digest_90 : decode cX9_digest 90 = .ok (.iload_n 3, 1) := by decide +kernel
theorem dX9_digest_91 : decode cX9_digest 91 = .ok (.invokevirtual 187, 3) := by decide +kernel
theorem dX9_digest_94 : decode cX9_digest 94 = .ok (.checkcast 72, 3) := by decide +kernel
theorem dX9_digest_97 : decode cX9_digest 97 = .ok (.astore 4, 2) := by decide +kernel
theorem dX9_digest_99 : decode cX9_digest 99 = .ok (.aload_n 0, 1) := by decide +kernel
theorem dX9_digest_100 : decode cX9_digest 100 = .ok (.lload_n 1, 1) := by decide +kernel
theorem dX9_digest_101 : decode cX9_digest 101 = .ok (.aload 4, 2) := by decide +kernel
theorem dX9_digest_103 : decode cX9_digest 103 = .ok (.getfield 116, 3) := by decide +kernel
theorem dX9_digest_106 : decode cX9_digest 106 = .ok (.invokevirtual 259, 3) := by decide +kernel
theorem dX9_digest_109 : decode cX9_digest 109 = .ok (.lstore_n 1, 1) := by decide +kernel
theorem dX9_digest_110 : decode cX9_digest 110 = .ok (.lload_n 1, 1) := by decide +kernel
theorem dX9_digest_111 : decode cX9_digest 111 = .ok (.aload 4, 2) := by decide +kernel
theorem dX9_digest_113 : decode cX9_digest 113 = .ok (.getfield 263, 3) := by decide +kernel
theorem dX9_digest_116 : decode cX9_digest 116 = .ok (.invokestatic 267, 3) := by decide +kernel
theorem dX9_digest_119 : decode cX9_digest 119 = .ok (.lstore_n 1, 1) := by decide +kernel
theorem dX9_digest_120 : decode cX9_digest 120 = .ok (.lload_n 1, 1) := by decide +kernel
theorem dX9_digest_121 : decode cX9_digest 121 = .ok (.aload 4, 2) := by decide +kernel
theorem dX9_digest_123 : decode cX9_digest 123 = .ok (.getfield 271, 3) := by decide +kernel
theorem dX9_digest_126 : decode cX9_digest 126 = .ok (.invokestatic 267, 3) := by decide +kernel
theorem dX9_digest_129 : decode cX9_digest 129 = .ok (.lstore_n 1, 1) := by decide +kernel
theorem dX9_digest_130 : decode cX9_digest 130 = .ok (.aload_n 0, 1) := by decide +kernel
theorem dX9_digest_131 : decode cX9_digest 131 = .ok (.lload_n 1, 1) := by decide +kernel
theorem dX9_digest_132 : decode cX9_digest 132 = .ok (.aload 4, 2) := by decide +kernel
theorem dX9_digest_134 : decode cX9_digest 134 = .ok (.invokevirtual 274, 3) := by decide +kernel
theorem dX9_digest_137 : decode cX9_digest 137 = .ok (.lstore_n 1, 1) := by decide +kernel
theorem dX9_digest_138 : decode cX9_digest 138 = .ok (.iinc 3 1, 3) := by decide +kernel
theorem dX9_digest_141 : decode cX9_digest 141 = .ok (.goto (-72), 3) := by decide +kernel
theorem dX9_digest_144 : decode cX9_digest 144 = .ok (.iconst 0, 1) := by decide +kernel
theorem dX9_digest_145 : decode cX9_digest 145 = .ok (.istore_n 3, 1) := by decide +kernel
theorem dX9_digest_146 : decode cX9_digest 146 = .ok (.iload_n 3, 1) := by decide +kernel
theorem dX9_digest_147 : decode cX9_digest 147 = .ok (.aload_n 0, 1) := by decide +kernel
theorem dX9_digest_148 : decode cX9_digest 148 = .ok (.getfield 21, 3) := by decide +kernel
theorem dX9_digest_151 : decode cX9_digest 151 = .ok (.getfield 216, 3) := by decide +kernel
theorem dX9_digest_154 : decode cX9_digest 154 = .ok (.invokevirtual 63, 3) := by decide +kernel
theorem dX9_digest_157 : decode cX9_digest 157 = .ok (.if_icmp .ge 71, 3) := by decide +kernel
theorem dX9_digest_160 : decode cX9_digest 160 = .ok (.aload_n 0, 1) := by decide +kernel
theorem dX9_digest_161 : decode cX9_digest 161 = .ok (.getfield 21, 3) := by decide +kernel
theorem dX9_digest_164 : decode cX9_digest 164 = .ok (.getfield 216, 3) := by decide +kernel
theorem dX9_digest_167 : decode cX9_digest 167 = .ok (.iload_n 3, 1) := by decide +kernel
theorem dX9_digest_168 : decode cX9_digest 168 = .ok (.invokevirtual 187, 3) := by decide +kernel
theorem dX9_digest_171 : decode cX9_digest 171 = .ok (.checkcast 219, 3) := by decide +kernel
theorem dX9_digest_174 : decode cX9_digest 174 = .ok (.astore 4, 2) := by decide +kernel
theorem dX9_digest_176 : decode cX9_digest 176 = .ok (.lload_n 1, 1) := by decide +kernel
theorem dX9_digest_177 : decode cX9_digest 177 = .ok (.ldc2_w 257, 3) := by decide +kernel
theorem dX9_digest_180 : decode cX9_digest 180 = .ok (.lmul, 1) := by decide +kernel
theorem dX9_digest_181 : decode cX9_digest 181 = .ok (.aload 4, 2) := by decide +kernel
theorem dX9_digest_183 : decode cX9_digest 183 = .ok (.getfield 228, 3) := by decide +kernel
theorem dX9_digest_186 : decode cX9_digest 186 = .ok (.i2l, 1) := by decide +kernel
theorem dX9_digest_187 : decode cX9_digest 187 = .ok (.ladd, 1) := by decide +kernel
theorem dX9_digest_188 : decode cX9_digest 188 = .ok (.lstore_n 1, 1) := by decide +kernel
theorem dX9_digest_189 : decode cX9_digest 189 = .ok (.lload_n 1, 1) := by decide +kernel
theorem dX9_digest_190 : decode cX9_digest 190 = .ok (.ldc2_w 257, 3) := by decide +kernel
theorem dX9_digest_193 : decode cX9_digest 193 = .ok (.lmul, 1) := by decide +kernel
theorem dX9_digest_194 : decode cX9_digest 194 = .ok (.aload 4, 2) := by decide +kernel
theorem dX9_digest_196 : decode cX9_digest 196 = .ok (.getfield 231, 3) := by decide +kernel
theorem dX9_digest_199 : decode cX9_digest 199 = .ok (.i2l, 1) := by decide +kernel
theorem dX9_digest_200 : decode cX9_digest 200 = .ok (.ladd, 1) := by decide +kernel
theorem dX9_digest_201 : decode cX9_digest 201 = .ok (.lstore_n 1, 1) := by decide +kernel
theorem dX9_digest_202 : decode cX9_digest 202 = .ok (.lload_n 1, 1) := by decide +kernel
theorem dX9_digest_203 : decode cX9_digest 203 = .ok (.ldc2_w 257, 3) := by decide +kernel
theorem dX9_digest_206 : decode cX9_digest 206 = .ok (.lmul, 1) := by decide +kernel
theorem dX9_digest_207 : decode cX9_digest 207 = .ok (.aload 4, 2) := by decide +kernel
theorem dX9_digest_209 : decode cX9_digest 209 = .ok (.aload_n 0, 1) := by decide +kernel
theorem dX9_digest_210 : decode cX9_digest 210 = .ok (.getfield 21, 3) := by decide +kernel
theorem dX9_digest_213 : decode cX9_digest 213 = .ok (.getfield 141, 3) := by decide +kernel
theorem dX9_digest_216 : decode cX9_digest 216 = .ok (.invokevirtual 234, 3) := by decide +kernel
theorem dX9_digest_219 : decode cX9_digest 219 = .ok (.i2l, 1) := by decide +kernel
theorem dX9_digest_220 : decode cX9_digest 220 = .ok (.ladd, 1) := by decide +kernel
theorem dX9_digest_221 : decode cX9_digest 221 = .ok (.lstore_n 1, 1) := by decide +kernel
theorem dX9_digest_222 : decode cX9_digest 222 = .ok (.iinc 3 1, 3) := by decide +kernel
theorem dX9_digest_225 : decode cX9_digest 225 = .ok (.goto (-79), 3) := by decide +kernel
theorem dX9_digest_228 : decode cX9_digest 228 = .ok (.iconst 0, 1) := by decide +kernel
theorem dX9_digest_229 : decode cX9_digest 229 = .ok (.istore_n 3, 1) := by decide +kernel
theorem dX9_digest_230 : decode cX9_digest 230 = .ok (.iload_n 3, 1) := by decide +kernel
theorem dX9_digest_231 : decode cX9_digest 231 = .ok (.iconst 5, 1) := by decide +kernel
theorem dX9_digest_232 : decode cX9_digest 232 = .ok (.if_icmp .ge 59, 3) := by decide +kernel
theorem dX9_digest_235 : decode cX9_digest 235 = .ok (.iload_n 3, 1) := by decide +kernel
theorem dX9_digest_236 : decode cX9_digest 236 = .ok (.aload_n 0, 1) := by decide +kernel
theorem dX9_digest_237 : decode cX9_digest 237 = .ok (.getfield 21, 3) := by decide +kernel
theorem dX9_digest_240 : decode cX9_digest 240 = .ok (.getfield 129, 3) := by decide +kernel
theorem dX9_digest_243 : decode cX9_digest 243 = .ok (.getfield 133, 3) := by decide +kernel
theorem dX9_digest_246 : decode cX9_digest 246 = .ok (.if_icmp .ge 45, 3) := by decide +kernel
theorem dX9_digest_249 : decode cX9_digest 249 = .ok (.iconst 0, 1) := by decide +kernel
theorem dX9_digest_250 : decode cX9_digest 250 = .ok (.istore 4, 2) := by decide +kernel
theorem dX9_digest_252 : decode cX9_digest 252 = .ok (.iload 4, 2) := by decide +kernel
theorem dX9_digest_254 : decode cX9_digest 254 = .ok (.iconst 3, 1) := by decide +kernel
theorem dX9_digest_255 : decode cX9_digest 255 = .ok (.if_icmp .ge 30, 3) := by decide +kernel
theorem dX9_digest_258 : decode cX9_digest 258 = .ok (.lload_n 1, 1) := by decide +kernel
theorem dX9_digest_259 : decode cX9_digest 259 = .ok (.ldc2_w 257, 3) := by decide +kernel
theorem dX9_digest_262 : decode cX9_digest 262 = .ok (.lmul, 1) := by decide +kernel
theorem dX9_digest_263 : decode cX9_digest 263 = .ok (.aload_n 0, 1) := by decide +kernel
theorem dX9_digest_264 : decode cX9_digest 264 = .ok (.getfield 21, 3) := by decide +kernel
theorem dX9_digest_267 : decode cX9_digest 267 = .ok (.getfield 129, 3) := by decide +kernel
theorem dX9_digest_270 : decode cX9_digest 270 = .ok (.iload_n 3, 1) := by decide +kernel
theorem dX9_digest_271 : decode cX9_digest 271 = .ok (.iload 4, 2) := by decide +kernel
theorem dX9_digest_273 : decode cX9_digest 273 = .ok (.invokevirtual 237, 3) := by decide +kernel
theorem dX9_digest_276 : decode cX9_digest 276 = .ok (.i2l, 1) := by decide +kernel
theorem dX9_digest_277 : decode cX9_digest 277 = .ok (.ladd, 1) := by decide +kernel
theorem dX9_digest_278 : decode cX9_digest 278 = .ok (.lstore_n 1, 1) := by decide +kernel
theorem dX9_digest_279 : decode cX9_digest 279 = .ok (.iinc 4 1, 3) := by decide +kernel
theorem dX9_digest_282 : decode cX9_digest 282 = .ok (.goto (-30), 3) := by decide +kernel
theorem dX9_digest_285 : decode cX9_digest 285 = .ok (.iinc 3 1, 3) := by decide +kernel
theorem dX9_digest_288 : decode cX9_digest 288 = .ok (.goto (-58), 3) := by decide +kernel
theorem dX9_digest_291 : decode cX9_digest 291 = .ok (.lload_n 1, 1) := by decide +kernel
theorem dX9_digest_292 : decode cX9_digest 292 = .ok (.lreturn, 1) := by decide +kernel
theorem ggX9_withBlocks_X4_blockCount : GoodIn wsX9_withBlocks wsX4_blockCount := goodIn_r _ [7, 8, 84, 85, 86, 87, 88, 89, 90] (by decide +kernel) (by decide +kernel)
theorem gX9_withBlocks_X4_blockCount : GoodIn wsX9_withBlocks (wsV RX9 144 RX4 yX4_blockCount wsX4_blockCount) := goodIn_app (goodIn_of _ (by decide +kernel)) ggX9_withBlocks_X4_blockCount
theorem ggX9_withBlocks_X4_sizeOf : GoodIn wsX9_withBlocks wsX4_sizeOf := goodIn_r _ [12, 8, 13, 14, 15, 16, 6, 17, 18, 19, 20, 84, 85, 86, 87, 88, 89, 90, 91, 92] (by decide +kernel) (by decide +kernel)
theorem gX9_withBlocks_X4_sizeOf : GoodIn wsX9_withBlocks (wsV RX9 153 RX4 yX4_sizeOf wsX4_sizeOf) := goodIn_app (goodIn_of _ (by decide +kernel)) ggX9_withBlocks_X4_sizeOf
theorem ggX9_withBlocks_X3_pack : GoodIn wsX9_withBlocks wsX3_pack := goodIn_r _ [25, 26, 27, 28, 29, 30, 6, 31, 8, 32, 10, 11, 12, 13, 14, 15, 16, 17, 18, 19, 20, 33, 34, 35, 36, 24, 37, 38, 39, 40, 41, 42, 43, 44, 45, 46, 47, 48, 49, 50, 51, 52, 53, 54, 55, 56, 57, 58, 59, 60, 61, 62, 63, 64, 65, 66, 67, 68, 69, 70, 71, 72, 73, 84, 85, 86, 87, 88, 89, 90, 93, 94, 95, 96, 97, 98, 91, 92] (by decide +kernel) (by decide +kernel)
theorem gX9_withBlocks_X3_pack : GoodIn wsX9_withBlocks (wsV RX9 164 RX3 yX3_pack wsX3_pack) := goodIn_app (goodIn_of _ (by decide +kernel)) ggX9_withBlocks_X3_pack
theorem ggX9_withBlocks_X4_number : GoodIn wsX9_withBlocks wsX4_number := goodIn_r _ [51, 52, 53, 84, 85, 86, 87, 88, 89, 90] (by decide +kernel) (by decide +kernel)
theorem gX9_withBlocks_X4_number : GoodIn wsX9_withBlocks (wsV RX9 160 RX4 yX4_number wsX4_number) := goodIn_app (goodIn_of _ (by decide +kernel)) ggX9_withBlocks_X4_number
theorem dX9_withBlocks_0 : decode cX9_withBlocks 0 = .ok (.lload_n 1, 1) := by decide +kernel
theorem dX9_withBlocks_1 : decode cX9_withBlocks 1 = .ok (.ldc2_w 257, 3) := by decide +kernel
theorem dX9_withBlocks_4 : decode cX9_withBlocks 4 = .ok (.lmul, 1) := by decide +kernel
theorem dX9_withBlocks_5 : decode cX9_withBlocks 5 = .ok (.aload_n 3, 1) := by decide +kernel
theorem dX9_withBlocks_6 : decode cX9_withBlocks 6 = .ok (.invokevirtual 144, 3) := by decide +kernel
theorem dX9_withBlocks_9 : decode cX9_withBlocks 9 = .ok (.i2l, 1) := by decide +kernel
theorem dX9_withBlocks_10 : decode cX9_withBlocks 10 = .ok (.ladd, 1) := by decide +kernel
theorem dX9_withBlocks_11 : decode cX9_withBlocks 11 = .ok (.lstore 4, 2) := by decide +kernel
theorem dX9_withBlocks_13 : decode cX9_withBlocks 13 = .ok (.iconst 0, 1) := by decide +kernel
theorem dX9_withBlocks_14 : decode cX9_withBlocks 14 = .ok (.istore 6, 2) := by decide +kernel
theorem dX9_withBlocks_16 : decode cX9_withBlocks 16 = .ok (.iconst 0, 1) := by decide +kernel
theorem dX9_withBlocks_17 : decode cX9_withBlocks 17 = .ok (.istore 7, 2) := by decide +kernel
theorem dX9_withBlocks_19 : decode cX9_withBlocks 19 = .ok (.iload 7, 2) := by decide +kernel
theorem dX9_withBlocks_21 : decode cX9_withBlocks 21 = .ok (.aload_n 3, 1) := by decide +kernel
theorem dX9_withBlocks_22 : decode cX9_withBlocks 22 = .ok (.invokevirtual 144, 3) := by decide +kernel
theorem dX9_withBlocks_25 : decode cX9_withBlocks 25 = .ok (.if_icmp .ge 102, 3) := by decide +kernel
theorem dX9_withBlocks_28 : decode cX9_withBlocks 28 = .ok (.aload_n 3, 1) := by decide +kernel
theorem dX9_withBlocks_29 : decode cX9_withBlocks 29 = .ok (.iload 7, 2) := by decide +kernel
theorem dX9_withBlocks_31 : decode cX9_withBlocks 31 = .ok (.invokevirtual 153, 3) := by decide +kernel
theorem dX9_withBlocks_34 : decode cX9_withBlocks 34 = .ok (.istore 8, 2) := by decide +kernel
theorem dX9_withBlocks_36 : decode cX9_withBlocks 36 = .ok (.lload 4, 2) := by decide +kernel
theorem dX9_withBlocks_38 : decode cX9_withBlocks 38 = .ok (.ldc2_w 257, 3) := by decide +kernel
theorem dX9_withBlocks_41 : decode cX9_withBlocks 41 = .ok (.lmul, 1) := by decide +kernel
theorem dX9_withBlocks_42 : decode cX9_withBlocks 42 = .ok (.iload 8, 2) := by decide +kernel
theorem dX9_withBlocks_44 : decode cX9_withBlocks 44 = .ok (.i2l, 1) := by decide +kernel
theorem dX9_withBlocks_45 : decode cX9_withBlocks 45 = .ok (.ladd, 1) := by decide +kernel
theorem dX9_withBlocks_46 : decode cX9_withBlocks 46 = .ok (.lstore 4, 2) := by decide +kernel
theorem dX9_withBlocks_48 : decode cX9_withBlocks 48 = .ok (.lload 4, 2) := by decide +kernel
theorem dX9_withBlocks_50 : decode cX9_withBlocks 50 = .ok (.ldc2_w 257, 3) := by decide +kernel
theorem dX9_withBlocks_53 : decode cX9_withBlocks 53 = .ok (.lmul, 1) := by decide +kernel
theorem dX9_withBlocks_54 : decode cX9_withBlocks 54 = .ok (.aload_n 0, 1) := by decide +kernel
theorem dX9_withBlocks_55 : decode cX9_withBlocks 55 = .ok (.getfield 31, 3) := by decide +kernel
theorem dX9_withBlocks_58 : decode cX9_withBlocks 58 = .ok (.aload_n 3, 1) := by decide +kernel
theorem dX9_withBlocks_59 : decode cX9_withBlocks 59 = .ok (.iload 7, 2) := by decide +kernel
theorem dX9_withBlocks_61 : decode cX9_withBlocks 61 = .ok (.invokevirtual 164, 3) := by decide +kernel
theorem dX9_withBlocks_64 : decode cX9_withBlocks 64 = .ok (.i2l, 1) := by decide +kernel
theorem dX9_withBlocks_65 : decode cX9_withBlocks 65 = .ok (.ladd, 1) := by decide +kernel
theorem dX9_withBlocks_66 : decode cX9_withBlocks 66 = .ok (.lstore 4, 2) := by decide +kernel
theorem dX9_withBlocks_68 : decode cX9_withBlocks 68 = .ok (.iconst 0, 1) := by decide +kernel
theorem dX9_withBlocks_69 : decode cX9_withBlocks 69 = .ok (.istore 9, 2) := by decide +kernel
theorem dX9_withBlocks_71 : decode cX9_withBlocks 71 = .ok (.iload 9, 2) := by decide +kernel
theorem dX9_withBlocks_73 : decode cX9_withBlocks 73 = .ok (.iload 8, 2) := by decide +kernel
theorem dX9_withBlocks_75 : decode cX9_withBlocks 75 = .ok (.if_icmp .ge 46, 3) := by decide +kernel
theorem dX9_withBlocks_78 : decode cX9_withBlocks 78 = .ok (.lload 4, 2) := by decide +kernel
theorem dX9_withBlocks_80 : decode cX9_withBlocks 80 = .ok (.ldc2_w 257, 3) := by decide +kernel
theorem dX9_withBlocks_83 : decode cX9_withBlocks 83 = .ok (.lmul, 1) := by decide +kernel
theorem dX9_withBlocks_84 : decode cX9_withBlocks 84 = .ok (.aload_n 3, 1) := by decide +kernel
theorem dX9_withBlocks_85 : decode cX9_withBlocks 85 = .ok (.iload 6, 2) := by decide +kernel
theorem dX9_withBlocks_87 : decode cX9_withBlocks 87 = .ok (.iconst 0, 1) := by decide +kernel
theorem dX9_withBlocks_88 : decode cX9_withBlocks 88 = .ok (.invokevirtual 160, 3) := by decide +kernel
theorem dX9_withBlocks_91 : decode cX9_withBlocks 91 = .ok (.i2l, 1) := by decide +kernel
theorem dX9_withBlocks_92 : decode cX9_withBlocks 92 = .ok (.ladd, 1) := by decide +kernel
theorem dX9_withBlocks_93 : decode cX9_withBlocks 93 = .ok (.lstore 4, 2) := by decide +kernel
theorem dX9_withBlocks_95 : decode cX9_withBlocks 95 = .ok (.lload 4, 2) := by decide +kernel
theorem dX9_withBlocks_97 : decode cX9_withBlocks 97 = .ok (.ldc2_w 257, 3) := by decide +kernel
theorem dX9_withBlocks_100 : decode cX9_withBlocks 100 = .ok (.lmul, 1) := by decide +kernel
theorem dX9_withBlocks_101 : decode cX9_withBlocks 101 = .ok (.aload_n 3, 1) := by decide +kernel
theorem dX9_withBlocks_102 : decode cX9_withBlocks 102 = .ok (.iload 6, 2) := by decide +kernel
theorem dX9_withBlocks_104 : decode cX9_withBlocks 104 = .ok (.iconst 5, 1) := by decide +kernel
theorem dX9_withBlocks_105 : decode cX9_withBlocks 105 = .ok (.invokevirtual 160, 3) := by decide +kernel
theorem dX9_withBlocks_108 : decode cX9_withBlocks 108 = .ok (.i2l, 1) := by decide +kernel
theorem dX9_withBlocks_109 : decode cX9_withBlocks 109 = .ok (.ladd, 1) := by decide +kernel
theorem dX9_withBlocks_110 : decode cX9_withBlocks 110 = .ok (.lstore 4, 2) := by decide +kernel
theorem dX9_withBlocks_112 : decode cX9_withBlocks 112 = .ok (.iinc 6 1, 3) := by decide +kernel
theorem dX9_withBlocks_115 : decode cX9_withBlocks 115 = .ok (.iinc 9 1, 3) := by decide +kernel
theorem dX9_withBlocks_118 : decode cX9_withBlocks 118 = .ok (.goto (-47), 3) := by decide +kernel
theorem dX9_withBlocks_121 : decode cX9_withBlocks 121 = .ok (.iinc 7 1, 3) := by decide +kernel
theorem dX9_withBlocks_124 : decode cX9_withBlocks 124 = .ok (.goto (-105), 3) := by decide +kernel
theorem dX9_withBlocks_127 : decode cX9_withBlocks 127 = .ok (.lload 4, 2) := by decide +kernel
theorem dX9_withBlocks_129 : decode cX9_withBlocks 129 = .ok (.lreturn, 1) := by decide +kernel
theorem ggX9_withBuckets_X0_number : GoodIn wsX9_withBuckets wsX0_number := goodIn_r _ [8, 9, 10, 11] (by decide +kernel) (by decide +kernel)
theorem gX9_withBuckets_X0_number : GoodIn wsX9_withBuckets (wsV RX9 183 RX0 yX0_number wsX0_number) := goodIn_app (goodIn_of _ (by decide +kernel)) ggX9_withBuckets_X0_number
theorem dX9_withBuckets_0 : decode cX9_withBuckets 0 = .ok (.lload_n 0, 1) := by decide +kernel
theorem dX9_withBuckets_1 : decode cX9_withBuckets 1 = .ok (.ldc2_w 257, 3) := by decide +kernel
theorem dX9_withBuckets_4 : decode cX9_withBuckets 4 = .ok (.lmul, 1) := by decide +kernel
theorem dX9_withBuckets_5 : decode cX9_withBuckets 5 = .ok (.aload_n 2, 1) := by decide +kernel
theorem dX9_withBuckets_6 : decode cX9_withBuckets 6 = .ok (.getfield 178, 3) := by decide +kernel
theorem dX9_withBuckets_9 : decode cX9_withBuckets 9 = .ok (.i2l, 1) := by decide +kernel
theorem dX9_withBuckets_10 : decode cX9_withBuckets 10 = .ok (.ladd, 1) := by decide +kernel
theorem dX9_withBuckets_11 : decode cX9_withBuckets 11 = .ok (.lstore_n 3, 1) := by decide +kernel
theorem dX9_withBuckets_12 : decode cX9_withBuckets 12 = .ok (.iconst 0, 1) := by decide +kernel
theorem dX9_withBuckets_13 : decode cX9_withBuckets 13 = .ok (.istore 5, 2) := by decide +kernel
theorem dX9_withBuckets_15 : decode cX9_withBuckets 15 = .ok (.iload 5, 2) := by decide +kernel
theorem dX9_withBuckets_17 : decode cX9_withBuckets 17 = .ok (.aload_n 2, 1) := by decide +kernel
theorem dX9_withBuckets_18 : decode cX9_withBuckets 18 = .ok (.getfield 178, 3) := by decide +kernel
theorem dX9_withBuckets_21 : decode cX9_withBuckets 21 = .ok (.if_icmp .ge 41, 3) := by decide +kernel
theorem dX9_withBuckets_24 : decode cX9_withBuckets 24 = .ok (.iconst 0, 1) := by decide +kernel
theorem dX9_withBuckets_25 : decode cX9_withBuckets 25 = .ok (.istore 6, 2) := by decide +kernel
theorem dX9_withBuckets_27 : decode cX9_withBuckets 27 = .ok (.iload 6, 2) := by decide +kernel
theorem dX9_withBuckets_29 : decode cX9_withBuckets 29 = .ok (.bipush 6, 2) := by decide +kernel
theorem dX9_withBuckets_31 : decode cX9_withBuckets 31 = .ok (.if_icmp .gt 25, 3) := by decide +kernel
theorem dX9_withBuckets_34 : decode cX9_withBuckets 34 = .ok (.lload_n 3, 1) := by decide +kernel
theorem dX9_withBuckets_35 : decode cX9_withBuckets 35 = .ok (.ldc2_w 257, 3) := by decide +kernel
theorem dX9_withBuckets_38 : decode cX9_withBuckets 38 = .ok (.lmul, 1) := by decide +kernel
theorem dX9_withBuckets_39 : decode cX9_withBuckets 39 = .ok (.aload_n 2, 1) := by decide +kernel
theorem dX9_withBuckets_40 : decode cX9_withBuckets 40 = .ok (.iload 5, 2) := by decide +kernel
theorem dX9_withBuckets_42 : decode cX9_withBuckets 42 = .ok (.iload 6, 2) := by decide +kernel
theorem dX9_withBuckets_44 : decode cX9_withBuckets 44 = .ok (.invokevirtual 183, 3) := by decide +kernel
theorem dX9_withBuckets_47 : decode cX9_withBuckets 47 = .ok (.i2l, 1) := by decide +kernel
theorem dX9_withBuckets_48 : decode cX9_withBuckets 48 = .ok (.ladd, 1) := by decide +kernel
theorem dX9_withBuckets_49 : decode cX9_withBuckets 49 = .ok (.lstore_n 3, 1) := by decide +kernel
theorem dX9_withBuckets_50 : decode cX9_withBuckets 50 = .ok (.iinc 6 1, 3) := by decide +kernel
theorem dX9_withBuckets_53 : decode cX9_withBuckets 53 = .ok (.goto (-26), 3) := by decide +kernel
theorem dX9_withBuckets_56 : decode cX9_withBuckets 56 = .ok (.iinc 5 1, 3) := by decide +kernel
theorem dX9_withBuckets_59 : decode cX9_withBuckets 59 = .ok (.goto (-44), 3) := by decide +kernel
theorem dX9_withBuckets_62 : decode cX9_withBuckets 62 = .ok (.lload_n 3, 1) := by decide +kernel
theorem dX9_withBuckets_63 : decode cX9_withBuckets 63 = .ok (.lreturn, 1) := by decide +kernel
theorem ggX9_withWindows_X9_toldByQuery : GoodIn wsX9_withWindows wsX9_toldByQuery := goodIn_r _ [6, 7, 8, 9, 10, 11, 12, 13, 14, 15, 16, 17, 18, 19, 20, 21, 22, 23, 24, 25, 26, 27, 28, 29, 30, 31, 32, 33, 34, 35, 36, 37, 38, 39, 40, 41, 42, 43, 44, 45, 46, 47, 48, 49, 50, 51, 52, 53, 54, 55, 56, 57, 58, 59, 60, 61, 62, 63, 64, 65, 66, 67, 68, 69, 70, 71, 72, 73, 74, 75, 76, 77, 78, 79, 80, 81, 82, 83, 84, 85, 86, 87, 88, 89, 90, 91, 92, 93, 94, 95, 96, 97, 98, 99, 100, 101] (by decide +kernel) (by decide +kernel)
theorem gX9_withWindows_X9_toldByQuery : GoodIn wsX9_withWindows (wsV RX9 196 RX9 yX9_toldByQuery wsX9_toldByQuery) := goodIn_app (goodIn_of _ (by decide +kernel)) ggX9_withWindows_X9_toldByQuery
theorem dX9_withWindows_0 : decode cX9_withWindows 0 = .ok (.lload_n 1, 1) := by decide +kernel
theorem dX9_withWindows_1 : decode cX9_withWindows 1 = .ok (.lstore 4, 2) := by decide +kernel
theorem dX9_withWindows_3 : decode cX9_withWindows 3 = .ok (.iconst 0, 1) := by decide +kernel
theorem dX9_withWindows_4 : decode cX9_withWindows 4 = .ok (.istore 6, 2) := by decide +kernel
theorem dX9_withWindows_6 : decode cX9_withWindows 6 = .ok (.iload 6, 2) := by decide +kernel
theorem dX9_withWindows_8 : decode cX9_withWindows 8 = .ok (.iconst 5, 1) := by decide +kernel
theorem dX9_withWindows_9 : decode cX9_withWindows 9 = .ok (.if_icmp .gt 26, 3) := by decide +kernel
theorem dX9_withWindows_12 : decode cX9_withWindows 12 = .ok (.lload 4, 2) := by decide +kernel
theorem dX9_withWindows_14 : decode cX9_withWindows 14 = .ok (.ldc2_w 257, 3) := by decide +kernel
theorem dX9_withWindows_17 : decode cX9_withWindows 17 = .ok (.lmul, 1) := by decide +kernel
theorem dX9_withWindows_18 : decode cX9_withWindows 18 = .ok (.aload_n 0, 1) := by decide +kernel
theorem dX9_withWindows_19 : decode cX9_withWindows 19 = .ok (.aload_n 3, 1) := by decide +kernel
theorem dX9_withWindows_20 : decode cX9_withWindows 20 = .ok (.iload 6, 2) := by decide +kernel
theorem dX9_withWindows_22 : decode cX9_withWindows 22 = .ok (.invokevirtual 196, 3) := by decide +kernel
theorem dX9_withWindows_25 : decode cX9_withWindows 25 = .ok (.i2l, 1) := by decide +kernel
theorem dX9_withWindows_26 : decode cX9_withWindows 26 = .ok (.ladd, 1) := by decide +kernel
theorem dX9_withWindows_27 : decode cX9_withWindows 27 = .ok (.lstore 4, 2) := by decide +kernel
theorem dX9_withWindows_29 : decode cX9_withWindows 29 = .ok (.iinc 6 1, 3) := by decide +kernel
theorem dX9_withWindows_32 : decode cX9_withWindows 32 = .ok (.goto (-26), 3) := by decide +kernel
theorem dX9_withWindows_35 : decode cX9_withWindows 35 = .ok (.lload 4, 2) := by decide +kernel
theorem dX9_withWindows_37 : decode cX9_withWindows 37 = .ok (.lreturn, 1) := by decide +kernel
theorem dX9_isIn_0 : decode cX9_isIn 0 = .ok (.lload_n 0, 1) := by decide +kernel
theorem dX9_isIn_1 : decode cX9_isIn 1 = .ok (.iload_n 2, 1) := by decide +kernel
theorem dX9_isIn_2 : decode cX9_isIn 2 = .ok (.i2l, 1) := by decide +kernel
theorem dX9_isIn_3 : decode cX9_isIn 3 = .ok (.lcmp, 1) := by decide +kernel
theorem dX9_isIn_4 : decode cX9_isIn 4 = .ok (.ifCond .lt 14, 3) := by decide +kernel
theorem dX9_isIn_7 : decode cX9_isIn 7 = .ok (.lload_n 0, 1) := by decide +kernel
theorem dX9_isIn_8 : decode cX9_isIn 8 = .ok (.iload_n 3, 1) := by decide +kernel
theorem dX9_isIn_9 : decode cX9_isIn 9 = .ok (.i2l, 1) := by decide +kernel
theorem dX9_isIn_10 : decode cX9_isIn 10 = .ok (.lcmp, 1) := by decide +kernel
theorem dX9_isIn_11 : decode cX9_isIn 11 = .ok (.ifCond .gt 7, 3) := by decide +kernel
theorem dX9_isIn_14 : decode cX9_isIn 14 = .ok (.iconst 1, 1) := by decide +kernel
theorem dX9_isIn_15 : decode cX9_isIn 15 = .ok (.goto 4, 3) := by decide +kernel
theorem dX9_isIn_18 : decode cX9_isIn 18 = .ok (.iconst 0, 1) := by decide +kernel
theorem dX9_isIn_19 : decode cX9_isIn 19 = .ok (.ireturn, 1) := by decide +kernel
theorem ggX9_isValue_X9_isIn : GoodIn wsX9_isValue wsX9_isIn := goodIn_r _ [6] (by decide +kernel) (by decide +kernel)
theorem gX9_isValue_X9_isIn : GoodIn wsX9_isValue (va_wsS RX9 51 yX9_isIn wsX9_isIn) := goodIn_app (goodIn_of _ (by decide +kernel)) ggX9_isValue_X9_isIn
theorem dX9_isValue_0 : decode cX9_isValue 0 = .ok (.lload_n 0, 1) := by decide +kernel
theorem dX9_isValue_1 : decode cX9_isValue 1 = .ok (.ldc_w 278, 3) := by decide +kernel
theorem dX9_isValue_4 : decode cX9_isValue 4 = .ok (.ldc_w 279, 3) := by decide +kernel
theorem dX9_isValue_7 : decode cX9_isValue 7 = .ok (.invokestatic 51, 3) := by decide +kernel
theorem dX9_isValue_10 : decode cX9_isValue 10 = .ok (.ireturn, 1) := by decide +kernel
theorem ggX9_isTimeUpToNow_X9_isIn : GoodIn wsX9_isTimeUpToNow wsX9_isIn := goodIn_r _ [6] (by decide +kernel) (by decide +kernel)
theorem gX9_isTimeUpToNow_X9_isIn : GoodIn wsX9_isTimeUpToNow (va_wsS RX9 51 yX9_isIn wsX9_isIn) := goodIn_app (goodIn_of _ (by decide +kernel)) ggX9_isTimeUpToNow_X9_isIn
theorem dX9_isTimeUpToNow_0 : decode cX9_isTimeUpToNow 0 = .ok (.lload_n 1, 1) := by decide +kernel
theorem dX9_isTimeUpToNow_1 : decode cX9_isTimeUpToNow 1 = .ok (.iconst 0, 1) := by decide +kernel
theorem dX9_isTimeUpToNow_2 : decode cX9_isTimeUpToNow 2 = .ok (.aload_n 0, 1) := by decide +kernel
theorem dX9_isTimeUpToNow_3 : decode cX9_isTimeUpToNow 3 = .ok (.getfield 21, 3) := by decide +kernel
theorem dX9_isTimeUpToNow_6 : decode cX9_isTimeUpToNow 6 = .ok (.getfield 141, 3) := by decide +kernel
theorem dX9_isTimeUpToNow_9 : decode cX9_isTimeUpToNow 9 = .ok (.invokestatic 51, 3) := by decide +kernel
theorem dX9_isTimeUpToNow_12 : decode cX9_isTimeUpToNow 12 = .ok (.ireturn, 1) := by decide +kernel
theorem ggX9_canGoOn_X9_isIn : GoodIn wsX9_canGoOn wsX9_isIn := goodIn_r _ [7] (by decide +kernel) (by decide +kernel)
theorem gX9_canGoOn_X9_isIn : GoodIn wsX9_canGoOn (va_wsS RX9 51 yX9_isIn wsX9_isIn) := goodIn_app (goodIn_of _ (by decide +kernel)) ggX9_canGoOn_X9_isIn
theorem dX9_canGoOn_0 : decode cX9_canGoOn 0 = .ok (.iload_n 1, 1) := by decide +kernel
theorem dX9_canGoOn_1 : decode cX9_canGoOn 1 = .ok (.i2l, 1) := by decide +kernel
theorem dX9_canGoOn_2 : decode cX9_canGoOn 2 = .ok (.iconst 1, 1) := by decide +kernel
theorem dX9_canGoOn_3 : decode cX9_canGoOn 3 = .ok (.bipush 100, 2) := by decide +kernel
theorem dX9_canGoOn_5 : decode cX9_canGoOn 5 = .ok (.invokestatic 51, 3) := by decide +kernel
theorem dX9_canGoOn_8 : decode cX9_canGoOn 8 = .ok (.ifCond .eq 21, 3) := by decide +kernel
theorem dX9_canGoOn_11 : decode cX9_canGoOn 11 = .ok (.aload_n 0, 1) := by decide +kernel
theorem dX9_canGoOn_12 : decode cX9_canGoOn 12 = .ok (.getfield 21, 3) := by decide +kernel
theorem dX9_canGoOn_15 : decode cX9_canGoOn 15 = .ok (.getfield 141, 3) := by decide +kernel
theorem dX9_canGoOn_18 : decode cX9_canGoOn 18 = .ok (.iload_n 1, 1) := by decide +kernel
theorem dX9_canGoOn_19 : decode cX9_canGoOn 19 = .ok (.iadd, 1) := by decide +kernel
theorem dX9_canGoOn_20 : decode cX9_canGoOn 20 = .ok (.ldc 100, 2) := by decide +kernel
theorem dX9_canGoOn_22 : decode cX9_canGoOn 22 = .ok (.if_icmp .gt 7, 3) := by decide +kernel
theorem dX9_canGoOn_25 : decode cX9_canGoOn 25 = .ok (.iconst 1, 1) := by decide +kernel
theorem dX9_canGoOn_26 : decode cX9_canGoOn 26 = .ok (.goto 4, 3) := by decide +kernel
theorem dX9_canGoOn_29 : decode cX9_canGoOn 29 = .ok (.iconst 0, 1) := by decide +kernel
theorem dX9_canGoOn_30 : decode cX9_canGoOn 30 = .ok (.ireturn, 1) := by decide +kernel
theorem dX9_needArgument_0 : decode cX9_needArgument 0 = .ok (.iload_n 0, 1) := by decide +kernel
theorem dX9_needArgument_1 : decode cX9_needArgument 1 = .ok (.ifCond .ne 14, 3) := by decide +kernel
theorem dX9_needArgument_4 : decode cX9_needArgument 4 = .ok (.new 280, 3) := by decide +kernel
theorem dX9_needArgument_7 : decode cX9_needArgument 7 = .ok (.dup, 1) := by decide +kernel
theorem dX9_needArgument_8 : decode cX9_needArgument 8 = .ok (.ldc_w 282, 3) := by decide +kernel
theorem dX9_needArgument_11 : decode cX9_needArgument 11 = .ok (.invokespecial 284, 3) := by decide +kernel
theorem dX9_needArgument_14 : decode cX9_needArgument 14 = .ok (.athrow, 1) := by decide +kernel
theorem dX9_needArgument_15 : decode cX9_needArgument 15 = .ok (.return_, 1) := by decide +kernel
theorem dX9_needIndex_0 : decode cX9_needIndex 0 = .ok (.iload_n 0, 1) := by decide +kernel
theorem dX9_needIndex_1 : decode cX9_needIndex 1 = .ok (.ifCond .ne 14, 3) := by decide +kernel
theorem dX9_needIndex_4 : decode cX9_needIndex 4 = .ok (.new 287, 3) := by decide +kernel
theorem dX9_needIndex_7 : decode cX9_needIndex 7 = .ok (.dup, 1) := by decide +kernel
theorem dX9_needIndex_8 : decode cX9_needIndex 8 = .ok (.ldc_w 289, 3) := by decide +kernel
theorem dX9_needIndex_11 : decode cX9_needIndex 11 = .ok (.invokespecial 291, 3) := by decide +kernel
theorem dX9_needIndex_14 : decode cX9_needIndex 14 = .ok (.athrow, 1) := by decide +kernel
theorem dX9_needIndex_15 : decode cX9_needIndex 15 = .ok (.return_, 1) := by decide +kernel
theorem dX9_needState_0 : decode cX9_needState 0 = .ok (.iload_n 0, 1) := by decide +kernel
theorem dX9_needState_1 : decode cX9_needState 1 = .ok (.ifCond .ne 14, 3) := by decide +kernel
theorem dX9_needState_4 : decode cX9_needState 4 = .ok (.new 292, 3) := by decide +kernel
theorem dX9_needState_7 : decode cX9_needState 7 = .ok (.dup, 1) := by decide +kernel
theorem dX9_needState_8 : decode cX9_needState 8 = .ok (.ldc_w 294, 3) := by decide +kernel
theorem dX9_needState_11 : decode cX9_needState 11 = .ok (.invokespecial 296, 3) := by decide +kernel
theorem dX9_needState_14 : decode cX9_needState 14 = .ok (.athrow, 1) := by decide +kernel
theorem dX9_needState_15 : decode cX9_needState 15 = .ok (.return_, 1) := by decide +kernel
theorem ggX9_chainAt_Jx4a65c_size_8abf5 : GoodIn wsX9_chainAt wsJx4a65c_size_8abf5 := goodIn_r _ [10, 11, 43, 44, 45] (by decide +kernel) (by decide +kernel)
theorem gX9_chainAt_Jx4a65c_size_8abf5 : GoodIn wsX9_chainAt (wsV RX9 63 RJx4a65c yJx4a65c_size_8abf5 wsJx4a65c_size_8abf5) := goodIn_app (goodIn_of _ (by decide +kernel)) ggX9_chainAt_Jx4a65c_size_8abf5
theorem ggX9_chainAt_Jx4a65c_get_915e3 : GoodIn wsX9_chainAt wsJx4a65c_get_915e3 := goodIn_r _ [15, 11, 16, 17, 18, 19, 20, 21, 22, 23, 24, 25, 26, 9, 27, 28, 43, 44, 45] (by decide +kernel) (by decide +kernel)
theorem gX9_chainAt_Jx4a65c_get_915e3 : GoodIn wsX9_chainAt (wsV RX9 187 RJx4a65c yJx4a65c_get_915e3 wsJx4a65c_get_915e3) := goodIn_app (goodIn_of _ (by decide +kernel)) ggX9_chainAt_Jx4a65c_get_915e3
theorem dX9_chainAt_0 : decode cX9_chainAt 0 = .ok (.iload_n 1, 1) := by decide +kernel
theorem dX9_chainAt_1 : decode cX9_chainAt 1 = .ok (.ifCond .lt 17, 3) := by decide +kernel
theorem dX9_chainAt_4 : decode cX9_chainAt 4 = .ok (.iload_n 1, 1) := by decide +kernel
theorem dX9_chainAt_5 : decode cX9_chainAt 5 = .ok (.aload_n 0, 1) := by decide +kernel
theorem dX9_chainAt_6 : decode cX9_chainAt 6 = .ok (.getfield 21, 3) := by decide +kernel
theorem dX9_chainAt_9 : decode cX9_chainAt 9 = .ok (.getfield 59, 3) := by decide +kernel
theorem dX9_chainAt_12 : decode cX9_chainAt 12 = .ok (.invokevirtual 63, 3) := by decide +kernel
theorem dX9_chainAt_15 : decode cX9_chainAt 15 = .ok (.if_icmp .lt 14, 3) := by decide +kernel
theorem dX9_chainAt_18 : decode cX9_chainAt 18 = .ok (.new 287, 3) := by decide +kernel
theorem dX9_chainAt_21 : decode cX9_chainAt 21 = .ok (.dup, 1) := by decide +kernel
theorem dX9_chainAt_22 : decode cX9_chainAt 22 = .ok (.ldc_w 297, 3) := by decide +kernel
theorem dX9_chainAt_25 : decode cX9_chainAt 25 = .ok (.invokespecial 291, 3) := by decide +kernel
theorem dX9_chainAt_28 : decode cX9_chainAt 28 = .ok (.athrow, 1) := by decide +kernel
theorem dX9_chainAt_29 : decode cX9_chainAt 29 = .ok (.aload_n 0, 1) := by decide +kernel
theorem dX9_chainAt_30 : decode cX9_chainAt 30 = .ok (.getfield 21, 3) := by decide +kernel
theorem dX9_chainAt_33 : decode cX9_chainAt 33 = .ok (.getfield 59, 3) := by decide +kernel
theorem dX9_chainAt_36 : decode cX9_chainAt 36 = .ok (.iload_n 1, 1) := by decide +kernel
theorem dX9_chainAt_37 : decode cX9_chainAt 37 = .ok (.invokevirtual 187, 3) := by decide +kernel
theorem dX9_chainAt_40 : decode cX9_chainAt 40 = .ok (.checkcast 72, 3) := by decide +kernel
theorem dX9_chainAt_43 : decode cX9_chainAt 43 = .ok (.areturn, 1) := by decide +kernel
theorem ggX9_putOrCountLate_X4_isLate : GoodIn wsX9_putOrCountLate wsX4_isLate := goodIn_r _ [8, 9, 136, 137, 138, 139, 140, 141, 142] (by decide +kernel) (by decide +kernel)
theorem gX9_putOrCountLate_X4_isLate : GoodIn wsX9_putOrCountLate (wsV RX9 238 RX4 yX4_isLate wsX4_isLate) := goodIn_app (goodIn_of _ (by decide +kernel)) ggX9_putOrCountLate_X4_isLate
theorem ggX9_putOrCountLate_X6_take : GoodIn wsX9_putOrCountLate wsX6_take := goodIn_r _ [14, 15, 16, 17, 18, 19, 7, 20, 21, 22, 23, 24, 25, 26, 27, 28, 29, 30, 31, 32, 33, 34, 35, 36, 37, 38, 39, 40, 41, 42, 43, 44, 45, 46, 47, 48, 49, 50, 51, 52, 53, 54, 55, 9, 56, 57, 58, 59, 60, 61, 62, 63, 13, 64, 65, 66, 67, 68, 69, 70, 71, 72, 73, 74, 75, 76, 77, 78, 79, 80, 81, 82, 83, 84, 85, 86, 87, 88, 89, 90, 91, 92, 93, 94, 95, 96, 97, 98, 99, 100, 101, 102, 103, 104, 105, 106, 107, 108, 109, 110, 111, 112, 113, 114, 115, 116, 117, 118, 119, 120, 121, 122, 123, 124, 125, 126, 143, 144, 145, 146, 147, 148, 149, 136, 137, 138, 139, 140, 141, 142] (by decide +kernel) (by decide +kernel)
theorem gX9_putOrCountLate_X6_take : GoodIn wsX9_putOrCountLate (wsV RX9 301 RX6 yX6_take wsX6_take) := goodIn_app (goodIn_of _ (by decide +kernel)) ggX9_putOrCountLate_X6_take
theorem dX9_putOrCountLate_0 : decode cX9_putOrCountLate 0 = .ok (.aload_n 1, 1) := by decide +kernel
theorem dX9_putOrCountLate_1 : decode cX9_putOrCountLate 1 = .ok (.getfield 116, 3) := by decide +kernel
theorem dX9_putOrCountLate_4 : decode cX9_putOrCountLate 4 = .ok (.iload_n 2, 1) := by decide +kernel
theorem dX9_putOrCountLate_5 : decode cX9_putOrCountLate 5 = .ok (.invokevirtual 238, 3) := by decide +kernel
theorem dX9_putOrCountLate_8 : decode cX9_putOrCountLate 8 = .ok (.ifCond .eq 15, 3) := by decide +kernel
theorem dX9_putOrCountLate_11 : decode cX9_putOrCountLate 11 = .ok (.aload_n 0, 1) := by decide +kernel
theorem dX9_putOrCountLate_12 : decode cX9_putOrCountLate 12 = .ok (.dup, 1) := by decide +kernel
theorem dX9_putOrCountLate_13 : decode cX9_putOrCountLate 13 = .ok (.getfield 48, 3) := by decide +kernel
theorem dX9_putOrCountLate_16 : decode cX9_putOrCountLate 16 = .ok (.iconst 1, 1) := by decide +kernel
theorem dX9_putOrCountLate_17 : decode cX9_putOrCountLate 17 = .ok (.iadd, 1) := by decide +kernel
theorem dX9_putOrCountLate_18 : decode cX9_putOrCountLate 18 = .ok (.putfield 48, 3) := by decide +kernel
theorem dX9_putOrCountLate_21 : decode cX9_putOrCountLate 21 = .ok (.iconst 0, 1) := by decide +kernel
theorem dX9_putOrCountLate_22 : decode cX9_putOrCountLate 22 = .ok (.ireturn, 1) := by decide +kernel
theorem dX9_putOrCountLate_23 : decode cX9_putOrCountLate 23 = .ok (.aload_n 1, 1) := by decide +kernel
theorem dX9_putOrCountLate_24 : decode cX9_putOrCountLate 24 = .ok (.iload_n 2, 1) := by decide +kernel
theorem dX9_putOrCountLate_25 : decode cX9_putOrCountLate 25 = .ok (.iload_n 3, 1) := by decide +kernel
theorem dX9_putOrCountLate_26 : decode cX9_putOrCountLate 26 = .ok (.aload_n 0, 1) := by decide +kernel
theorem dX9_putOrCountLate_27 : decode cX9_putOrCountLate 27 = .ok (.getfield 10, 3) := by decide +kernel
theorem dX9_putOrCountLate_30 : decode cX9_putOrCountLate 30 = .ok (.invokevirtual 301, 3) := by decide +kernel
theorem dX9_putOrCountLate_33 : decode cX9_putOrCountLate 33 = .ok (.iconst 1, 1) := by decide +kernel
theorem dX9_putOrCountLate_34 : decode cX9_putOrCountLate 34 = .ok (.ireturn, 1) := by decide +kernel
theorem ggX9_toldByQuery_X6_tell : GoodIn wsX9_toldByQuery wsX6_tell := goodIn_r _ [9, 10, 11, 12, 8, 13, 14, 15, 16, 17, 18, 19, 20, 21, 22, 23, 24, 25, 26, 27, 28, 29, 30, 31, 32, 33, 34, 35, 36, 37, 38, 39, 40, 41, 42, 43, 44, 45, 46, 47, 48, 49, 50, 51, 52, 53, 54, 55, 56, 57, 58, 59, 60, 61, 62, 63, 64, 65, 66, 67, 68, 69, 70, 71, 72, 82, 83, 84, 85, 86, 87, 88, 89, 90, 91, 92, 93, 94, 95] (by decide +kernel) (by decide +kernel)
theorem gX9_toldByQuery_X6_tell : GoodIn wsX9_toldByQuery (wsV RX9 305 RX6 yX6_tell wsX6_tell) := goodIn_app (goodIn_of _ (by decide +kernel)) ggX9_toldByQuery_X6_tell
theorem dX9_toldByQuery_0 : decode cX9_toldByQuery 0 = .ok (.aload_n 0, 1) := by decide +kernel
theorem dX9_toldByQuery_1 : decode cX9_toldByQuery 1 = .ok (.getfield 35, 3) := by decide +kernel
theorem dX9_toldByQuery_4 : decode cX9_toldByQuery 4 = .ok (.iload_n 2, 1) := by decide +kernel
theorem dX9_toldByQuery_5 : decode cX9_toldByQuery 5 = .ok (.aload_n 0, 1) := by decide +kernel
theorem dX9_toldByQuery_6 : decode cX9_toldByQuery 6 = .ok (.getfield 39, 3) := by decide +kernel
theorem dX9_toldByQuery_9 : decode cX9_toldByQuery 9 = .ok (.imul, 1) := by decide +kernel
theorem dX9_toldByQuery_10 : decode cX9_toldByQuery 10 = .ok (.iadd, 1) := by decide +kernel
theorem dX9_toldByQuery_11 : decode cX9_toldByQuery 11 = .ok (.istore_n 3, 1) := by decide +kernel
theorem dX9_toldByQuery_12 : decode cX9_toldByQuery 12 = .ok (.aload_n 1, 1) := by decide +kernel
theorem dX9_toldByQuery_13 : decode cX9_toldByQuery 13 = .ok (.iload_n 3, 1) := by decide +kernel
theorem dX9_toldByQuery_14 : decode cX9_toldByQuery 14 = .ok (.iload_n 3, 1) := by decide +kernel
theorem dX9_toldByQuery_15 : decode cX9_toldByQuery 15 = .ok (.aload_n 0, 1) := by decide +kernel
theorem dX9_toldByQuery_16 : decode cX9_toldByQuery 16 = .ok (.getfield 39, 3) := by decide +kernel
theorem dX9_toldByQuery_19 : decode cX9_toldByQuery 19 = .ok (.iadd, 1) := by decide +kernel
theorem dX9_toldByQuery_20 : decode cX9_toldByQuery 20 = .ok (.aload_n 0, 1) := by decide +kernel
theorem dX9_toldByQuery_21 : decode cX9_toldByQuery 21 = .ok (.getfield 42, 3) := by decide +kernel
theorem dX9_toldByQuery_24 : decode cX9_toldByQuery 24 = .ok (.aload_n 0, 1) := by decide +kernel
theorem dX9_toldByQuery_25 : decode cX9_toldByQuery 25 = .ok (.getfield 45, 3) := by decide +kernel
theorem dX9_toldByQuery_28 : decode cX9_toldByQuery 28 = .ok (.invokevirtual 305, 3) := by decide +kernel
theorem dX9_toldByQuery_31 : decode cX9_toldByQuery 31 = .ok (.ireturn, 1) := by decide +kernel
