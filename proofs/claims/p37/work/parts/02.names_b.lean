theorem ggX0_init_X2_init : GoodIn wsX0_init wsX2_init := goodIn_r _ [5, 6, 7, 8, 9, 10, 11, 12, 13, 14, 15, 16, 17, 18] (by decide +kernel) (by decide +kernel)
theorem gX0_init_X2_init_n3 : GoodIn wsX0_init (wsX2_init) := ggX0_init_X2_init
theorem dX0_init_0 : decode cX0_init 0 = .ok (.aload_n 0, 1) := by decide +kernel
theorem dX0_init_1 : decode cX0_init 1 = .ok (.invokespecial 3, 3) := by decide +kernel
theorem dX0_init_4 : decode cX0_init 4 = .ok (.aload_n 0, 1) := by decide +kernel
theorem dX0_init_5 : decode cX0_init 5 = .ok (.sipush 175, 3) := by decide +kernel
theorem dX0_init_8 : decode cX0_init 8 = .ok (.newarray .int, 2) := by decide +kernel
theorem dX0_init_10 : decode cX0_init 10 = .ok (.putfield 11, 3) := by decide +kernel
theorem dX0_init_13 : decode cX0_init 13 = .ok (.return_, 1) := by decide +kernel
theorem dX0_number_0 : decode cX0_number 0 = .ok (.iload_n 1, 1) := by decide +kernel
theorem dX0_number_1 : decode cX0_number 1 = .ok (.bipush 7, 2) := by decide +kernel
theorem dX0_number_3 : decode cX0_number 3 = .ok (.imul, 1) := by decide +kernel
theorem dX0_number_4 : decode cX0_number 4 = .ok (.iload_n 2, 1) := by decide +kernel
theorem dX0_number_5 : decode cX0_number 5 = .ok (.iadd, 1) := by decide +kernel
theorem dX0_number_6 : decode cX0_number 6 = .ok (.istore_n 3, 1) := by decide +kernel
theorem dX0_number_7 : decode cX0_number 7 = .ok (.iload_n 3, 1) := by decide +kernel
theorem dX0_number_8 : decode cX0_number 8 = .ok (.ifCond .lt 21, 3) := by decide +kernel
theorem dX0_number_11 : decode cX0_number 11 = .ok (.iload_n 3, 1) := by decide +kernel
theorem dX0_number_12 : decode cX0_number 12 = .ok (.aload_n 0, 1) := by decide +kernel
theorem dX0_number_13 : decode cX0_number 13 = .ok (.getfield 11, 3) := by decide +kernel
theorem dX0_number_16 : decode cX0_number 16 = .ok (.arraylength, 1) := by decide +kernel
theorem dX0_number_17 : decode cX0_number 17 = .ok (.if_icmp .ge 12, 3) := by decide +kernel
theorem dX0_number_20 : decode cX0_number 20 = .ok (.aload_n 0, 1) := by decide +kernel
theorem dX0_number_21 : decode cX0_number 21 = .ok (.getfield 11, 3) := by decide +kernel
theorem dX0_number_24 : decode cX0_number 24 = .ok (.iload_n 3, 1) := by decide +kernel
theorem dX0_number_25 : decode cX0_number 25 = .ok (.iaload, 1) := by decide +kernel
theorem dX0_number_26 : decode cX0_number 26 = .ok (.goto 4, 3) := by decide +kernel
theorem dX0_number_29 : decode cX0_number 29 = .ok (.iconst 0, 1) := by decide +kernel
theorem dX0_number_30 : decode cX0_number 30 = .ok (.ireturn, 1) := by decide +kernel
theorem dX0_isFull_0 : decode cX0_isFull 0 = .ok (.aload_n 0, 1) := by decide +kernel
theorem dX0_isFull_1 : decode cX0_isFull 1 = .ok (.getfield 15, 3) := by decide +kernel
theorem dX0_isFull_4 : decode cX0_isFull 4 = .ok (.bipush 25, 2) := by decide +kernel
theorem dX0_isFull_6 : decode cX0_isFull 6 = .ok (.if_icmp .lt 7, 3) := by decide +kernel
theorem dX0_isFull_9 : decode cX0_isFull 9 = .ok (.iconst 1, 1) := by decide +kernel
theorem dX0_isFull_10 : decode cX0_isFull 10 = .ok (.goto 4, 3) := by decide +kernel
theorem dX0_isFull_13 : decode cX0_isFull 13 = .ok (.iconst 0, 1) := by decide +kernel
theorem dX0_isFull_14 : decode cX0_isFull 14 = .ok (.ireturn, 1) := by decide +kernel
theorem ggX0_take_X0_number : GoodIn wsX0_take wsX0_number := goodIn_r _ [14, 15, 29, 30] (by decide +kernel) (by decide +kernel)
theorem gX0_take_X0_number : GoodIn wsX0_take (wsV RX0 19 RX0 yX0_number wsX0_number) := goodIn_app (goodIn_of _ (by decide +kernel)) ggX0_take_X0_number
theorem gX0_take_X0_number_u23X0 : GoodIn wsX0_take (va_wsU RX0 23 RX0 "MeridianSeries$Items" ⟨"MeridianSeries$Items", "number", "(II)I"⟩ yX0_number wsX0_number) := goodIn_app (goodIn_of _ (by decide +kernel)) ggX0_take_X0_number
theorem ggX0_take_X4_number : GoodIn wsX0_take wsX4_number := goodIn_r _ [22, 23, 24, 31, 32, 33, 34, 35, 36, 37] (by decide +kernel) (by decide +kernel)
theorem gX0_take_X4_number_u23X4 : GoodIn wsX0_take (va_wsU RX0 23 RX4 "MeridianSeries$Items" ⟨"MeridianSeries$Items", "number", "(II)I"⟩ yX4_number wsX4_number) := goodIn_app (goodIn_of _ (by decide +kernel)) ggX0_take_X4_number
theorem ggX0_take_X0_write : GoodIn wsX0_take wsX0_write := goodIn_r _ [28, 15, 29, 30] (by decide +kernel) (by decide +kernel)
theorem gX0_take_X0_write : GoodIn wsX0_take (wsV RX0 24 RX0 yX0_write wsX0_write) := goodIn_app (goodIn_of _ (by decide +kernel)) ggX0_take_X0_write
theorem dX0_take_0 : decode cX0_take 0 = .ok (.aload_n 0, 1) := by decide +kernel
theorem dX0_take_1 : decode cX0_take 1 = .ok (.getfield 15, 3) := by decide +kernel
theorem dX0_take_4 : decode cX0_take 4 = .ok (.iconst 1, 1) := by decide +kernel
theorem dX0_take_5 : decode cX0_take 5 = .ok (.isub, 1) := by decide +kernel
theorem dX0_take_6 : decode cX0_take 6 = .ok (.istore 4, 2) := by decide +kernel
theorem dX0_take_8 : decode cX0_take 8 = .ok (.iload 4, 2) := by decide +kernel
theorem dX0_take_10 : decode cX0_take 10 = .ok (.ifCond .lt 120, 3) := by decide +kernel
theorem dX0_take_13 : decode cX0_take 13 = .ok (.aload_n 0, 1) := by decide +kernel
theorem dX0_take_14 : decode cX0_take 14 = .ok (.iload 4, 2) := by decide +kernel
theorem dX0_take_16 : decode cX0_take 16 = .ok (.iconst 0, 1) := by decide +kernel
theorem dX0_take_17 : decode cX0_take 17 = .ok (.invokevirtual 19, 3) := by decide +kernel
theorem dX0_take_20 : decode cX0_take 20 = .ok (.iload_n 1, 1) := by decide +kernel
theorem dX0_take_21 : decode cX0_take 21 = .ok (.if_icmp .ne 109, 3) := by decide +kernel
theorem dX0_take_24 : decode cX0_take 24 = .ok (.aload_n 0, 1) := by decide +kernel
theorem dX0_take_25 : decode cX0_take 25 = .ok (.iload 4, 2) := by decide +kernel
theorem dX0_take_27 : decode cX0_take 27 = .ok (.iconst 1, 1) := by decide +kernel
theorem dX0_take_28 : decode cX0_take 28 = .ok (.aload_n 0, 1) := by decide +kernel
theorem dX0_take_29 : decode cX0_take 29 = .ok (.iload 4, 2) := by decide +kernel
theorem dX0_take_31 : decode cX0_take 31 = .ok (.iconst 1, 1) := by decide +kernel
theorem dX0_take_32 : decode cX0_take 32 = .ok (.invokevirtual 19, 3) := by decide +kernel
theorem dX0_take_35 : decode cX0_take 35 = .ok (.aload_n 2, 1) := by decide +kernel
theorem dX0_take_36 : decode cX0_take 36 = .ok (.iload_n 3, 1) := by decide +kernel
theorem dX0_take_37 : decode cX0_take 37 = .ok (.iconst 1, 1) := by decide +kernel
theorem dX0_take_38 : decode cX0_take 38 = .ok (.invokevirtual 23, 3) := by decide +kernel
theorem dX0_take_41 : decode cX0_take 41 = .ok (.iadd, 1) := by decide +kernel
theorem dX0_take_42 : decode cX0_take 42 = .ok (.invokevirtual 24, 3) := by decide +kernel
theorem dX0_take_45 : decode cX0_take 45 = .ok (.aload_n 0, 1) := by decide +kernel
theorem dX0_take_46 : decode cX0_take 46 = .ok (.iload 4, 2) := by decide +kernel
theorem dX0_take_48 : decode cX0_take 48 = .ok (.iconst 2, 1) := by decide +kernel
theorem dX0_take_49 : decode cX0_take 49 = .ok (.aload_n 0, 1) := by decide +kernel
theorem dX0_take_50 : decode cX0_take 50 = .ok (.iload 4, 2) := by decide +kernel
theorem dX0_take_52 : decode cX0_take 52 = .ok (.iconst 2, 1) := by decide +kernel
theorem dX0_take_53 : decode cX0_take 53 = .ok (.invokevirtual 19, 3) := by decide +kernel
theorem dX0_take_56 : decode cX0_take 56 = .ok (.aload_n 2, 1) := by decide +kernel
theorem dX0_take_57 : decode cX0_take 57 = .ok (.iload_n 3, 1) := by decide +kernel
theorem dX0_take_58 : decode cX0_take 58 = .ok (.iconst 2, 1) := by decide +kernel
theorem dX0_take_59 : decode cX0_take 59 = .ok (.invokevirtual 23, 3) := by decide +kernel
theorem dX0_take_62 : decode cX0_take 62 = .ok (.iadd, 1) := by decide +kernel
theorem dX0_take_63 : decode cX0_take 63 = .ok (.invokevirtual 24, 3) := by decide +kernel
theorem dX0_take_66 : decode cX0_take 66 = .ok (.aload_n 0, 1) := by decide +kernel
theorem dX0_take_67 : decode cX0_take 67 = .ok (.iload 4, 2) := by decide +kernel
theorem dX0_take_69 : decode cX0_take 69 = .ok (.iconst 3, 1) := by decide +kernel
theorem dX0_take_70 : decode cX0_take 70 = .ok (.aload_n 0, 1) := by decide +kernel
theorem dX0_take_71 : decode cX0_take 71 = .ok (.iload 4, 2) := by decide +kernel
theorem dX0_take_73 : decode cX0_take 73 = .ok (.iconst 3, 1) := by decide +kernel
theorem dX0_take_74 : decode cX0_take 74 = .ok (.invokevirtual 19, 3) := by decide +kernel
theorem dX0_take_77 : decode cX0_take 77 = .ok (.aload_n 2, 1) := by decide +kernel
theorem dX0_take_78 : decode cX0_take 78 = .ok (.iload_n 3, 1) := by decide +kernel
theorem dX0_take_79 : decode cX0_take 79 = .ok (.iconst 3, 1) := by decide +kernel
theorem dX0_take_80 : decode cX0_take 80 = .ok (.invokevirtual 23, 3) := by decide +kernel
theorem dX0_take_83 : decode cX0_take 83 = .ok (.invokestatic 28, 3) := by decide +kernel
theorem dX0_take_86 : decode cX0_take 86 = .ok (.invokevirtual 24, 3) := by decide +kernel
theorem dX0_take_89 : decode cX0_take 89 = .ok (.aload_n 0, 1) := by decide +kernel
theorem dX0_take_90 : decode cX0_take 90 = .ok (.iload 4, 2) := by decide +kernel
theorem dX0_take_92 : decode cX0_take 92 = .ok (.iconst 4, 1) := by decide +kernel
theorem dX0_take_93 : decode cX0_take 93 = .ok (.aload_n 0, 1) := by decide +kernel
theorem dX0_take_94 : decode cX0_take 94 = .ok (.iload 4, 2) := by decide +kernel
theorem dX0_take_96 : decode cX0_take 96 = .ok (.iconst 4, 1) := by decide +kernel
theorem dX0_take_97 : decode cX0_take 97 = .ok (.invokevirtual 19, 3) := by decide +kernel
theorem dX0_take_100 : decode cX0_take 100 = .ok (.aload_n 2, 1) := by decide +kernel
theorem dX0_take_101 : decode cX0_take 101 = .ok (.iload_n 3, 1) := by decide +kernel
theorem dX0_take_102 : decode cX0_take 102 = .ok (.iconst 4, 1) := by decide +kernel
theorem dX0_take_103 : decode cX0_take 103 = .ok (.invokevirtual 23, 3) := by decide +kernel
theorem dX0_take_106 : decode cX0_take 106 = .ok (.invokestatic 33, 3) := by decide +kernel
theorem dX0_take_109 : decode cX0_take 109 = .ok (.invokevirtual 24, 3) := by decide +kernel
theorem dX0_take_112 : decode cX0_take 112 = .ok (.aload_n 0, 1) := by decide +kernel
theorem dX0_take_113 : decode cX0_take 113 = .ok (.iload 4, 2) := by decide +kernel
theorem dX0_take_115 : decode cX0_take 115 = .ok (.bipush 6, 2) := by decide +kernel
theorem dX0_take_117 : decode cX0_take 117 = .ok (.aload_n 2, 1) := by decide +kernel
theorem dX0_take_118 : decode cX0_take 118 = .ok (.iload_n 3, 1) := by decide +kernel
theorem dX0_take_119 : decode cX0_take 119 = .ok (.bipush 6, 2) := by decide +kernel
theorem dX0_take_121 : decode cX0_take 121 = .ok (.invokevirtual 23, 3) := by decide +kernel
theorem dX0_take_124 : decode cX0_take 124 = .ok (.invokevirtual 24, 3) := by decide +kernel
theorem dX0_take_127 : decode cX0_take 127 = .ok (.goto 65, 3) := by decide +kernel
theorem dX0_take_130 : decode cX0_take 130 = .ok (.aload_n 0, 1) := by decide +kernel
theorem dX0_take_131 : decode cX0_take 131 = .ok (.getfield 15, 3) := by decide +kernel
theorem dX0_take_134 : decode cX0_take 134 = .ok (.bipush 25, 2) := by decide +kernel
theorem dX0_take_136 : decode cX0_take 136 = .ok (.if_icmp .ge 56, 3) := by decide +kernel
theorem dX0_take_139 : decode cX0_take 139 = .ok (.aload_n 0, 1) := by decide +kernel
theorem dX0_take_140 : decode cX0_take 140 = .ok (.aload_n 0, 1) := by decide +kernel
theorem dX0_take_141 : decode cX0_take 141 = .ok (.getfield 15, 3) := by decide +kernel
theorem dX0_take_144 : decode cX0_take 144 = .ok (.iconst 0, 1) := by decide +kernel
theorem dX0_take_145 : decode cX0_take 145 = .ok (.iload_n 1, 1) := by decide +kernel
theorem dX0_take_146 : decode cX0_take 146 = .ok (.invokevirtual 24, 3) := by decide +kernel
theorem dX0_take_149 : decode cX0_take 149 = .ok (.iconst 1, 1) := by decide +kernel
theorem dX0_take_150 : decode cX0_take 150 = .ok (.istore 5, 2) := by decide +kernel
theorem dX0_take_152 : decode cX0_take 152 = .ok (.iload 5, 2) := by decide +kernel
theorem dX0_take_154 : decode cX0_take 154 = .ok (.bipush 6, 2) := by decide +kernel
theorem dX0_take_156 : decode cX0_take 156 = .ok (.if_icmp .gt 26, 3) := by decide +kernel
theorem dX0_take_159 : decode cX0_take 159 = .ok (.aload_n 0, 1) := by decide +kernel
theorem dX0_take_160 : decode cX0_take 160 = .ok (.aload_n 0, 1) := by decide +kernel
theorem dX0_take_161 : decode cX0_take 161 = .ok (.getfield 15, 3) := by decide +kernel
theorem dX0_take_164 : decode cX0_take 164 = .ok (.iload 5, 2) := by decide +kernel
theorem dX0_take_166 : decode cX0_take 166 = .ok (.aload_n 2, 1) := by decide +kernel
theorem dX0_take_167 : decode cX0_take 167 = .ok (.iload_n 3, 1) := by decide +kernel
theorem dX0_take_168 : decode cX0_take 168 = .ok (.iload 5, 2) := by decide +kernel
theorem dX0_take_170 : decode cX0_take 170 = .ok (.invokevirtual 23, 3) := by decide +kernel
theorem dX0_take_173 : decode cX0_take 173 = .ok (.invokevirtual 24, 3) := by decide +kernel
theorem dX0_take_176 : decode cX0_take 176 = .ok (.iinc 5 1, 3) := by decide +kernel
theorem dX0_take_179 : decode cX0_take 179 = .ok (.goto (-27), 3) := by decide +kernel
theorem dX0_take_182 : decode cX0_take 182 = .ok (.aload_n 0, 1) := by decide +kernel
theorem dX0_take_183 : decode cX0_take 183 = .ok (.dup, 1) := by decide +kernel
theorem dX0_take_184 : decode cX0_take 184 = .ok (.getfield 15, 3) := by decide +kernel
theorem dX0_take_187 : decode cX0_take 187 = .ok (.iconst 1, 1) := by decide +kernel
theorem dX0_take_188 : decode cX0_take 188 = .ok (.iadd, 1) := by decide +kernel
theorem dX0_take_189 : decode cX0_take 189 = .ok (.putfield 15, 3) := by decide +kernel
theorem dX0_take_192 : decode cX0_take 192 = .ok (.return_, 1) := by decide +kernel
theorem dX0_dropFirst_0 : decode cX0_dropFirst 0 = .ok (.aload_n 0, 1) := by decide +kernel
theorem dX0_dropFirst_1 : decode cX0_dropFirst 1 = .ok (.getfield 15, 3) := by decide +kernel
theorem dX0_dropFirst_4 : decode cX0_dropFirst 4 = .ok (.ifCond .gt 4, 3) := by decide +kernel
theorem dX0_dropFirst_7 : decode cX0_dropFirst 7 = .ok (.return_, 1) := by decide +kernel
theorem dX0_dropFirst_8 : decode cX0_dropFirst 8 = .ok (.bipush 7, 2) := by decide +kernel
theorem dX0_dropFirst_10 : decode cX0_dropFirst 10 = .ok (.istore_n 1, 1) := by decide +kernel
theorem dX0_dropFirst_11 : decode cX0_dropFirst 11 = .ok (.iload_n 1, 1) := by decide +kernel
theorem dX0_dropFirst_12 : decode cX0_dropFirst 12 = .ok (.aload_n 0, 1) := by decide +kernel
theorem dX0_dropFirst_13 : decode cX0_dropFirst 13 = .ok (.getfield 15, 3) := by decide +kernel
theorem dX0_dropFirst_16 : decode cX0_dropFirst 16 = .ok (.bipush 7, 2) := by decide +kernel
theorem dX0_dropFirst_18 : decode cX0_dropFirst 18 = .ok (.imul, 1) := by decide +kernel
theorem dX0_dropFirst_19 : decode cX0_dropFirst 19 = .ok (.if_icmp .ge 33, 3) := by decide +kernel
theorem dX0_dropFirst_22 : decode cX0_dropFirst 22 = .ok (.iload_n 1, 1) := by decide +kernel
theorem dX0_dropFirst_23 : decode cX0_dropFirst 23 = .ok (.aload_n 0, 1) := by decide +kernel
theorem dX0_dropFirst_24 : decode cX0_dropFirst 24 = .ok (.getfield 11, 3) := by decide +kernel
theorem dX0_dropFirst_27 : decode cX0_dropFirst 27 = .ok (.arraylength, 1) := by decide +kernel
theorem dX0_dropFirst_28 : decode cX0_dropFirst 28 = .ok (.if_icmp .ge 24, 3) := by decide +kernel
theorem dX0_dropFirst_31 : decode cX0_dropFirst 31 = .ok (.aload_n 0, 1) := by decide +kernel
theorem dX0_dropFirst_32 : decode cX0_dropFirst 32 = .ok (.getfield 11, 3) := by decide +kernel
theorem dX0_dropFirst_35 : decode cX0_dropFirst 35 = .ok (.iload_n 1, 1) := by decide +kernel
theorem dX0_dropFirst_36 : decode cX0_dropFirst 36 = .ok (.bipush 7, 2) := by decide +kernel
theorem dX0_dropFirst_38 : decode cX0_dropFirst 38 = .ok (.isub, 1) := by decide +kernel
theorem dX0_dropFirst_39 : decode cX0_dropFirst 39 = .ok (.aload_n 0, 1) := by decide +kernel
theorem dX0_dropFirst_40 : decode cX0_dropFirst 40 = .ok (.getfield 11, 3) := by decide +kernel
theorem dX0_dropFirst_43 : decode cX0_dropFirst 43 = .ok (.iload_n 1, 1) := by decide +kernel
theorem dX0_dropFirst_44 : decode cX0_dropFirst 44 = .ok (.iaload, 1) := by decide +kernel
theorem dX0_dropFirst_45 : decode cX0_dropFirst 45 = .ok (.iastore, 1) := by decide +kernel
theorem dX0_dropFirst_46 : decode cX0_dropFirst 46 = .ok (.iinc 1 1, 3) := by decide +kernel
theorem dX0_dropFirst_49 : decode cX0_dropFirst 49 = .ok (.goto (-38), 3) := by decide +kernel
theorem dX0_dropFirst_52 : decode cX0_dropFirst 52 = .ok (.aload_n 0, 1) := by decide +kernel
theorem dX0_dropFirst_53 : decode cX0_dropFirst 53 = .ok (.dup, 1) := by decide +kernel
theorem dX0_dropFirst_54 : decode cX0_dropFirst 54 = .ok (.getfield 15, 3) := by decide +kernel
theorem dX0_dropFirst_57 : decode cX0_dropFirst 57 = .ok (.iconst 1, 1) := by decide +kernel
theorem dX0_dropFirst_58 : decode cX0_dropFirst 58 = .ok (.isub, 1) := by decide +kernel
theorem dX0_dropFirst_59 : decode cX0_dropFirst 59 = .ok (.putfield 15, 3) := by decide +kernel
theorem dX0_dropFirst_62 : decode cX0_dropFirst 62 = .ok (.return_, 1) := by decide +kernel
theorem ggX0_copyFrom_X0_number : GoodIn wsX0_copyFrom wsX0_number := goodIn_r _ [7, 8, 13, 14] (by decide +kernel) (by decide +kernel)
theorem gX0_copyFrom_X0_number : GoodIn wsX0_copyFrom (wsV RX0 19 RX0 yX0_number wsX0_number) := goodIn_app (goodIn_of _ (by decide +kernel)) ggX0_copyFrom_X0_number
theorem ggX0_copyFrom_X0_write : GoodIn wsX0_copyFrom wsX0_write := goodIn_r _ [12, 8, 13, 14] (by decide +kernel) (by decide +kernel)
theorem gX0_copyFrom_X0_write : GoodIn wsX0_copyFrom (wsV RX0 24 RX0 yX0_write wsX0_write) := goodIn_app (goodIn_of _ (by decide +kernel)) ggX0_copyFrom_X0_write
theorem dX0_copyFrom_0 : decode cX0_copyFrom 0 = .ok (.iconst 0, 1) := by decide +kernel
theorem dX0_copyFrom_1 : decode cX0_copyFrom 1 = .ok (.istore_n 2, 1) := by decide +kernel
theorem dX0_copyFrom_2 : decode cX0_copyFrom 2 = .ok (.iload_n 2, 1) := by decide +kernel
theorem dX0_copyFrom_3 : decode cX0_copyFrom 3 = .ok (.aload_n 1, 1) := by decide +kernel
theorem dX0_copyFrom_4 : decode cX0_copyFrom 4 = .ok (.getfield 15, 3) := by decide +kernel
theorem dX0_copyFrom_7 : decode cX0_copyFrom 7 = .ok (.if_icmp .ge 35, 3) := by decide +kernel
theorem dX0_copyFrom_10 : decode cX0_copyFrom 10 = .ok (.iconst 0, 1) := by decide +kernel
theorem dX0_copyFrom_11 : decode cX0_copyFrom 11 = .ok (.istore_n 3, 1) := by decide +kernel
theorem dX0_copyFrom_12 : decode cX0_copyFrom 12 = .ok (.iload_n 3, 1) := by decide +kernel
theorem dX0_copyFrom_13 : decode cX0_copyFrom 13 = .ok (.bipush 6, 2) := by decide +kernel
theorem dX0_copyFrom_15 : decode cX0_copyFrom 15 = .ok (.if_icmp .gt 21, 3) := by decide +kernel
theorem dX0_copyFrom_18 : decode cX0_copyFrom 18 = .ok (.aload_n 0, 1) := by decide +kernel
theorem dX0_copyFrom_19 : decode cX0_copyFrom 19 = .ok (.iload_n 2, 1) := by decide +kernel
theorem dX0_copyFrom_20 : decode cX0_copyFrom 20 = .ok (.iload_n 3, 1) := by decide +kernel
theorem dX0_copyFrom_21 : decode cX0_copyFrom 21 = .ok (.aload_n 1, 1) := by decide +kernel
theorem dX0_copyFrom_22 : decode cX0_copyFrom 22 = .ok (.iload_n 2, 1) := by decide +kernel
theorem dX0_copyFrom_23 : decode cX0_copyFrom 23 = .ok (.iload_n 3, 1) := by decide +kernel
theorem dX0_copyFrom_24 : decode cX0_copyFrom 24 = .ok (.invokevirtual 19, 3) := by decide +kernel
theorem dX0_copyFrom_27 : decode cX0_copyFrom 27 = .ok (.invokevirtual 24, 3) := by decide +kernel
theorem dX0_copyFrom_30 : decode cX0_copyFrom 30 = .ok (.iinc 3 1, 3) := by decide +kernel
theorem dX0_copyFrom_33 : decode cX0_copyFrom 33 = .ok (.goto (-21), 3) := by decide +kernel
theorem dX0_copyFrom_36 : decode cX0_copyFrom 36 = .ok (.iinc 2 1, 3) := by decide +kernel
theorem dX0_copyFrom_39 : decode cX0_copyFrom 39 = .ok (.goto (-37), 3) := by decide +kernel
theorem dX0_copyFrom_42 : decode cX0_copyFrom 42 = .ok (.aload_n 0, 1) := by decide +kernel
theorem dX0_copyFrom_43 : decode cX0_copyFrom 43 = .ok (.aload_n 1, 1) := by decide +kernel
theorem dX0_copyFrom_44 : decode cX0_copyFrom 44 = .ok (.getfield 15, 3) := by decide +kernel
theorem dX0_copyFrom_47 : decode cX0_copyFrom 47 = .ok (.putfield 15, 3) := by decide +kernel
theorem dX0_copyFrom_50 : decode cX0_copyFrom 50 = .ok (.return_, 1) := by decide +kernel
theorem dX0_write_0 : decode cX0_write 0 = .ok (.iload_n 1, 1) := by decide +kernel
theorem dX0_write_1 : decode cX0_write 1 = .ok (.bipush 7, 2) := by decide +kernel
theorem dX0_write_3 : decode cX0_write 3 = .ok (.imul, 1) := by decide +kernel
theorem dX0_write_4 : decode cX0_write 4 = .ok (.iload_n 2, 1) := by decide +kernel
theorem dX0_write_5 : decode cX0_write 5 = .ok (.iadd, 1) := by decide +kernel
theorem dX0_write_6 : decode cX0_write 6 = .ok (.istore 4, 2) := by decide +kernel
theorem dX0_write_8 : decode cX0_write 8 = .ok (.iload 4, 2) := by decide +kernel
theorem dX0_write_10 : decode cX0_write 10 = .ok (.ifCond .lt 21, 3) := by decide +kernel
theorem dX0_write_13 : decode cX0_write 13 = .ok (.iload 4, 2) := by decide +kernel
theorem dX0_write_15 : decode cX0_write 15 = .ok (.aload_n 0, 1) := by decide +kernel
theorem dX0_write_16 : decode cX0_write 16 = .ok (.getfield 11, 3) := by decide +kernel
theorem dX0_write_19 : decode cX0_write 19 = .ok (.arraylength, 1) := by decide +kernel
theorem dX0_write_20 : decode cX0_write 20 = .ok (.if_icmp .ge 11, 3) := by decide +kernel
theorem dX0_write_23 : decode cX0_write 23 = .ok (.aload_n 0, 1) := by decide +kernel
theorem dX0_write_24 : decode cX0_write 24 = .ok (.getfield 11, 3) := by decide +kernel
theorem dX0_write_27 : decode cX0_write 27 = .ok (.iload 4, 2) := by decide +kernel
theorem dX0_write_29 : decode cX0_write 29 = .ok (.iload_n 3, 1) := by decide +kernel
theorem dX0_write_30 : decode cX0_write 30 = .ok (.iastore, 1) := by decide +kernel
theorem dX0_write_31 : decode cX0_write 31 = .ok (.return_, 1) := by decide +kernel
theorem dX1_init_0 : decode cX1_init 0 = .ok (.aload_n 0, 1) := by decide +kernel
theorem dX1_init_1 : decode cX1_init 1 = .ok (.invokespecial 3, 3) := by decide +kernel
theorem dX1_init_4 : decode cX1_init 4 = .ok (.aload_n 0, 1) := by decide +kernel
theorem dX1_init_5 : decode cX1_init 5 = .ok (.bipush 60, 2) := by decide +kernel
theorem dX1_init_7 : decode cX1_init 7 = .ok (.newarray .int, 2) := by decide +kernel
theorem dX1_init_9 : decode cX1_init 9 = .ok (.putfield 9, 3) := by decide +kernel
theorem dX1_init_12 : decode cX1_init 12 = .ok (.aload_n 0, 1) := by decide +kernel
theorem dX1_init_13 : decode cX1_init 13 = .ok (.iconst 0, 1) := by decide +kernel
theorem dX1_init_14 : decode cX1_init 14 = .ok (.putfield 15, 3) := by decide +kernel
theorem dX1_init_17 : decode cX1_init 17 = .ok (.aload_n 0, 1) := by decide +kernel
theorem dX1_init_18 : decode cX1_init 18 = .ok (.iconst 0, 1) := by decide +kernel
theorem dX1_init_19 : decode cX1_init 19 = .ok (.putfield 19, 3) := by decide +kernel
theorem dX1_init_22 : decode cX1_init 22 = .ok (.return_, 1) := by decide +kernel
theorem dX1_add_0 : decode cX1_add 0 = .ok (.aload_n 0, 1) := by decide +kernel
theorem dX1_add_1 : decode cX1_add 1 = .ok (.getfield 15, 3) := by decide +kernel
theorem dX1_add_4 : decode cX1_add 4 = .ok (.bipush 20, 2) := by decide +kernel
theorem dX1_add_6 : decode cX1_add 6 = .ok (.irem, 1) := by decide +kernel
theorem dX1_add_7 : decode cX1_add 7 = .ok (.iconst 3, 1) := by decide +kernel
theorem dX1_add_8 : decode cX1_add 8 = .ok (.imul, 1) := by decide +kernel
theorem dX1_add_9 : decode cX1_add 9 = .ok (.istore 4, 2) := by decide +kernel
theorem dX1_add_11 : decode cX1_add 11 = .ok (.iload 4, 2) := by decide +kernel
theorem dX1_add_13 : decode cX1_add 13 = .ok (.ifCond .lt 43, 3) := by decide +kernel
theorem dX1_add_16 : decode cX1_add 16 = .ok (.iload 4, 2) := by decide +kernel
theorem dX1_add_18 : decode cX1_add 18 = .ok (.iconst 2, 1) := by decide +kernel
theorem dX1_add_19 : decode cX1_add 19 = .ok (.iadd, 1) := by decide +kernel
theorem dX1_add_20 : decode cX1_add 20 = .ok (.aload_n 0, 1) := by decide +kernel
theorem dX1_add_21 : decode cX1_add 21 = .ok (.getfield 9, 3) := by decide +kernel
theorem dX1_add_24 : decode cX1_add 24 = .ok (.arraylength, 1) := by decide +kernel
theorem dX1_add_25 : decode cX1_add 25 = .ok (.if_icmp .ge 31, 3) := by decide +kernel
theorem dX1_add_28 : decode cX1_add 28 = .ok (.aload_n 0, 1) := by decide +kernel
theorem dX1_add_29 : decode cX1_add 29 = .ok (.getfield 9, 3) := by decide +kernel
theorem dX1_add_32 : decode cX1_add 32 = .ok (.iload 4, 2) := by decide +kernel
theorem dX1_add_34 : decode cX1_add 34 = .ok (.iload_n 1, 1) := by decide +kernel
theorem dX1_add_35 : decode cX1_add 35 = .ok (.iastore, 1) := by decide +kernel
theorem dX1_add_36 : decode cX1_add 36 = .ok (.aload_n 0, 1) := by decide +kernel
theorem dX1_add_37 : decode cX1_add 37 = .ok (.getfield 9, 3) := by decide +kernel
theorem dX1_add_40 : decode cX1_add 40 = .ok (.iload 4, 2) := by decide +kernel
theorem dX1_add_42 : decode cX1_add 42 = .ok (.iconst 1, 1) := by decide +kernel
theorem dX1_add_43 : decode cX1_add 43 = .ok (.iadd, 1) := by decide +kernel
theorem dX1_add_44 : decode cX1_add 44 = .ok (.iload_n 2, 1) := by decide +kernel
theorem dX1_add_45 : decode cX1_add 45 = .ok (.iastore, 1) := by decide +kernel
theorem dX1_add_46 : decode cX1_add 46 = .ok (.aload_n 0, 1) := by decide +kernel
theorem dX1_add_47 : decode cX1_add 47 = .ok (.getfield 9, 3) := by decide +kernel
theorem dX1_add_50 : decode cX1_add 50 = .ok (.iload 4, 2) := by decide +kernel
theorem dX1_add_52 : decode cX1_add 52 = .ok (.iconst 2, 1) := by decide +kernel
theorem dX1_add_53 : decode cX1_add 53 = .ok (.iadd, 1) := by decide +kernel
theorem dX1_add_54 : decode cX1_add 54 = .ok (.iload_n 3, 1) := by decide +kernel
theorem dX1_add_55 : decode cX1_add 55 = .ok (.iastore, 1) := by decide +kernel
theorem dX1_add_56 : decode cX1_add 56 = .ok (.aload_n 0, 1) := by decide +kernel
theorem dX1_add_57 : decode cX1_add 57 = .ok (.dup, 1) := by decide +kernel
theorem dX1_add_58 : decode cX1_add 58 = .ok (.getfield 15, 3) := by decide +kernel
theorem dX1_add_61 : decode cX1_add 61 = .ok (.iconst 1, 1) := by decide +kernel
theorem dX1_add_62 : decode cX1_add 62 = .ok (.iadd, 1) := by decide +kernel
theorem dX1_add_63 : decode cX1_add 63 = .ok (.putfield 15, 3) := by decide +kernel
theorem dX1_add_66 : decode cX1_add 66 = .ok (.iload_n 3, 1) := by decide +kernel
theorem dX1_add_67 : decode cX1_add 67 = .ok (.iconst 2, 1) := by decide +kernel
theorem dX1_add_68 : decode cX1_add 68 = .ok (.if_icmp .ne 13, 3) := by decide +kernel
theorem dX1_add_71 : decode cX1_add 71 = .ok (.aload_n 0, 1) := by decide +kernel
theorem dX1_add_72 : decode cX1_add 72 = .ok (.dup, 1) := by decide +kernel
theorem dX1_add_73 : decode cX1_add 73 = .ok (.getfield 19, 3) := by decide +kernel
theorem dX1_add_76 : decode cX1_add 76 = .ok (.iconst 1, 1) := by decide +kernel
theorem dX1_add_77 : decode cX1_add 77 = .ok (.iadd, 1) := by decide +kernel
theorem dX1_add_78 : decode cX1_add 78 = .ok (.putfield 19, 3) := by decide +kernel
theorem dX1_add_81 : decode cX1_add 81 = .ok (.return_, 1) := by decide +kernel
theorem dX1_number_0 : decode cX1_number 0 = .ok (.aload_n 0, 1) := by decide +kernel
theorem dX1_number_1 : decode cX1_number 1 = .ok (.getfield 15, 3) := by decide +kernel
theorem dX1_number_4 : decode cX1_number 4 = .ok (.iconst 1, 1) := by decide +kernel
theorem dX1_number_5 : decode cX1_number 5 = .ok (.isub, 1) := by decide +kernel
theorem dX1_number_6 : decode cX1_number 6 = .ok (.iload_n 1, 1) := by decide +kernel
theorem dX1_number_7 : decode cX1_number 7 = .ok (.isub, 1) := by decide +kernel
theorem dX1_number_8 : decode cX1_number 8 = .ok (.bipush 20, 2) := by decide +kernel
theorem dX1_number_10 : decode cX1_number 10 = .ok (.irem, 1) := by decide +kernel
theorem dX1_number_11 : decode cX1_number 11 = .ok (.iconst 3, 1) := by decide +kernel
theorem dX1_number_12 : decode cX1_number 12 = .ok (.imul, 1) := by decide +kernel
theorem dX1_number_13 : decode cX1_number 13 = .ok (.iload_n 2, 1) := by decide +kernel
theorem dX1_number_14 : decode cX1_number 14 = .ok (.iadd, 1) := by decide +kernel
theorem dX1_number_15 : decode cX1_number 15 = .ok (.istore_n 3, 1) := by decide +kernel
theorem dX1_number_16 : decode cX1_number 16 = .ok (.iload_n 3, 1) := by decide +kernel
theorem dX1_number_17 : decode cX1_number 17 = .ok (.ifCond .lt 21, 3) := by decide +kernel
theorem dX1_number_20 : decode cX1_number 20 = .ok (.iload_n 3, 1) := by decide +kernel
theorem dX1_number_21 : decode cX1_number 21 = .ok (.aload_n 0, 1) := by decide +kernel
theorem dX1_number_22 : decode cX1_number 22 = .ok (.getfield 9, 3) := by decide +kernel
theorem dX1_number_25 : decode cX1_number 25 = .ok (.arraylength, 1) := by decide +kernel
theorem dX1_number_26 : decode cX1_number 26 = .ok (.if_icmp .ge 12, 3) := by decide +kernel
theorem dX1_number_29 : decode cX1_number 29 = .ok (.aload_n 0, 1) := by decide +kernel
theorem dX1_number_30 : decode cX1_number 30 = .ok (.getfield 9, 3) := by decide +kernel
theorem dX1_number_33 : decode cX1_number 33 = .ok (.iload_n 3, 1) := by decide +kernel
theorem dX1_number_34 : decode cX1_number 34 = .ok (.iaload, 1) := by decide +kernel
theorem dX1_number_35 : decode cX1_number 35 = .ok (.goto 4, 3) := by decide +kernel
theorem dX1_number_38 : decode cX1_number 38 = .ok (.iconst 0, 1) := by decide +kernel
theorem dX1_number_39 : decode cX1_number 39 = .ok (.ireturn, 1) := by decide +kernel
theorem dX2_init_0 : decode cX2_init 0 = .ok (.aload_n 0, 1) := by decide +kernel
theorem dX2_init_1 : decode cX2_init 1 = .ok (.invokespecial 1, 3) := by decide +kernel
theorem dX2_init_4 : decode cX2_init 4 = .ok (.aload_n 0, 1) := by decide +kernel
theorem dX2_init_5 : decode cX2_init 5 = .ok (.iconst 0, 1) := by decide +kernel
theorem dX2_init_6 : decode cX2_init 6 = .ok (.putfield 7, 3) := by decide +kernel
theorem dX2_init_9 : decode cX2_init 9 = .ok (.return_, 1) := by decide +kernel
theorem dX3_init_0 : decode cX3_init 0 = .ok (.aload_n 0, 1) := by decide +kernel
theorem dX3_init_1 : decode cX3_init 1 = .ok (.invokespecial 3, 3) := by decide +kernel
theorem dX3_init_4 : decode cX3_init 4 = .ok (.aload_n 0, 1) := by decide +kernel
theorem dX3_init_5 : decode cX3_init 5 = .ok (.bipush 48, 2) := by decide +kernel
theorem dX3_init_7 : decode cX3_init 7 = .ok (.newarray .int, 2) := by decide +kernel
theorem dX3_init_9 : decode cX3_init 9 = .ok (.putfield 11, 3) := by decide +kernel
theorem dX3_init_12 : decode cX3_init 12 = .ok (.aload_n 0, 1) := by decide +kernel
theorem dX3_init_13 : decode cX3_init 13 = .ok (.iconst 0, 1) := by decide +kernel
theorem dX3_init_14 : decode cX3_init 14 = .ok (.putfield 15, 3) := by decide +kernel
theorem dX3_init_17 : decode cX3_init 17 = .ok (.aload_n 0, 1) := by decide +kernel
theorem dX3_init_18 : decode cX3_init 18 = .ok (.iconst 0, 1) := by decide +kernel
theorem dX3_init_19 : decode cX3_init 19 = .ok (.putfield 19, 3) := by decide +kernel
theorem dX3_init_22 : decode cX3_init 22 = .ok (.aload_n 0, 1) := by decide +kernel
theorem dX3_init_23 : decode cX3_init 23 = .ok (.iconst 0, 1) := by decide +kernel
theorem dX3_init_24 : decode cX3_init 24 = .ok (.putfield 22, 3) := by decide +kernel
theorem dX3_init_27 : decode cX3_init 27 = .ok (.aload_n 0, 1) := by decide +kernel
theorem dX3_init_28 : decode cX3_init 28 = .ok (.iconst 0, 1) := by decide +kernel
theorem dX3_init_29 : decode cX3_init 29 = .ok (.putfield 25, 3) := by decide +kernel
theorem dX3_init_32 : decode cX3_init 32 = .ok (.aload_n 0, 1) := by decide +kernel
theorem dX3_init_33 : decode cX3_init 33 = .ok (.iconst 0, 1) := by decide +kernel
theorem dX3_init_34 : decode cX3_init 34 = .ok (.putfield 28, 3) := by decide +kernel
theorem dX3_init_37 : decode cX3_init 37 = .ok (.return_, 1) := by decide +kernel
theorem ggX3_pack_X4_startOf : GoodIn wsX3_pack wsX4_startOf := goodIn_r _ [7, 8, 9, 10, 11, 6, 12, 13, 14, 15, 16, 17, 18, 19, 20, 63, 64, 65, 66, 67, 68, 69, 76, 77] (by decide +kernel) (by decide +kernel)
theorem gX3_pack_X4_startOf : GoodIn wsX3_pack (wsV RX3 36 RX4 yX4_startOf wsX4_startOf) := goodIn_app (goodIn_of _ (by decide +kernel)) ggX3_pack_X4_startOf
theorem ggX3_pack_X4_sizeOf : GoodIn wsX3_pack wsX4_sizeOf := goodIn_r _ [12, 8, 13, 14, 15, 16, 6, 17, 18, 19, 20, 63, 64, 65, 66, 67, 68, 69, 76, 77] (by decide +kernel) (by decide +kernel)
theorem gX3_pack_X4_sizeOf : GoodIn wsX3_pack (wsV RX3 40 RX4 yX4_sizeOf wsX4_sizeOf) := goodIn_app (goodIn_of _ (by decide +kernel)) ggX3_pack_X4_sizeOf
theorem ggX3_pack_X3_begin : GoodIn wsX3_pack wsX3_begin := goodIn_r _ [26, 27, 2, 28, 29, 30, 31, 32, 33, 34, 35, 25, 36, 70, 71, 72, 73, 74, 75] (by decide +kernel) (by decide +kernel)
theorem gX3_pack_X3_begin : GoodIn wsX3_pack (wsV RX3 43 RX3 yX3_begin wsX3_begin) := goodIn_app (goodIn_of _ (by decide +kernel)) ggX3_pack_X3_begin
theorem ggX3_pack_X4_number : GoodIn wsX3_pack wsX4_number := goodIn_r _ [40, 41, 42, 63, 64, 65, 66, 67, 68, 69] (by decide +kernel) (by decide +kernel)
theorem gX3_pack_X4_number : GoodIn wsX3_pack (wsV RX3 47 RX4 yX4_number wsX4_number) := goodIn_app (goodIn_of _ (by decide +kernel)) ggX3_pack_X4_number
theorem ggX3_pack_X3_add : GoodIn wsX3_pack wsX3_add := goodIn_r _ [46, 28, 47, 48, 49, 50, 33, 34, 35, 25, 36, 2, 27, 51, 52, 53, 54, 55, 56, 57, 58, 59, 60, 61, 62, 70, 71, 72, 73, 74, 75] (by decide +kernel) (by decide +kernel)
theorem gX3_pack_X3_add : GoodIn wsX3_pack (wsV RX3 51 RX3 yX3_add wsX3_add) := goodIn_app (goodIn_of _ (by decide +kernel)) ggX3_pack_X3_add
theorem dX3_pack_0 : decode cX3_pack 0 = .ok (.iload_n 2, 1) := by decide +kernel
theorem dX3_pack_1 : decode cX3_pack 1 = .ok (.aload_n 1, 1) := by decide +kernel
theorem dX3_pack_2 : decode cX3_pack 2 = .ok (.getfield 31, 3) := by decide +kernel
theorem dX3_pack_5 : decode cX3_pack 5 = .ok (.if_icmp .lt 5, 3) := by decide +kernel
theorem dX3_pack_8 : decode cX3_pack 8 = .ok (.iconst 0, 1) := by decide +kernel
theorem dX3_pack_9 : decode cX3_pack 9 = .ok (.ireturn, 1) := by decide +kernel
theorem dX3_pack_10 : decode cX3_pack 10 = .ok (.aload_n 1, 1) := by decide +kernel
theorem dX3_pack_11 : decode cX3_pack 11 = .ok (.iload_n 2, 1) := by decide +kernel
theorem dX3_pack_12 : decode cX3_pack 12 = .ok (.invokevirtual 36, 3) := by decide +kernel
theorem dX3_pack_15 : decode cX3_pack 15 = .ok (.istore_n 3, 1) := by decide +kernel
theorem dX3_pack_16 : decode cX3_pack 16 = .ok (.aload_n 1, 1) := by decide +kernel
theorem dX3_pack_17 : decode cX3_pack 17 = .ok (.iload_n 2, 1) := by decide +kernel
theorem dX3_pack_18 : decode cX3_pack 18 = .ok (.invokevirtual 40, 3) := by decide +kernel
theorem dX3_pack_21 : decode cX3_pack 21 = .ok (.istore 4, 2) := by decide +kernel
theorem dX3_pack_23 : decode cX3_pack 23 = .ok (.aload_n 0, 1) := by decide +kernel
theorem dX3_pack_24 : decode cX3_pack 24 = .ok (.iload 4, 2) := by decide +kernel
theorem dX3_pack_26 : decode cX3_pack 26 = .ok (.invokevirtual 43, 3) := by decide +kernel
theorem dX3_pack_29 : decode cX3_pack 29 = .ok (.iload_n 3, 1) := by decide +kernel
theorem dX3_pack_30 : decode cX3_pack 30 = .ok (.istore 5, 2) := by decide +kernel
theorem dX3_pack_32 : decode cX3_pack 32 = .ok (.iload 5, 2) := by decide +kernel
theorem dX3_pack_34 : decode cX3_pack 34 = .ok (.iload_n 3, 1) := by decide +kernel
theorem dX3_pack_35 : decode cX3_pack 35 = .ok (.iload 4, 2) := by decide +kernel
theorem dX3_pack_37 : decode cX3_pack 37 = .ok (.iadd, 1) := by decide +kernel
theorem dX3_pack_38 : decode cX3_pack 38 = .ok (.if_icmp .ge 27, 3) := by decide +kernel
theorem dX3_pack_41 : decode cX3_pack 41 = .ok (.aload_n 0, 1) := by decide +kernel
theorem dX3_pack_42 : decode cX3_pack 42 = .ok (.aload_n 1, 1) := by decide +kernel
theorem dX3_pack_43 : decode cX3_pack 43 = .ok (.iload 5, 2) := by decide +kernel
theorem dX3_pack_45 : decode cX3_pack 45 = .ok (.iconst 0, 1) := by decide +kernel
theorem dX3_pack_46 : decode cX3_pack 46 = .ok (.invokevirtual 47, 3) := by decide +kernel
theorem dX3_pack_49 : decode cX3_pack 49 = .ok (.aload_n 1, 1) := by decide +kernel
theorem dX3_pack_50 : decode cX3_pack 50 = .ok (.iload 5, 2) := by decide +kernel
theorem dX3_pack_52 : decode cX3_pack 52 = .ok (.iconst 5, 1) := by decide +kernel
theorem dX3_pack_53 : decode cX3_pack 53 = .ok (.invokevirtual 47, 3) := by decide +kernel
theorem dX3_pack_56 : decode cX3_pack 56 = .ok (.invokevirtual 51, 3) := by decide +kernel
theorem dX3_pack_59 : decode cX3_pack 59 = .ok (.iinc 5 1, 3) := by decide +kernel
theorem dX3_pack_62 : decode cX3_pack 62 = .ok (.goto (-30), 3) := by decide +kernel
theorem dX3_pack_65 : decode cX3_pack 65 = .ok (.aload_n 0, 1) := by decide +kernel
theorem dX3_pack_66 : decode cX3_pack 66 = .ok (.getfield 15, 3) := by decide +kernel
theorem dX3_pack_69 : decode cX3_pack 69 = .ok (.ireturn, 1) := by decide +kernel
theorem ggX3_packOpenWith_X4_placeOf : GoodIn wsX3_packOpenWith wsX4_placeOf := goodIn_r _ [9, 10, 11, 3, 12, 13, 14, 8, 15, 16, 17, 62, 63, 64, 65, 66, 67, 68, 69, 70] (by decide +kernel) (by decide +kernel)
theorem gX3_packOpenWith_X4_placeOf : GoodIn wsX3_packOpenWith (wsV RX3 55 RX4 yX4_placeOf wsX4_placeOf) := goodIn_app (goodIn_of _ (by decide +kernel)) ggX3_packOpenWith_X4_placeOf
theorem ggX3_packOpenWith_X4_isTakenAt : GoodIn wsX3_packOpenWith wsX4_isTakenAt := goodIn_r _ [21, 11, 3, 12, 13, 14, 8, 15, 16, 17, 69, 70, 62, 63, 64, 65, 66, 67, 68] (by decide +kernel) (by decide +kernel)
theorem gX3_packOpenWith_X4_isTakenAt : GoodIn wsX3_packOpenWith (wsV RX3 58 RX4 yX4_isTakenAt wsX4_isTakenAt) := goodIn_app (goodIn_of _ (by decide +kernel)) ggX3_packOpenWith_X4_isTakenAt
theorem ggX3_packOpenWith_X4_openSize : GoodIn wsX3_packOpenWith wsX4_openSize := goodIn_r _ [25, 11, 3, 10, 69, 70, 62, 63, 64, 65, 66, 67, 68] (by decide +kernel) (by decide +kernel)
theorem gX3_packOpenWith_X4_openSize : GoodIn wsX3_packOpenWith (wsV RX3 62 RX4 yX4_openSize wsX4_openSize) := goodIn_app (goodIn_of _ (by decide +kernel)) ggX3_packOpenWith_X4_openSize
theorem ggX3_packOpenWith_X3_begin : GoodIn wsX3_packOpenWith wsX3_begin := goodIn_r _ [30, 31, 4, 32, 33, 34, 35, 36, 37, 38, 39, 29, 40, 71, 72, 73, 74, 75, 76] (by decide +kernel) (by decide +kernel)
theorem gX3_packOpenWith_X3_begin : GoodIn wsX3_packOpenWith (wsV RX3 43 RX3 yX3_begin wsX3_begin) := goodIn_app (goodIn_of _ (by decide +kernel)) ggX3_packOpenWith_X3_begin
theorem ggX3_packOpenWith_X4_number : GoodIn wsX3_packOpenWith wsX4_number := goodIn_r _ [15, 16, 17, 62, 63, 64, 65, 66, 67, 68] (by decide +kernel) (by decide +kernel)
theorem gX3_packOpenWith_X4_number : GoodIn wsX3_packOpenWith (wsV RX3 47 RX4 yX4_number wsX4_number) := goodIn_app (goodIn_of _ (by decide +kernel)) ggX3_packOpenWith_X4_number
theorem ggX3_packOpenWith_X3_add : GoodIn wsX3_packOpenWith wsX3_add := goodIn_r _ [45, 32, 46, 47, 48, 49, 37, 38, 39, 29, 40, 4, 31, 50, 51, 52, 53, 54, 55, 56, 57, 58, 59, 60, 61, 71, 72, 73, 74, 75, 76] (by decide +kernel) (by decide +kernel)
theorem gX3_packOpenWith_X3_add : GoodIn wsX3_packOpenWith (wsV RX3 51 RX3 yX3_add wsX3_add) := goodIn_app (goodIn_of _ (by decide +kernel)) ggX3_packOpenWith_X3_add
theorem dX3_packOpenWith_0 : decode cX3_packOpenWith 0 = .ok (.aload_n 1, 1) := by decide +kernel
theorem dX3_packOpenWith_1 : decode cX3_packOpenWith 1 = .ok (.iload_n 2, 1) := by decide +kernel
theorem dX3_packOpenWith_2 : decode cX3_packOpenWith 2 = .ok (.invokevirtual 55, 3) := by decide +kernel
theorem dX3_packOpenWith_5 : decode cX3_packOpenWith 5 = .ok (.istore 4, 2) := by decide +kernel
theorem dX3_packOpenWith_7 : decode cX3_packOpenWith 7 = .ok (.aload_n 1, 1) := by decide +kernel
theorem dX3_packOpenWith_8 : decode cX3_packOpenWith 8 = .ok (.iload 4, 2) := by decide +kernel
theorem dX3_packOpenWith_10 : decode cX3_packOpenWith 10 = .ok (.iload_n 2, 1) := by decide +kernel
theorem dX3_packOpenWith_11 : decode cX3_packOpenWith 11 = .ok (.invokevirtual 58, 3) := by decide +kernel
theorem dX3_packOpenWith_14 : decode cX3_packOpenWith 14 = .ok (.istore 5, 2) := by decide +kernel
theorem dX3_packOpenWith_16 : decode cX3_packOpenWith 16 = .ok (.aload_n 0, 1) := by decide +kernel
theorem dX3_packOpenWith_17 : decode cX3_packOpenWith 17 = .ok (.aload_n 1, 1) := by decide +kernel
theorem dX3_packOpenWith_18 : decode cX3_packOpenWith 18 = .ok (.invokevirtual 62, 3) := by decide +kernel
theorem dX3_packOpenWith_21 : decode cX3_packOpenWith 21 = .ok (.iload 5, 2) := by decide +kernel
theorem dX3_packOpenWith_23 : decode cX3_packOpenWith 23 = .ok (.ifCond .eq 7, 3) := by decide +kernel
theorem dX3_packOpenWith_26 : decode cX3_packOpenWith 26 = .ok (.iconst 0, 1) := by decide +kernel
theorem dX3_packOpenWith_27 : decode cX3_packOpenWith 27 = .ok (.goto 4, 3) := by decide +kernel
theorem dX3_packOpenWith_30 : decode cX3_packOpenWith 30 = .ok (.iconst 1, 1) := by decide +kernel
theorem dX3_packOpenWith_31 : decode cX3_packOpenWith 31 = .ok (.iadd, 1) := by decide +kernel
theorem dX3_packOpenWith_32 : decode cX3_packOpenWith 32 = .ok (.invokevirtual 43, 3) := by decide +kernel
theorem dX3_packOpenWith_35 : decode cX3_packOpenWith 35 = .ok (.aload_n 1, 1) := by decide +kernel
theorem dX3_packOpenWith_36 : decode cX3_packOpenWith 36 = .ok (.getfield 66, 3) := by decide +kernel
theorem dX3_packOpenWith_39 : decode cX3_packOpenWith 39 = .ok (.istore 6, 2) := by decide +kernel
theorem dX3_packOpenWith_41 : decode cX3_packOpenWith 41 = .ok (.iload 6, 2) := by decide +kernel
theorem dX3_packOpenWith_43 : decode cX3_packOpenWith 43 = .ok (.iload 4, 2) := by decide +kernel
theorem dX3_packOpenWith_45 : decode cX3_packOpenWith 45 = .ok (.if_icmp .ge 27, 3) := by decide +kernel
theorem dX3_packOpenWith_48 : decode cX3_packOpenWith 48 = .ok (.aload_n 0, 1) := by decide +kernel
theorem dX3_packOpenWith_49 : decode cX3_packOpenWith 49 = .ok (.aload_n 1, 1) := by decide +kernel
theorem dX3_packOpenWith_50 : decode cX3_packOpenWith 50 = .ok (.iload 6, 2) := by decide +kernel
theorem dX3_packOpenWith_52 : decode cX3_packOpenWith 52 = .ok (.iconst 0, 1) := by decide +kernel
theorem dX3_packOpenWith_53 : decode cX3_packOpenWith 53 = .ok (.invokevirtual 47, 3) := by decide +kernel
theorem dX3_packOpenWith_56 : decode cX3_packOpenWith 56 = .ok (.aload_n 1, 1) := by decide +kernel
theorem dX3_packOpenWith_57 : decode cX3_packOpenWith 57 = .ok (.iload 6, 2) := by decide +kernel
theorem dX3_packOpenWith_59 : decode cX3_packOpenWith 59 = .ok (.iconst 5, 1) := by decide +kernel
theorem dX3_packOpenWith_60 : decode cX3_packOpenWith 60 = .ok (.invokevirtual 47, 3) := by decide +kernel
theorem dX3_packOpenWith_63 : decode cX3_packOpenWith 63 = .ok (.invokevirtual 51, 3) := by decide +kernel
theorem dX3_packOpenWith_66 : decode cX3_packOpenWith 66 = .ok (.iinc 6 1, 3) := by decide +kernel
theorem dX3_packOpenWith_69 : decode cX3_packOpenWith 69 = .ok (.goto (-28), 3) := by decide +kernel
theorem dX3_packOpenWith_72 : decode cX3_packOpenWith 72 = .ok (.aload_n 0, 1) := by decide +kernel
theorem dX3_packOpenWith_73 : decode cX3_packOpenWith 73 = .ok (.iload_n 2, 1) := by decide +kernel
theorem dX3_packOpenWith_74 : decode cX3_packOpenWith 74 = .ok (.iload_n 3, 1) := by decide +kernel
theorem dX3_packOpenWith_75 : decode cX3_packOpenWith 75 = .ok (.invokevirtual 51, 3) := by decide +kernel
theorem dX3_packOpenWith_78 : decode cX3_packOpenWith 78 = .ok (.iload 5, 2) := by decide +kernel
theorem dX3_packOpenWith_80 : decode cX3_packOpenWith 80 = .ok (.ifCond .eq 10, 3) := by decide +kernel
theorem dX3_packOpenWith_83 : decode cX3_packOpenWith 83 = .ok (.iload 4, 2) := by decide +kernel
theorem dX3_packOpenWith_85 : decode cX3_packOpenWith 85 = .ok (.iconst 1, 1) := by decide +kernel
theorem dX3_packOpenWith_86 : decode cX3_packOpenWith 86 = .ok (.iadd, 1) := by decide +kernel
theorem dX3_packOpenWith_87 : decode cX3_packOpenWith 87 = .ok (.goto 5, 3) := by decide +kernel
theorem dX3_packOpenWith_90 : decode cX3_packOpenWith 90 = .ok (.iload 4, 2) := by decide +kernel
theorem dX3_packOpenWith_92 : decode cX3_packOpenWith 92 = .ok (.istore 6, 2) := by decide +kernel
theorem dX3_packOpenWith_94 : decode cX3_packOpenWith 94 = .ok (.iload 6, 2) := by decide +kernel
theorem dX3_packOpenWith_96 : decode cX3_packOpenWith 96 = .ok (.aload_n 1, 1) := by decide +kernel
theorem dX3_packOpenWith_97 : decode cX3_packOpenWith 97 = .ok (.getfield 69, 3) := by decide +kernel
theorem dX3_packOpenWith_100 : decode cX3_packOpenWith 100 = .ok (.if_icmp .ge 27, 3) := by decide +kernel
theorem dX3_packOpenWith_103 : decode cX3_packOpenWith 103 = .ok (.aload_n 0, 1) := by decide +kernel
theorem dX3_packOpenWith_104 : decode cX3_packOpenWith 104 = .ok (.aload_n 1, 1) := by decide +kernel
theorem dX3_packOpenWith_105 : decode cX3_packOpenWith 105 = .ok (.iload 6, 2) := by decide +kernel
theorem dX3_packOpenWith_107 : decode cX3_packOpenWith 107 = .ok (.iconst 0, 1) := by decide +kernel
theorem dX3_packOpenWith_108 : decode cX3_packOpenWith 108 = .ok (.invokevirtual 47, 3) := by decide +kernel
theorem dX3_packOpenWith_111 : decode cX3_packOpenWith 111 = .ok (.aload_n 1, 1) := by decide +kernel
theorem dX3_packOpenWith_112 : decode cX3_packOpenWith 112 = .ok (.iload 6, 2) := by decide +kernel
theorem dX3_packOpenWith_114 : decode cX3_packOpenWith 114 = .ok (.iconst 5, 1) := by decide +kernel
theorem dX3_packOpenWith_115 : decode cX3_packOpenWith 115 = .ok (.invokevirtual 47, 3) := by decide +kernel
theorem dX3_packOpenWith_118 : decode cX3_packOpenWith 118 = .ok (.invokevirtual 51, 3) := by decide +kernel
theorem dX3_packOpenWith_121 : decode cX3_packOpenWith 121 = .ok (.iinc 6 1, 3) := by decide +kernel
theorem dX3_packOpenWith_124 : decode cX3_packOpenWith 124 = .ok (.goto (-30), 3) := by decide +kernel
theorem dX3_packOpenWith_127 : decode cX3_packOpenWith 127 = .ok (.aload_n 0, 1) := by decide +kernel
theorem dX3_packOpenWith_128 : decode cX3_packOpenWith 128 = .ok (.getfield 15, 3) := by decide +kernel
theorem dX3_packOpenWith_131 : decode cX3_packOpenWith 131 = .ok (.ireturn, 1) := by decide +kernel
theorem ggX3_begin_J7_fill_53178 : GoodIn wsX3_begin wsJ7_fill_53178 := goodIn_r _ [7] (by decide +kernel) (by decide +kernel)
theorem gX3_begin_J7_fill_53178 : GoodIn wsX3_begin (va_wsS RX3 72 yJ7_fill_53178 wsJ7_fill_53178) := goodIn_app (goodIn_of _ (by decide +kernel)) ggX3_begin_J7_fill_53178
theorem ggX3_begin_X3_write : GoodIn wsX3_begin wsX3_write := goodIn_r _ [12, 2, 1, 13, 14, 15, 16, 17, 18] (by decide +kernel) (by decide +kernel)
theorem gX3_begin_X3_write : GoodIn wsX3_begin (wsV RX3 78 RX3 yX3_write wsX3_write) := goodIn_app (goodIn_of _ (by decide +kernel)) ggX3_begin_X3_write
theorem dX3_begin_0 : decode cX3_begin 0 = .ok (.aload_n 0, 1) := by decide +kernel
theorem dX3_begin_1 : decode cX3_begin 1 = .ok (.getfield 11, 3) := by decide +kernel
theorem dX3_begin_4 : decode cX3_begin 4 = .ok (.iconst 0, 1) := by decide +kernel
theorem dX3_begin_5 : decode cX3_begin 5 = .ok (.invokestatic 72, 3) := by decide +kernel
theorem dX3_begin_8 : decode cX3_begin 8 = .ok (.aload_n 0, 1) := by decide +kernel
theorem dX3_begin_9 : decode cX3_begin 9 = .ok (.iconst 0, 1) := by decide +kernel
theorem dX3_begin_10 : decode cX3_begin 10 = .ok (.putfield 15, 3) := by decide +kernel
theorem dX3_begin_13 : decode cX3_begin 13 = .ok (.aload_n 0, 1) := by decide +kernel
theorem dX3_begin_14 : decode cX3_begin 14 = .ok (.iconst 0, 1) := by decide +kernel
theorem dX3_begin_15 : decode cX3_begin 15 = .ok (.putfield 19, 3) := by decide +kernel
theorem dX3_begin_18 : decode cX3_begin 18 = .ok (.aload_n 0, 1) := by decide +kernel
theorem dX3_begin_19 : decode cX3_begin 19 = .ok (.iload_n 1, 1) := by decide +kernel
theorem dX3_begin_20 : decode cX3_begin 20 = .ok (.bipush 6, 2) := by decide +kernel
theorem dX3_begin_22 : decode cX3_begin 22 = .ok (.invokevirtual 78, 3) := by decide +kernel
theorem dX3_begin_25 : decode cX3_begin 25 = .ok (.return_, 1) := by decide +kernel
theorem ggX3_add_X3_write : GoodIn wsX3_add wsX3_write := goodIn_r _ [10, 11, 12, 25, 26, 27, 28, 29, 30] (by decide +kernel) (by decide +kernel)
theorem gX3_add_X3_write : GoodIn wsX3_add (wsV RX3 78 RX3 yX3_write wsX3_write) := goodIn_app (goodIn_of _ (by decide +kernel)) ggX3_add_X3_write
theorem ggX3_add_X3_addTime : GoodIn wsX3_add wsX3_addTime := goodIn_r _ [16, 2, 6, 7, 8, 9, 10, 11, 12, 17, 18, 19, 25, 26, 27, 28, 29, 30] (by decide +kernel) (by decide +kernel)
theorem gX3_add_X3_addTime : GoodIn wsX3_add (wsV RX3 82 RX3 yX3_addTime wsX3_addTime) := goodIn_app (goodIn_of _ (by decide +kernel)) ggX3_add_X3_addTime
theorem ggX3_add_X3_addValue : GoodIn wsX3_add wsX3_addValue := goodIn_r _ [23, 24, 6, 7, 8, 9, 10, 11, 12, 17, 18, 19, 25, 26, 27, 28, 29, 30] (by decide +kernel) (by decide +kernel)
theorem gX3_add_X3_addValue : GoodIn wsX3_add (wsV RX3 85 RX3 yX3_addValue wsX3_addValue) := goodIn_app (goodIn_of _ (by decide +kernel)) ggX3_add_X3_addValue
theorem dX3_add_0 : decode cX3_add 0 = .ok (.aload_n 0, 1) := by decide +kernel
theorem dX3_add_1 : decode cX3_add 1 = .ok (.getfield 19, 3) := by decide +kernel
theorem dX3_add_4 : decode cX3_add 4 = .ok (.ifCond .ne 28, 3) := by decide +kernel
theorem dX3_add_7 : decode cX3_add 7 = .ok (.aload_n 0, 1) := by decide +kernel
theorem dX3_add_8 : decode cX3_add 8 = .ok (.iload_n 1, 1) := by decide +kernel
theorem dX3_add_9 : decode cX3_add 9 = .ok (.bipush 20, 2) := by decide +kernel
theorem dX3_add_11 : decode cX3_add 11 = .ok (.invokevirtual 78, 3) := by decide +kernel
theorem dX3_add_14 : decode cX3_add 14 = .ok (.aload_n 0, 1) := by decide +kernel
theorem dX3_add_15 : decode cX3_add 15 = .ok (.iload_n 2, 1) := by decide +kernel
theorem dX3_add_16 : decode cX3_add 16 = .ok (.ldc 81, 2) := by decide +kernel
theorem dX3_add_18 : decode cX3_add 18 = .ok (.iadd, 1) := by decide +kernel
theorem dX3_add_19 : decode cX3_add 19 = .ok (.bipush 21, 2) := by decide +kernel
theorem dX3_add_21 : decode cX3_add 21 = .ok (.invokevirtual 78, 3) := by decide +kernel
theorem dX3_add_24 : decode cX3_add 24 = .ok (.aload_n 0, 1) := by decide +kernel
theorem dX3_add_25 : decode cX3_add 25 = .ok (.iconst 0, 1) := by decide +kernel
theorem dX3_add_26 : decode cX3_add 26 = .ok (.putfield 25, 3) := by decide +kernel
theorem dX3_add_29 : decode cX3_add 29 = .ok (.goto 35, 3) := by decide +kernel
theorem dX3_add_32 : decode cX3_add 32 = .ok (.iload_n 1, 1) := by decide +kernel
theorem dX3_add_33 : decode cX3_add 33 = .ok (.aload_n 0, 1) := by decide +kernel
theorem dX3_add_34 : decode cX3_add 34 = .ok (.getfield 22, 3) := by decide +kernel
theorem dX3_add_37 : decode cX3_add 37 = .ok (.isub, 1) := by decide +kernel
theorem dX3_add_38 : decode cX3_add 38 = .ok (.istore_n 3, 1) := by decide +kernel
theorem dX3_add_39 : decode cX3_add 39 = .ok (.aload_n 0, 1) := by decide +kernel
theorem dX3_add_40 : decode cX3_add 40 = .ok (.iload_n 3, 1) := by decide +kernel
theorem dX3_add_41 : decode cX3_add 41 = .ok (.aload_n 0, 1) := by decide +kernel
theorem dX3_add_42 : decode cX3_add 42 = .ok (.getfield 25, 3) := by decide +kernel
theorem dX3_add_45 : decode cX3_add 45 = .ok (.isub, 1) := by decide +kernel
theorem dX3_add_46 : decode cX3_add 46 = .ok (.invokevirtual 82, 3) := by decide +kernel
theorem dX3_add_49 : decode cX3_add 49 = .ok (.aload_n 0, 1) := by decide +kernel
theorem dX3_add_50 : decode cX3_add 50 = .ok (.iload_n 2, 1) := by decide +kernel
theorem dX3_add_51 : decode cX3_add 51 = .ok (.aload_n 0, 1) := by decide +kernel
theorem dX3_add_52 : decode cX3_add 52 = .ok (.getfield 28, 3) := by decide +kernel
theorem dX3_add_55 : decode cX3_add 55 = .ok (.isub, 1) := by decide +kernel
theorem dX3_add_56 : decode cX3_add 56 = .ok (.invokevirtual 85, 3) := by decide +kernel
theorem dX3_add_59 : decode cX3_add 59 = .ok (.aload_n 0, 1) := by decide +kernel
theorem dX3_add_60 : decode cX3_add 60 = .ok (.iload_n 3, 1) := by decide +kernel
theorem dX3_add_61 : decode cX3_add 61 = .ok (.putfield 25, 3) := by decide +kernel
theorem dX3_add_64 : decode cX3_add 64 = .ok (.aload_n 0, 1) := by decide +kernel
theorem dX3_add_65 : decode cX3_add 65 = .ok (.iload_n 1, 1) := by decide +kernel
theorem dX3_add_66 : decode cX3_add 66 = .ok (.putfield 22, 3) := by decide +kernel
theorem dX3_add_69 : decode cX3_add 69 = .ok (.aload_n 0, 1) := by decide +kernel
theorem dX3_add_70 : decode cX3_add 70 = .ok (.iload_n 2, 1) := by decide +kernel
theorem dX3_add_71 : decode cX3_add 71 = .ok (.putfield 28, 3) := by decide +kernel
theorem dX3_add_74 : decode cX3_add 74 = .ok (.aload_n 0, 1) := by decide +kernel
theorem dX3_add_75 : decode cX3_add 75 = .ok (.dup, 1) := by decide +kernel
theorem dX3_add_76 : decode cX3_add 76 = .ok (.getfield 19, 3) := by decide +kernel
theorem dX3_add_79 : decode cX3_add 79 = .ok (.iconst 1, 1) := by decide +kernel
theorem dX3_add_80 : decode cX3_add 80 = .ok (.iadd, 1) := by decide +kernel
theorem dX3_add_81 : decode cX3_add 81 = .ok (.putfield 19, 3) := by decide +kernel
theorem dX3_add_84 : decode cX3_add 84 = .ok (.return_, 1) := by decide +kernel
theorem ggX3_addTime_X3_write : GoodIn wsX3_addTime wsX3_write := goodIn_r _ [6, 7, 8, 12, 13, 14, 15, 16, 17] (by decide +kernel) (by decide +kernel)
theorem gX3_addTime_X3_write : GoodIn wsX3_addTime (wsV RX3 78 RX3 yX3_write wsX3_write) := goodIn_app (goodIn_of _ (by decide +kernel)) ggX3_addTime_X3_write
theorem ggX3_addTime_X9_isIn : GoodIn wsX3_addTime wsX9_isIn := goodIn_r _ [11] (by decide +kernel) (by decide +kernel)
theorem gX3_addTime_X9_isIn_n88 : GoodIn wsX3_addTime (wsX9_isIn) := ggX3_addTime_X9_isIn
theorem dX3_addTime_0 : decode cX3_addTime 0 = .ok (.iload_n 1, 1) := by decide +kernel
theorem dX3_addTime_1 : decode cX3_addTime 1 = .ok (.ifCond .ne 12, 3) := by decide +kernel
theorem dX3_addTime_4 : decode cX3_addTime 4 = .ok (.aload_n 0, 1) := by decide +kernel
theorem dX3_addTime_5 : decode cX3_addTime 5 = .ok (.iconst 0, 1) := by decide +kernel
theorem dX3_addTime_6 : decode cX3_addTime 6 = .ok (.iconst 1, 1) := by decide +kernel
theorem dX3_addTime_7 : decode cX3_addTime 7 = .ok (.invokevirtual 78, 3) := by decide +kernel
theorem dX3_addTime_10 : decode cX3_addTime 10 = .ok (.goto 90, 3) := by decide +kernel
theorem dX3_addTime_13 : decode cX3_addTime 13 = .ok (.iload_n 1, 1) := by decide +kernel
theorem dX3_addTime_14 : decode cX3_addTime 14 = .ok (.bipush 31, 2) := by decide +kernel
theorem dX3_addTime_16 : decode cX3_addTime 16 = .ok (.iadd, 1) := by decide +kernel
theorem dX3_addTime_17 : decode cX3_addTime 17 = .ok (.i2l, 1) := by decide +kernel
theorem dX3_addTime_18 : decode cX3_addTime 18 = .ok (.iconst 0, 1) := by decide +kernel
theorem dX3_addTime_19 : decode cX3_addTime 19 = .ok (.bipush 63, 2) := by decide +kernel
theorem dX3_addTime_21 : decode cX3_addTime 21 = .ok (.invokestatic 88, 3) := by decide +kernel
theorem dX3_addTime_24 : decode cX3_addTime 24 = .ok (.ifCond .eq 22, 3) := by decide +kernel
theorem dX3_addTime_27 : decode cX3_addTime 27 = .ok (.aload_n 0, 1) := by decide +kernel
theorem dX3_addTime_28 : decode cX3_addTime 28 = .ok (.iconst 2, 1) := by decide +kernel
theorem dX3_addTime_29 : decode cX3_addTime 29 = .ok (.iconst 2, 1) := by decide +kernel
theorem dX3_addTime_30 : decode cX3_addTime 30 = .ok (.invokevirtual 78, 3) := by decide +kernel
theorem dX3_addTime_33 : decode cX3_addTime 33 = .ok (.aload_n 0, 1) := by decide +kernel
theorem dX3_addTime_34 : decode cX3_addTime 34 = .ok (.iload_n 1, 1) := by decide +kernel
theorem dX3_addTime_35 : decode cX3_addTime 35 = .ok (.bipush 31, 2) := by decide +kernel
theorem dX3_addTime_37 : decode cX3_addTime 37 = .ok (.iadd, 1) := by decide +kernel
theorem dX3_addTime_38 : decode cX3_addTime 38 = .ok (.bipush 6, 2) := by decide +kernel
theorem dX3_addTime_40 : decode cX3_addTime 40 = .ok (.invokevirtual 78, 3) := by decide +kernel
theorem dX3_addTime_43 : decode cX3_addTime 43 = .ok (.goto 57, 3) := by decide +kernel
theorem dX3_addTime_46 : decode cX3_addTime 46 = .ok (.iload_n 1, 1) := by decide +kernel
theorem dX3_addTime_47 : decode cX3_addTime 47 = .ok (.sipush 255, 3) := by decide +kernel
theorem dX3_addTime_50 : decode cX3_addTime 50 = .ok (.iadd, 1) := by decide +kernel
theorem dX3_addTime_51 : decode cX3_addTime 51 = .ok (.i2l, 1) := by decide +kernel
theorem dX3_addTime_52 : decode cX3_addTime 52 = .ok (.iconst 0, 1) := by decide +kernel
theorem dX3_addTime_53 : decode cX3_addTime 53 = .ok (.sipush 511, 3) := by decide +kernel
theorem dX3_addTime_56 : decode cX3_addTime 56 = .ok (.invokestatic 88, 3) := by decide +kernel
theorem dX3_addTime_59 : decode cX3_addTime 59 = .ok (.ifCond .eq 24, 3) := by decide +kernel
theorem dX3_addTime_62 : decode cX3_addTime 62 = .ok (.aload_n 0, 1) := by decide +kernel
theorem dX3_addTime_63 : decode cX3_addTime 63 = .ok (.bipush 6, 2) := by decide +kernel
theorem dX3_addTime_65 : decode cX3_addTime 65 = .ok (.iconst 3, 1) := by decide +kernel
theorem dX3_addTime_66 : decode cX3_addTime 66 = .ok (.invokevirtual 78, 3) := by decide +kernel
theorem dX3_addTime_69 : decode cX3_addTime 69 = .ok (.aload_n 0, 1) := by decide +kernel
theorem dX3_addTime_70 : decode cX3_addTime 70 = .ok (.iload_n 1, 1) := by decide +kernel
theorem dX3_addTime_71 : decode cX3_addTime 71 = .ok (.sipush 255, 3) := by decide +kernel
theorem dX3_addTime_74 : decode cX3_addTime 74 = .ok (.iadd, 1) := by decide +kernel
theorem dX3_addTime_75 : decode cX3_addTime 75 = .ok (.bipush 9, 2) := by decide +kernel
theorem dX3_addTime_77 : decode cX3_addTime 77 = .ok (.invokevirtual 78, 3) := by decide +kernel
theorem dX3_addTime_80 : decode cX3_addTime 80 = .ok (.goto 20, 3) := by decide +kernel
theorem dX3_addTime_83 : decode cX3_addTime 83 = .ok (.aload_n 0, 1) := by decide +kernel
theorem dX3_addTime_84 : decode cX3_addTime 84 = .ok (.bipush 7, 2) := by decide +kernel
theorem dX3_addTime_86 : decode cX3_addTime 86 = .ok (.iconst 3, 1) := by decide +kernel
theorem dX3_addTime_87 : decode cX3_addTime 87 = .ok (.invokevirtual 78, 3) := by decide +kernel
theorem dX3_addTime_90 : decode cX3_addTime 90 = .ok (.aload_n 0, 1) := by decide +kernel
theorem dX3_addTime_91 : decode cX3_addTime 91 = .ok (.iload_n 1, 1) := by decide +kernel
theorem dX3_addTime_92 : decode cX3_addTime 92 = .ok (.ldc 81, 2) := by decide +kernel
theorem dX3_addTime_94 : decode cX3_addTime 94 = .ok (.iadd, 1) := by decide +kernel
theorem dX3_addTime_95 : decode cX3_addTime 95 = .ok (.bipush 21, 2) := by decide +kernel
theorem dX3_addTime_97 : decode cX3_addTime 97 = .ok (.invokevirtual 78, 3) := by decide +kernel
theorem dX3_addTime_100 : decode cX3_addTime 100 = .ok (.return_, 1) := by decide +kernel
theorem ggX3_addValue_X3_write : GoodIn wsX3_addValue wsX3_write := goodIn_r _ [6, 7, 8, 12, 13, 14, 15, 16, 17] (by decide +kernel) (by decide +kernel)
theorem gX3_addValue_X3_write : GoodIn wsX3_addValue (wsV RX3 78 RX3 yX3_write wsX3_write) := goodIn_app (goodIn_of _ (by decide +kernel)) ggX3_addValue_X3_write
theorem ggX3_addValue_X9_isIn : GoodIn wsX3_addValue wsX9_isIn := goodIn_r _ [11] (by decide +kernel) (by decide +kernel)
theorem gX3_addValue_X9_isIn_n88 : GoodIn wsX3_addValue (wsX9_isIn) := ggX3_addValue_X9_isIn
theorem dX3_addValue_0 : decode cX3_addValue 0 = .ok (.iload_n 1, 1) := by decide +kernel
theorem dX3_addValue_1 : decode cX3_addValue 1 = .ok (.ifCond .ne 12, 3) := by decide +kernel
theorem dX3_addValue_4 : decode cX3_addValue 4 = .ok (.aload_n 0, 1) := by decide +kernel
theorem dX3_addValue_5 : decode cX3_addValue 5 = .ok (.iconst 0, 1) := by decide +kernel
theorem dX3_addValue_6 : decode cX3_addValue 6 = .ok (.iconst 1, 1) := by decide +kernel
theorem dX3_addValue_7 : decode cX3_addValue 7 = .ok (.invokevirtual 78, 3) := by decide +kernel
theorem dX3_addValue_10 : decode cX3_addValue 10 = .ok (.goto 89, 3) := by decide +kernel
theorem dX3_addValue_13 : decode cX3_addValue 13 = .ok (.iload_n 1, 1) := by decide +kernel
theorem dX3_addValue_14 : decode cX3_addValue 14 = .ok (.bipush 15, 2) := by decide +kernel
theorem dX3_addValue_16 : decode cX3_addValue 16 = .ok (.iadd, 1) := by decide +kernel
theorem dX3_addValue_17 : decode cX3_addValue 17 = .ok (.i2l, 1) := by decide +kernel
theorem dX3_addValue_18 : decode cX3_addValue 18 = .ok (.iconst 0, 1) := by decide +kernel
theorem dX3_addValue_19 : decode cX3_addValue 19 = .ok (.bipush 31, 2) := by decide +kernel
theorem dX3_addValue_21 : decode cX3_addValue 21 = .ok (.invokestatic 88, 3) := by decide +kernel
theorem dX3_addValue_24 : decode cX3_addValue 24 = .ok (.ifCond .eq 21, 3) := by decide +kernel
theorem dX3_addValue_27 : decode cX3_addValue 27 = .ok (.aload_n 0, 1) := by decide +kernel
theorem dX3_addValue_28 : decode cX3_addValue 28 = .ok (.iconst 2, 1) := by decide +kernel
theorem dX3_addValue_29 : decode cX3_addValue 29 = .ok (.iconst 2, 1) := by decide +kernel
theorem dX3_addValue_30 : decode cX3_addValue 30 = .ok (.invokevirtual 78, 3) := by decide +kernel
theorem dX3_addValue_33 : decode cX3_addValue 33 = .ok (.aload_n 0, 1) := by decide +kernel
theorem dX3_addValue_34 : decode cX3_addValue 34 = .ok (.iload_n 1, 1) := by decide +kernel
theorem dX3_addValue_35 : decode cX3_addValue 35 = .ok (.bipush 15, 2) := by decide +kernel
theorem dX3_addValue_37 : decode cX3_addValue 37 = .ok (.iadd, 1) := by decide +kernel
theorem dX3_addValue_38 : decode cX3_addValue 38 = .ok (.iconst 5, 1) := by decide +kernel
theorem dX3_addValue_39 : decode cX3_addValue 39 = .ok (.invokevirtual 78, 3) := by decide +kernel
theorem dX3_addValue_42 : decode cX3_addValue 42 = .ok (.goto 57, 3) := by decide +kernel
theorem dX3_addValue_45 : decode cX3_addValue 45 = .ok (.iload_n 1, 1) := by decide +kernel
theorem dX3_addValue_46 : decode cX3_addValue 46 = .ok (.sipush 511, 3) := by decide +kernel
theorem dX3_addValue_49 : decode cX3_addValue 49 = .ok (.iadd, 1) := by decide +kernel
theorem dX3_addValue_50 : decode cX3_addValue 50 = .ok (.i2l, 1) := by decide +kernel
theorem dX3_addValue_51 : decode cX3_addValue 51 = .ok (.iconst 0, 1) := by decide +kernel
theorem dX3_addValue_52 : decode cX3_addValue 52 = .ok (.sipush 1023, 3) := by decide +kernel
theorem dX3_addValue_55 : decode cX3_addValue 55 = .ok (.invokestatic 88, 3) := by decide +kernel
theorem dX3_addValue_58 : decode cX3_addValue 58 = .ok (.ifCond .eq 24, 3) := by decide +kernel
theorem dX3_addValue_61 : decode cX3_addValue 61 = .ok (.aload_n 0, 1) := by decide +kernel
theorem dX3_addValue_62 : decode cX3_addValue 62 = .ok (.bipush 6, 2) := by decide +kernel
theorem dX3_addValue_64 : decode cX3_addValue 64 = .ok (.iconst 3, 1) := by decide +kernel
theorem dX3_addValue_65 : decode cX3_addValue 65 = .ok (.invokevirtual 78, 3) := by decide +kernel
theorem dX3_addValue_68 : decode cX3_addValue 68 = .ok (.aload_n 0, 1) := by decide +kernel
theorem dX3_addValue_69 : decode cX3_addValue 69 = .ok (.iload_n 1, 1) := by decide +kernel
theorem dX3_addValue_70 : decode cX3_addValue 70 = .ok (.sipush 511, 3) := by decide +kernel
theorem dX3_addValue_73 : decode cX3_addValue 73 = .ok (.iadd, 1) := by decide +kernel
theorem dX3_addValue_74 : decode cX3_addValue 74 = .ok (.bipush 10, 2) := by decide +kernel
theorem dX3_addValue_76 : decode cX3_addValue 76 = .ok (.invokevirtual 78, 3) := by decide +kernel
theorem dX3_addValue_79 : decode cX3_addValue 79 = .ok (.goto 20, 3) := by decide +kernel
theorem dX3_addValue_82 : decode cX3_addValue 82 = .ok (.aload_n 0, 1) := by decide +kernel
theorem dX3_addValue_83 : decode cX3_addValue 83 = .ok (.bipush 7, 2) := by decide +kernel
theorem dX3_addValue_85 : decode cX3_addValue 85 = .ok (.iconst 3, 1) := by decide +kernel
theorem dX3_addValue_86 : decode cX3_addValue 86 = .ok (.invokevirtual 78, 3) := by decide +kernel
theorem dX3_addValue_89 : decode cX3_addValue 89 = .ok (.aload_n 0, 1) := by decide +kernel
theorem dX3_addValue_90 : decode cX3_addValue 90 = .ok (.iload_n 1, 1) := by decide +kernel
theorem dX3_addValue_91 : decode cX3_addValue 91 = .ok (.ldc 92, 2) := by decide +kernel
theorem dX3_addValue_93 : decode cX3_addValue 93 = .ok (.iadd, 1) := by decide +kernel
theorem dX3_addValue_94 : decode cX3_addValue 94 = .ok (.bipush 19, 2) := by decide +kernel
theorem dX3_addValue_96 : decode cX3_addValue 96 = .ok (.invokevirtual 78, 3) := by decide +kernel
theorem dX3_addValue_99 : decode cX3_addValue 99 = .ok (.return_, 1) := by decide +kernel
theorem dX3_write_0 : decode cX3_write 0 = .ok (.iload_n 2, 1) := by decide +kernel
theorem dX3_write_1 : decode cX3_write 1 = .ok (.iconst 1, 1) := by decide +kernel
theorem dX3_write_2 : decode cX3_write 2 = .ok (.isub, 1) := by decide +kernel
theorem dX3_write_3 : decode cX3_write 3 = .ok (.istore_n 3, 1) := by decide +kernel
theorem dX3_write_4 : decode cX3_write 4 = .ok (.iload_n 3, 1) := by decide +kernel
theorem dX3_write_5 : decode cX3_write 5 = .ok (.ifCond .lt 64, 3) := by decide +kernel
theorem dX3_write_8 : decode cX3_write 8 = .ok (.aload_n 0, 1) := by decide +kernel
theorem dX3_write_9 : decode cX3_write 9 = .ok (.getfield 15, 3) := by decide +kernel
theorem dX3_write_12 : decode cX3_write 12 = .ok (.bipush 16, 2) := by decide +kernel
theorem dX3_write_14 : decode cX3_write 14 = .ok (.idiv, 1) := by decide +kernel
theorem dX3_write_15 : decode cX3_write 15 = .ok (.istore 4, 2) := by decide +kernel
theorem dX3_write_17 : decode cX3_write 17 = .ok (.iload 4, 2) := by decide +kernel
theorem dX3_write_19 : decode cX3_write 19 = .ok (.aload_n 0, 1) := by decide +kernel
theorem dX3_write_20 : decode cX3_write 20 = .ok (.getfield 11, 3) := by decide +kernel
theorem dX3_write_23 : decode cX3_write 23 = .ok (.arraylength, 1) := by decide +kernel
theorem dX3_write_24 : decode cX3_write 24 = .ok (.if_icmp .ge 29, 3) := by decide +kernel
theorem dX3_write_27 : decode cX3_write 27 = .ok (.aload_n 0, 1) := by decide +kernel
theorem dX3_write_28 : decode cX3_write 28 = .ok (.getfield 11, 3) := by decide +kernel
theorem dX3_write_31 : decode cX3_write 31 = .ok (.iload 4, 2) := by decide +kernel
theorem dX3_write_33 : decode cX3_write 33 = .ok (.dup2, 1) := by decide +kernel
theorem dX3_write_34 : decode cX3_write 34 = .ok (.iaload, 1) := by decide +kernel
theorem dX3_write_35 : decode cX3_write 35 = .ok (.iload_n 1, 1) := by decide +kernel
theorem dX3_write_36 : decode cX3_write 36 = .ok (.iload_n 3, 1) := by decide +kernel
theorem dX3_write_37 : decode cX3_write 37 = .ok (.ishr, 1) := by decide +kernel
theorem dX3_write_38 : decode cX3_write 38 = .ok (.iconst 1, 1) := by decide +kernel
theorem dX3_write_39 : decode cX3_write 39 = .ok (.iand, 1) := by decide +kernel
theorem dX3_write_40 : decode cX3_write 40 = .ok (.bipush 15, 2) := by decide +kernel
theorem dX3_write_42 : decode cX3_write 42 = .ok (.aload_n 0, 1) := by decide +kernel
theorem dX3_write_43 : decode cX3_write 43 = .ok (.getfield 15, 3) := by decide +kernel
theorem dX3_write_46 : decode cX3_write 46 = .ok (.bipush 16, 2) := by decide +kernel
theorem dX3_write_48 : decode cX3_write 48 = .ok (.irem, 1) := by decide +kernel
theorem dX3_write_49 : decode cX3_write 49 = .ok (.isub, 1) := by decide +kernel
theorem dX3_write_50 : decode cX3_write 50 = .ok (.ishl, 1) := by decide +kernel
theorem dX3_write_51 : decode cX3_write 51 = .ok (.ior, 1) := by decide +kernel
theorem dX3_write_52 : decode cX3_write 52 = .ok (.iastore, 1) := by decide +kernel
theorem dX3_write_53 : decode cX3_write 53 = .ok (.aload_n 0, 1) := by decide +kernel
theorem dX3_write_54 : decode cX3_write 54 = .ok (.dup, 1) := by decide +kernel
theorem dX3_write_55 : decode cX3_write 55 = .ok (.getfield 15, 3) := by decide +kernel
theorem dX3_write_58 : decode cX3_write 58 = .ok (.iconst 1, 1) := by decide +kernel
theorem dX3_write_59 : decode cX3_write 59 = .ok (.iadd, 1) := by decide +kernel
theorem dX3_write_60 : decode cX3_write 60 = .ok (.putfield 15, 3) := by decide +kernel
theorem dX3_write_63 : decode cX3_write 63 = .ok (.iinc 3 (-1), 3) := by decide +kernel
theorem dX3_write_66 : decode cX3_write 66 = .ok (.goto (-62), 3) := by decide +kernel
theorem dX3_write_69 : decode cX3_write 69 = .ok (.return_, 1) := by decide +kernel
theorem ggX4_init_X2_init : GoodIn wsX4_init wsX2_init := goodIn_r _ [10, 11, 12, 13, 14, 22, 23, 15, 16, 17, 18, 19, 20, 21] (by decide +kernel) (by decide +kernel)
theorem gX4_init_X2_init_n5 : GoodIn wsX4_init (wsX2_init) := ggX4_init_X2_init
theorem dX4_init_0 : decode cX4_init 0 = .ok (.aload_n 0, 1) := by decide +kernel
theorem dX4_init_1 : decode cX4_init 1 = .ok (.invokespecial 5, 3) := by decide +kernel
theorem dX4_init_4 : decode cX4_init 4 = .ok (.aload_n 0, 1) := by decide +kernel
theorem dX4_init_5 : decode cX4_init 5 = .ok (.sipush 160, 3) := by decide +kernel
theorem dX4_init_8 : decode cX4_init 8 = .ok (.newarray .int, 2) := by decide +kernel
theorem dX4_init_10 : decode cX4_init 10 = .ok (.putfield 11, 3) := by decide +kernel
theorem dX4_init_13 : decode cX4_init 13 = .ok (.aload_n 0, 1) := by decide +kernel
theorem dX4_init_14 : decode cX4_init 14 = .ok (.sipush 160, 3) := by decide +kernel
theorem dX4_init_17 : decode cX4_init 17 = .ok (.newarray .int, 2) := by decide +kernel
theorem dX4_init_19 : decode cX4_init 19 = .ok (.putfield 15, 3) := by decide +kernel
theorem dX4_init_22 : decode cX4_init 22 = .ok (.aload_n 0, 1) := by decide +kernel
theorem dX4_init_23 : decode cX4_init 23 = .ok (.bipush 9, 2) := by decide +kernel
theorem dX4_init_25 : decode cX4_init 25 = .ok (.newarray .int, 2) := by decide +kernel
theorem dX4_init_27 : decode cX4_init 27 = .ok (.putfield 18, 3) := by decide +kernel
theorem dX4_init_30 : decode cX4_init 30 = .ok (.aload_n 0, 1) := by decide +kernel
theorem dX4_init_31 : decode cX4_init 31 = .ok (.iconst 0, 1) := by decide +kernel
theorem dX4_init_32 : decode cX4_init 32 = .ok (.putfield 21, 3) := by decide +kernel
theorem dX4_init_35 : decode cX4_init 35 = .ok (.aload_n 0, 1) := by decide +kernel
theorem dX4_init_36 : decode cX4_init 36 = .ok (.iconst 0, 1) := by decide +kernel
theorem dX4_init_37 : decode cX4_init 37 = .ok (.putfield 25, 3) := by decide +kernel
theorem dX4_init_40 : decode cX4_init 40 = .ok (.aload_n 0, 1) := by decide +kernel
theorem dX4_init_41 : decode cX4_init 41 = .ok (.iconst (-1), 1) := by decide +kernel
theorem dX4_init_42 : decode cX4_init 42 = .ok (.putfield 28, 3) := by decide +kernel
theorem dX4_init_45 : decode cX4_init 45 = .ok (.return_, 1) := by decide +kernel
theorem dX4_number_0 : decode cX4_number 0 = .ok (.iload_n 1, 1) := by decide +kernel
theorem dX4_number_1 : decode cX4_number 1 = .ok (.ifCond .lt 21, 3) := by decide +kernel
theorem dX4_number_4 : decode cX4_number 4 = .ok (.iload_n 1, 1) := by decide +kernel
theorem dX4_number_5 : decode cX4_number 5 = .ok (.aload_n 0, 1) := by decide +kernel
theorem dX4_number_6 : decode cX4_number 6 = .ok (.getfield 11, 3) := by decide +kernel
theorem dX4_number_9 : decode cX4_number 9 = .ok (.arraylength, 1) := by decide +kernel
theorem dX4_number_10 : decode cX4_number 10 = .ok (.if_icmp .ge 12, 3) := by decide +kernel
theorem dX4_number_13 : decode cX4_number 13 = .ok (.iload_n 1, 1) := by decide +kernel
theorem dX4_number_14 : decode cX4_number 14 = .ok (.aload_n 0, 1) := by decide +kernel
theorem dX4_number_15 : decode cX4_number 15 = .ok (.getfield 15, 3) := by decide +kernel
theorem dX4_number_18 : decode cX4_number 18 = .ok (.arraylength, 1) := by decide +kernel
theorem dX4_number_19 : decode cX4_number 19 = .ok (.if_icmp .lt 5, 3) := by decide +kernel
theorem dX4_number_22 : decode cX4_number 22 = .ok (.iconst 0, 1) := by decide +kernel
theorem dX4_number_23 : decode cX4_number 23 = .ok (.ireturn, 1) := by decide +kernel
theorem dX4_number_24 : decode cX4_number 24 = .ok (.iload_n 2, 1) := by decide +kernel
theorem dX4_number_25 : decode cX4_number 25 = .ok (.lookupswitch 36 #[(0, 27), (1, 34)], 27) := by decide +kernel
theorem dX4_number_52 : decode cX4_number 52 = .ok (.aload_n 0, 1) := by decide +kernel
theorem dX4_number_53 : decode cX4_number 53 = .ok (.getfield 11, 3) := by decide +kernel
theorem dX4_number_56 : decode cX4_number 56 = .ok (.iload_n 1, 1) := by decide +kernel
theorem dX4_number_57 : decode cX4_number 57 = .ok (.iaload, 1) := by decide +kernel
theorem dX4_number_58 : decode cX4_number 58 = .ok (.ireturn, 1) := by decide +kernel
theorem dX4_number_59 : decode cX4_number 59 = .ok (.iconst 1, 1) := by decide +kernel
theorem dX4_number_60 : decode cX4_number 60 = .ok (.ireturn, 1) := by decide +kernel
theorem dX4_number_61 : decode cX4_number 61 = .ok (.aload_n 0, 1) := by decide +kernel
theorem dX4_number_62 : decode cX4_number 62 = .ok (.getfield 15, 3) := by decide +kernel
theorem dX4_number_65 : decode cX4_number 65 = .ok (.iload_n 1, 1) := by decide +kernel
theorem dX4_number_66 : decode cX4_number 66 = .ok (.iaload, 1) := by decide +kernel
theorem dX4_number_67 : decode cX4_number 67 = .ok (.ireturn, 1) := by decide +kernel
theorem dX4_blockCount_0 : decode cX4_blockCount 0 = .ok (.aload_n 0, 1) := by decide +kernel
theorem dX4_blockCount_1 : decode cX4_blockCount 1 = .ok (.getfield 21, 3) := by decide +kernel
theorem dX4_blockCount_4 : decode cX4_blockCount 4 = .ok (.iconst 1, 1) := by decide +kernel
theorem dX4_blockCount_5 : decode cX4_blockCount 5 = .ok (.iadd, 1) := by decide +kernel
theorem dX4_blockCount_6 : decode cX4_blockCount 6 = .ok (.ireturn, 1) := by decide +kernel
theorem dX4_openSize_0 : decode cX4_openSize 0 = .ok (.aload_n 0, 1) := by decide +kernel
theorem dX4_openSize_1 : decode cX4_openSize 1 = .ok (.getfield 31, 3) := by decide +kernel
theorem dX4_openSize_4 : decode cX4_openSize 4 = .ok (.aload_n 0, 1) := by decide +kernel
theorem dX4_openSize_5 : decode cX4_openSize 5 = .ok (.getfield 25, 3) := by decide +kernel
theorem dX4_openSize_8 : decode cX4_openSize 8 = .ok (.isub, 1) := by decide +kernel
theorem dX4_openSize_9 : decode cX4_openSize 9 = .ok (.ireturn, 1) := by decide +kernel
theorem ggX4_sizeOf_X4_openSize : GoodIn wsX4_sizeOf wsX4_openSize := goodIn_r _ [7, 8, 9, 10, 18, 19, 11, 12, 13, 14, 15, 16, 17] (by decide +kernel) (by decide +kernel)
theorem gX4_sizeOf_X4_openSize : GoodIn wsX4_sizeOf (wsV RX4 34 RX4 yX4_openSize wsX4_openSize) := goodIn_app (goodIn_of _ (by decide +kernel)) ggX4_sizeOf_X4_openSize
theorem dX4_sizeOf_0 : decode cX4_sizeOf 0 = .ok (.iload_n 1, 1) := by decide +kernel
theorem dX4_sizeOf_1 : decode cX4_sizeOf 1 = .ok (.ifCond .lt 29, 3) := by decide +kernel
theorem dX4_sizeOf_4 : decode cX4_sizeOf 4 = .ok (.iload_n 1, 1) := by decide +kernel
theorem dX4_sizeOf_5 : decode cX4_sizeOf 5 = .ok (.aload_n 0, 1) := by decide +kernel
theorem dX4_sizeOf_6 : decode cX4_sizeOf 6 = .ok (.getfield 21, 3) := by decide +kernel
theorem dX4_sizeOf_9 : decode cX4_sizeOf 9 = .ok (.if_icmp .ge 21, 3) := by decide +kernel
theorem dX4_sizeOf_12 : decode cX4_sizeOf 12 = .ok (.iload_n 1, 1) := by decide +kernel
theorem dX4_sizeOf_13 : decode cX4_sizeOf 13 = .ok (.aload_n 0, 1) := by decide +kernel
theorem dX4_sizeOf_14 : decode cX4_sizeOf 14 = .ok (.getfield 18, 3) := by decide +kernel
theorem dX4_sizeOf_17 : decode cX4_sizeOf 17 = .ok (.arraylength, 1) := by decide +kernel
theorem dX4_sizeOf_18 : decode cX4_sizeOf 18 = .ok (.if_icmp .ge 12, 3) := by decide +kernel
theorem dX4_sizeOf_21 : decode cX4_sizeOf 21 = .ok (.aload_n 0, 1) := by decide +kernel
theorem dX4_sizeOf_22 : decode cX4_sizeOf 22 = .ok (.getfield 18, 3) := by decide +kernel
theorem dX4_sizeOf_25 : decode cX4_sizeOf 25 = .ok (.iload_n 1, 1) := by decide +kernel
theorem dX4_sizeOf_26 : decode cX4_sizeOf 26 = .ok (.iaload, 1) := by decide +kernel
theorem dX4_sizeOf_27 : decode cX4_sizeOf 27 = .ok (.goto 7, 3) := by decide +kernel
theorem dX4_sizeOf_30 : decode cX4_sizeOf 30 = .ok (.aload_n 0, 1) := by decide +kernel
theorem dX4_sizeOf_31 : decode cX4_sizeOf 31 = .ok (.invokevirtual 34, 3) := by decide +kernel
theorem dX4_sizeOf_34 : decode cX4_sizeOf 34 = .ok (.ireturn, 1) := by decide +kernel
theorem ggX4_startOf_X4_sizeOf : GoodIn wsX4_startOf wsX4_sizeOf := goodIn_r _ [6, 1, 7, 8, 9, 10, 5, 11, 12, 13, 14, 15, 16, 17, 18, 19, 20, 21, 22, 23] (by decide +kernel) (by decide +kernel)
theorem gX4_startOf_X4_sizeOf : GoodIn wsX4_startOf (wsV RX4 38 RX4 yX4_sizeOf wsX4_sizeOf) := goodIn_app (goodIn_of _ (by decide +kernel)) ggX4_startOf_X4_sizeOf
theorem dX4_startOf_0 : decode cX4_startOf 0 = .ok (.iconst 0, 1) := by decide +kernel
theorem dX4_startOf_1 : decode cX4_startOf 1 = .ok (.istore_n 2, 1) := by decide +kernel
theorem dX4_startOf_2 : decode cX4_startOf 2 = .ok (.iconst 0, 1) := by decide +kernel
theorem dX4_startOf_3 : decode cX4_startOf 3 = .ok (.istore_n 3, 1) := by decide +kernel
theorem dX4_startOf_4 : decode cX4_startOf 4 = .ok (.iload_n 3, 1) := by decide +kernel
theorem dX4_startOf_5 : decode cX4_startOf 5 = .ok (.iload_n 1, 1) := by decide +kernel
theorem dX4_startOf_6 : decode cX4_startOf 6 = .ok (.if_icmp .ge 25, 3) := by decide +kernel
theorem dX4_startOf_9 : decode cX4_startOf 9 = .ok (.iload_n 3, 1) := by decide +kernel
theorem dX4_startOf_10 : decode cX4_startOf 10 = .ok (.aload_n 0, 1) := by decide +kernel
theorem dX4_startOf_11 : decode cX4_startOf 11 = .ok (.getfield 21, 3) := by decide +kernel
theorem dX4_startOf_14 : decode cX4_startOf 14 = .ok (.if_icmp .ge 17, 3) := by decide +kernel
theorem dX4_startOf_17 : decode cX4_startOf 17 = .ok (.iload_n 2, 1) := by decide +kernel
theorem dX4_startOf_18 : decode cX4_startOf 18 = .ok (.aload_n 0, 1) := by decide +kernel
theorem dX4_startOf_19 : decode cX4_startOf 19 = .ok (.iload_n 3, 1) := by decide +kernel
theorem dX4_startOf_20 : decode cX4_startOf 20 = .ok (.invokevirtual 38, 3) := by decide +kernel
theorem dX4_startOf_23 : decode cX4_startOf 23 = .ok (.iadd, 1) := by decide +kernel
theorem dX4_startOf_24 : decode cX4_startOf 24 = .ok (.istore_n 2, 1) := by decide +kernel
theorem dX4_startOf_25 : decode cX4_startOf 25 = .ok (.iinc 3 1, 3) := by decide +kernel
theorem dX4_startOf_28 : decode cX4_startOf 28 = .ok (.goto (-24), 3) := by decide +kernel
theorem dX4_startOf_31 : decode cX4_startOf 31 = .ok (.iload_n 2, 1) := by decide +kernel
theorem dX4_startOf_32 : decode cX4_startOf 32 = .ok (.ireturn, 1) := by decide +kernel
theorem dX4_isLate_0 : decode cX4_isLate 0 = .ok (.iload_n 1, 1) := by decide +kernel
theorem dX4_isLate_1 : decode cX4_isLate 1 = .ok (.aload_n 0, 1) := by decide +kernel
theorem dX4_isLate_2 : decode cX4_isLate 2 = .ok (.getfield 28, 3) := by decide +kernel
theorem dX4_isLate_5 : decode cX4_isLate 5 = .ok (.if_icmp .gt 7, 3) := by decide +kernel
theorem dX4_isLate_8 : decode cX4_isLate 8 = .ok (.iconst 1, 1) := by decide +kernel
theorem dX4_isLate_9 : decode cX4_isLate 9 = .ok (.goto 4, 3) := by decide +kernel
theorem dX4_isLate_12 : decode cX4_isLate 12 = .ok (.iconst 0, 1) := by decide +kernel
theorem dX4_isLate_13 : decode cX4_isLate 13 = .ok (.ireturn, 1) := by decide +kernel
theorem ggX4_placeOf_X4_number : GoodIn wsX4_placeOf wsX4_number := goodIn_r _ [8, 9, 10, 11, 12, 13, 14, 15, 16, 17] (by decide +kernel) (by decide +kernel)
theorem gX4_placeOf_X4_number : GoodIn wsX4_placeOf (wsV RX4 42 RX4 yX4_number wsX4_number) := goodIn_app (goodIn_of _ (by decide +kernel)) ggX4_placeOf_X4_number
theorem dX4_placeOf_0 : decode cX4_placeOf 0 = .ok (.aload_n 0, 1) := by decide +kernel
theorem dX4_placeOf_1 : decode cX4_placeOf 1 = .ok (.getfield 25, 3) := by decide +kernel
theorem dX4_placeOf_4 : decode cX4_placeOf 4 = .ok (.istore_n 2, 1) := by decide +kernel
theorem dX4_placeOf_5 : decode cX4_placeOf 5 = .ok (.iload_n 2, 1) := by decide +kernel
theorem dX4_placeOf_6 : decode cX4_placeOf 6 = .ok (.aload_n 0, 1) := by decide +kernel
theorem dX4_placeOf_7 : decode cX4_placeOf 7 = .ok (.getfield 31, 3) := by decide +kernel
theorem dX4_placeOf_10 : decode cX4_placeOf 10 = .ok (.if_icmp .ge 21, 3) := by decide +kernel
theorem dX4_placeOf_13 : decode cX4_placeOf 13 = .ok (.aload_n 0, 1) := by decide +kernel
theorem dX4_placeOf_14 : decode cX4_placeOf 14 = .ok (.iload_n 2, 1) := by decide +kernel
theorem dX4_placeOf_15 : decode cX4_placeOf 15 = .ok (.iconst 0, 1) := by decide +kernel
theorem dX4_placeOf_16 : decode cX4_placeOf 16 = .ok (.invokevirtual 42, 3) := by decide +kernel
theorem dX4_placeOf_19 : decode cX4_placeOf 19 = .ok (.iload_n 1, 1) := by decide +kernel
theorem dX4_placeOf_20 : decode cX4_placeOf 20 = .ok (.if_icmp .lt 5, 3) := by decide +kernel
theorem dX4_placeOf_23 : decode cX4_placeOf 23 = .ok (.iload_n 2, 1) := by decide +kernel
theorem dX4_placeOf_24 : decode cX4_placeOf 24 = .ok (.ireturn, 1) := by decide +kernel
theorem dX4_placeOf_25 : decode cX4_placeOf 25 = .ok (.iinc 2 1, 3) := by decide +kernel
theorem dX4_placeOf_28 : decode cX4_placeOf 28 = .ok (.goto (-23), 3) := by decide +kernel
theorem dX4_placeOf_31 : decode cX4_placeOf 31 = .ok (.aload_n 0, 1) := by decide +kernel
theorem dX4_placeOf_32 : decode cX4_placeOf 32 = .ok (.getfield 31, 3) := by decide +kernel
theorem dX4_placeOf_35 : decode cX4_placeOf 35 = .ok (.ireturn, 1) := by decide +kernel
theorem ggX4_isTakenAt_X4_number : GoodIn wsX4_isTakenAt wsX4_number := goodIn_r _ [7, 8, 9, 12, 13, 14, 15, 16, 17, 18] (by decide +kernel) (by decide +kernel)
theorem gX4_isTakenAt_X4_number : GoodIn wsX4_isTakenAt (wsV RX4 42 RX4 yX4_number wsX4_number) := goodIn_app (goodIn_of _ (by decide +kernel)) ggX4_isTakenAt_X4_number
theorem dX4_isTakenAt_0 : decode cX4_isTakenAt 0 = .ok (.iload_n 1, 1) := by decide +kernel
theorem dX4_isTakenAt_1 : decode cX4_isTakenAt 1 = .ok (.aload_n 0, 1) := by decide +kernel
theorem dX4_isTakenAt_2 : decode cX4_isTakenAt 2 = .ok (.getfield 31, 3) := by decide +kernel
theorem dX4_isTakenAt_5 : decode cX4_isTakenAt 5 = .ok (.if_icmp .ge 17, 3) := by decide +kernel
theorem dX4_isTakenAt_8 : decode cX4_isTakenAt 8 = .ok (.aload_n 0, 1) := by decide +kernel
theorem dX4_isTakenAt_9 : decode cX4_isTakenAt 9 = .ok (.iload_n 1, 1) := by decide +kernel
theorem dX4_isTakenAt_10 : decode cX4_isTakenAt 10 = .ok (.iconst 0, 1) := by decide +kernel
theorem dX4_isTakenAt_11 : decode cX4_isTakenAt 11 = .ok (.invokevirtual 42, 3) := by decide +kernel
theorem dX4_isTakenAt_14 : decode cX4_isTakenAt 14 = .ok (.iload_n 2, 1) := by decide +kernel
theorem dX4_isTakenAt_15 : decode cX4_isTakenAt 15 = .ok (.if_icmp .ne 7, 3) := by decide +kernel
theorem dX4_isTakenAt_18 : decode cX4_isTakenAt 18 = .ok (.iconst 1, 1) := by decide +kernel
theorem dX4_isTakenAt_19 : decode cX4_isTakenAt 19 = .ok (.goto 4, 3) := by decide +kernel
theorem dX4_isTakenAt_22 : decode cX4_isTakenAt 22 = .ok (.iconst 0, 1) := by decide +kernel
theorem dX4_isTakenAt_23 : decode cX4_isTakenAt 23 = .ok (.ireturn, 1) := by decide +kernel
theorem ggX4_add_X4_placeOf : GoodIn wsX4_add wsX4_placeOf := goodIn_r _ [7, 8, 1, 2, 9, 10, 11, 6, 12, 13, 14, 29, 30, 31, 32, 33, 34, 35, 27, 28] (by decide +kernel) (by decide +kernel)
theorem gX4_add_X4_placeOf : GoodIn wsX4_add (wsV RX4 46 RX4 yX4_placeOf wsX4_placeOf) := goodIn_app (goodIn_of _ (by decide +kernel)) ggX4_add_X4_placeOf
theorem ggX4_add_X4_isTakenAt : GoodIn wsX4_add wsX4_isTakenAt := goodIn_r _ [18, 1, 2, 9, 10, 11, 6, 12, 13, 14, 27, 28, 29, 30, 31, 32, 33, 34, 35] (by decide +kernel) (by decide +kernel)
theorem gX4_add_X4_isTakenAt : GoodIn wsX4_add (wsV RX4 49 RX4 yX4_isTakenAt wsX4_isTakenAt) := goodIn_app (goodIn_of _ (by decide +kernel)) ggX4_add_X4_isTakenAt
theorem ggX4_add_X4_copyPoint : GoodIn wsX4_add wsX4_copyPoint := goodIn_r _ [22, 9, 10, 11, 6, 12, 13, 14, 23, 24, 25, 26, 29, 30, 31, 32, 33, 34, 35] (by decide +kernel) (by decide +kernel)
theorem gX4_add_X4_copyPoint : GoodIn wsX4_add (wsV RX4 53 RX4 yX4_copyPoint wsX4_copyPoint) := goodIn_app (goodIn_of _ (by decide +kernel)) ggX4_add_X4_copyPoint
theorem ggX4_add_X4_write : GoodIn wsX4_add wsX4_write := goodIn_r _ [26, 13, 14, 29, 30, 31, 32, 33, 34, 35] (by decide +kernel) (by decide +kernel)
theorem gX4_add_X4_write : GoodIn wsX4_add (wsV RX4 57 RX4 yX4_write wsX4_write) := goodIn_app (goodIn_of _ (by decide +kernel)) ggX4_add_X4_write
theorem dX4_add_0 : decode cX4_add 0 = .ok (.aload_n 0, 1) := by decide +kernel
theorem dX4_add_1 : decode cX4_add 1 = .ok (.iload_n 1, 1) := by decide +kernel
theorem dX4_add_2 : decode cX4_add 2 = .ok (.invokevirtual 46, 3) := by decide +kernel
theorem dX4_add_5 : decode cX4_add 5 = .ok (.istore_n 3, 1) := by decide +kernel
theorem dX4_add_6 : decode cX4_add 6 = .ok (.aload_n 0, 1) := by decide +kernel
theorem dX4_add_7 : decode cX4_add 7 = .ok (.iload_n 3, 1) := by decide +kernel
theorem dX4_add_8 : decode cX4_add 8 = .ok (.iload_n 1, 1) := by decide +kernel
theorem dX4_add_9 : decode cX4_add 9 = .ok (.invokevirtual 49, 3) := by decide +kernel
theorem dX4_add_12 : decode cX4_add 12 = .ok (.ifCond .ne 41, 3) := by decide +kernel
theorem dX4_add_15 : decode cX4_add 15 = .ok (.aload_n 0, 1) := by decide +kernel
theorem dX4_add_16 : decode cX4_add 16 = .ok (.getfield 31, 3) := by decide +kernel
theorem dX4_add_19 : decode cX4_add 19 = .ok (.istore 4, 2) := by decide +kernel
theorem dX4_add_21 : decode cX4_add 21 = .ok (.iload 4, 2) := by decide +kernel
theorem dX4_add_23 : decode cX4_add 23 = .ok (.iload_n 3, 1) := by decide +kernel
theorem dX4_add_24 : decode cX4_add 24 = .ok (.if_icmp .le 19, 3) := by decide +kernel
theorem dX4_add_27 : decode cX4_add 27 = .ok (.aload_n 0, 1) := by decide +kernel
theorem dX4_add_28 : decode cX4_add 28 = .ok (.iload 4, 2) := by decide +kernel
theorem dX4_add_30 : decode cX4_add 30 = .ok (.iconst 1, 1) := by decide +kernel
theorem dX4_add_31 : decode cX4_add 31 = .ok (.isub, 1) := by decide +kernel
theorem dX4_add_32 : decode cX4_add 32 = .ok (.iload 4, 2) := by decide +kernel
theorem dX4_add_34 : decode cX4_add 34 = .ok (.invokevirtual 53, 3) := by decide +kernel
theorem dX4_add_37 : decode cX4_add 37 = .ok (.iinc 4 (-1), 3) := by decide +kernel
theorem dX4_add_40 : decode cX4_add 40 = .ok (.goto (-19), 3) := by decide +kernel
theorem dX4_add_43 : decode cX4_add 43 = .ok (.aload_n 0, 1) := by decide +kernel
theorem dX4_add_44 : decode cX4_add 44 = .ok (.dup, 1) := by decide +kernel
theorem dX4_add_45 : decode cX4_add 45 = .ok (.getfield 31, 3) := by decide +kernel
theorem dX4_add_48 : decode cX4_add 48 = .ok (.iconst 1, 1) := by decide +kernel
theorem dX4_add_49 : decode cX4_add 49 = .ok (.iadd, 1) := by decide +kernel
theorem dX4_add_50 : decode cX4_add 50 = .ok (.putfield 31, 3) := by decide +kernel
theorem dX4_add_53 : decode cX4_add 53 = .ok (.aload_n 0, 1) := by decide +kernel
theorem dX4_add_54 : decode cX4_add 54 = .ok (.iload_n 3, 1) := by decide +kernel
theorem dX4_add_55 : decode cX4_add 55 = .ok (.iload_n 1, 1) := by decide +kernel
theorem dX4_add_56 : decode cX4_add 56 = .ok (.iload_n 2, 1) := by decide +kernel
theorem dX4_add_57 : decode cX4_add 57 = .ok (.invokevirtual 57, 3) := by decide +kernel
theorem dX4_add_60 : decode cX4_add 60 = .ok (.return_, 1) := by decide +kernel
theorem dX4_hasTooManySealed_0 : decode cX4_hasTooManySealed 0 = .ok (.aload_n 0, 1) := by decide +kernel
theorem dX4_hasTooManySealed_1 : decode cX4_hasTooManySealed 1 = .ok (.getfield 21, 3) := by decide +kernel
theorem dX4_hasTooManySealed_4 : decode cX4_hasTooManySealed 4 = .ok (.bipush 8, 2) := by decide +kernel
theorem dX4_hasTooManySealed_6 : decode cX4_hasTooManySealed 6 = .ok (.if_icmp .le 7, 3) := by decide +kernel
theorem dX4_hasTooManySealed_9 : decode cX4_hasTooManySealed 9 = .ok (.iconst 1, 1) := by decide +kernel
theorem dX4_hasTooManySealed_10 : decode cX4_hasTooManySealed 10 = .ok (.goto 4, 3) := by decide +kernel
theorem dX4_hasTooManySealed_13 : decode cX4_hasTooManySealed 13 = .ok (.iconst 0, 1) := by decide +kernel
theorem dX4_hasTooManySealed_14 : decode cX4_hasTooManySealed 14 = .ok (.ireturn, 1) := by decide +kernel
theorem ggX4_seal_X4_openSize : GoodIn wsX4_seal wsX4_openSize := goodIn_r _ [11, 3, 4, 5, 25, 26, 18, 19, 20, 21, 22, 23, 24] (by decide +kernel) (by decide +kernel)
theorem gX4_seal_X4_openSize : GoodIn wsX4_seal (wsV RX4 34 RX4 yX4_openSize wsX4_openSize) := goodIn_app (goodIn_of _ (by decide +kernel)) ggX4_seal_X4_openSize
theorem ggX4_seal_X4_number : GoodIn wsX4_seal wsX4_number := goodIn_r _ [15, 16, 17, 18, 19, 20, 21, 22, 23, 24] (by decide +kernel) (by decide +kernel)
theorem gX4_seal_X4_number : GoodIn wsX4_seal (wsV RX4 42 RX4 yX4_number wsX4_number) := goodIn_app (goodIn_of _ (by decide +kernel)) ggX4_seal_X4_number
theorem dX4_seal_0 : decode cX4_seal 0 = .ok (.aload_n 0, 1) := by decide +kernel
theorem dX4_seal_1 : decode cX4_seal 1 = .ok (.getfield 21, 3) := by decide +kernel
theorem dX4_seal_4 : decode cX4_seal 4 = .ok (.aload_n 0, 1) := by decide +kernel
theorem dX4_seal_5 : decode cX4_seal 5 = .ok (.getfield 18, 3) := by decide +kernel
theorem dX4_seal_8 : decode cX4_seal 8 = .ok (.arraylength, 1) := by decide +kernel
theorem dX4_seal_9 : decode cX4_seal 9 = .ok (.if_icmp .ge 56, 3) := by decide +kernel
theorem dX4_seal_12 : decode cX4_seal 12 = .ok (.aload_n 0, 1) := by decide +kernel
theorem dX4_seal_13 : decode cX4_seal 13 = .ok (.invokevirtual 34, 3) := by decide +kernel
theorem dX4_seal_16 : decode cX4_seal 16 = .ok (.ifCond .le 49, 3) := by decide +kernel
theorem dX4_seal_19 : decode cX4_seal 19 = .ok (.aload_n 0, 1) := by decide +kernel
theorem dX4_seal_20 : decode cX4_seal 20 = .ok (.getfield 18, 3) := by decide +kernel
theorem dX4_seal_23 : decode cX4_seal 23 = .ok (.aload_n 0, 1) := by decide +kernel
theorem dX4_seal_24 : decode cX4_seal 24 = .ok (.getfield 21, 3) := by decide +kernel
theorem dX4_seal_27 : decode cX4_seal 27 = .ok (.aload_n 0, 1) := by decide +kernel
theorem dX4_seal_28 : decode cX4_seal 28 = .ok (.invokevirtual 34, 3) := by decide +kernel
theorem dX4_seal_31 : decode cX4_seal 31 = .ok (.iastore, 1) := by decide +kernel
theorem dX4_seal_32 : decode cX4_seal 32 = .ok (.aload_n 0, 1) := by decide +kernel
theorem dX4_seal_33 : decode cX4_seal 33 = .ok (.dup, 1) := by decide +kernel
theorem dX4_seal_34 : decode cX4_seal 34 = .ok (.getfield 21, 3) := by decide +kernel
theorem dX4_seal_37 : decode cX4_seal 37 = .ok (.iconst 1, 1) := by decide +kernel
theorem dX4_seal_38 : decode cX4_seal 38 = .ok (.iadd, 1) := by decide +kernel
theorem dX4_seal_39 : decode cX4_seal 39 = .ok (.putfield 21, 3) := by decide +kernel
theorem dX4_seal_42 : decode cX4_seal 42 = .ok (.aload_n 0, 1) := by decide +kernel
theorem dX4_seal_43 : decode cX4_seal 43 = .ok (.aload_n 0, 1) := by decide +kernel
theorem dX4_seal_44 : decode cX4_seal 44 = .ok (.getfield 31, 3) := by decide +kernel
theorem dX4_seal_47 : decode cX4_seal 47 = .ok (.putfield 25, 3) := by decide +kernel
theorem dX4_seal_50 : decode cX4_seal 50 = .ok (.aload_n 0, 1) := by decide +kernel
theorem dX4_seal_51 : decode cX4_seal 51 = .ok (.aload_n 0, 1) := by decide +kernel
theorem dX4_seal_52 : decode cX4_seal 52 = .ok (.aload_n 0, 1) := by decide +kernel
theorem dX4_seal_53 : decode cX4_seal 53 = .ok (.getfield 31, 3) := by decide +kernel
theorem dX4_seal_56 : decode cX4_seal 56 = .ok (.iconst 1, 1) := by decide +kernel
theorem dX4_seal_57 : decode cX4_seal 57 = .ok (.isub, 1) := by decide +kernel
theorem dX4_seal_58 : decode cX4_seal 58 = .ok (.iconst 0, 1) := by decide +kernel
theorem dX4_seal_59 : decode cX4_seal 59 = .ok (.invokevirtual 42, 3) := by decide +kernel
theorem dX4_seal_62 : decode cX4_seal 62 = .ok (.putfield 28, 3) := by decide +kernel
theorem dX4_seal_65 : decode cX4_seal 65 = .ok (.return_, 1) := by decide +kernel
theorem ggX4_dropFirstBlock_X4_sizeOf : GoodIn wsX4_dropFirstBlock wsX4_sizeOf := goodIn_r _ [10, 1, 4, 11, 12, 13, 9, 14, 2, 3, 5, 29, 30, 31, 32, 33, 34, 35, 36, 37] (by decide +kernel) (by decide +kernel)
theorem gX4_dropFirstBlock_X4_sizeOf : GoodIn wsX4_dropFirstBlock (wsV RX4 38 RX4 yX4_sizeOf wsX4_sizeOf) := goodIn_app (goodIn_of _ (by decide +kernel)) ggX4_dropFirstBlock_X4_sizeOf
theorem ggX4_dropFirstBlock_X4_copyPoint : GoodIn wsX4_dropFirstBlock wsX4_copyPoint := goodIn_r _ [18, 19, 20, 21, 9, 22, 23, 24, 25, 26, 27, 28, 29, 30, 31, 32, 33, 34, 35] (by decide +kernel) (by decide +kernel)
theorem gX4_dropFirstBlock_X4_copyPoint : GoodIn wsX4_dropFirstBlock (wsV RX4 53 RX4 yX4_copyPoint wsX4_copyPoint) := goodIn_app (goodIn_of _ (by decide +kernel)) ggX4_dropFirstBlock_X4_copyPoint
theorem dX4_dropFirstBlock_0 : decode cX4_dropFirstBlock 0 = .ok (.aload_n 0, 1) := by decide +kernel
theorem dX4_dropFirstBlock_1 : decode cX4_dropFirstBlock 1 = .ok (.getfield 21, 3) := by decide +kernel
theorem dX4_dropFirstBlock_4 : decode cX4_dropFirstBlock 4 = .ok (.ifCond .gt 4, 3) := by decide +kernel
theorem dX4_dropFirstBlock_7 : decode cX4_dropFirstBlock 7 = .ok (.return_, 1) := by decide +kernel
theorem dX4_dropFirstBlock_8 : decode cX4_dropFirstBlock 8 = .ok (.aload_n 0, 1) := by decide +kernel
theorem dX4_dropFirstBlock_9 : decode cX4_dropFirstBlock 9 = .ok (.iconst 0, 1) := by decide +kernel
theorem dX4_dropFirstBlock_10 : decode cX4_dropFirstBlock 10 = .ok (.invokevirtual 38, 3) := by decide +kernel
theorem dX4_dropFirstBlock_13 : decode cX4_dropFirstBlock 13 = .ok (.istore_n 1, 1) := by decide +kernel
theorem dX4_dropFirstBlock_14 : decode cX4_dropFirstBlock 14 = .ok (.iload_n 1, 1) := by decide +kernel
theorem dX4_dropFirstBlock_15 : decode cX4_dropFirstBlock 15 = .ok (.istore_n 2, 1) := by decide +kernel
theorem dX4_dropFirstBlock_16 : decode cX4_dropFirstBlock 16 = .ok (.iload_n 2, 1) := by decide +kernel
theorem dX4_dropFirstBlock_17 : decode cX4_dropFirstBlock 17 = .ok (.aload_n 0, 1) := by decide +kernel
theorem dX4_dropFirstBlock_18 : decode cX4_dropFirstBlock 18 = .ok (.getfield 31, 3) := by decide +kernel
theorem dX4_dropFirstBlock_21 : decode cX4_dropFirstBlock 21 = .ok (.if_icmp .ge 17, 3) := by decide +kernel
theorem dX4_dropFirstBlock_24 : decode cX4_dropFirstBlock 24 = .ok (.aload_n 0, 1) := by decide +kernel
theorem dX4_dropFirstBlock_25 : decode cX4_dropFirstBlock 25 = .ok (.iload_n 2, 1) := by decide +kernel
theorem dX4_dropFirstBlock_26 : decode cX4_dropFirstBlock 26 = .ok (.iload_n 2, 1) := by decide +kernel
theorem dX4_dropFirstBlock_27 : decode cX4_dropFirstBlock 27 = .ok (.iload_n 1, 1) := by decide +kernel
theorem dX4_dropFirstBlock_28 : decode cX4_dropFirstBlock 28 = .ok (.isub, 1) := by decide +kernel
theorem dX4_dropFirstBlock_29 : decode cX4_dropFirstBlock 29 = .ok (.invokevirtual 53, 3) := by decide +kernel
theorem dX4_dropFirstBlock_32 : decode cX4_dropFirstBlock 32 = .ok (.iinc 2 1, 3) := by decide +kernel
theorem dX4_dropFirstBlock_35 : decode cX4_dropFirstBlock 35 = .ok (.goto (-19), 3) := by decide +kernel
theorem dX4_dropFirstBlock_38 : decode cX4_dropFirstBlock 38 = .ok (.iconst 1, 1) := by decide +kernel
theorem dX4_dropFirstBlock_39 : decode cX4_dropFirstBlock 39 = .ok (.istore_n 2, 1) := by decide +kernel
theorem dX4_dropFirstBlock_40 : decode cX4_dropFirstBlock 40 = .ok (.iload_n 2, 1) := by decide +kernel
theorem dX4_dropFirstBlock_41 : decode cX4_dropFirstBlock 41 = .ok (.aload_n 0, 1) := by decide +kernel
theorem dX4_dropFirstBlock_42 : decode cX4_dropFirstBlock 42 = .ok (.getfield 21, 3) := by decide +kernel
theorem dX4_dropFirstBlock_45 : decode cX4_dropFirstBlock 45 = .ok (.if_icmp .ge 32, 3) := by decide +kernel
theorem dX4_dropFirstBlock_48 : decode cX4_dropFirstBlock 48 = .ok (.iload_n 2, 1) := by decide +kernel
theorem dX4_dropFirstBlock_49 : decode cX4_dropFirstBlock 49 = .ok (.aload_n 0, 1) := by decide +kernel
theorem dX4_dropFirstBlock_50 : decode cX4_dropFirstBlock 50 = .ok (.getfield 18, 3) := by decide +kernel
theorem dX4_dropFirstBlock_53 : decode cX4_dropFirstBlock 53 = .ok (.arraylength, 1) := by decide +kernel
theorem dX4_dropFirstBlock_54 : decode cX4_dropFirstBlock 54 = .ok (.if_icmp .ge 23, 3) := by decide +kernel
theorem dX4_dropFirstBlock_57 : decode cX4_dropFirstBlock 57 = .ok (.aload_n 0, 1) := by decide +kernel
theorem dX4_dropFirstBlock_58 : decode cX4_dropFirstBlock 58 = .ok (.getfield 18, 3) := by decide +kernel
theorem dX4_dropFirstBlock_61 : decode cX4_dropFirstBlock 61 = .ok (.iload_n 2, 1) := by decide +kernel
theorem dX4_dropFirstBlock_62 : decode cX4_dropFirstBlock 62 = .ok (.iconst 1, 1) := by decide +kernel
theorem dX4_dropFirstBlock_63 : decode cX4_dropFirstBlock 63 = .ok (.isub, 1) := by decide +kernel
theorem dX4_dropFirstBlock_64 : decode cX4_dropFirstBlock 64 = .ok (.aload_n 0, 1) := by decide +kernel
theorem dX4_dropFirstBlock_65 : decode cX4_dropFirstBlock 65 = .ok (.getfield 18, 3) := by decide +kernel
theorem dX4_dropFirstBlock_68 : decode cX4_dropFirstBlock 68 = .ok (.iload_n 2, 1) := by decide +kernel
theorem dX4_dropFirstBlock_69 : decode cX4_dropFirstBlock 69 = .ok (.iaload, 1) := by decide +kernel
theorem dX4_dropFirstBlock_70 : decode cX4_dropFirstBlock 70 = .ok (.iastore, 1) := by decide +kernel
theorem dX4_dropFirstBlock_71 : decode cX4_dropFirstBlock 71 = .ok (.iinc 2 1, 3) := by decide +kernel
theorem dX4_dropFirstBlock_74 : decode cX4_dropFirstBlock 74 = .ok (.goto (-34), 3) := by decide +kernel
theorem dX4_dropFirstBlock_77 : decode cX4_dropFirstBlock 77 = .ok (.aload_n 0, 1) := by decide +kernel
theorem dX4_dropFirstBlock_78 : decode cX4_dropFirstBlock 78 = .ok (.dup, 1) := by decide +kernel
theorem dX4_dropFirstBlock_79 : decode cX4_dropFirstBlock 79 = .ok (.getfield 31, 3) := by decide +kernel
theorem dX4_dropFirstBlock_82 : decode cX4_dropFirstBlock 82 = .ok (.iload_n 1, 1) := by decide +kernel
theorem dX4_dropFirstBlock_83 : decode cX4_dropFirstBlock 83 = .ok (.isub, 1) := by decide +kernel
theorem dX4_dropFirstBlock_84 : decode cX4_dropFirstBlock 84 = .ok (.putfield 31, 3) := by decide +kernel
theorem dX4_dropFirstBlock_87 : decode cX4_dropFirstBlock 87 = .ok (.aload_n 0, 1) := by decide +kernel
theorem dX4_dropFirstBlock_88 : decode cX4_dropFirstBlock 88 = .ok (.dup, 1) := by decide +kernel
theorem dX4_dropFirstBlock_89 : decode cX4_dropFirstBlock 89 = .ok (.getfield 25, 3) := by decide +kernel
theorem dX4_dropFirstBlock_92 : decode cX4_dropFirstBlock 92 = .ok (.iload_n 1, 1) := by decide +kernel
theorem dX4_dropFirstBlock_93 : decode cX4_dropFirstBlock 93 = .ok (.isub, 1) := by decide +kernel
theorem dX4_dropFirstBlock_94 : decode cX4_dropFirstBlock 94 = .ok (.putfield 25, 3) := by decide +kernel
theorem dX4_dropFirstBlock_97 : decode cX4_dropFirstBlock 97 = .ok (.aload_n 0, 1) := by decide +kernel
theorem dX4_dropFirstBlock_98 : decode cX4_dropFirstBlock 98 = .ok (.dup, 1) := by decide +kernel
theorem dX4_dropFirstBlock_99 : decode cX4_dropFirstBlock 99 = .ok (.getfield 21, 3) := by decide +kernel
theorem dX4_dropFirstBlock_102 : decode cX4_dropFirstBlock 102 = .ok (.iconst 1, 1) := by decide +kernel
theorem dX4_dropFirstBlock_103 : decode cX4_dropFirstBlock 103 = .ok (.isub, 1) := by decide +kernel
theorem dX4_dropFirstBlock_104 : decode cX4_dropFirstBlock 104 = .ok (.putfield 21, 3) := by decide +kernel
theorem dX4_dropFirstBlock_107 : decode cX4_dropFirstBlock 107 = .ok (.return_, 1) := by decide +kernel
theorem ggX4_blocksBelow_X4_sizeOf : GoodIn wsX4_blocksBelow wsX4_sizeOf := goodIn_r _ [6, 1, 7, 8, 9, 10, 5, 11, 12, 13, 14, 21, 22, 23, 24, 25, 26, 27, 28, 29] (by decide +kernel) (by decide +kernel)
theorem gX4_blocksBelow_X4_sizeOf : GoodIn wsX4_blocksBelow (wsV RX4 38 RX4 yX4_sizeOf wsX4_sizeOf) := goodIn_app (goodIn_of _ (by decide +kernel)) ggX4_blocksBelow_X4_sizeOf
theorem ggX4_blocksBelow_X4_number : GoodIn wsX4_blocksBelow wsX4_number := goodIn_r _ [18, 19, 20, 21, 22, 23, 24, 25, 26, 27] (by decide +kernel) (by decide +kernel)
theorem gX4_blocksBelow_X4_number : GoodIn wsX4_blocksBelow (wsV RX4 42 RX4 yX4_number wsX4_number) := goodIn_app (goodIn_of _ (by decide +kernel)) ggX4_blocksBelow_X4_number
theorem dX4_blocksBelow_0 : decode cX4_blocksBelow 0 = .ok (.iconst 0, 1) := by decide +kernel
theorem dX4_blocksBelow_1 : decode cX4_blocksBelow 1 = .ok (.istore_n 2, 1) := by decide +kernel
theorem dX4_blocksBelow_2 : decode cX4_blocksBelow 2 = .ok (.iconst 0, 1) := by decide +kernel
theorem dX4_blocksBelow_3 : decode cX4_blocksBelow 3 = .ok (.istore_n 3, 1) := by decide +kernel
theorem dX4_blocksBelow_4 : decode cX4_blocksBelow 4 = .ok (.iload_n 3, 1) := by decide +kernel
theorem dX4_blocksBelow_5 : decode cX4_blocksBelow 5 = .ok (.aload_n 0, 1) := by decide +kernel
theorem dX4_blocksBelow_6 : decode cX4_blocksBelow 6 = .ok (.getfield 21, 3) := by decide +kernel
theorem dX4_blocksBelow_9 : decode cX4_blocksBelow 9 = .ok (.if_icmp .ge 31, 3) := by decide +kernel
theorem dX4_blocksBelow_12 : decode cX4_blocksBelow 12 = .ok (.iload_n 2, 1) := by decide +kernel
theorem dX4_blocksBelow_13 : decode cX4_blocksBelow 13 = .ok (.aload_n 0, 1) := by decide +kernel
theorem dX4_blocksBelow_14 : decode cX4_blocksBelow 14 = .ok (.iload_n 3, 1) := by decide +kernel
theorem dX4_blocksBelow_15 : decode cX4_blocksBelow 15 = .ok (.invokevirtual 38, 3) := by decide +kernel
theorem dX4_blocksBelow_18 : decode cX4_blocksBelow 18 = .ok (.iadd, 1) := by decide +kernel
theorem dX4_blocksBelow_19 : decode cX4_blocksBelow 19 = .ok (.istore_n 2, 1) := by decide +kernel
theorem dX4_blocksBelow_20 : decode cX4_blocksBelow 20 = .ok (.aload_n 0, 1) := by decide +kernel
theorem dX4_blocksBelow_21 : decode cX4_blocksBelow 21 = .ok (.iload_n 2, 1) := by decide +kernel
theorem dX4_blocksBelow_22 : decode cX4_blocksBelow 22 = .ok (.iconst 1, 1) := by decide +kernel
theorem dX4_blocksBelow_23 : decode cX4_blocksBelow 23 = .ok (.isub, 1) := by decide +kernel
theorem dX4_blocksBelow_24 : decode cX4_blocksBelow 24 = .ok (.iconst 0, 1) := by decide +kernel
theorem dX4_blocksBelow_25 : decode cX4_blocksBelow 25 = .ok (.invokevirtual 42, 3) := by decide +kernel
theorem dX4_blocksBelow_28 : decode cX4_blocksBelow 28 = .ok (.iload_n 1, 1) := by decide +kernel
theorem dX4_blocksBelow_29 : decode cX4_blocksBelow 29 = .ok (.if_icmp .lt 5, 3) := by decide +kernel
theorem dX4_blocksBelow_32 : decode cX4_blocksBelow 32 = .ok (.iload_n 3, 1) := by decide +kernel
theorem dX4_blocksBelow_33 : decode cX4_blocksBelow 33 = .ok (.ireturn, 1) := by decide +kernel
theorem dX4_blocksBelow_34 : decode cX4_blocksBelow 34 = .ok (.iinc 3 1, 3) := by decide +kernel
theorem dX4_blocksBelow_37 : decode cX4_blocksBelow 37 = .ok (.goto (-33), 3) := by decide +kernel
theorem dX4_blocksBelow_40 : decode cX4_blocksBelow 40 = .ok (.aload_n 0, 1) := by decide +kernel
theorem dX4_blocksBelow_41 : decode cX4_blocksBelow 41 = .ok (.getfield 21, 3) := by decide +kernel
theorem dX4_blocksBelow_44 : decode cX4_blocksBelow 44 = .ok (.ireturn, 1) := by decide +kernel
theorem ggX4_copyFrom_X4_number : GoodIn wsX4_copyFrom wsX4_number := goodIn_r _ [11, 12, 13, 28, 29, 30, 31, 32, 33, 34] (by decide +kernel) (by decide +kernel)
theorem gX4_copyFrom_X4_number : GoodIn wsX4_copyFrom (wsV RX4 42 RX4 yX4_number wsX4_number) := goodIn_app (goodIn_of _ (by decide +kernel)) ggX4_copyFrom_X4_number
theorem ggX4_copyFrom_X4_write : GoodIn wsX4_copyFrom wsX4_write := goodIn_r _ [17, 12, 13, 28, 29, 30, 31, 32, 33, 34] (by decide +kernel) (by decide +kernel)
theorem gX4_copyFrom_X4_write : GoodIn wsX4_copyFrom (wsV RX4 57 RX4 yX4_write wsX4_write) := goodIn_app (goodIn_of _ (by decide +kernel)) ggX4_copyFrom_X4_write
theorem ggX4_copyFrom_X4_sizeOf : GoodIn wsX4_copyFrom wsX4_sizeOf := goodIn_r _ [21, 3, 4, 22, 23, 24, 10, 25, 1, 2, 5, 28, 29, 30, 31, 32, 33, 34, 26, 27] (by decide +kernel) (by decide +kernel)
theorem gX4_copyFrom_X4_sizeOf : GoodIn wsX4_copyFrom (wsV RX4 38 RX4 yX4_sizeOf wsX4_sizeOf) := goodIn_app (goodIn_of _ (by decide +kernel)) ggX4_copyFrom_X4_sizeOf
theorem dX4_copyFrom_0 : decode cX4_copyFrom 0 = .ok (.iconst 0, 1) := by decide +kernel
theorem dX4_copyFrom_1 : decode cX4_copyFrom 1 = .ok (.istore_n 2, 1) := by decide +kernel
theorem dX4_copyFrom_2 : decode cX4_copyFrom 2 = .ok (.iload_n 2, 1) := by decide +kernel
theorem dX4_copyFrom_3 : decode cX4_copyFrom 3 = .ok (.aload_n 1, 1) := by decide +kernel
theorem dX4_copyFrom_4 : decode cX4_copyFrom 4 = .ok (.getfield 31, 3) := by decide +kernel
theorem dX4_copyFrom_7 : decode cX4_copyFrom 7 = .ok (.if_icmp .ge 26, 3) := by decide +kernel
theorem dX4_copyFrom_10 : decode cX4_copyFrom 10 = .ok (.aload_n 0, 1) := by decide +kernel
theorem dX4_copyFrom_11 : decode cX4_copyFrom 11 = .ok (.iload_n 2, 1) := by decide +kernel
theorem dX4_copyFrom_12 : decode cX4_copyFrom 12 = .ok (.aload_n 1, 1) := by decide +kernel
theorem dX4_copyFrom_13 : decode cX4_copyFrom 13 = .ok (.iload_n 2, 1) := by decide +kernel
theorem dX4_copyFrom_14 : decode cX4_copyFrom 14 = .ok (.iconst 0, 1) := by decide +kernel
theorem dX4_copyFrom_15 : decode cX4_copyFrom 15 = .ok (.invokevirtual 42, 3) := by decide +kernel
theorem dX4_copyFrom_18 : decode cX4_copyFrom 18 = .ok (.aload_n 1, 1) := by decide +kernel
theorem dX4_copyFrom_19 : decode cX4_copyFrom 19 = .ok (.iload_n 2, 1) := by decide +kernel
theorem dX4_copyFrom_20 : decode cX4_copyFrom 20 = .ok (.iconst 5, 1) := by decide +kernel
theorem dX4_copyFrom_21 : decode cX4_copyFrom 21 = .ok (.invokevirtual 42, 3) := by decide +kernel
theorem dX4_copyFrom_24 : decode cX4_copyFrom 24 = .ok (.invokevirtual 57, 3) := by decide +kernel
theorem dX4_copyFrom_27 : decode cX4_copyFrom 27 = .ok (.iinc 2 1, 3) := by decide +kernel
theorem dX4_copyFrom_30 : decode cX4_copyFrom 30 = .ok (.goto (-28), 3) := by decide +kernel
theorem dX4_copyFrom_33 : decode cX4_copyFrom 33 = .ok (.iconst 0, 1) := by decide +kernel
theorem dX4_copyFrom_34 : decode cX4_copyFrom 34 = .ok (.istore_n 2, 1) := by decide +kernel
theorem dX4_copyFrom_35 : decode cX4_copyFrom 35 = .ok (.iload_n 2, 1) := by decide +kernel
theorem dX4_copyFrom_36 : decode cX4_copyFrom 36 = .ok (.aload_n 1, 1) := by decide +kernel
theorem dX4_copyFrom_37 : decode cX4_copyFrom 37 = .ok (.getfield 21, 3) := by decide +kernel
theorem dX4_copyFrom_40 : decode cX4_copyFrom 40 = .ok (.if_icmp .ge 29, 3) := by decide +kernel
theorem dX4_copyFrom_43 : decode cX4_copyFrom 43 = .ok (.iload_n 2, 1) := by decide +kernel
theorem dX4_copyFrom_44 : decode cX4_copyFrom 44 = .ok (.aload_n 0, 1) := by decide +kernel
theorem dX4_copyFrom_45 : decode cX4_copyFrom 45 = .ok (.getfield 18, 3) := by decide +kernel
theorem dX4_copyFrom_48 : decode cX4_copyFrom 48 = .ok (.arraylength, 1) := by decide +kernel
theorem dX4_copyFrom_49 : decode cX4_copyFrom 49 = .ok (.if_icmp .ge 20, 3) := by decide +kernel
theorem dX4_copyFrom_52 : decode cX4_copyFrom 52 = .ok (.aload_n 0, 1) := by decide +kernel
theorem dX4_copyFrom_53 : decode cX4_copyFrom 53 = .ok (.getfield 18, 3) := by decide +kernel
theorem dX4_copyFrom_56 : decode cX4_copyFrom 56 = .ok (.iload_n 2, 1) := by decide +kernel
theorem dX4_copyFrom_57 : decode cX4_copyFrom 57 = .ok (.aload_n 1, 1) := by decide +kernel
theorem dX4_copyFrom_58 : decode cX4_copyFrom 58 = .ok (.iload_n 2, 1) := by decide +kernel
theorem dX4_copyFrom_59 : decode cX4_copyFrom 59 = .ok (.invokevirtual 38, 3) := by decide +kernel
theorem dX4_copyFrom_62 : decode cX4_copyFrom 62 = .ok (.iastore, 1) := by decide +kernel
theorem dX4_copyFrom_63 : decode cX4_copyFrom 63 = .ok (.iinc 2 1, 3) := by decide +kernel
theorem dX4_copyFrom_66 : decode cX4_copyFrom 66 = .ok (.goto (-31), 3) := by decide +kernel
theorem dX4_copyFrom_69 : decode cX4_copyFrom 69 = .ok (.aload_n 0, 1) := by decide +kernel
theorem dX4_copyFrom_70 : decode cX4_copyFrom 70 = .ok (.aload_n 1, 1) := by decide +kernel
theorem dX4_copyFrom_71 : decode cX4_copyFrom 71 = .ok (.getfield 31, 3) := by decide +kernel
theorem dX4_copyFrom_74 : decode cX4_copyFrom 74 = .ok (.putfield 31, 3) := by decide +kernel
theorem dX4_copyFrom_77 : decode cX4_copyFrom 77 = .ok (.aload_n 0, 1) := by decide +kernel
theorem dX4_copyFrom_78 : decode cX4_copyFrom 78 = .ok (.aload_n 1, 1) := by decide +kernel
theorem dX4_copyFrom_79 : decode cX4_copyFrom 79 = .ok (.getfield 21, 3) := by decide +kernel
theorem dX4_copyFrom_82 : decode cX4_copyFrom 82 = .ok (.putfield 21, 3) := by decide +kernel
theorem dX4_copyFrom_85 : decode cX4_copyFrom 85 = .ok (.aload_n 0, 1) := by decide +kernel
theorem dX4_copyFrom_86 : decode cX4_copyFrom 86 = .ok (.aload_n 1, 1) := by decide +kernel
theorem dX4_copyFrom_87 : decode cX4_copyFrom 87 = .ok (.getfield 25, 3) := by decide +kernel
theorem dX4_copyFrom_90 : decode cX4_copyFrom 90 = .ok (.putfield 25, 3) := by decide +kernel
theorem dX4_copyFrom_93 : decode cX4_copyFrom 93 = .ok (.aload_n 0, 1) := by decide +kernel
theorem dX4_copyFrom_94 : decode cX4_copyFrom 94 = .ok (.aload_n 1, 1) := by decide +kernel
theorem dX4_copyFrom_95 : decode cX4_copyFrom 95 = .ok (.getfield 28, 3) := by decide +kernel
theorem dX4_copyFrom_98 : decode cX4_copyFrom 98 = .ok (.putfield 28, 3) := by decide +kernel
theorem dX4_copyFrom_101 : decode cX4_copyFrom 101 = .ok (.return_, 1) := by decide +kernel
theorem ggX4_copyPoint_X4_number : GoodIn wsX4_copyPoint wsX4_number := goodIn_r _ [5, 6, 7, 12, 13, 14, 15, 16, 17, 18] (by decide +kernel) (by decide +kernel)
theorem gX4_copyPoint_X4_number : GoodIn wsX4_copyPoint (wsV RX4 42 RX4 yX4_number wsX4_number) := goodIn_app (goodIn_of _ (by decide +kernel)) ggX4_copyPoint_X4_number
theorem ggX4_copyPoint_X4_write : GoodIn wsX4_copyPoint wsX4_write := goodIn_r _ [11, 6, 7, 12, 13, 14, 15, 16, 17, 18] (by decide +kernel) (by decide +kernel)
theorem gX4_copyPoint_X4_write : GoodIn wsX4_copyPoint (wsV RX4 57 RX4 yX4_write wsX4_write) := goodIn_app (goodIn_of _ (by decide +kernel)) ggX4_copyPoint_X4_write
theorem dX4_copyPoint_0 : decode cX4_copyPoint 0 = .ok (.aload_n 0, 1) := by decide +kernel
theorem dX4_copyPoint_1 : decode cX4_copyPoint 1 = .ok (.iload_n 2, 1) := by decide +kernel
theorem dX4_copyPoint_2 : decode cX4_copyPoint 2 = .ok (.aload_n 0, 1) := by decide +kernel
theorem dX4_copyPoint_3 : decode cX4_copyPoint 3 = .ok (.iload_n 1, 1) := by decide +kernel
theorem dX4_copyPoint_4 : decode cX4_copyPoint 4 = .ok (.iconst 0, 1) := by decide +kernel
theorem dX4_copyPoint_5 : decode cX4_copyPoint 5 = .ok (.invokevirtual 42, 3) := by decide +kernel
theorem dX4_copyPoint_8 : decode cX4_copyPoint 8 = .ok (.aload_n 0, 1) := by decide +kernel
theorem dX4_copyPoint_9 : decode cX4_copyPoint 9 = .ok (.iload_n 1, 1) := by decide +kernel
theorem dX4_copyPoint_10 : decode cX4_copyPoint 10 = .ok (.iconst 5, 1) := by decide +kernel
theorem dX4_copyPoint_11 : decode cX4_copyPoint 11 = .ok (.invokevirtual 42, 3) := by decide +kernel
theorem dX4_copyPoint_14 : decode cX4_copyPoint 14 = .ok (.invokevirtual 57, 3) := by decide +kernel
theorem dX4_copyPoint_17 : decode cX4_copyPoint 17 = .ok (.return_, 1) := by decide +kernel
theorem dX4_write_0 : decode cX4_write 0 = .ok (.iload_n 1, 1) := by decide +kernel
theorem dX4_write_1 : decode cX4_write 1 = .ok (.ifCond .lt 35, 3) := by decide +kernel
theorem dX4_write_4 : decode cX4_write 4 = .ok (.iload_n 1, 1) := by decide +kernel
theorem dX4_write_5 : decode cX4_write 5 = .ok (.aload_n 0, 1) := by decide +kernel
theorem dX4_write_6 : decode cX4_write 6 = .ok (.getfield 11, 3) := by decide +kernel
theorem dX4_write_9 : decode cX4_write 9 = .ok (.arraylength, 1) := by decide +kernel
theorem dX4_write_10 : decode cX4_write 10 = .ok (.if_icmp .ge 26, 3) := by decide +kernel
theorem dX4_write_13 : decode cX4_write 13 = .ok (.iload_n 1, 1) := by decide +kernel
theorem dX4_write_14 : decode cX4_write 14 = .ok (.aload_n 0, 1) := by decide +kernel
theorem dX4_write_15 : decode cX4_write 15 = .ok (.getfield 15, 3) := by decide +kernel
theorem dX4_write_18 : decode cX4_write 18 = .ok (.arraylength, 1) := by decide +kernel
theorem dX4_write_19 : decode cX4_write 19 = .ok (.if_icmp .ge 17, 3) := by decide +kernel
theorem dX4_write_22 : decode cX4_write 22 = .ok (.aload_n 0, 1) := by decide +kernel
theorem dX4_write_23 : decode cX4_write 23 = .ok (.getfield 11, 3) := by decide +kernel
theorem dX4_write_26 : decode cX4_write 26 = .ok (.iload_n 1, 1) := by decide +kernel
theorem dX4_write_27 : decode cX4_write 27 = .ok (.iload_n 2, 1) := by decide +kernel
theorem dX4_write_28 : decode cX4_write 28 = .ok (.iastore, 1) := by decide +kernel
theorem dX4_write_29 : decode cX4_write 29 = .ok (.aload_n 0, 1) := by decide +kernel
theorem dX4_write_30 : decode cX4_write 30 = .ok (.getfield 15, 3) := by decide +kernel
theorem dX4_write_33 : decode cX4_write 33 = .ok (.iload_n 1, 1) := by decide +kernel
theorem dX4_write_34 : decode cX4_write 34 = .ok (.iload_n 3, 1) := by decide +kernel
theorem dX4_write_35 : decode cX4_write 35 = .ok (.iastore, 1) := by decide +kernel
theorem dX4_write_36 : decode cX4_write 36 = .ok (.return_, 1) := by decide +kernel
theorem dX5_init_0 : decode cX5_init 0 = .ok (.aload_n 0, 1) := by decide +kernel
theorem dX5_init_1 : decode cX5_init 1 = .ok (.invokespecial 3, 3) := by decide +kernel
theorem dX5_init_4 : decode cX5_init 4 = .ok (.aload_n 0, 1) := by decide +kernel
theorem dX5_init_5 : decode cX5_init 5 = .ok (.iconst 0, 1) := by decide +kernel
theorem dX5_init_6 : decode cX5_init 6 = .ok (.putfield 9, 3) := by decide +kernel
theorem dX5_init_9 : decode cX5_init 9 = .ok (.aload_n 0, 1) := by decide +kernel
theorem dX5_init_10 : decode cX5_init 10 = .ok (.iconst 0, 1) := by decide +kernel
theorem dX5_init_11 : decode cX5_init 11 = .ok (.putfield 15, 3) := by decide +kernel
theorem dX5_init_14 : decode cX5_init 14 = .ok (.aload_n 0, 1) := by decide +kernel
theorem dX5_init_15 : decode cX5_init 15 = .ok (.aload_n 1, 1) := by decide +kernel
theorem dX5_init_16 : decode cX5_init 16 = .ok (.putfield 18, 3) := by decide +kernel
theorem dX5_init_19 : decode cX5_init 19 = .ok (.aload_n 0, 1) := by decide +kernel
theorem dX5_init_20 : decode cX5_init 20 = .ok (.iload_n 2, 1) := by decide +kernel
theorem dX5_init_21 : decode cX5_init 21 = .ok (.putfield 22, 3) := by decide +kernel
theorem dX5_init_24 : decode cX5_init 24 = .ok (.aload_n 0, 1) := by decide +kernel
theorem dX5_init_25 : decode cX5_init 25 = .ok (.iload_n 3, 1) := by decide +kernel
theorem dX5_init_26 : decode cX5_init 26 = .ok (.putfield 25, 3) := by decide +kernel
theorem dX5_init_29 : decode cX5_init 29 = .ok (.aload_n 0, 1) := by decide +kernel
theorem dX5_init_30 : decode cX5_init 30 = .ok (.iload 4, 2) := by decide +kernel
theorem dX5_init_32 : decode cX5_init 32 = .ok (.putfield 28, 3) := by decide +kernel
theorem dX5_init_35 : decode cX5_init 35 = .ok (.aload_n 0, 1) := by decide +kernel
theorem dX5_init_36 : decode cX5_init 36 = .ok (.iload 5, 2) := by decide +kernel
theorem dX5_init_38 : decode cX5_init 38 = .ok (.putfield 31, 3) := by decide +kernel
theorem dX5_init_41 : decode cX5_init 41 = .ok (.aload_n 0, 1) := by decide +kernel
theorem dX5_init_42 : decode cX5_init 42 = .ok (.iload 6, 2) := by decide +kernel
theorem dX5_init_44 : decode cX5_init 44 = .ok (.putfield 35, 3) := by decide +kernel
theorem dX5_init_47 : decode cX5_init 47 = .ok (.aload_n 0, 1) := by decide +kernel
theorem dX5_init_48 : decode cX5_init 48 = .ok (.iload 7, 2) := by decide +kernel
theorem dX5_init_50 : decode cX5_init 50 = .ok (.putfield 38, 3) := by decide +kernel
theorem dX5_init_53 : decode cX5_init 53 = .ok (.return_, 1) := by decide +kernel
theorem dX5_isDueAt_0 : decode cX5_isDueAt 0 = .ok (.aload_n 0, 1) := by decide +kernel
theorem dX5_isDueAt_1 : decode cX5_isDueAt 1 = .ok (.getfield 28, 3) := by decide +kernel
theorem dX5_isDueAt_4 : decode cX5_isDueAt 4 = .ok (.ifCond .le 16, 3) := by decide +kernel
theorem dX5_isDueAt_7 : decode cX5_isDueAt 7 = .ok (.iload_n 1, 1) := by decide +kernel
theorem dX5_isDueAt_8 : decode cX5_isDueAt 8 = .ok (.aload_n 0, 1) := by decide +kernel
theorem dX5_isDueAt_9 : decode cX5_isDueAt 9 = .ok (.getfield 28, 3) := by decide +kernel
theorem dX5_isDueAt_12 : decode cX5_isDueAt 12 = .ok (.irem, 1) := by decide +kernel
theorem dX5_isDueAt_13 : decode cX5_isDueAt 13 = .ok (.ifCond .ne 7, 3) := by decide +kernel
theorem dX5_isDueAt_16 : decode cX5_isDueAt 16 = .ok (.iconst 1, 1) := by decide +kernel
theorem dX5_isDueAt_17 : decode cX5_isDueAt 17 = .ok (.goto 4, 3) := by decide +kernel
theorem dX5_isDueAt_20 : decode cX5_isDueAt 20 = .ok (.iconst 0, 1) := by decide +kernel
theorem dX5_isDueAt_21 : decode cX5_isDueAt 21 = .ok (.ireturn, 1) := by decide +kernel
theorem ggX5_told_X6_tell : GoodIn wsX5_told wsX6_tell := goodIn_r _ [8, 9, 10, 11, 7, 12, 13, 14, 15, 16, 17, 18, 19, 20, 21, 22, 23, 24, 25, 26, 27, 28, 29, 30, 31, 32, 33, 34, 35, 36, 37, 38, 39, 40, 41, 42, 43, 44, 45, 46, 47, 48, 49, 50, 51, 52, 53, 54, 55, 56, 57, 58, 59, 60, 61, 62, 63, 64, 65, 66, 67, 68, 69, 70, 71, 81, 82, 83, 84, 85, 86, 87, 88, 89, 90, 91, 92, 93, 94] (by decide +kernel) (by decide +kernel)
theorem gX5_told_X6_tell : GoodIn wsX5_told (wsV RX5 41 RX6 yX6_tell wsX6_tell) := goodIn_app (goodIn_of _ (by decide +kernel)) ggX5_told_X6_tell
theorem dX5_told_0 : decode cX5_told 0 = .ok (.aload_n 0, 1) := by decide +kernel
theorem dX5_told_1 : decode cX5_told 1 = .ok (.getfield 18, 3) := by decide +kernel
theorem dX5_told_4 : decode cX5_told 4 = .ok (.iload_n 1, 1) := by decide +kernel
theorem dX5_told_5 : decode cX5_told 5 = .ok (.aload_n 0, 1) := by decide +kernel
theorem dX5_told_6 : decode cX5_told 6 = .ok (.getfield 25, 3) := by decide +kernel
theorem dX5_told_9 : decode cX5_told 9 = .ok (.isub, 1) := by decide +kernel
theorem dX5_told_10 : decode cX5_told 10 = .ok (.iload_n 1, 1) := by decide +kernel
theorem dX5_told_11 : decode cX5_told 11 = .ok (.aload_n 0, 1) := by decide +kernel
theorem dX5_told_12 : decode cX5_told 12 = .ok (.getfield 22, 3) := by decide +kernel
theorem dX5_told_15 : decode cX5_told 15 = .ok (.iconst 0, 1) := by decide +kernel
theorem dX5_told_16 : decode cX5_told 16 = .ok (.invokevirtual 41, 3) := by decide +kernel
theorem dX5_told_19 : decode cX5_told 19 = .ok (.ireturn, 1) := by decide +kernel
theorem ggX5_changesBy_X5_ceases : GoodIn wsX5_changesBy wsX5_ceases := goodIn_r _ [9, 10, 11, 12, 13, 14, 8, 15, 4, 20, 21, 22, 23, 24, 25, 26, 27, 28] (by decide +kernel) (by decide +kernel)
theorem gX5_changesBy_X5_ceases : GoodIn wsX5_changesBy (wsV RX5 48 RX5 yX5_ceases wsX5_ceases) := goodIn_app (goodIn_of _ (by decide +kernel)) ggX5_changesBy_X5_ceases
theorem ggX5_changesBy_X5_begins : GoodIn wsX5_changesBy wsX5_begins := goodIn_r _ [19, 4, 10, 11, 12, 13, 14, 8, 15, 20, 21, 22, 23, 24, 25, 26, 27, 28] (by decide +kernel) (by decide +kernel)
theorem gX5_changesBy_X5_begins : GoodIn wsX5_changesBy (wsV RX5 52 RX5 yX5_begins wsX5_begins) := goodIn_app (goodIn_of _ (by decide +kernel)) ggX5_changesBy_X5_begins
theorem dX5_changesBy_0 : decode cX5_changesBy 0 = .ok (.iload_n 1, 1) := by decide +kernel
theorem dX5_changesBy_1 : decode cX5_changesBy 1 = .ok (.ldc 47, 2) := by decide +kernel
theorem dX5_changesBy_3 : decode cX5_changesBy 3 = .ok (.if_icmp .eq 33, 3) := by decide +kernel
theorem dX5_changesBy_6 : decode cX5_changesBy 6 = .ok (.aload_n 0, 1) := by decide +kernel
theorem dX5_changesBy_7 : decode cX5_changesBy 7 = .ok (.getfield 31, 3) := by decide +kernel
theorem dX5_changesBy_10 : decode cX5_changesBy 10 = .ok (.ifCond .eq 14, 3) := by decide +kernel
theorem dX5_changesBy_13 : decode cX5_changesBy 13 = .ok (.iload_n 1, 1) := by decide +kernel
theorem dX5_changesBy_14 : decode cX5_changesBy 14 = .ok (.aload_n 0, 1) := by decide +kernel
theorem dX5_changesBy_15 : decode cX5_changesBy 15 = .ok (.getfield 35, 3) := by decide +kernel
theorem dX5_changesBy_18 : decode cX5_changesBy 18 = .ok (.if_icmp .le 18, 3) := by decide +kernel
theorem dX5_changesBy_21 : decode cX5_changesBy 21 = .ok (.goto 11, 3) := by decide +kernel
theorem dX5_changesBy_24 : decode cX5_changesBy 24 = .ok (.iload_n 1, 1) := by decide +kernel
theorem dX5_changesBy_25 : decode cX5_changesBy 25 = .ok (.aload_n 0, 1) := by decide +kernel
theorem dX5_changesBy_26 : decode cX5_changesBy 26 = .ok (.getfield 35, 3) := by decide +kernel
theorem dX5_changesBy_29 : decode cX5_changesBy 29 = .ok (.if_icmp .ge 7, 3) := by decide +kernel
theorem dX5_changesBy_32 : decode cX5_changesBy 32 = .ok (.iconst 1, 1) := by decide +kernel
theorem dX5_changesBy_33 : decode cX5_changesBy 33 = .ok (.goto 4, 3) := by decide +kernel
theorem dX5_changesBy_36 : decode cX5_changesBy 36 = .ok (.iconst 0, 1) := by decide +kernel
theorem dX5_changesBy_37 : decode cX5_changesBy 37 = .ok (.istore_n 2, 1) := by decide +kernel
theorem dX5_changesBy_38 : decode cX5_changesBy 38 = .ok (.aload_n 0, 1) := by decide +kernel
theorem dX5_changesBy_39 : decode cX5_changesBy 39 = .ok (.getfield 9, 3) := by decide +kernel
theorem dX5_changesBy_42 : decode cX5_changesBy 42 = .ok (.iconst 2, 1) := by decide +kernel
theorem dX5_changesBy_43 : decode cX5_changesBy 43 = .ok (.if_icmp .ne 9, 3) := by decide +kernel
theorem dX5_changesBy_46 : decode cX5_changesBy 46 = .ok (.aload_n 0, 1) := by decide +kernel
theorem dX5_changesBy_47 : decode cX5_changesBy 47 = .ok (.iload_n 2, 1) := by decide +kernel
theorem dX5_changesBy_48 : decode cX5_changesBy 48 = .ok (.invokevirtual 48, 3) := by decide +kernel
theorem dX5_changesBy_51 : decode cX5_changesBy 51 = .ok (.ireturn, 1) := by decide +kernel
theorem dX5_changesBy_52 : decode cX5_changesBy 52 = .ok (.aload_n 0, 1) := by decide +kernel
theorem dX5_changesBy_53 : decode cX5_changesBy 53 = .ok (.iload_n 2, 1) := by decide +kernel
theorem dX5_changesBy_54 : decode cX5_changesBy 54 = .ok (.invokevirtual 52, 3) := by decide +kernel
theorem dX5_changesBy_57 : decode cX5_changesBy 57 = .ok (.ireturn, 1) := by decide +kernel
theorem ggX5_ceases_X5_become : GoodIn wsX5_ceases wsX5_become := goodIn_r _ [7, 8, 1, 9, 10, 11, 12, 13, 14, 15, 16, 17] (by decide +kernel) (by decide +kernel)
theorem gX5_ceases_X5_become : GoodIn wsX5_ceases (wsV RX5 55 RX5 yX5_become wsX5_become) := goodIn_app (goodIn_of _ (by decide +kernel)) ggX5_ceases_X5_become
theorem dX5_ceases_0 : decode cX5_ceases 0 = .ok (.aload_n 0, 1) := by decide +kernel
theorem dX5_ceases_1 : decode cX5_ceases 1 = .ok (.iload_n 1, 1) := by decide +kernel
theorem dX5_ceases_2 : decode cX5_ceases 2 = .ok (.ifCond .eq 7, 3) := by decide +kernel
theorem dX5_ceases_5 : decode cX5_ceases 5 = .ok (.iconst 0, 1) := by decide +kernel
theorem dX5_ceases_6 : decode cX5_ceases 6 = .ok (.goto 9, 3) := by decide +kernel
theorem dX5_ceases_9 : decode cX5_ceases 9 = .ok (.aload_n 0, 1) := by decide +kernel
theorem dX5_ceases_10 : decode cX5_ceases 10 = .ok (.getfield 15, 3) := by decide +kernel
theorem dX5_ceases_13 : decode cX5_ceases 13 = .ok (.iconst 1, 1) := by decide +kernel
theorem dX5_ceases_14 : decode cX5_ceases 14 = .ok (.iadd, 1) := by decide +kernel
theorem dX5_ceases_15 : decode cX5_ceases 15 = .ok (.putfield 15, 3) := by decide +kernel
theorem dX5_ceases_18 : decode cX5_ceases 18 = .ok (.aload_n 0, 1) := by decide +kernel
theorem dX5_ceases_19 : decode cX5_ceases 19 = .ok (.getfield 15, 3) := by decide +kernel
theorem dX5_ceases_22 : decode cX5_ceases 22 = .ok (.aload_n 0, 1) := by decide +kernel
theorem dX5_ceases_23 : decode cX5_ceases 23 = .ok (.getfield 38, 3) := by decide +kernel
theorem dX5_ceases_26 : decode cX5_ceases 26 = .ok (.if_icmp .ge 5, 3) := by decide +kernel
theorem dX5_ceases_29 : decode cX5_ceases 29 = .ok (.iconst 0, 1) := by decide +kernel
theorem dX5_ceases_30 : decode cX5_ceases 30 = .ok (.ireturn, 1) := by decide +kernel
theorem dX5_ceases_31 : decode cX5_ceases 31 = .ok (.aload_n 0, 1) := by decide +kernel
theorem dX5_ceases_32 : decode cX5_ceases 32 = .ok (.iconst 0, 1) := by decide +kernel
theorem dX5_ceases_33 : decode cX5_ceases 33 = .ok (.invokevirtual 55, 3) := by decide +kernel
theorem dX5_ceases_36 : decode cX5_ceases 36 = .ok (.iconst 1, 1) := by decide +kernel
theorem dX5_ceases_37 : decode cX5_ceases 37 = .ok (.ireturn, 1) := by decide +kernel
theorem ggX5_begins_X5_become : GoodIn wsX5_begins wsX5_become := goodIn_r _ [8, 1, 2, 9, 10, 11, 12, 13, 14, 15, 16, 17] (by decide +kernel) (by decide +kernel)
theorem gX5_begins_X5_become : GoodIn wsX5_begins (wsV RX5 55 RX5 yX5_become wsX5_become) := goodIn_app (goodIn_of _ (by decide +kernel)) ggX5_begins_X5_become
theorem dX5_begins_0 : decode cX5_begins 0 = .ok (.iload_n 1, 1) := by decide +kernel
theorem dX5_begins_1 : decode cX5_begins 1 = .ok (.ifCond .ne 10, 3) := by decide +kernel
theorem dX5_begins_4 : decode cX5_begins 4 = .ok (.aload_n 0, 1) := by decide +kernel
theorem dX5_begins_5 : decode cX5_begins 5 = .ok (.iconst 0, 1) := by decide +kernel
theorem dX5_begins_6 : decode cX5_begins 6 = .ok (.invokevirtual 55, 3) := by decide +kernel
theorem dX5_begins_9 : decode cX5_begins 9 = .ok (.iconst 0, 1) := by decide +kernel
theorem dX5_begins_10 : decode cX5_begins 10 = .ok (.ireturn, 1) := by decide +kernel
theorem dX5_begins_11 : decode cX5_begins 11 = .ok (.aload_n 0, 1) := by decide +kernel
theorem dX5_begins_12 : decode cX5_begins 12 = .ok (.iconst 1, 1) := by decide +kernel
theorem dX5_begins_13 : decode cX5_begins 13 = .ok (.putfield 9, 3) := by decide +kernel
theorem dX5_begins_16 : decode cX5_begins 16 = .ok (.aload_n 0, 1) := by decide +kernel
theorem dX5_begins_17 : decode cX5_begins 17 = .ok (.dup, 1) := by decide +kernel
theorem dX5_begins_18 : decode cX5_begins 18 = .ok (.getfield 15, 3) := by decide +kernel
theorem dX5_begins_21 : decode cX5_begins 21 = .ok (.iconst 1, 1) := by decide +kernel
theorem dX5_begins_22 : decode cX5_begins 22 = .ok (.iadd, 1) := by decide +kernel
theorem dX5_begins_23 : decode cX5_begins 23 = .ok (.putfield 15, 3) := by decide +kernel
theorem dX5_begins_26 : decode cX5_begins 26 = .ok (.aload_n 0, 1) := by decide +kernel
theorem dX5_begins_27 : decode cX5_begins 27 = .ok (.getfield 15, 3) := by decide +kernel
theorem dX5_begins_30 : decode cX5_begins 30 = .ok (.aload_n 0, 1) := by decide +kernel
theorem dX5_begins_31 : decode cX5_begins 31 = .ok (.getfield 38, 3) := by decide +kernel
theorem dX5_begins_34 : decode cX5_begins 34 = .ok (.if_icmp .ge 5, 3) := by decide +kernel
theorem dX5_begins_37 : decode cX5_begins 37 = .ok (.iconst 0, 1) := by decide +kernel
theorem dX5_begins_38 : decode cX5_begins 38 = .ok (.ireturn, 1) := by decide +kernel
theorem dX5_begins_39 : decode cX5_begins 39 = .ok (.aload_n 0, 1) := by decide +kernel
theorem dX5_begins_40 : decode cX5_begins 40 = .ok (.iconst 2, 1) := by decide +kernel
theorem dX5_begins_41 : decode cX5_begins 41 = .ok (.invokevirtual 55, 3) := by decide +kernel
theorem dX5_begins_44 : decode cX5_begins 44 = .ok (.iconst 1, 1) := by decide +kernel
theorem dX5_begins_45 : decode cX5_begins 45 = .ok (.ireturn, 1) := by decide +kernel
theorem dX5_become_0 : decode cX5_become 0 = .ok (.aload_n 0, 1) := by decide +kernel
theorem dX5_become_1 : decode cX5_become 1 = .ok (.iload_n 1, 1) := by decide +kernel
theorem dX5_become_2 : decode cX5_become 2 = .ok (.putfield 9, 3) := by decide +kernel
theorem dX5_become_5 : decode cX5_become 5 = .ok (.aload_n 0, 1) := by decide +kernel
theorem dX5_become_6 : decode cX5_become 6 = .ok (.iconst 0, 1) := by decide +kernel
theorem dX5_become_7 : decode cX5_become 7 = .ok (.putfield 15, 3) := by decide +kernel
theorem dX5_become_10 : decode cX5_become 10 = .ok (.return_, 1) := by decide +kernel
theorem dX5_copyFrom_0 : decode cX5_copyFrom 0 = .ok (.aload_n 0, 1) := by decide +kernel
theorem dX5_copyFrom_1 : decode cX5_copyFrom 1 = .ok (.aload_n 1, 1) := by decide +kernel
theorem dX5_copyFrom_2 : decode cX5_copyFrom 2 = .ok (.getfield 9, 3) := by decide +kernel
theorem dX5_copyFrom_5 : decode cX5_copyFrom 5 = .ok (.putfield 9, 3) := by decide +kernel
theorem dX5_copyFrom_8 : decode cX5_copyFrom 8 = .ok (.aload_n 0, 1) := by decide +kernel
theorem dX5_copyFrom_9 : decode cX5_copyFrom 9 = .ok (.aload_n 1, 1) := by decide +kernel
theorem dX5_copyFrom_10 : decode cX5_copyFrom 10 = .ok (.getfield 15, 3) := by decide +kernel
theorem dX5_copyFrom_13 : decode cX5_copyFrom 13 = .ok (.putfield 15, 3) := by decide +kernel
theorem dX5_copyFrom_16 : decode cX5_copyFrom 16 = .ok (.return_, 1) := by decide +kernel
theorem ggX6_init_X4_init : GoodIn wsX6_init wsX4_init := goodIn_r _ [16, 17, 18, 19, 20, 21, 22, 23, 24, 25, 26, 27, 2, 3, 28, 32, 33, 34, 35, 36, 37, 38, 44, 45] (by decide +kernel) (by decide +kernel)
theorem gX6_init_X4_init_n11 : GoodIn wsX6_init (wsX4_init) := ggX6_init_X4_init
theorem ggX6_init_X0_init : GoodIn wsX6_init wsX0_init := goodIn_r _ [30, 17, 31, 24, 25, 26, 27, 2, 3, 28, 44, 45, 32, 33, 34, 35, 36, 37, 38] (by decide +kernel) (by decide +kernel)
theorem gX6_init_X0_init_n20 : GoodIn wsX6_init (wsX0_init) := ggX6_init_X0_init
theorem dX6_init_0 : decode cX6_init 0 = .ok (.aload_n 0, 1) := by decide +kernel
theorem dX6_init_1 : decode cX6_init 1 = .ok (.invokespecial 3, 3) := by decide +kernel
theorem dX6_init_4 : decode cX6_init 4 = .ok (.aload_n 0, 1) := by decide +kernel
theorem dX6_init_5 : decode cX6_init 5 = .ok (.new 9, 3) := by decide +kernel
theorem dX6_init_8 : decode cX6_init 8 = .ok (.dup, 1) := by decide +kernel
theorem dX6_init_9 : decode cX6_init 9 = .ok (.invokespecial 11, 3) := by decide +kernel
theorem dX6_init_12 : decode cX6_init 12 = .ok (.putfield 12, 3) := by decide +kernel
theorem dX6_init_15 : decode cX6_init 15 = .ok (.aload_n 0, 1) := by decide +kernel
theorem dX6_init_16 : decode cX6_init 16 = .ok (.new 18, 3) := by decide +kernel
theorem dX6_init_19 : decode cX6_init 19 = .ok (.dup, 1) := by decide +kernel
theorem dX6_init_20 : decode cX6_init 20 = .ok (.invokespecial 20, 3) := by decide +kernel
theorem dX6_init_23 : decode cX6_init 23 = .ok (.putfield 21, 3) := by decide +kernel
theorem dX6_init_26 : decode cX6_init 26 = .ok (.aload_n 0, 1) := by decide +kernel
theorem dX6_init_27 : decode cX6_init 27 = .ok (.new 18, 3) := by decide +kernel
theorem dX6_init_30 : decode cX6_init 30 = .ok (.dup, 1) := by decide +kernel
theorem dX6_init_31 : decode cX6_init 31 = .ok (.invokespecial 20, 3) := by decide +kernel
theorem dX6_init_34 : decode cX6_init 34 = .ok (.putfield 25, 3) := by decide +kernel
theorem dX6_init_37 : decode cX6_init 37 = .ok (.aload_n 0, 1) := by decide +kernel
theorem dX6_init_38 : decode cX6_init 38 = .ok (.iload_n 1, 1) := by decide +kernel
theorem dX6_init_39 : decode cX6_init 39 = .ok (.putfield 28, 3) := by decide +kernel
theorem dX6_init_42 : decode cX6_init 42 = .ok (.aload_n 0, 1) := by decide +kernel
theorem dX6_init_43 : decode cX6_init 43 = .ok (.iload_n 2, 1) := by decide +kernel
theorem dX6_init_44 : decode cX6_init 44 = .ok (.putfield 32, 3) := by decide +kernel
theorem dX6_init_47 : decode cX6_init 47 = .ok (.return_, 1) := by decide +kernel
theorem dX6_bucketsOf_0 : decode cX6_bucketsOf 0 = .ok (.iload_n 1, 1) := by decide +kernel
theorem dX6_bucketsOf_1 : decode cX6_bucketsOf 1 = .ok (.ifCond .eq 10, 3) := by decide +kernel
theorem dX6_bucketsOf_4 : decode cX6_bucketsOf 4 = .ok (.aload_n 0, 1) := by decide +kernel
theorem dX6_bucketsOf_5 : decode cX6_bucketsOf 5 = .ok (.getfield 25, 3) := by decide +kernel
theorem dX6_bucketsOf_8 : decode cX6_bucketsOf 8 = .ok (.goto 7, 3) := by decide +kernel
theorem dX6_bucketsOf_11 : decode cX6_bucketsOf 11 = .ok (.aload_n 0, 1) := by decide +kernel
theorem dX6_bucketsOf_12 : decode cX6_bucketsOf 12 = .ok (.getfield 21, 3) := by decide +kernel
theorem dX6_bucketsOf_15 : decode cX6_bucketsOf 15 = .ok (.areturn, 1) := by decide +kernel
theorem ggX6_take_X4_add : GoodIn wsX6_take wsX4_add := goodIn_r _ [7, 8, 9, 10, 11, 12, 6, 13, 14, 15, 16, 17, 18, 19, 20, 21, 22, 23, 24, 25, 26, 27, 28, 29, 30, 31, 32, 121, 122, 123, 124, 125, 126, 127, 128, 129] (by decide +kernel) (by decide +kernel)
theorem gX6_take_X4_add : GoodIn wsX6_take (wsV RX6 35 RX4 yX4_add wsX4_add) := goodIn_app (goodIn_of _ (by decide +kernel)) ggX6_take_X4_add
theorem ggX6_take_X4_openSize : GoodIn wsX6_take wsX4_openSize := goodIn_r _ [36, 8, 9, 14, 121, 122, 123, 124, 125, 126, 127, 128, 129] (by decide +kernel) (by decide +kernel)
theorem gX6_take_X4_openSize : GoodIn wsX6_take (wsV RX6 39 RX4 yX4_openSize wsX4_openSize) := goodIn_app (goodIn_of _ (by decide +kernel)) ggX6_take_X4_openSize
theorem ggX6_take_X4_seal : GoodIn wsX6_take wsX4_seal := goodIn_r _ [40, 41, 42, 8, 9, 14, 43, 44, 34, 35, 6, 36, 15, 16, 17, 18, 19, 20, 123, 124, 125, 126, 127, 128, 129, 121, 122] (by decide +kernel) (by decide +kernel)
theorem gX6_take_X4_seal : GoodIn wsX6_take (wsV RX6 48 RX4 yX4_seal wsX4_seal) := goodIn_app (goodIn_of _ (by decide +kernel)) ggX6_take_X4_seal
theorem ggX6_take_X4_hasTooManySealed : GoodIn wsX6_take wsX4_hasTooManySealed := goodIn_r _ [48, 41, 123, 124, 125, 126, 127, 128, 129] (by decide +kernel) (by decide +kernel)
theorem gX6_take_X4_hasTooManySealed : GoodIn wsX6_take (wsV RX6 51 RX4 yX4_hasTooManySealed wsX4_hasTooManySealed) := goodIn_app (goodIn_of _ (by decide +kernel)) ggX6_take_X4_hasTooManySealed
theorem ggX6_take_X6_rollUpFirstBlock : GoodIn wsX6_take wsX6_rollUpFirstBlock := goodIn_r _ [53, 1, 54, 55, 56, 57, 58, 6, 59, 41, 42, 44, 34, 35, 36, 8, 9, 14, 60, 16, 17, 18, 19, 20, 61, 62, 52, 63, 64, 65, 66, 67, 68, 69, 70, 71, 72, 73, 74, 75, 76, 77, 78, 79, 80, 81, 82, 83, 84, 85, 86, 87, 88, 89, 90, 91, 92, 93, 94, 95, 96, 97, 98, 99, 100, 101, 102, 103, 104, 105, 106, 107, 108, 109, 110, 25, 26, 27, 28, 15, 29, 30, 31, 32, 111, 112, 113, 114, 115, 116, 117, 118, 119, 120, 123, 124, 125, 126, 127, 128, 129, 121, 122] (by decide +kernel) (by decide +kernel)
theorem gX6_take_X6_rollUpFirstBlock : GoodIn wsX6_take (wsV RX6 55 RX6 yX6_rollUpFirstBlock wsX6_rollUpFirstBlock) := goodIn_app (goodIn_of _ (by decide +kernel)) ggX6_take_X6_rollUpFirstBlock
theorem dX6_take_0 : decode cX6_take 0 = .ok (.aload_n 0, 1) := by decide +kernel
theorem dX6_take_1 : decode cX6_take 1 = .ok (.getfield 12, 3) := by decide +kernel
theorem dX6_take_4 : decode cX6_take 4 = .ok (.iload_n 1, 1) := by decide +kernel
theorem dX6_take_5 : decode cX6_take 5 = .ok (.iload_n 2, 1) := by decide +kernel
theorem dX6_take_6 : decode cX6_take 6 = .ok (.invokevirtual 35, 3) := by decide +kernel
theorem dX6_take_9 : decode cX6_take 9 = .ok (.aload_n 0, 1) := by decide +kernel
theorem dX6_take_10 : decode cX6_take 10 = .ok (.getfield 12, 3) := by decide +kernel
theorem dX6_take_13 : decode cX6_take 13 = .ok (.invokevirtual 39, 3) := by decide +kernel
theorem dX6_take_16 : decode cX6_take 16 = .ok (.aload_n 3, 1) := by decide +kernel
theorem dX6_take_17 : decode cX6_take 17 = .ok (.getfield 43, 3) := by decide +kernel
theorem dX6_take_20 : decode cX6_take 20 = .ok (.if_icmp .lt 25, 3) := by decide +kernel
theorem dX6_take_23 : decode cX6_take 23 = .ok (.aload_n 0, 1) := by decide +kernel
theorem dX6_take_24 : decode cX6_take 24 = .ok (.getfield 12, 3) := by decide +kernel
theorem dX6_take_27 : decode cX6_take 27 = .ok (.invokevirtual 48, 3) := by decide +kernel
theorem dX6_take_30 : decode cX6_take 30 = .ok (.aload_n 0, 1) := by decide +kernel
theorem dX6_take_31 : decode cX6_take 31 = .ok (.getfield 12, 3) := by decide +kernel
theorem dX6_take_34 : decode cX6_take 34 = .ok (.invokevirtual 51, 3) := by decide +kernel
theorem dX6_take_37 : decode cX6_take 37 = .ok (.ifCond .eq 8, 3) := by decide +kernel
theorem dX6_take_40 : decode cX6_take 40 = .ok (.aload_n 0, 1) := by decide +kernel
theorem dX6_take_41 : decode cX6_take 41 = .ok (.aload_n 3, 1) := by decide +kernel
theorem dX6_take_42 : decode cX6_take 42 = .ok (.invokevirtual 55, 3) := by decide +kernel
theorem dX6_take_45 : decode cX6_take 45 = .ok (.return_, 1) := by decide +kernel
theorem ggX6_rollUpBy_X4_blocksBelow : GoodIn wsX6_rollUpBy wsX4_blocksBelow := goodIn_r _ [9, 10, 11, 12, 13, 8, 14, 15, 16, 17, 18, 19, 20, 21, 22, 23, 24, 25, 26, 27, 28, 109, 110, 111, 112, 113, 114, 115, 116, 117] (by decide +kernel) (by decide +kernel)
theorem gX6_rollUpBy_X4_blocksBelow : GoodIn wsX6_rollUpBy (wsV RX6 62 RX4 yX4_blocksBelow wsX4_blocksBelow) := goodIn_app (goodIn_of _ (by decide +kernel)) ggX6_rollUpBy_X4_blocksBelow
theorem ggX6_rollUpBy_X6_rollUpFirstBlock : GoodIn wsX6_rollUpBy wsX6_rollUpFirstBlock := goodIn_r _ [33, 2, 34, 4, 35, 12, 13, 8, 14, 10, 15, 16, 17, 18, 19, 20, 21, 22, 36, 24, 25, 26, 27, 28, 37, 38, 32, 39, 40, 41, 42, 43, 44, 45, 46, 47, 48, 49, 50, 51, 52, 53, 54, 55, 56, 57, 58, 59, 60, 61, 62, 63, 64, 65, 66, 67, 68, 69, 70, 71, 72, 73, 74, 75, 76, 77, 78, 79, 80, 81, 82, 83, 84, 85, 11, 86, 87, 88, 89, 23, 90, 91, 92, 93, 104, 105, 106, 107, 108, 99, 100, 101, 102, 103, 109, 110, 111, 112, 113, 114, 115, 116, 117] (by decide +kernel) (by decide +kernel)
theorem gX6_rollUpBy_X6_rollUpFirstBlock : GoodIn wsX6_rollUpBy (wsV RX6 55 RX6 yX6_rollUpFirstBlock wsX6_rollUpFirstBlock) := goodIn_app (goodIn_of _ (by decide +kernel)) ggX6_rollUpBy_X6_rollUpFirstBlock
theorem ggX6_rollUpBy_X6_fineEndingBy : GoodIn wsX6_rollUpBy wsX6_fineEndingBy := goodIn_r _ [97, 34, 98, 46, 77, 55, 56, 43, 57, 58, 104, 105, 106, 107, 108, 116, 117, 109, 110, 111, 112, 113, 114, 115] (by decide +kernel) (by decide +kernel)
theorem gX6_rollUpBy_X6_fineEndingBy : GoodIn wsX6_rollUpBy (wsV RX6 72 RX6 yX6_fineEndingBy wsX6_fineEndingBy) := goodIn_app (goodIn_of _ (by decide +kernel)) ggX6_rollUpBy_X6_fineEndingBy
theorem ggX6_rollUpBy_X6_rollUpFirstFine : GoodIn wsX6_rollUpBy wsX6_rollUpFirstFine := goodIn_r _ [74, 34, 4, 75, 76, 77, 55, 56, 43, 57, 58, 37, 38, 32, 39, 40, 41, 42, 44, 45, 46, 47, 48, 49, 50, 51, 52, 53, 54, 59, 60, 61, 62, 24, 8, 26, 27, 28, 63, 64, 65, 66, 78, 79, 80, 81, 67, 68, 69, 70, 104, 105, 106, 107, 108, 99, 100, 101, 102, 103, 116, 117, 109, 110, 111, 112, 113, 114, 115] (by decide +kernel) (by decide +kernel)
theorem gX6_rollUpBy_X6_rollUpFirstFine : GoodIn wsX6_rollUpBy (wsV RX6 76 RX6 yX6_rollUpFirstFine wsX6_rollUpFirstFine) := goodIn_app (goodIn_of _ (by decide +kernel)) ggX6_rollUpBy_X6_rollUpFirstFine
theorem dX6_rollUpBy_0 : decode cX6_rollUpBy 0 = .ok (.aload_n 2, 1) := by decide +kernel
theorem dX6_rollUpBy_1 : decode cX6_rollUpBy 1 = .ok (.getfield 59, 3) := by decide +kernel
theorem dX6_rollUpBy_4 : decode cX6_rollUpBy 4 = .ok (.ifCond .ne 7, 3) := by decide +kernel
theorem dX6_rollUpBy_7 : decode cX6_rollUpBy 7 = .ok (.iconst 0, 1) := by decide +kernel
theorem dX6_rollUpBy_8 : decode cX6_rollUpBy 8 = .ok (.goto 16, 3) := by decide +kernel
theorem dX6_rollUpBy_11 : decode cX6_rollUpBy 11 = .ok (.aload_n 0, 1) := by decide +kernel
theorem dX6_rollUpBy_12 : decode cX6_rollUpBy 12 = .ok (.getfield 12, 3) := by decide +kernel
theorem dX6_rollUpBy_15 : decode cX6_rollUpBy 15 = .ok (.iload_n 1, 1) := by decide +kernel
theorem dX6_rollUpBy_16 : decode cX6_rollUpBy 16 = .ok (.aload_n 2, 1) := by decide +kernel
theorem dX6_rollUpBy_17 : decode cX6_rollUpBy 17 = .ok (.getfield 59, 3) := by decide +kernel
theorem dX6_rollUpBy_20 : decode cX6_rollUpBy 20 = .ok (.isub, 1) := by decide +kernel
theorem dX6_rollUpBy_21 : decode cX6_rollUpBy 21 = .ok (.invokevirtual 62, 3) := by decide +kernel
theorem dX6_rollUpBy_24 : decode cX6_rollUpBy 24 = .ok (.istore_n 3, 1) := by decide +kernel
theorem dX6_rollUpBy_25 : decode cX6_rollUpBy 25 = .ok (.iconst 0, 1) := by decide +kernel
theorem dX6_rollUpBy_26 : decode cX6_rollUpBy 26 = .ok (.istore 4, 2) := by decide +kernel
theorem dX6_rollUpBy_28 : decode cX6_rollUpBy 28 = .ok (.iload 4, 2) := by decide +kernel
theorem dX6_rollUpBy_30 : decode cX6_rollUpBy 30 = .ok (.iload_n 3, 1) := by decide +kernel
theorem dX6_rollUpBy_31 : decode cX6_rollUpBy 31 = .ok (.if_icmp .ge 14, 3) := by decide +kernel
theorem dX6_rollUpBy_34 : decode cX6_rollUpBy 34 = .ok (.aload_n 0, 1) := by decide +kernel
theorem dX6_rollUpBy_35 : decode cX6_rollUpBy 35 = .ok (.aload_n 2, 1) := by decide +kernel
theorem dX6_rollUpBy_36 : decode cX6_rollUpBy 36 = .ok (.invokevirtual 55, 3) := by decide +kernel
theorem dX6_rollUpBy_39 : decode cX6_rollUpBy 39 = .ok (.iinc 4 1, 3) := by decide +kernel
theorem dX6_rollUpBy_42 : decode cX6_rollUpBy 42 = .ok (.goto (-14), 3) := by decide +kernel
theorem dX6_rollUpBy_45 : decode cX6_rollUpBy 45 = .ok (.aload_n 2, 1) := by decide +kernel
theorem dX6_rollUpBy_46 : decode cX6_rollUpBy 46 = .ok (.getfield 66, 3) := by decide +kernel
theorem dX6_rollUpBy_49 : decode cX6_rollUpBy 49 = .ok (.istore 4, 2) := by decide +kernel
theorem dX6_rollUpBy_51 : decode cX6_rollUpBy 51 = .ok (.iload 4, 2) := by decide +kernel
theorem dX6_rollUpBy_53 : decode cX6_rollUpBy 53 = .ok (.ifCond .ne 7, 3) := by decide +kernel
theorem dX6_rollUpBy_56 : decode cX6_rollUpBy 56 = .ok (.iconst 0, 1) := by decide +kernel
theorem dX6_rollUpBy_57 : decode cX6_rollUpBy 57 = .ok (.goto 15, 3) := by decide +kernel
theorem dX6_rollUpBy_60 : decode cX6_rollUpBy 60 = .ok (.aload_n 0, 1) := by decide +kernel
theorem dX6_rollUpBy_61 : decode cX6_rollUpBy 61 = .ok (.iload_n 1, 1) := by decide +kernel
theorem dX6_rollUpBy_62 : decode cX6_rollUpBy 62 = .ok (.iload 4, 2) := by decide +kernel
theorem dX6_rollUpBy_64 : decode cX6_rollUpBy 64 = .ok (.isub, 1) := by decide +kernel
theorem dX6_rollUpBy_65 : decode cX6_rollUpBy 65 = .ok (.aload_n 2, 1) := by decide +kernel
theorem dX6_rollUpBy_66 : decode cX6_rollUpBy 66 = .ok (.getfield 69, 3) := by decide +kernel
theorem dX6_rollUpBy_69 : decode cX6_rollUpBy 69 = .ok (.invokevirtual 72, 3) := by decide +kernel
theorem dX6_rollUpBy_72 : decode cX6_rollUpBy 72 = .ok (.istore 5, 2) := by decide +kernel
theorem dX6_rollUpBy_74 : decode cX6_rollUpBy 74 = .ok (.iconst 0, 1) := by decide +kernel
theorem dX6_rollUpBy_75 : decode cX6_rollUpBy 75 = .ok (.istore 6, 2) := by decide +kernel
theorem dX6_rollUpBy_77 : decode cX6_rollUpBy 77 = .ok (.iload 6, 2) := by decide +kernel
theorem dX6_rollUpBy_79 : decode cX6_rollUpBy 79 = .ok (.iload 5, 2) := by decide +kernel
theorem dX6_rollUpBy_81 : decode cX6_rollUpBy 81 = .ok (.if_icmp .ge 14, 3) := by decide +kernel
theorem dX6_rollUpBy_84 : decode cX6_rollUpBy 84 = .ok (.aload_n 0, 1) := by decide +kernel
theorem dX6_rollUpBy_85 : decode cX6_rollUpBy 85 = .ok (.aload_n 2, 1) := by decide +kernel
theorem dX6_rollUpBy_86 : decode cX6_rollUpBy 86 = .ok (.invokevirtual 76, 3) := by decide +kernel
theorem dX6_rollUpBy_89 : decode cX6_rollUpBy 89 = .ok (.iinc 6 1, 3) := by decide +kernel
theorem dX6_rollUpBy_92 : decode cX6_rollUpBy 92 = .ok (.goto (-15), 3) := by decide +kernel
theorem dX6_rollUpBy_95 : decode cX6_rollUpBy 95 = .ok (.return_, 1) := by decide +kernel
theorem ggX6_fineEndingBy_X0_number : GoodIn wsX6_fineEndingBy wsX0_number := goodIn_r _ [8, 9, 15, 16] (by decide +kernel) (by decide +kernel)
theorem gX6_fineEndingBy_X0_number : GoodIn wsX6_fineEndingBy (wsV RX6 82 RX0 yX0_number wsX0_number) := goodIn_app (goodIn_of _ (by decide +kernel)) ggX6_fineEndingBy_X0_number
theorem dX6_fineEndingBy_0 : decode cX6_fineEndingBy 0 = .ok (.iconst 0, 1) := by decide +kernel
theorem dX6_fineEndingBy_1 : decode cX6_fineEndingBy 1 = .ok (.istore_n 3, 1) := by decide +kernel
theorem dX6_fineEndingBy_2 : decode cX6_fineEndingBy 2 = .ok (.iload_n 3, 1) := by decide +kernel
theorem dX6_fineEndingBy_3 : decode cX6_fineEndingBy 3 = .ok (.aload_n 0, 1) := by decide +kernel
theorem dX6_fineEndingBy_4 : decode cX6_fineEndingBy 4 = .ok (.getfield 21, 3) := by decide +kernel
theorem dX6_fineEndingBy_7 : decode cX6_fineEndingBy 7 = .ok (.getfield 79, 3) := by decide +kernel
theorem dX6_fineEndingBy_10 : decode cX6_fineEndingBy 10 = .ok (.if_icmp .ge 26, 3) := by decide +kernel
theorem dX6_fineEndingBy_13 : decode cX6_fineEndingBy 13 = .ok (.aload_n 0, 1) := by decide +kernel
theorem dX6_fineEndingBy_14 : decode cX6_fineEndingBy 14 = .ok (.getfield 21, 3) := by decide +kernel
theorem dX6_fineEndingBy_17 : decode cX6_fineEndingBy 17 = .ok (.iload_n 3, 1) := by decide +kernel
theorem dX6_fineEndingBy_18 : decode cX6_fineEndingBy 18 = .ok (.iconst 0, 1) := by decide +kernel
theorem dX6_fineEndingBy_19 : decode cX6_fineEndingBy 19 = .ok (.invokevirtual 82, 3) := by decide +kernel
theorem dX6_fineEndingBy_22 : decode cX6_fineEndingBy 22 = .ok (.iload_n 2, 1) := by decide +kernel
theorem dX6_fineEndingBy_23 : decode cX6_fineEndingBy 23 = .ok (.iadd, 1) := by decide +kernel
theorem dX6_fineEndingBy_24 : decode cX6_fineEndingBy 24 = .ok (.iload_n 1, 1) := by decide +kernel
theorem dX6_fineEndingBy_25 : decode cX6_fineEndingBy 25 = .ok (.if_icmp .le 5, 3) := by decide +kernel
theorem dX6_fineEndingBy_28 : decode cX6_fineEndingBy 28 = .ok (.iload_n 3, 1) := by decide +kernel
theorem dX6_fineEndingBy_29 : decode cX6_fineEndingBy 29 = .ok (.ireturn, 1) := by decide +kernel
theorem dX6_fineEndingBy_30 : decode cX6_fineEndingBy 30 = .ok (.iinc 3 1, 3) := by decide +kernel
theorem dX6_fineEndingBy_33 : decode cX6_fineEndingBy 33 = .ok (.goto (-31), 3) := by decide +kernel
theorem dX6_fineEndingBy_36 : decode cX6_fineEndingBy 36 = .ok (.aload_n 0, 1) := by decide +kernel
theorem dX6_fineEndingBy_37 : decode cX6_fineEndingBy 37 = .ok (.getfield 21, 3) := by decide +kernel
theorem dX6_fineEndingBy_40 : decode cX6_fineEndingBy 40 = .ok (.getfield 79, 3) := by decide +kernel
theorem dX6_fineEndingBy_43 : decode cX6_fineEndingBy 43 = .ok (.ireturn, 1) := by decide +kernel
theorem ggX6_rollUpFirstBlock_X4_sizeOf : GoodIn wsX6_rollUpFirstBlock wsX4_sizeOf := goodIn_r _ [8, 9, 10, 11, 12, 13, 7, 14, 15, 16, 17, 94, 95, 96, 97, 98, 99, 100, 101, 102] (by decide +kernel) (by decide +kernel)
theorem gX6_rollUpFirstBlock_X4_sizeOf : GoodIn wsX6_rollUpFirstBlock (wsV RX6 85 RX4 yX4_sizeOf wsX4_sizeOf) := goodIn_app (goodIn_of _ (by decide +kernel)) ggX6_rollUpFirstBlock_X4_sizeOf
theorem ggX6_rollUpFirstBlock_X4_number : GoodIn wsX6_rollUpFirstBlock wsX4_number := goodIn_r _ [21, 22, 23, 94, 95, 96, 97, 98, 99, 100] (by decide +kernel) (by decide +kernel)
theorem gX6_rollUpFirstBlock_X4_number : GoodIn wsX6_rollUpFirstBlock (wsV RX6 88 RX4 yX4_number wsX4_number) := goodIn_app (goodIn_of _ (by decide +kernel)) ggX6_rollUpFirstBlock_X4_number
theorem ggX6_rollUpFirstBlock_X6_startFor : GoodIn wsX6_rollUpFirstBlock wsX6_startFor := goodIn_r _ [27] (by decide +kernel) (by decide +kernel)
theorem gX6_rollUpFirstBlock_X6_startFor : GoodIn wsX6_rollUpFirstBlock (va_wsS RX6 89 yX6_startFor wsX6_startFor) := goodIn_app (goodIn_of _ (by decide +kernel)) ggX6_rollUpFirstBlock_X6_startFor
theorem ggX6_rollUpFirstBlock_X0_take : GoodIn wsX6_rollUpFirstBlock wsX0_take := goodIn_r _ [32, 33, 34, 35, 36, 37, 38, 39, 40, 41, 42, 43, 44, 31, 45, 46, 47, 48, 49, 50, 19, 7, 21, 22, 23, 51, 52, 53, 54, 101, 102, 94, 95, 96, 97, 98, 99, 100] (by decide +kernel) (by decide +kernel)
theorem gX6_rollUpFirstBlock_X0_take : GoodIn wsX6_rollUpFirstBlock (wsV RX6 92 RX0 yX0_take wsX0_take) := goodIn_app (goodIn_of _ (by decide +kernel)) ggX6_rollUpFirstBlock_X0_take
theorem ggX6_rollUpFirstBlock_X0_isFull : GoodIn wsX6_rollUpFirstBlock wsX0_isFull := goodIn_r _ [58, 33, 34, 101, 102, 94, 95, 96, 97, 98, 99, 100] (by decide +kernel) (by decide +kernel)
theorem gX6_rollUpFirstBlock_X0_isFull : GoodIn wsX6_rollUpFirstBlock (wsV RX6 96 RX0 yX0_isFull wsX0_isFull) := goodIn_app (goodIn_of _ (by decide +kernel)) ggX6_rollUpFirstBlock_X0_isFull
theorem ggX6_rollUpFirstBlock_X6_rollUpFirstFine : GoodIn wsX6_rollUpFirstBlock wsX6_rollUpFirstFine := goodIn_r _ [62, 2, 3, 63, 64, 65, 43, 44, 31, 45, 46, 24, 25, 26, 27, 28, 29, 30, 32, 33, 34, 35, 36, 37, 38, 39, 40, 41, 42, 47, 48, 49, 50, 19, 7, 21, 22, 23, 51, 52, 53, 54, 66, 67, 68, 69, 55, 56, 57, 58, 84, 85, 86, 87, 88, 89, 90, 91, 92, 93, 101, 102, 94, 95, 96, 97, 98, 99, 100] (by decide +kernel) (by decide +kernel)
theorem gX6_rollUpFirstBlock_X6_rollUpFirstFine : GoodIn wsX6_rollUpFirstBlock (wsV RX6 76 RX6 yX6_rollUpFirstFine wsX6_rollUpFirstFine) := goodIn_app (goodIn_of _ (by decide +kernel)) ggX6_rollUpFirstBlock_X6_rollUpFirstFine
theorem ggX6_rollUpFirstBlock_X4_dropFirstBlock : GoodIn wsX6_rollUpFirstBlock wsX4_dropFirstBlock := goodIn_r _ [73, 9, 15, 16, 10, 17, 74, 5, 6, 7, 8, 11, 12, 13, 14, 75, 76, 77, 78, 79, 19, 20, 21, 22, 23, 80, 81, 82, 83, 94, 95, 96, 97, 98, 99, 100, 101, 102] (by decide +kernel) (by decide +kernel)
theorem gX6_rollUpFirstBlock_X4_dropFirstBlock : GoodIn wsX6_rollUpFirstBlock (wsV RX6 99 RX4 yX4_dropFirstBlock wsX4_dropFirstBlock) := goodIn_app (goodIn_of _ (by decide +kernel)) ggX6_rollUpFirstBlock_X4_dropFirstBlock
theorem dX6_rollUpFirstBlock_0 : decode cX6_rollUpFirstBlock 0 = .ok (.aload_n 0, 1) := by decide +kernel
theorem dX6_rollUpFirstBlock_1 : decode cX6_rollUpFirstBlock 1 = .ok (.getfield 12, 3) := by decide +kernel
theorem dX6_rollUpFirstBlock_4 : decode cX6_rollUpFirstBlock 4 = .ok (.iconst 0, 1) := by decide +kernel
theorem dX6_rollUpFirstBlock_5 : decode cX6_rollUpFirstBlock 5 = .ok (.invokevirtual 85, 3) := by decide +kernel
theorem dX6_rollUpFirstBlock_8 : decode cX6_rollUpFirstBlock 8 = .ok (.istore_n 2, 1) := by decide +kernel
theorem dX6_rollUpFirstBlock_9 : decode cX6_rollUpFirstBlock 9 = .ok (.iconst 0, 1) := by decide +kernel
theorem dX6_rollUpFirstBlock_10 : decode cX6_rollUpFirstBlock 10 = .ok (.istore_n 3, 1) := by decide +kernel
theorem dX6_rollUpFirstBlock_11 : decode cX6_rollUpFirstBlock 11 = .ok (.iload_n 3, 1) := by decide +kernel
theorem dX6_rollUpFirstBlock_12 : decode cX6_rollUpFirstBlock 12 = .ok (.iload_n 2, 1) := by decide +kernel
theorem dX6_rollUpFirstBlock_13 : decode cX6_rollUpFirstBlock 13 = .ok (.if_icmp .ge 52, 3) := by decide +kernel
theorem dX6_rollUpFirstBlock_16 : decode cX6_rollUpFirstBlock 16 = .ok (.aload_n 0, 1) := by decide +kernel
theorem dX6_rollUpFirstBlock_17 : decode cX6_rollUpFirstBlock 17 = .ok (.getfield 21, 3) := by decide +kernel
theorem dX6_rollUpFirstBlock_20 : decode cX6_rollUpFirstBlock 20 = .ok (.aload_n 0, 1) := by decide +kernel
theorem dX6_rollUpFirstBlock_21 : decode cX6_rollUpFirstBlock 21 = .ok (.getfield 12, 3) := by decide +kernel
theorem dX6_rollUpFirstBlock_24 : decode cX6_rollUpFirstBlock 24 = .ok (.iload_n 3, 1) := by decide +kernel
theorem dX6_rollUpFirstBlock_25 : decode cX6_rollUpFirstBlock 25 = .ok (.iconst 0, 1) := by decide +kernel
theorem dX6_rollUpFirstBlock_26 : decode cX6_rollUpFirstBlock 26 = .ok (.invokevirtual 88, 3) := by decide +kernel
theorem dX6_rollUpFirstBlock_29 : decode cX6_rollUpFirstBlock 29 = .ok (.aload_n 1, 1) := by decide +kernel
theorem dX6_rollUpFirstBlock_30 : decode cX6_rollUpFirstBlock 30 = .ok (.getfield 69, 3) := by decide +kernel
theorem dX6_rollUpFirstBlock_33 : decode cX6_rollUpFirstBlock 33 = .ok (.invokestatic 89, 3) := by decide +kernel
theorem dX6_rollUpFirstBlock_36 : decode cX6_rollUpFirstBlock 36 = .ok (.aload_n 0, 1) := by decide +kernel
theorem dX6_rollUpFirstBlock_37 : decode cX6_rollUpFirstBlock 37 = .ok (.getfield 12, 3) := by decide +kernel
theorem dX6_rollUpFirstBlock_40 : decode cX6_rollUpFirstBlock 40 = .ok (.iload_n 3, 1) := by decide +kernel
theorem dX6_rollUpFirstBlock_41 : decode cX6_rollUpFirstBlock 41 = .ok (.invokevirtual 92, 3) := by decide +kernel
theorem dX6_rollUpFirstBlock_44 : decode cX6_rollUpFirstBlock 44 = .ok (.aload_n 0, 1) := by decide +kernel
theorem dX6_rollUpFirstBlock_45 : decode cX6_rollUpFirstBlock 45 = .ok (.getfield 21, 3) := by decide +kernel
theorem dX6_rollUpFirstBlock_48 : decode cX6_rollUpFirstBlock 48 = .ok (.invokevirtual 96, 3) := by decide +kernel
theorem dX6_rollUpFirstBlock_51 : decode cX6_rollUpFirstBlock 51 = .ok (.ifCond .eq 8, 3) := by decide +kernel
theorem dX6_rollUpFirstBlock_54 : decode cX6_rollUpFirstBlock 54 = .ok (.aload_n 0, 1) := by decide +kernel
theorem dX6_rollUpFirstBlock_55 : decode cX6_rollUpFirstBlock 55 = .ok (.aload_n 1, 1) := by decide +kernel
theorem dX6_rollUpFirstBlock_56 : decode cX6_rollUpFirstBlock 56 = .ok (.invokevirtual 76, 3) := by decide +kernel
theorem dX6_rollUpFirstBlock_59 : decode cX6_rollUpFirstBlock 59 = .ok (.iinc 3 1, 3) := by decide +kernel
theorem dX6_rollUpFirstBlock_62 : decode cX6_rollUpFirstBlock 62 = .ok (.goto (-51), 3) := by decide +kernel
theorem dX6_rollUpFirstBlock_65 : decode cX6_rollUpFirstBlock 65 = .ok (.aload_n 0, 1) := by decide +kernel
theorem dX6_rollUpFirstBlock_66 : decode cX6_rollUpFirstBlock 66 = .ok (.getfield 12, 3) := by decide +kernel
theorem dX6_rollUpFirstBlock_69 : decode cX6_rollUpFirstBlock 69 = .ok (.invokevirtual 99, 3) := by decide +kernel
theorem dX6_rollUpFirstBlock_72 : decode cX6_rollUpFirstBlock 72 = .ok (.return_, 1) := by decide +kernel
theorem ggX6_rollUpFirstFine_X0_number : GoodIn wsX6_rollUpFirstFine wsX0_number := goodIn_r _ [9, 10, 60, 61] (by decide +kernel) (by decide +kernel)
theorem gX6_rollUpFirstFine_X0_number : GoodIn wsX6_rollUpFirstFine (wsV RX6 82 RX0 yX0_number wsX0_number) := goodIn_app (goodIn_of _ (by decide +kernel)) ggX6_rollUpFirstFine_X0_number
theorem ggX6_rollUpFirstFine_X6_startFor : GoodIn wsX6_rollUpFirstFine wsX6_startFor := goodIn_r _ [14] (by decide +kernel) (by decide +kernel)
theorem gX6_rollUpFirstFine_X6_startFor : GoodIn wsX6_rollUpFirstFine (va_wsS RX6 89 yX6_startFor wsX6_startFor) := goodIn_app (goodIn_of _ (by decide +kernel)) ggX6_rollUpFirstFine_X6_startFor
theorem ggX6_rollUpFirstFine_X0_take : GoodIn wsX6_rollUpFirstFine wsX0_take := goodIn_r _ [18, 19, 20, 21, 22, 23, 24, 25, 26, 27, 28, 6, 7, 8, 9, 10, 29, 30, 31, 32, 33, 34, 35, 36, 37, 38, 39, 40, 41, 60, 61, 62, 63, 64, 65, 66, 67, 68] (by decide +kernel) (by decide +kernel)
theorem gX6_rollUpFirstFine_X0_take : GoodIn wsX6_rollUpFirstFine (wsV RX6 92 RX0 yX0_take wsX0_take) := goodIn_app (goodIn_of _ (by decide +kernel)) ggX6_rollUpFirstFine_X0_take
theorem ggX6_rollUpFirstFine_X0_dropFirst : GoodIn wsX6_rollUpFirstFine wsX0_dropFirst := goodIn_r _ [45, 19, 20, 10, 60, 61, 62, 63, 64, 65, 66, 67, 68] (by decide +kernel) (by decide +kernel)
theorem gX6_rollUpFirstFine_X0_dropFirst : GoodIn wsX6_rollUpFirstFine (wsV RX6 105 RX0 yX0_dropFirst wsX0_dropFirst) := goodIn_app (goodIn_of _ (by decide +kernel)) ggX6_rollUpFirstFine_X0_dropFirst
theorem ggX6_rollUpFirstFine_X0_isFull : GoodIn wsX6_rollUpFirstFine wsX0_isFull := goodIn_r _ [49, 19, 20, 60, 61, 62, 63, 64, 65, 66, 67, 68] (by decide +kernel) (by decide +kernel)
theorem gX6_rollUpFirstFine_X0_isFull : GoodIn wsX6_rollUpFirstFine (wsV RX6 96 RX0 yX0_isFull wsX0_isFull) := goodIn_app (goodIn_of _ (by decide +kernel)) ggX6_rollUpFirstFine_X0_isFull
theorem dX6_rollUpFirstFine_0 : decode cX6_rollUpFirstFine 0 = .ok (.aload_n 0, 1) := by decide +kernel
theorem dX6_rollUpFirstFine_1 : decode cX6_rollUpFirstFine 1 = .ok (.getfield 21, 3) := by decide +kernel
theorem dX6_rollUpFirstFine_4 : decode cX6_rollUpFirstFine 4 = .ok (.iconst 0, 1) := by decide +kernel
theorem dX6_rollUpFirstFine_5 : decode cX6_rollUpFirstFine 5 = .ok (.iconst 0, 1) := by decide +kernel
theorem dX6_rollUpFirstFine_6 : decode cX6_rollUpFirstFine 6 = .ok (.invokevirtual 82, 3) := by decide +kernel
theorem dX6_rollUpFirstFine_9 : decode cX6_rollUpFirstFine 9 = .ok (.aload_n 1, 1) := by decide +kernel
theorem dX6_rollUpFirstFine_10 : decode cX6_rollUpFirstFine 10 = .ok (.getfield 69, 3) := by decide +kernel
theorem dX6_rollUpFirstFine_13 : decode cX6_rollUpFirstFine 13 = .ok (.aload_n 1, 1) := by decide +kernel
theorem dX6_rollUpFirstFine_14 : decode cX6_rollUpFirstFine 14 = .ok (.getfield 102, 3) := by decide +kernel
theorem dX6_rollUpFirstFine_17 : decode cX6_rollUpFirstFine 17 = .ok (.imul, 1) := by decide +kernel
theorem dX6_rollUpFirstFine_18 : decode cX6_rollUpFirstFine 18 = .ok (.invokestatic 89, 3) := by decide +kernel
theorem dX6_rollUpFirstFine_21 : decode cX6_rollUpFirstFine 21 = .ok (.istore_n 2, 1) := by decide +kernel
theorem dX6_rollUpFirstFine_22 : decode cX6_rollUpFirstFine 22 = .ok (.aload_n 0, 1) := by decide +kernel
theorem dX6_rollUpFirstFine_23 : decode cX6_rollUpFirstFine 23 = .ok (.getfield 25, 3) := by decide +kernel
theorem dX6_rollUpFirstFine_26 : decode cX6_rollUpFirstFine 26 = .ok (.iload_n 2, 1) := by decide +kernel
theorem dX6_rollUpFirstFine_27 : decode cX6_rollUpFirstFine 27 = .ok (.aload_n 0, 1) := by decide +kernel
theorem dX6_rollUpFirstFine_28 : decode cX6_rollUpFirstFine 28 = .ok (.getfield 21, 3) := by decide +kernel
theorem dX6_rollUpFirstFine_31 : decode cX6_rollUpFirstFine 31 = .ok (.iconst 0, 1) := by decide +kernel
theorem dX6_rollUpFirstFine_32 : decode cX6_rollUpFirstFine 32 = .ok (.invokevirtual 92, 3) := by decide +kernel
theorem dX6_rollUpFirstFine_35 : decode cX6_rollUpFirstFine 35 = .ok (.aload_n 0, 1) := by decide +kernel
theorem dX6_rollUpFirstFine_36 : decode cX6_rollUpFirstFine 36 = .ok (.getfield 21, 3) := by decide +kernel
theorem dX6_rollUpFirstFine_39 : decode cX6_rollUpFirstFine 39 = .ok (.invokevirtual 105, 3) := by decide +kernel
theorem dX6_rollUpFirstFine_42 : decode cX6_rollUpFirstFine 42 = .ok (.aload_n 0, 1) := by decide +kernel
theorem dX6_rollUpFirstFine_43 : decode cX6_rollUpFirstFine 43 = .ok (.getfield 25, 3) := by decide +kernel
theorem dX6_rollUpFirstFine_46 : decode cX6_rollUpFirstFine 46 = .ok (.invokevirtual 96, 3) := by decide +kernel
theorem dX6_rollUpFirstFine_49 : decode cX6_rollUpFirstFine 49 = .ok (.ifCond .eq 10, 3) := by decide +kernel
theorem dX6_rollUpFirstFine_52 : decode cX6_rollUpFirstFine 52 = .ok (.aload_n 0, 1) := by decide +kernel
theorem dX6_rollUpFirstFine_53 : decode cX6_rollUpFirstFine 53 = .ok (.getfield 25, 3) := by decide +kernel
theorem dX6_rollUpFirstFine_56 : decode cX6_rollUpFirstFine 56 = .ok (.invokevirtual 105, 3) := by decide +kernel
theorem dX6_rollUpFirstFine_59 : decode cX6_rollUpFirstFine 59 = .ok (.return_, 1) := by decide +kernel
theorem dX6_startFor_0 : decode cX6_startFor 0 = .ok (.iload_n 1, 1) := by decide +kernel
theorem dX6_startFor_1 : decode cX6_startFor 1 = .ok (.ifCond .le 11, 3) := by decide +kernel
theorem dX6_startFor_4 : decode cX6_startFor 4 = .ok (.iload_n 0, 1) := by decide +kernel
theorem dX6_startFor_5 : decode cX6_startFor 5 = .ok (.iload_n 0, 1) := by decide +kernel
theorem dX6_startFor_6 : decode cX6_startFor 6 = .ok (.iload_n 1, 1) := by decide +kernel
theorem dX6_startFor_7 : decode cX6_startFor 7 = .ok (.irem, 1) := by decide +kernel
theorem dX6_startFor_8 : decode cX6_startFor 8 = .ok (.isub, 1) := by decide +kernel
theorem dX6_startFor_9 : decode cX6_startFor 9 = .ok (.goto 4, 3) := by decide +kernel
theorem dX6_startFor_12 : decode cX6_startFor 12 = .ok (.iload_n 0, 1) := by decide +kernel
theorem dX6_startFor_13 : decode cX6_startFor 13 = .ok (.ireturn, 1) := by decide +kernel
theorem dX6_itemCount_0 : decode cX6_itemCount 0 = .ok (.aload_n 0, 1) := by decide +kernel
theorem dX6_itemCount_1 : decode cX6_itemCount 1 = .ok (.getfield 25, 3) := by decide +kernel
theorem dX6_itemCount_4 : decode cX6_itemCount 4 = .ok (.getfield 79, 3) := by decide +kernel
theorem dX6_itemCount_7 : decode cX6_itemCount 7 = .ok (.aload_n 0, 1) := by decide +kernel
theorem dX6_itemCount_8 : decode cX6_itemCount 8 = .ok (.getfield 21, 3) := by decide +kernel
theorem dX6_itemCount_11 : decode cX6_itemCount 11 = .ok (.getfield 79, 3) := by decide +kernel
theorem dX6_itemCount_14 : decode cX6_itemCount 14 = .ok (.iadd, 1) := by decide +kernel
theorem dX6_itemCount_15 : decode cX6_itemCount 15 = .ok (.aload_n 0, 1) := by decide +kernel
theorem dX6_itemCount_16 : decode cX6_itemCount 16 = .ok (.getfield 12, 3) := by decide +kernel
theorem dX6_itemCount_19 : decode cX6_itemCount 19 = .ok (.getfield 108, 3) := by decide +kernel
theorem dX6_itemCount_22 : decode cX6_itemCount 22 = .ok (.iadd, 1) := by decide +kernel
theorem dX6_itemCount_23 : decode cX6_itemCount 23 = .ok (.ireturn, 1) := by decide +kernel
theorem ggX6_ofItem_X0_number : GoodIn wsX6_ofItem wsX0_number := goodIn_r _ [10, 11, 24, 25] (by decide +kernel) (by decide +kernel)
theorem gX6_ofItem_X0_number : GoodIn wsX6_ofItem (wsV RX6 82 RX0 yX0_number wsX0_number) := goodIn_app (goodIn_of _ (by decide +kernel)) ggX6_ofItem_X0_number
theorem ggX6_ofItem_X4_number : GoodIn wsX6_ofItem wsX4_number := goodIn_r _ [16, 17, 18, 26, 27, 28, 29, 30, 31, 32] (by decide +kernel) (by decide +kernel)
theorem gX6_ofItem_X4_number : GoodIn wsX6_ofItem (wsV RX6 88 RX4 yX4_number wsX4_number) := goodIn_app (goodIn_of _ (by decide +kernel)) ggX6_ofItem_X4_number
theorem dX6_ofItem_0 : decode cX6_ofItem 0 = .ok (.iload_n 1, 1) := by decide +kernel
theorem dX6_ofItem_1 : decode cX6_ofItem 1 = .ok (.aload_n 0, 1) := by decide +kernel
theorem dX6_ofItem_2 : decode cX6_ofItem 2 = .ok (.getfield 25, 3) := by decide +kernel
theorem dX6_ofItem_5 : decode cX6_ofItem 5 = .ok (.getfield 79, 3) := by decide +kernel
theorem dX6_ofItem_8 : decode cX6_ofItem 8 = .ok (.if_icmp .ge 13, 3) := by decide +kernel
theorem dX6_ofItem_11 : decode cX6_ofItem 11 = .ok (.aload_n 0, 1) := by decide +kernel
theorem dX6_ofItem_12 : decode cX6_ofItem 12 = .ok (.getfield 25, 3) := by decide +kernel
theorem dX6_ofItem_15 : decode cX6_ofItem 15 = .ok (.iload_n 1, 1) := by decide +kernel
theorem dX6_ofItem_16 : decode cX6_ofItem 16 = .ok (.iload_n 2, 1) := by decide +kernel
theorem dX6_ofItem_17 : decode cX6_ofItem 17 = .ok (.invokevirtual 82, 3) := by decide +kernel
theorem dX6_ofItem_20 : decode cX6_ofItem 20 = .ok (.ireturn, 1) := by decide +kernel
theorem dX6_ofItem_21 : decode cX6_ofItem 21 = .ok (.iload_n 1, 1) := by decide +kernel
theorem dX6_ofItem_22 : decode cX6_ofItem 22 = .ok (.aload_n 0, 1) := by decide +kernel
theorem dX6_ofItem_23 : decode cX6_ofItem 23 = .ok (.getfield 25, 3) := by decide +kernel
theorem dX6_ofItem_26 : decode cX6_ofItem 26 = .ok (.getfield 79, 3) := by decide +kernel
theorem dX6_ofItem_29 : decode cX6_ofItem 29 = .ok (.isub, 1) := by decide +kernel
theorem dX6_ofItem_30 : decode cX6_ofItem 30 = .ok (.istore_n 3, 1) := by decide +kernel
theorem dX6_ofItem_31 : decode cX6_ofItem 31 = .ok (.iload_n 3, 1) := by decide +kernel
theorem dX6_ofItem_32 : decode cX6_ofItem 32 = .ok (.aload_n 0, 1) := by decide +kernel
theorem dX6_ofItem_33 : decode cX6_ofItem 33 = .ok (.getfield 21, 3) := by decide +kernel
theorem dX6_ofItem_36 : decode cX6_ofItem 36 = .ok (.getfield 79, 3) := by decide +kernel
theorem dX6_ofItem_39 : decode cX6_ofItem 39 = .ok (.if_icmp .ge 13, 3) := by decide +kernel
theorem dX6_ofItem_42 : decode cX6_ofItem 42 = .ok (.aload_n 0, 1) := by decide +kernel
theorem dX6_ofItem_43 : decode cX6_ofItem 43 = .ok (.getfield 21, 3) := by decide +kernel
theorem dX6_ofItem_46 : decode cX6_ofItem 46 = .ok (.iload_n 3, 1) := by decide +kernel
theorem dX6_ofItem_47 : decode cX6_ofItem 47 = .ok (.iload_n 2, 1) := by decide +kernel
theorem dX6_ofItem_48 : decode cX6_ofItem 48 = .ok (.invokevirtual 82, 3) := by decide +kernel
theorem dX6_ofItem_51 : decode cX6_ofItem 51 = .ok (.ireturn, 1) := by decide +kernel
theorem dX6_ofItem_52 : decode cX6_ofItem 52 = .ok (.aload_n 0, 1) := by decide +kernel
theorem dX6_ofItem_53 : decode cX6_ofItem 53 = .ok (.getfield 12, 3) := by decide +kernel
theorem dX6_ofItem_56 : decode cX6_ofItem 56 = .ok (.iload_n 3, 1) := by decide +kernel
theorem dX6_ofItem_57 : decode cX6_ofItem 57 = .ok (.aload_n 0, 1) := by decide +kernel
theorem dX6_ofItem_58 : decode cX6_ofItem 58 = .ok (.getfield 21, 3) := by decide +kernel
theorem dX6_ofItem_61 : decode cX6_ofItem 61 = .ok (.getfield 79, 3) := by decide +kernel
theorem dX6_ofItem_64 : decode cX6_ofItem 64 = .ok (.isub, 1) := by decide +kernel
theorem dX6_ofItem_65 : decode cX6_ofItem 65 = .ok (.iload_n 2, 1) := by decide +kernel
theorem dX6_ofItem_66 : decode cX6_ofItem 66 = .ok (.invokevirtual 88, 3) := by decide +kernel
theorem dX6_ofItem_69 : decode cX6_ofItem 69 = .ok (.ireturn, 1) := by decide +kernel
theorem ggX6_firstItemFrom_X6_itemCount : GoodIn wsX6_firstItemFrom wsX6_itemCount := goodIn_r _ [5, 6, 7, 8, 9, 10, 11, 12, 30, 31, 32, 33, 34, 35, 36, 37, 38, 39, 40, 41, 42, 43] (by decide +kernel) (by decide +kernel)
theorem gX6_firstItemFrom_X6_itemCount : GoodIn wsX6_firstItemFrom (wsV RX6 109 RX6 yX6_itemCount wsX6_itemCount) := goodIn_app (goodIn_of _ (by decide +kernel)) ggX6_firstItemFrom_X6_itemCount
theorem ggX6_firstItemFrom_X6_ofItem : GoodIn wsX6_firstItemFrom wsX6_ofItem := goodIn_r _ [16, 6, 7, 8, 9, 10, 17, 18, 19, 20, 21, 22, 23, 24, 25, 26, 27, 28, 29, 30, 31, 32, 33, 34, 35, 36, 37, 38, 39, 40, 41, 42, 43] (by decide +kernel) (by decide +kernel)
theorem gX6_firstItemFrom_X6_ofItem : GoodIn wsX6_firstItemFrom (wsV RX6 112 RX6 yX6_ofItem wsX6_ofItem) := goodIn_app (goodIn_of _ (by decide +kernel)) ggX6_firstItemFrom_X6_ofItem
theorem dX6_firstItemFrom_0 : decode cX6_firstItemFrom 0 = .ok (.iconst 0, 1) := by decide +kernel
theorem dX6_firstItemFrom_1 : decode cX6_firstItemFrom 1 = .ok (.istore_n 2, 1) := by decide +kernel
theorem dX6_firstItemFrom_2 : decode cX6_firstItemFrom 2 = .ok (.aload_n 0, 1) := by decide +kernel
theorem dX6_firstItemFrom_3 : decode cX6_firstItemFrom 3 = .ok (.invokevirtual 109, 3) := by decide +kernel
theorem dX6_firstItemFrom_6 : decode cX6_firstItemFrom 6 = .ok (.istore_n 3, 1) := by decide +kernel
theorem dX6_firstItemFrom_7 : decode cX6_firstItemFrom 7 = .ok (.iconst 0, 1) := by decide +kernel
theorem dX6_firstItemFrom_8 : decode cX6_firstItemFrom 8 = .ok (.istore 4, 2) := by decide +kernel
theorem dX6_firstItemFrom_10 : decode cX6_firstItemFrom 10 = .ok (.iload 4, 2) := by decide +kernel
theorem dX6_firstItemFrom_12 : decode cX6_firstItemFrom 12 = .ok (.bipush 32, 2) := by decide +kernel
theorem dX6_firstItemFrom_14 : decode cX6_firstItemFrom 14 = .ok (.if_icmp .ge 43, 3) := by decide +kernel
theorem dX6_firstItemFrom_17 : decode cX6_firstItemFrom 17 = .ok (.iload_n 2, 1) := by decide +kernel
theorem dX6_firstItemFrom_18 : decode cX6_firstItemFrom 18 = .ok (.iload_n 3, 1) := by decide +kernel
theorem dX6_firstItemFrom_19 : decode cX6_firstItemFrom 19 = .ok (.if_icmp .ge 38, 3) := by decide +kernel
theorem dX6_firstItemFrom_22 : decode cX6_firstItemFrom 22 = .ok (.iload_n 2, 1) := by decide +kernel
theorem dX6_firstItemFrom_23 : decode cX6_firstItemFrom 23 = .ok (.iload_n 3, 1) := by decide +kernel
theorem dX6_firstItemFrom_24 : decode cX6_firstItemFrom 24 = .ok (.iadd, 1) := by decide +kernel
theorem dX6_firstItemFrom_25 : decode cX6_firstItemFrom 25 = .ok (.iconst 2, 1) := by decide +kernel
theorem dX6_firstItemFrom_26 : decode cX6_firstItemFrom 26 = .ok (.idiv, 1) := by decide +kernel
theorem dX6_firstItemFrom_27 : decode cX6_firstItemFrom 27 = .ok (.istore 5, 2) := by decide +kernel
theorem dX6_firstItemFrom_29 : decode cX6_firstItemFrom 29 = .ok (.aload_n 0, 1) := by decide +kernel
theorem dX6_firstItemFrom_30 : decode cX6_firstItemFrom 30 = .ok (.iload 5, 2) := by decide +kernel
theorem dX6_firstItemFrom_32 : decode cX6_firstItemFrom 32 = .ok (.iconst 0, 1) := by decide +kernel
theorem dX6_firstItemFrom_33 : decode cX6_firstItemFrom 33 = .ok (.invokevirtual 112, 3) := by decide +kernel
theorem dX6_firstItemFrom_36 : decode cX6_firstItemFrom 36 = .ok (.iload_n 1, 1) := by decide +kernel
theorem dX6_firstItemFrom_37 : decode cX6_firstItemFrom 37 = .ok (.if_icmp .ge 11, 3) := by decide +kernel
theorem dX6_firstItemFrom_40 : decode cX6_firstItemFrom 40 = .ok (.iload 5, 2) := by decide +kernel
theorem dX6_firstItemFrom_42 : decode cX6_firstItemFrom 42 = .ok (.iconst 1, 1) := by decide +kernel
theorem dX6_firstItemFrom_43 : decode cX6_firstItemFrom 43 = .ok (.iadd, 1) := by decide +kernel
theorem dX6_firstItemFrom_44 : decode cX6_firstItemFrom 44 = .ok (.istore_n 2, 1) := by decide +kernel
theorem dX6_firstItemFrom_45 : decode cX6_firstItemFrom 45 = .ok (.goto 6, 3) := by decide +kernel
theorem dX6_firstItemFrom_48 : decode cX6_firstItemFrom 48 = .ok (.iload 5, 2) := by decide +kernel
theorem dX6_firstItemFrom_50 : decode cX6_firstItemFrom 50 = .ok (.istore_n 3, 1) := by decide +kernel
theorem dX6_firstItemFrom_51 : decode cX6_firstItemFrom 51 = .ok (.iinc 4 1, 3) := by decide +kernel
theorem dX6_firstItemFrom_54 : decode cX6_firstItemFrom 54 = .ok (.goto (-44), 3) := by decide +kernel
theorem dX6_firstItemFrom_57 : decode cX6_firstItemFrom 57 = .ok (.iload_n 2, 1) := by decide +kernel
theorem dX6_firstItemFrom_58 : decode cX6_firstItemFrom 58 = .ok (.ireturn, 1) := by decide +kernel
theorem ggX6_tell_X6_firstItemFrom : GoodIn wsX6_tell wsX6_firstItemFrom := goodIn_r _ [5, 6, 7, 8, 4, 9, 10, 11, 12, 13, 14, 15, 16, 17, 18, 19, 20, 21, 22, 23, 24, 25, 26, 27, 28, 29, 30, 31, 32, 33, 65, 66, 67, 68, 69, 70, 71, 72, 73, 74, 75, 76, 77, 78] (by decide +kernel) (by decide +kernel)
theorem gX6_tell_X6_firstItemFrom : GoodIn wsX6_tell (wsV RX6 115 RX6 yX6_firstItemFrom wsX6_firstItemFrom) := goodIn_app (goodIn_of _ (by decide +kernel)) ggX6_tell_X6_firstItemFrom
theorem ggX6_tell_X6_toldOfGap : GoodIn wsX6_tell wsX6_toldOfGap := goodIn_r _ [37, 38, 17, 18, 19, 4, 20, 10, 11, 12, 13, 14, 21, 22, 23, 24, 25, 26, 27, 28, 29, 30, 31, 32, 33, 6, 7, 8, 9, 15, 16, 39, 40, 41, 42, 65, 66, 67, 68, 69, 70, 71, 72, 73, 74, 75, 76, 77, 78] (by decide +kernel) (by decide +kernel)
theorem gX6_tell_X6_toldOfGap : GoodIn wsX6_tell (wsV RX6 118 RX6 yX6_toldOfGap wsX6_toldOfGap) := goodIn_app (goodIn_of _ (by decide +kernel)) ggX6_tell_X6_toldOfGap
theorem ggX6_tell_X6_total : GoodIn wsX6_tell wsX6_total := goodIn_r _ [46, 17, 18, 19, 4, 20, 10, 11, 12, 13, 14, 21, 22, 23, 24, 25, 26, 27, 28, 29, 30, 31, 32, 33, 65, 66, 67, 68, 69, 70, 71, 72, 73, 74, 75, 76, 77, 78] (by decide +kernel) (by decide +kernel)
theorem gX6_tell_X6_total : GoodIn wsX6_tell (wsV RX6 122 RX6 yX6_total wsX6_total) := goodIn_app (goodIn_of _ (by decide +kernel)) ggX6_tell_X6_total
theorem ggX6_tell_X6_least : GoodIn wsX6_tell wsX6_least := goodIn_r _ [50, 51, 52, 53, 54, 17, 18, 19, 4, 20, 10, 11, 12, 13, 14, 21, 22, 23, 24, 25, 26, 27, 28, 29, 30, 31, 32, 33, 65, 66, 67, 68, 69, 70, 71, 72, 73, 74, 75, 76, 77, 78] (by decide +kernel) (by decide +kernel)
theorem gX6_tell_X6_least : GoodIn wsX6_tell (wsV RX6 125 RX6 yX6_least wsX6_least) := goodIn_app (goodIn_of _ (by decide +kernel)) ggX6_tell_X6_least
theorem ggX6_tell_X6_greatest : GoodIn wsX6_tell wsX6_greatest := goodIn_r _ [58, 59, 60, 53, 61, 17, 18, 19, 4, 20, 10, 11, 12, 13, 14, 21, 22, 23, 24, 25, 26, 27, 28, 29, 30, 31, 32, 33, 65, 66, 67, 68, 69, 70, 71, 72, 73, 74, 75, 76, 77, 78] (by decide +kernel) (by decide +kernel)
theorem gX6_tell_X6_greatest : GoodIn wsX6_tell (wsV RX6 128 RX6 yX6_greatest wsX6_greatest) := goodIn_app (goodIn_of _ (by decide +kernel)) ggX6_tell_X6_greatest
theorem ggX6_tell_X6_ofItem : GoodIn wsX6_tell wsX6_ofItem := goodIn_r _ [20, 10, 11, 12, 13, 14, 21, 22, 23, 24, 25, 26, 27, 28, 29, 30, 31, 32, 33, 65, 66, 67, 68, 69, 70, 71, 72, 73, 74, 75, 76, 77, 78] (by decide +kernel) (by decide +kernel)
theorem gX6_tell_X6_ofItem : GoodIn wsX6_tell (wsV RX6 112 RX6 yX6_ofItem wsX6_ofItem) := goodIn_app (goodIn_of _ (by decide +kernel)) ggX6_tell_X6_ofItem
theorem ggX6_tell_X6_quotient : GoodIn wsX6_tell wsX6_quotient := goodIn_r _ [64, 38] (by decide +kernel) (by decide +kernel)
theorem gX6_tell_X6_quotient : GoodIn wsX6_tell (va_wsS RX6 131 yX6_quotient wsX6_quotient) := goodIn_app (goodIn_of _ (by decide +kernel)) ggX6_tell_X6_quotient
theorem dX6_tell_0 : decode cX6_tell 0 = .ok (.aload_n 0, 1) := by decide +kernel
theorem dX6_tell_1 : decode cX6_tell 1 = .ok (.iload_n 1, 1) := by decide +kernel
theorem dX6_tell_2 : decode cX6_tell 2 = .ok (.invokevirtual 115, 3) := by decide +kernel
theorem dX6_tell_5 : decode cX6_tell 5 = .ok (.istore 5, 2) := by decide +kernel
theorem dX6_tell_7 : decode cX6_tell 7 = .ok (.aload_n 0, 1) := by decide +kernel
theorem dX6_tell_8 : decode cX6_tell 8 = .ok (.iload_n 2, 1) := by decide +kernel
theorem dX6_tell_9 : decode cX6_tell 9 = .ok (.invokevirtual 115, 3) := by decide +kernel
theorem dX6_tell_12 : decode cX6_tell 12 = .ok (.istore 6, 2) := by decide +kernel
theorem dX6_tell_14 : decode cX6_tell 14 = .ok (.iload 5, 2) := by decide +kernel
theorem dX6_tell_16 : decode cX6_tell 16 = .ok (.iload 6, 2) := by decide +kernel
theorem dX6_tell_18 : decode cX6_tell 18 = .ok (.if_icmp .lt 21, 3) := by decide +kernel
theorem dX6_tell_21 : decode cX6_tell 21 = .ok (.iload_n 3, 1) := by decide +kernel
theorem dX6_tell_22 : decode cX6_tell 22 = .ok (.ifCond .ne 7, 3) := by decide +kernel
theorem dX6_tell_25 : decode cX6_tell 25 = .ok (.iconst 0, 1) := by decide +kernel
theorem dX6_tell_26 : decode cX6_tell 26 = .ok (.goto 12, 3) := by decide +kernel
theorem dX6_tell_29 : decode cX6_tell 29 = .ok (.aload_n 0, 1) := by decide +kernel
theorem dX6_tell_30 : decode cX6_tell 30 = .ok (.iload_n 1, 1) := by decide +kernel
theorem dX6_tell_31 : decode cX6_tell 31 = .ok (.iload 5, 2) := by decide +kernel
theorem dX6_tell_33 : decode cX6_tell 33 = .ok (.iload 4, 2) := by decide +kernel
theorem dX6_tell_35 : decode cX6_tell 35 = .ok (.invokevirtual 118, 3) := by decide +kernel
theorem dX6_tell_38 : decode cX6_tell 38 = .ok (.ireturn, 1) := by decide +kernel
theorem dX6_tell_39 : decode cX6_tell 39 = .ok (.iload_n 3, 1) := by decide +kernel
theorem dX6_tell_40 : decode cX6_tell 40 = .ok (.tableswitch 123 0 6 #[44, 54, 64, 73, 82, 90, 101], 44) := by decide +kernel
theorem dX6_tell_84 : decode cX6_tell 84 = .ok (.aload_n 0, 1) := by decide +kernel
theorem dX6_tell_85 : decode cX6_tell 85 = .ok (.iload 5, 2) := by decide +kernel
theorem dX6_tell_87 : decode cX6_tell 87 = .ok (.iload 6, 2) := by decide +kernel
theorem dX6_tell_89 : decode cX6_tell 89 = .ok (.iconst 1, 1) := by decide +kernel
theorem dX6_tell_90 : decode cX6_tell 90 = .ok (.invokevirtual 122, 3) := by decide +kernel
theorem dX6_tell_93 : decode cX6_tell 93 = .ok (.ireturn, 1) := by decide +kernel
theorem dX6_tell_94 : decode cX6_tell 94 = .ok (.aload_n 0, 1) := by decide +kernel
theorem dX6_tell_95 : decode cX6_tell 95 = .ok (.iload 5, 2) := by decide +kernel
theorem dX6_tell_97 : decode cX6_tell 97 = .ok (.iload 6, 2) := by decide +kernel
theorem dX6_tell_99 : decode cX6_tell 99 = .ok (.iconst 2, 1) := by decide +kernel
theorem dX6_tell_100 : decode cX6_tell 100 = .ok (.invokevirtual 122, 3) := by decide +kernel
theorem dX6_tell_103 : decode cX6_tell 103 = .ok (.ireturn, 1) := by decide +kernel
theorem dX6_tell_104 : decode cX6_tell 104 = .ok (.aload_n 0, 1) := by decide +kernel
theorem dX6_tell_105 : decode cX6_tell 105 = .ok (.iload 5, 2) := by decide +kernel
theorem dX6_tell_107 : decode cX6_tell 107 = .ok (.iload 6, 2) := by decide +kernel
theorem dX6_tell_109 : decode cX6_tell 109 = .ok (.invokevirtual 125, 3) := by decide +kernel
theorem dX6_tell_112 : decode cX6_tell 112 = .ok (.ireturn, 1) := by decide +kernel
theorem dX6_tell_113 : decode cX6_tell 113 = .ok (.aload_n 0, 1) := by decide +kernel
theorem dX6_tell_114 : decode cX6_tell 114 = .ok (.iload 5, 2) := by decide +kernel
theorem dX6_tell_116 : decode cX6_tell 116 = .ok (.iload 6, 2) := by decide +kernel
theorem dX6_tell_118 : decode cX6_tell 118 = .ok (.invokevirtual 128, 3) := by decide +kernel
theorem dX6_tell_121 : decode cX6_tell 121 = .ok (.ireturn, 1) := by decide +kernel
theorem dX6_tell_122 : decode cX6_tell 122 = .ok (.aload_n 0, 1) := by decide +kernel
theorem dX6_tell_123 : decode cX6_tell 123 = .ok (.iload 5, 2) := by decide +kernel
theorem dX6_tell_125 : decode cX6_tell 125 = .ok (.iconst 5, 1) := by decide +kernel
theorem dX6_tell_126 : decode cX6_tell 126 = .ok (.invokevirtual 112, 3) := by decide +kernel
theorem dX6_tell_129 : decode cX6_tell 129 = .ok (.ireturn, 1) := by decide +kernel
theorem dX6_tell_130 : decode cX6_tell 130 = .ok (.aload_n 0, 1) := by decide +kernel
theorem dX6_tell_131 : decode cX6_tell 131 = .ok (.iload 6, 2) := by decide +kernel
theorem dX6_tell_133 : decode cX6_tell 133 = .ok (.iconst 1, 1) := by decide +kernel
theorem dX6_tell_134 : decode cX6_tell 134 = .ok (.isub, 1) := by decide +kernel
theorem dX6_tell_135 : decode cX6_tell 135 = .ok (.bipush 6, 2) := by decide +kernel
theorem dX6_tell_137 : decode cX6_tell 137 = .ok (.invokevirtual 112, 3) := by decide +kernel
theorem dX6_tell_140 : decode cX6_tell 140 = .ok (.ireturn, 1) := by decide +kernel
theorem dX6_tell_141 : decode cX6_tell 141 = .ok (.aload_n 0, 1) := by decide +kernel
theorem dX6_tell_142 : decode cX6_tell 142 = .ok (.iload 5, 2) := by decide +kernel
theorem dX6_tell_144 : decode cX6_tell 144 = .ok (.iload 6, 2) := by decide +kernel
theorem dX6_tell_146 : decode cX6_tell 146 = .ok (.iconst 2, 1) := by decide +kernel
theorem dX6_tell_147 : decode cX6_tell 147 = .ok (.invokevirtual 122, 3) := by decide +kernel
theorem dX6_tell_150 : decode cX6_tell 150 = .ok (.aload_n 0, 1) := by decide +kernel
theorem dX6_tell_151 : decode cX6_tell 151 = .ok (.iload 5, 2) := by decide +kernel
theorem dX6_tell_153 : decode cX6_tell 153 = .ok (.iload 6, 2) := by decide +kernel
theorem dX6_tell_155 : decode cX6_tell 155 = .ok (.iconst 1, 1) := by decide +kernel
theorem dX6_tell_156 : decode cX6_tell 156 = .ok (.invokevirtual 122, 3) := by decide +kernel
theorem dX6_tell_159 : decode cX6_tell 159 = .ok (.invokestatic 131, 3) := by decide +kernel
theorem dX6_tell_162 : decode cX6_tell 162 = .ok (.ireturn, 1) := by decide +kernel
theorem dX6_tell_163 : decode cX6_tell 163 = .ok (.aload_n 0, 1) := by decide +kernel
theorem dX6_tell_164 : decode cX6_tell 164 = .ok (.iload 5, 2) := by decide +kernel
theorem dX6_tell_166 : decode cX6_tell 166 = .ok (.iload 6, 2) := by decide +kernel
theorem dX6_tell_168 : decode cX6_tell 168 = .ok (.invokevirtual 128, 3) := by decide +kernel
theorem dX6_tell_171 : decode cX6_tell 171 = .ok (.aload_n 0, 1) := by decide +kernel
theorem dX6_tell_172 : decode cX6_tell 172 = .ok (.iload 5, 2) := by decide +kernel
theorem dX6_tell_174 : decode cX6_tell 174 = .ok (.iload 6, 2) := by decide +kernel
theorem dX6_tell_176 : decode cX6_tell 176 = .ok (.invokevirtual 125, 3) := by decide +kernel
theorem dX6_tell_179 : decode cX6_tell 179 = .ok (.isub, 1) := by decide +kernel
theorem dX6_tell_180 : decode cX6_tell 180 = .ok (.ireturn, 1) := by decide +kernel
theorem ggX6_toldOfGap_X6_ofItem : GoodIn wsX6_toldOfGap wsX6_ofItem := goodIn_r _ [6, 7, 8, 9, 10, 11, 12, 13, 14, 15, 16, 17, 18, 19, 20, 21, 22, 23, 24, 35, 36, 37, 38, 39, 40, 41, 42, 43, 44, 45, 46, 47, 48] (by decide +kernel) (by decide +kernel)
theorem gX6_toldOfGap_X6_ofItem : GoodIn wsX6_toldOfGap (wsV RX6 112 RX6 yX6_ofItem wsX6_ofItem) := goodIn_app (goodIn_of _ (by decide +kernel)) ggX6_toldOfGap_X6_ofItem
theorem ggX6_toldOfGap_X6_itemCount : GoodIn wsX6_toldOfGap wsX6_itemCount := goodIn_r _ [28, 7, 8, 9, 10, 11, 29, 30, 35, 36, 37, 38, 39, 40, 41, 42, 43, 44, 45, 46, 47, 48] (by decide +kernel) (by decide +kernel)
theorem gX6_toldOfGap_X6_itemCount : GoodIn wsX6_toldOfGap (wsV RX6 109 RX6 yX6_itemCount wsX6_itemCount) := goodIn_app (goodIn_of _ (by decide +kernel)) ggX6_toldOfGap_X6_itemCount
theorem ggX6_toldOfGap_X6_onLine : GoodIn wsX6_toldOfGap wsX6_onLine := goodIn_r _ [34, 1, 2, 3, 4, 5, 6, 7, 8, 9, 10, 11, 12, 13, 14, 15, 16, 17, 18, 19, 20, 21, 22, 23, 24, 35, 36, 37, 38, 39, 40, 41, 42, 43, 44, 45, 46, 47, 48] (by decide +kernel) (by decide +kernel)
theorem gX6_toldOfGap_X6_onLine : GoodIn wsX6_toldOfGap (wsV RX6 135 RX6 yX6_onLine wsX6_onLine) := goodIn_app (goodIn_of _ (by decide +kernel)) ggX6_toldOfGap_X6_onLine
theorem dX6_toldOfGap_0 : decode cX6_toldOfGap 0 = .ok (.iload_n 2, 1) := by decide +kernel
theorem dX6_toldOfGap_1 : decode cX6_toldOfGap 1 = .ok (.iconst 1, 1) := by decide +kernel
theorem dX6_toldOfGap_2 : decode cX6_toldOfGap 2 = .ok (.isub, 1) := by decide +kernel
theorem dX6_toldOfGap_3 : decode cX6_toldOfGap 3 = .ok (.istore 4, 2) := by decide +kernel
theorem dX6_toldOfGap_5 : decode cX6_toldOfGap 5 = .ok (.iload_n 3, 1) := by decide +kernel
theorem dX6_toldOfGap_6 : decode cX6_toldOfGap 6 = .ok (.tableswitch 74 1 3 #[26, 28, 47], 26) := by decide +kernel
theorem dX6_toldOfGap_32 : decode cX6_toldOfGap 32 = .ok (.iconst 0, 1) := by decide +kernel
theorem dX6_toldOfGap_33 : decode cX6_toldOfGap 33 = .ok (.ireturn, 1) := by decide +kernel
theorem dX6_toldOfGap_34 : decode cX6_toldOfGap 34 = .ok (.iload 4, 2) := by decide +kernel
theorem dX6_toldOfGap_36 : decode cX6_toldOfGap 36 = .ok (.ifCond .lt 14, 3) := by decide +kernel
theorem dX6_toldOfGap_39 : decode cX6_toldOfGap 39 = .ok (.aload_n 0, 1) := by decide +kernel
theorem dX6_toldOfGap_40 : decode cX6_toldOfGap 40 = .ok (.iload 4, 2) := by decide +kernel
theorem dX6_toldOfGap_42 : decode cX6_toldOfGap 42 = .ok (.bipush 6, 2) := by decide +kernel
theorem dX6_toldOfGap_44 : decode cX6_toldOfGap 44 = .ok (.invokevirtual 112, 3) := by decide +kernel
theorem dX6_toldOfGap_47 : decode cX6_toldOfGap 47 = .ok (.goto 5, 3) := by decide +kernel
theorem dX6_toldOfGap_50 : decode cX6_toldOfGap 50 = .ok (.ldc 134, 2) := by decide +kernel
theorem dX6_toldOfGap_52 : decode cX6_toldOfGap 52 = .ok (.ireturn, 1) := by decide +kernel
theorem dX6_toldOfGap_53 : decode cX6_toldOfGap 53 = .ok (.iload 4, 2) := by decide +kernel
theorem dX6_toldOfGap_55 : decode cX6_toldOfGap 55 = .ok (.ifCond .lt 22, 3) := by decide +kernel
theorem dX6_toldOfGap_58 : decode cX6_toldOfGap 58 = .ok (.iload_n 2, 1) := by decide +kernel
theorem dX6_toldOfGap_59 : decode cX6_toldOfGap 59 = .ok (.aload_n 0, 1) := by decide +kernel
theorem dX6_toldOfGap_60 : decode cX6_toldOfGap 60 = .ok (.invokevirtual 109, 3) := by decide +kernel
theorem dX6_toldOfGap_63 : decode cX6_toldOfGap 63 = .ok (.if_icmp .ge 14, 3) := by decide +kernel
theorem dX6_toldOfGap_66 : decode cX6_toldOfGap 66 = .ok (.aload_n 0, 1) := by decide +kernel
theorem dX6_toldOfGap_67 : decode cX6_toldOfGap 67 = .ok (.iload 4, 2) := by decide +kernel
theorem dX6_toldOfGap_69 : decode cX6_toldOfGap 69 = .ok (.iload_n 2, 1) := by decide +kernel
theorem dX6_toldOfGap_70 : decode cX6_toldOfGap 70 = .ok (.iload_n 1, 1) := by decide +kernel
theorem dX6_toldOfGap_71 : decode cX6_toldOfGap 71 = .ok (.invokevirtual 135, 3) := by decide +kernel
theorem dX6_toldOfGap_74 : decode cX6_toldOfGap 74 = .ok (.goto 5, 3) := by decide +kernel
theorem dX6_toldOfGap_77 : decode cX6_toldOfGap 77 = .ok (.ldc 134, 2) := by decide +kernel
theorem dX6_toldOfGap_79 : decode cX6_toldOfGap 79 = .ok (.ireturn, 1) := by decide +kernel
theorem dX6_toldOfGap_80 : decode cX6_toldOfGap 80 = .ok (.ldc 134, 2) := by decide +kernel
theorem dX6_toldOfGap_82 : decode cX6_toldOfGap 82 = .ok (.ireturn, 1) := by decide +kernel
theorem ggX6_onLine_X6_ofItem : GoodIn wsX6_onLine wsX6_ofItem := goodIn_r _ [6, 7, 8, 9, 10, 11, 12, 13, 14, 15, 16, 17, 18, 19, 20, 21, 22, 23, 24, 25, 26, 27, 28, 29, 30, 31, 32, 33, 34, 35, 36, 37, 38] (by decide +kernel) (by decide +kernel)
theorem gX6_onLine_X6_ofItem : GoodIn wsX6_onLine (wsV RX6 112 RX6 yX6_ofItem wsX6_ofItem) := goodIn_app (goodIn_of _ (by decide +kernel)) ggX6_onLine_X6_ofItem
theorem dX6_onLine_0 : decode cX6_onLine 0 = .ok (.aload_n 0, 1) := by decide +kernel
theorem dX6_onLine_1 : decode cX6_onLine 1 = .ok (.iload_n 1, 1) := by decide +kernel
theorem dX6_onLine_2 : decode cX6_onLine 2 = .ok (.bipush 6, 2) := by decide +kernel
theorem dX6_onLine_4 : decode cX6_onLine 4 = .ok (.invokevirtual 112, 3) := by decide +kernel
theorem dX6_onLine_7 : decode cX6_onLine 7 = .ok (.istore 4, 2) := by decide +kernel
theorem dX6_onLine_9 : decode cX6_onLine 9 = .ok (.aload_n 0, 1) := by decide +kernel
theorem dX6_onLine_10 : decode cX6_onLine 10 = .ok (.iload_n 2, 1) := by decide +kernel
theorem dX6_onLine_11 : decode cX6_onLine 11 = .ok (.iconst 5, 1) := by decide +kernel
theorem dX6_onLine_12 : decode cX6_onLine 12 = .ok (.invokevirtual 112, 3) := by decide +kernel
theorem dX6_onLine_15 : decode cX6_onLine 15 = .ok (.iload 4, 2) := by decide +kernel
theorem dX6_onLine_17 : decode cX6_onLine 17 = .ok (.isub, 1) := by decide +kernel
theorem dX6_onLine_18 : decode cX6_onLine 18 = .ok (.i2l, 1) := by decide +kernel
theorem dX6_onLine_19 : decode cX6_onLine 19 = .ok (.lstore 5, 2) := by decide +kernel
theorem dX6_onLine_21 : decode cX6_onLine 21 = .ok (.aload_n 0, 1) := by decide +kernel
theorem dX6_onLine_22 : decode cX6_onLine 22 = .ok (.iload_n 1, 1) := by decide +kernel
theorem dX6_onLine_23 : decode cX6_onLine 23 = .ok (.iconst 0, 1) := by decide +kernel
theorem dX6_onLine_24 : decode cX6_onLine 24 = .ok (.invokevirtual 112, 3) := by decide +kernel
theorem dX6_onLine_27 : decode cX6_onLine 27 = .ok (.istore 7, 2) := by decide +kernel
theorem dX6_onLine_29 : decode cX6_onLine 29 = .ok (.aload_n 0, 1) := by decide +kernel
theorem dX6_onLine_30 : decode cX6_onLine 30 = .ok (.iload_n 2, 1) := by decide +kernel
theorem dX6_onLine_31 : decode cX6_onLine 31 = .ok (.iconst 0, 1) := by decide +kernel
theorem dX6_onLine_32 : decode cX6_onLine 32 = .ok (.invokevirtual 112, 3) := by decide +kernel
theorem dX6_onLine_35 : decode cX6_onLine 35 = .ok (.iload 7, 2) := by decide +kernel
theorem dX6_onLine_37 : decode cX6_onLine 37 = .ok (.isub, 1) := by decide +kernel
theorem dX6_onLine_38 : decode cX6_onLine 38 = .ok (.istore 8, 2) := by decide +kernel
theorem dX6_onLine_40 : decode cX6_onLine 40 = .ok (.iload 8, 2) := by decide +kernel
theorem dX6_onLine_42 : decode cX6_onLine 42 = .ok (.ifCond .le 23, 3) := by decide +kernel
theorem dX6_onLine_45 : decode cX6_onLine 45 = .ok (.iload 4, 2) := by decide +kernel
theorem dX6_onLine_47 : decode cX6_onLine 47 = .ok (.i2l, 1) := by decide +kernel
theorem dX6_onLine_48 : decode cX6_onLine 48 = .ok (.lload 5, 2) := by decide +kernel
theorem dX6_onLine_50 : decode cX6_onLine 50 = .ok (.iload_n 3, 1) := by decide +kernel
theorem dX6_onLine_51 : decode cX6_onLine 51 = .ok (.iload 7, 2) := by decide +kernel
theorem dX6_onLine_53 : decode cX6_onLine 53 = .ok (.isub, 1) := by decide +kernel
theorem dX6_onLine_54 : decode cX6_onLine 54 = .ok (.i2l, 1) := by decide +kernel
theorem dX6_onLine_55 : decode cX6_onLine 55 = .ok (.lmul, 1) := by decide +kernel
theorem dX6_onLine_56 : decode cX6_onLine 56 = .ok (.iload 8, 2) := by decide +kernel
theorem dX6_onLine_58 : decode cX6_onLine 58 = .ok (.i2l, 1) := by decide +kernel
theorem dX6_onLine_59 : decode cX6_onLine 59 = .ok (.ldiv, 1) := by decide +kernel
theorem dX6_onLine_60 : decode cX6_onLine 60 = .ok (.ladd, 1) := by decide +kernel
theorem dX6_onLine_61 : decode cX6_onLine 61 = .ok (.l2i, 1) := by decide +kernel
theorem dX6_onLine_62 : decode cX6_onLine 62 = .ok (.goto 5, 3) := by decide +kernel
theorem dX6_onLine_65 : decode cX6_onLine 65 = .ok (.ldc 134, 2) := by decide +kernel
theorem dX6_onLine_67 : decode cX6_onLine 67 = .ok (.ireturn, 1) := by decide +kernel
theorem ggX6_total_X6_ofItem : GoodIn wsX6_total wsX6_ofItem := goodIn_r _ [5, 6, 7, 8, 9, 10, 11, 12, 13, 14, 15, 16, 17, 18, 19, 20, 21, 22, 23, 24, 25, 26, 27, 28, 29, 30, 31, 32, 33, 34, 35, 36, 37] (by decide +kernel) (by decide +kernel)
theorem gX6_total_X6_ofItem : GoodIn wsX6_total (wsV RX6 112 RX6 yX6_ofItem wsX6_ofItem) := goodIn_app (goodIn_of _ (by decide +kernel)) ggX6_total_X6_ofItem
theorem dX6_total_0 : decode cX6_total 0 = .ok (.iconst 0, 1) := by decide +kernel
theorem dX6_total_1 : decode cX6_total 1 = .ok (.istore 4, 2) := by decide +kernel
theorem dX6_total_3 : decode cX6_total 3 = .ok (.iload_n 1, 1) := by decide +kernel
theorem dX6_total_4 : decode cX6_total 4 = .ok (.istore 5, 2) := by decide +kernel
theorem dX6_total_6 : decode cX6_total 6 = .ok (.iload 5, 2) := by decide +kernel
theorem dX6_total_8 : decode cX6_total 8 = .ok (.iload_n 2, 1) := by decide +kernel
theorem dX6_total_9 : decode cX6_total 9 = .ok (.if_icmp .ge 21, 3) := by decide +kernel
theorem dX6_total_12 : decode cX6_total 12 = .ok (.iload 4, 2) := by decide +kernel
theorem dX6_total_14 : decode cX6_total 14 = .ok (.aload_n 0, 1) := by decide +kernel
theorem dX6_total_15 : decode cX6_total 15 = .ok (.iload 5, 2) := by decide +kernel
theorem dX6_total_17 : decode cX6_total 17 = .ok (.iload_n 3, 1) := by decide +kernel
theorem dX6_total_18 : decode cX6_total 18 = .ok (.invokevirtual 112, 3) := by decide +kernel
theorem dX6_total_21 : decode cX6_total 21 = .ok (.iadd, 1) := by decide +kernel
theorem dX6_total_22 : decode cX6_total 22 = .ok (.istore 4, 2) := by decide +kernel
theorem dX6_total_24 : decode cX6_total 24 = .ok (.iinc 5 1, 3) := by decide +kernel
theorem dX6_total_27 : decode cX6_total 27 = .ok (.goto (-21), 3) := by decide +kernel
theorem dX6_total_30 : decode cX6_total 30 = .ok (.iload 4, 2) := by decide +kernel
theorem dX6_total_32 : decode cX6_total 32 = .ok (.ireturn, 1) := by decide +kernel
theorem dX6_quotient_0 : decode cX6_quotient 0 = .ok (.iload_n 1, 1) := by decide +kernel
theorem dX6_quotient_1 : decode cX6_quotient 1 = .ok (.ifCond .le 9, 3) := by decide +kernel
theorem dX6_quotient_4 : decode cX6_quotient 4 = .ok (.iload_n 0, 1) := by decide +kernel
theorem dX6_quotient_5 : decode cX6_quotient 5 = .ok (.iload_n 1, 1) := by decide +kernel
theorem dX6_quotient_6 : decode cX6_quotient 6 = .ok (.idiv, 1) := by decide +kernel
theorem dX6_quotient_7 : decode cX6_quotient 7 = .ok (.goto 5, 3) := by decide +kernel
theorem dX6_quotient_10 : decode cX6_quotient 10 = .ok (.ldc 134, 2) := by decide +kernel
theorem dX6_quotient_12 : decode cX6_quotient 12 = .ok (.ireturn, 1) := by decide +kernel
theorem ggX6_least_X6_ofItem : GoodIn wsX6_least wsX6_ofItem := goodIn_r _ [9, 10, 11, 12, 13, 14, 15, 16, 17, 18, 19, 20, 21, 22, 23, 24, 25, 26, 27, 28, 29, 30, 31, 32, 33, 34, 35, 36, 37, 38, 39, 40, 41] (by decide +kernel) (by decide +kernel)
theorem gX6_least_X6_ofItem : GoodIn wsX6_least (wsV RX6 112 RX6 yX6_ofItem wsX6_ofItem) := goodIn_app (goodIn_of _ (by decide +kernel)) ggX6_least_X6_ofItem
theorem dX6_least_0 : decode cX6_least 0 = .ok (.aload_n 0, 1) := by decide +kernel
theorem dX6_least_1 : decode cX6_least 1 = .ok (.iload_n 1, 1) := by decide +kernel
theorem dX6_least_2 : decode cX6_least 2 = .ok (.iconst 3, 1) := by decide +kernel
theorem dX6_least_3 : decode cX6_least 3 = .ok (.invokevirtual 112, 3) := by decide +kernel
theorem dX6_least_6 : decode cX6_least 6 = .ok (.istore_n 3, 1) := by decide +kernel
theorem dX6_least_7 : decode cX6_least 7 = .ok (.iload_n 1, 1) := by decide +kernel
theorem dX6_least_8 : decode cX6_least 8 = .ok (.iconst 1, 1) := by decide +kernel
theorem dX6_least_9 : decode cX6_least 9 = .ok (.iadd, 1) := by decide +kernel
theorem dX6_least_10 : decode cX6_least 10 = .ok (.istore 4, 2) := by decide +kernel
theorem dX6_least_12 : decode cX6_least 12 = .ok (.iload 4, 2) := by decide +kernel
theorem dX6_least_14 : decode cX6_least 14 = .ok (.iload_n 2, 1) := by decide +kernel
theorem dX6_least_15 : decode cX6_least 15 = .ok (.if_icmp .ge 21, 3) := by decide +kernel
theorem dX6_least_18 : decode cX6_least 18 = .ok (.iload_n 3, 1) := by decide +kernel
theorem dX6_least_19 : decode cX6_least 19 = .ok (.aload_n 0, 1) := by decide +kernel
theorem dX6_least_20 : decode cX6_least 20 = .ok (.iload 4, 2) := by decide +kernel
theorem dX6_least_22 : decode cX6_least 22 = .ok (.iconst 3, 1) := by decide +kernel
theorem dX6_least_23 : decode cX6_least 23 = .ok (.invokevirtual 112, 3) := by decide +kernel
theorem dX6_least_26 : decode cX6_least 26 = .ok (.invokestatic 138, 3) := by decide +kernel
theorem dX6_least_29 : decode cX6_least 29 = .ok (.istore_n 3, 1) := by decide +kernel
theorem dX6_least_30 : decode cX6_least 30 = .ok (.iinc 4 1, 3) := by decide +kernel
theorem dX6_least_33 : decode cX6_least 33 = .ok (.goto (-21), 3) := by decide +kernel
theorem dX6_least_36 : decode cX6_least 36 = .ok (.iload_n 3, 1) := by decide +kernel
theorem dX6_least_37 : decode cX6_least 37 = .ok (.ireturn, 1) := by decide +kernel
theorem ggX6_greatest_X6_ofItem : GoodIn wsX6_greatest wsX6_ofItem := goodIn_r _ [9, 10, 11, 12, 13, 14, 15, 16, 17, 18, 19, 20, 21, 22, 23, 24, 25, 26, 27, 28, 29, 30, 31, 32, 33, 34, 35, 36, 37, 38, 39, 40, 41] (by decide +kernel) (by decide +kernel)
theorem gX6_greatest_X6_ofItem : GoodIn wsX6_greatest (wsV RX6 112 RX6 yX6_ofItem wsX6_ofItem) := goodIn_app (goodIn_of _ (by decide +kernel)) ggX6_greatest_X6_ofItem
theorem dX6_greatest_0 : decode cX6_greatest 0 = .ok (.aload_n 0, 1) := by decide +kernel
theorem dX6_greatest_1 : decode cX6_greatest 1 = .ok (.iload_n 1, 1) := by decide +kernel
theorem dX6_greatest_2 : decode cX6_greatest 2 = .ok (.iconst 4, 1) := by decide +kernel
theorem dX6_greatest_3 : decode cX6_greatest 3 = .ok (.invokevirtual 112, 3) := by decide +kernel
theorem dX6_greatest_6 : decode cX6_greatest 6 = .ok (.istore_n 3, 1) := by decide +kernel
theorem dX6_greatest_7 : decode cX6_greatest 7 = .ok (.iload_n 1, 1) := by decide +kernel
theorem dX6_greatest_8 : decode cX6_greatest 8 = .ok (.iconst 1, 1) := by decide +kernel
theorem dX6_greatest_9 : decode cX6_greatest 9 = .ok (.iadd, 1) := by decide +kernel
theorem dX6_greatest_10 : decode cX6_greatest 10 = .ok (.istore 4, 2) := by decide +kernel
theorem dX6_greatest_12 : decode cX6_greatest 12 = .ok (.iload 4, 2) := by decide +kernel
theorem dX6_greatest_14 : decode cX6_greatest 14 = .ok (.iload_n 2, 1) := by decide +kernel
theorem dX6_greatest_15 : decode cX6_greatest 15 = .ok (.if_icmp .ge 21, 3) := by decide +kernel
theorem dX6_greatest_18 : decode cX6_greatest 18 = .ok (.iload_n 3, 1) := by decide +kernel
theorem dX6_greatest_19 : decode cX6_greatest 19 = .ok (.aload_n 0, 1) := by decide +kernel
theorem dX6_greatest_20 : decode cX6_greatest 20 = .ok (.iload 4, 2) := by decide +kernel
theorem dX6_greatest_22 : decode cX6_greatest 22 = .ok (.iconst 4, 1) := by decide +kernel
theorem dX6_greatest_23 : decode cX6_greatest 23 = .ok (.invokevirtual 112, 3) := by decide +kernel
theorem dX6_greatest_26 : decode cX6_greatest 26 = .ok (.invokestatic 143, 3) := by decide +kernel
theorem dX6_greatest_29 : decode cX6_greatest 29 = .ok (.istore_n 3, 1) := by decide +kernel
theorem dX6_greatest_30 : decode cX6_greatest 30 = .ok (.iinc 4 1, 3) := by decide +kernel
theorem dX6_greatest_33 : decode cX6_greatest 33 = .ok (.goto (-21), 3) := by decide +kernel
theorem dX6_greatest_36 : decode cX6_greatest 36 = .ok (.iload_n 3, 1) := by decide +kernel
theorem dX6_greatest_37 : decode cX6_greatest 37 = .ok (.ireturn, 1) := by decide +kernel
theorem ggX6_copyFrom_X4_copyFrom : GoodIn wsX6_copyFrom wsX4_copyFrom := goodIn_r _ [8, 9, 10, 11, 12, 13, 14, 15, 16, 17, 7, 18, 19, 20, 21, 22, 23, 24, 25, 26, 27, 28, 29, 30, 31, 32, 54, 55, 56, 57, 58, 59, 60, 61, 62] (by decide +kernel) (by decide +kernel)
theorem gX6_copyFrom_X4_copyFrom : GoodIn wsX6_copyFrom (wsV RX6 146 RX4 yX4_copyFrom wsX4_copyFrom) := goodIn_app (goodIn_of _ (by decide +kernel)) ggX6_copyFrom_X4_copyFrom
theorem ggX6_copyFrom_X0_copyFrom : GoodIn wsX6_copyFrom wsX0_copyFrom := goodIn_r _ [37, 38, 39, 40, 41, 42, 36, 43, 44, 45, 46, 47, 48, 54, 55, 56, 57, 58, 59, 60, 61, 62] (by decide +kernel) (by decide +kernel)
theorem gX6_copyFrom_X0_copyFrom : GoodIn wsX6_copyFrom (wsV RX6 150 RX0 yX0_copyFrom wsX0_copyFrom) := goodIn_app (goodIn_of _ (by decide +kernel)) ggX6_copyFrom_X0_copyFrom
theorem dX6_copyFrom_0 : decode cX6_copyFrom 0 = .ok (.aload_n 0, 1) := by decide +kernel
theorem dX6_copyFrom_1 : decode cX6_copyFrom 1 = .ok (.getfield 12, 3) := by decide +kernel
theorem dX6_copyFrom_4 : decode cX6_copyFrom 4 = .ok (.aload_n 1, 1) := by decide +kernel
theorem dX6_copyFrom_5 : decode cX6_copyFrom 5 = .ok (.getfield 12, 3) := by decide +kernel
theorem dX6_copyFrom_8 : decode cX6_copyFrom 8 = .ok (.invokevirtual 146, 3) := by decide +kernel
theorem dX6_copyFrom_11 : decode cX6_copyFrom 11 = .ok (.aload_n 0, 1) := by decide +kernel
theorem dX6_copyFrom_12 : decode cX6_copyFrom 12 = .ok (.getfield 21, 3) := by decide +kernel
theorem dX6_copyFrom_15 : decode cX6_copyFrom 15 = .ok (.aload_n 1, 1) := by decide +kernel
theorem dX6_copyFrom_16 : decode cX6_copyFrom 16 = .ok (.getfield 21, 3) := by decide +kernel
theorem dX6_copyFrom_19 : decode cX6_copyFrom 19 = .ok (.invokevirtual 150, 3) := by decide +kernel
theorem dX6_copyFrom_22 : decode cX6_copyFrom 22 = .ok (.aload_n 0, 1) := by decide +kernel
theorem dX6_copyFrom_23 : decode cX6_copyFrom 23 = .ok (.getfield 25, 3) := by decide +kernel
theorem dX6_copyFrom_26 : decode cX6_copyFrom 26 = .ok (.aload_n 1, 1) := by decide +kernel
theorem dX6_copyFrom_27 : decode cX6_copyFrom 27 = .ok (.getfield 25, 3) := by decide +kernel
theorem dX6_copyFrom_30 : decode cX6_copyFrom 30 = .ok (.invokevirtual 150, 3) := by decide +kernel
theorem dX6_copyFrom_33 : decode cX6_copyFrom 33 = .ok (.return_, 1) := by decide +kernel
theorem dX7_init_0 : decode cX7_init 0 = .ok (.aload_n 0, 1) := by decide +kernel
theorem dX7_init_1 : decode cX7_init 1 = .ok (.invokespecial 1, 3) := by decide +kernel
theorem dX7_init_4 : decode cX7_init 4 = .ok (.aload_n 0, 1) := by decide +kernel
theorem dX7_init_5 : decode cX7_init 5 = .ok (.bipush 8, 2) := by decide +kernel
theorem dX7_init_7 : decode cX7_init 7 = .ok (.putfield 7, 3) := by decide +kernel
theorem dX7_init_10 : decode cX7_init 10 = .ok (.aload_n 0, 1) := by decide +kernel
theorem dX7_init_11 : decode cX7_init 11 = .ok (.bipush 10, 2) := by decide +kernel
theorem dX7_init_13 : decode cX7_init 13 = .ok (.putfield 13, 3) := by decide +kernel
theorem dX7_init_16 : decode cX7_init 16 = .ok (.aload_n 0, 1) := by decide +kernel
theorem dX7_init_17 : decode cX7_init 17 = .ok (.bipush 6, 2) := by decide +kernel
theorem dX7_init_19 : decode cX7_init 19 = .ok (.putfield 16, 3) := by decide +kernel
theorem dX7_init_22 : decode cX7_init 22 = .ok (.aload_n 0, 1) := by decide +kernel
theorem dX7_init_23 : decode cX7_init 23 = .ok (.iconst 0, 1) := by decide +kernel
theorem dX7_init_24 : decode cX7_init 24 = .ok (.putfield 19, 3) := by decide +kernel
theorem dX7_init_27 : decode cX7_init 27 = .ok (.aload_n 0, 1) := by decide +kernel
theorem dX7_init_28 : decode cX7_init 28 = .ok (.iconst 0, 1) := by decide +kernel
theorem dX7_init_29 : decode cX7_init 29 = .ok (.putfield 22, 3) := by decide +kernel
theorem dX7_init_32 : decode cX7_init 32 = .ok (.return_, 1) := by decide +kernel
theorem ggX8_init_Jx4a65c_init_da8c8 : GoodIn wsX8_init wsJx4a65c_init_da8c8 := goodIn_r _ [17, 18, 19, 20, 21, 22, 23, 24, 25, 26, 27, 28, 29, 2, 3, 37, 38, 39] (by decide +kernel) (by decide +kernel)
theorem gX8_init_Jx4a65c_init_da8c8 : GoodIn wsX8_init (wsJx4a65c_init_da8c8) := ggX8_init_Jx4a65c_init_da8c8
theorem ggX8_init_X1_init : GoodIn wsX8_init wsX1_init := goodIn_r _ [31, 32, 2, 3, 33, 34, 35, 36, 45, 46, 47] (by decide +kernel) (by decide +kernel)
theorem gX8_init_X1_init_n21 : GoodIn wsX8_init (wsX1_init) := ggX8_init_X1_init
theorem dX8_init_0 : decode cX8_init 0 = .ok (.aload_n 0, 1) := by decide +kernel
theorem dX8_init_1 : decode cX8_init 1 = .ok (.invokespecial 1, 3) := by decide +kernel
theorem dX8_init_4 : decode cX8_init 4 = .ok (.aload_n 0, 1) := by decide +kernel
theorem dX8_init_5 : decode cX8_init 5 = .ok (.new 7, 3) := by decide +kernel
theorem dX8_init_8 : decode cX8_init 8 = .ok (.dup, 1) := by decide +kernel
theorem dX8_init_9 : decode cX8_init 9 = .ok (.invokespecial 9, 3) := by decide +kernel
theorem dX8_init_12 : decode cX8_init 12 = .ok (.putfield 10, 3) := by decide +kernel
theorem dX8_init_15 : decode cX8_init 15 = .ok (.aload_n 0, 1) := by decide +kernel
theorem dX8_init_16 : decode cX8_init 16 = .ok (.new 7, 3) := by decide +kernel
theorem dX8_init_19 : decode cX8_init 19 = .ok (.dup, 1) := by decide +kernel
theorem dX8_init_20 : decode cX8_init 20 = .ok (.invokespecial 9, 3) := by decide +kernel
theorem dX8_init_23 : decode cX8_init 23 = .ok (.putfield 16, 3) := by decide +kernel
theorem dX8_init_26 : decode cX8_init 26 = .ok (.aload_n 0, 1) := by decide +kernel
theorem dX8_init_27 : decode cX8_init 27 = .ok (.new 19, 3) := by decide +kernel
theorem dX8_init_30 : decode cX8_init 30 = .ok (.dup, 1) := by decide +kernel
theorem dX8_init_31 : decode cX8_init 31 = .ok (.invokespecial 21, 3) := by decide +kernel
theorem dX8_init_34 : decode cX8_init 34 = .ok (.putfield 22, 3) := by decide +kernel
theorem dX8_init_37 : decode cX8_init 37 = .ok (.aload_n 0, 1) := by decide +kernel
theorem dX8_init_38 : decode cX8_init 38 = .ok (.iconst 0, 1) := by decide +kernel
theorem dX8_init_39 : decode cX8_init 39 = .ok (.putfield 26, 3) := by decide +kernel
theorem dX8_init_42 : decode cX8_init 42 = .ok (.aload_n 0, 1) := by decide +kernel
theorem dX8_init_43 : decode cX8_init 43 = .ok (.aload_n 1, 1) := by decide +kernel
theorem dX8_init_44 : decode cX8_init 44 = .ok (.putfield 30, 3) := by decide +kernel
theorem dX8_init_47 : decode cX8_init 47 = .ok (.return_, 1) := by decide +kernel
theorem ggX8_hasBucket_Jx4a65c_size_8abf5 : GoodIn wsX8_hasBucket wsJx4a65c_size_8abf5 := goodIn_r _ [11, 12, 49, 50, 51] (by decide +kernel) (by decide +kernel)
theorem gX8_hasBucket_Jx4a65c_size_8abf5 : GoodIn wsX8_hasBucket (wsV RX8 34 RJx4a65c yJx4a65c_size_8abf5 wsJx4a65c_size_8abf5) := goodIn_app (goodIn_of _ (by decide +kernel)) ggX8_hasBucket_Jx4a65c_size_8abf5
theorem ggX8_hasBucket_Jx4a65c_get_915e3 : GoodIn wsX8_hasBucket wsJx4a65c_get_915e3 := goodIn_r _ [16, 12, 17, 18, 19, 20, 21, 22, 23, 24, 25, 26, 27, 10, 28, 29, 49, 50, 51] (by decide +kernel) (by decide +kernel)
theorem gX8_hasBucket_Jx4a65c_get_915e3 : GoodIn wsX8_hasBucket (wsV RX8 38 RJx4a65c yJx4a65c_get_915e3 wsJx4a65c_get_915e3) := goodIn_app (goodIn_of _ (by decide +kernel)) ggX8_hasBucket_Jx4a65c_get_915e3
theorem dX8_hasBucket_0 : decode cX8_hasBucket 0 = .ok (.iconst 0, 1) := by decide +kernel
theorem dX8_hasBucket_1 : decode cX8_hasBucket 1 = .ok (.istore_n 1, 1) := by decide +kernel
theorem dX8_hasBucket_2 : decode cX8_hasBucket 2 = .ok (.iload_n 1, 1) := by decide +kernel
theorem dX8_hasBucket_3 : decode cX8_hasBucket 3 = .ok (.aload_n 0, 1) := by decide +kernel
theorem dX8_hasBucket_4 : decode cX8_hasBucket 4 = .ok (.getfield 10, 3) := by decide +kernel
theorem dX8_hasBucket_7 : decode cX8_hasBucket 7 = .ok (.invokevirtual 34, 3) := by decide +kernel
theorem dX8_hasBucket_10 : decode cX8_hasBucket 10 = .ok (.if_icmp .ge 49, 3) := by decide +kernel
theorem dX8_hasBucket_13 : decode cX8_hasBucket 13 = .ok (.aload_n 0, 1) := by decide +kernel
theorem dX8_hasBucket_14 : decode cX8_hasBucket 14 = .ok (.getfield 10, 3) := by decide +kernel
theorem dX8_hasBucket_17 : decode cX8_hasBucket 17 = .ok (.iload_n 1, 1) := by decide +kernel
theorem dX8_hasBucket_18 : decode cX8_hasBucket 18 = .ok (.invokevirtual 38, 3) := by decide +kernel
theorem dX8_hasBucket_21 : decode cX8_hasBucket 21 = .ok (.checkcast 42, 3) := by decide +kernel
theorem dX8_hasBucket_24 : decode cX8_hasBucket 24 = .ok (.getfield 44, 3) := by decide +kernel
theorem dX8_hasBucket_27 : decode cX8_hasBucket 27 = .ok (.getfield 48, 3) := by decide +kernel
theorem dX8_hasBucket_30 : decode cX8_hasBucket 30 = .ok (.aload_n 0, 1) := by decide +kernel
theorem dX8_hasBucket_31 : decode cX8_hasBucket 31 = .ok (.getfield 10, 3) := by decide +kernel
theorem dX8_hasBucket_34 : decode cX8_hasBucket 34 = .ok (.iload_n 1, 1) := by decide +kernel
theorem dX8_hasBucket_35 : decode cX8_hasBucket 35 = .ok (.invokevirtual 38, 3) := by decide +kernel
theorem dX8_hasBucket_38 : decode cX8_hasBucket 38 = .ok (.checkcast 42, 3) := by decide +kernel
theorem dX8_hasBucket_41 : decode cX8_hasBucket 41 = .ok (.getfield 53, 3) := by decide +kernel
theorem dX8_hasBucket_44 : decode cX8_hasBucket 44 = .ok (.getfield 48, 3) := by decide +kernel
theorem dX8_hasBucket_47 : decode cX8_hasBucket 47 = .ok (.iadd, 1) := by decide +kernel
theorem dX8_hasBucket_48 : decode cX8_hasBucket 48 = .ok (.ifCond .le 5, 3) := by decide +kernel
theorem dX8_hasBucket_51 : decode cX8_hasBucket 51 = .ok (.iconst 1, 1) := by decide +kernel
theorem dX8_hasBucket_52 : decode cX8_hasBucket 52 = .ok (.ireturn, 1) := by decide +kernel
theorem dX8_hasBucket_53 : decode cX8_hasBucket 53 = .ok (.iinc 1 1, 3) := by decide +kernel
theorem dX8_hasBucket_56 : decode cX8_hasBucket 56 = .ok (.goto (-54), 3) := by decide +kernel
theorem dX8_hasBucket_59 : decode cX8_hasBucket 59 = .ok (.iconst 0, 1) := by decide +kernel
theorem dX8_hasBucket_60 : decode cX8_hasBucket 60 = .ok (.ireturn, 1) := by decide +kernel
theorem ggX8_goOnByOne_Jx4a65c_size_8abf5 : GoodIn wsX8_goOnByOne wsJx4a65c_size_8abf5 := goodIn_r _ [13, 14, 234, 235, 236] (by decide +kernel) (by decide +kernel)
theorem gX8_goOnByOne_Jx4a65c_size_8abf5 : GoodIn wsX8_goOnByOne (wsV RX8 34 RJx4a65c yJx4a65c_size_8abf5 wsJx4a65c_size_8abf5) := goodIn_app (goodIn_of _ (by decide +kernel)) ggX8_goOnByOne_Jx4a65c_size_8abf5
theorem ggX8_goOnByOne_Jx4a65c_get_915e3 : GoodIn wsX8_goOnByOne wsJx4a65c_get_915e3 := goodIn_r _ [18, 14, 19, 20, 21, 22, 23, 24, 25, 26, 27, 28, 29, 12, 30, 31, 234, 235, 236] (by decide +kernel) (by decide +kernel)
theorem gX8_goOnByOne_Jx4a65c_get_915e3 : GoodIn wsX8_goOnByOne (wsV RX8 38 RJx4a65c yJx4a65c_get_915e3 wsJx4a65c_get_915e3) := goodIn_app (goodIn_of _ (by decide +kernel)) ggX8_goOnByOne_Jx4a65c_get_915e3
theorem ggX8_goOnByOne_X6_rollUpBy : GoodIn wsX8_goOnByOne wsX6_rollUpBy := goodIn_r _ [36, 37, 38, 39, 40, 41, 42, 43, 44, 45, 46, 47, 48, 49, 50, 51, 52, 53, 54, 55, 56, 57, 58, 59, 60, 61, 62, 63, 64, 65, 66, 67, 35, 68, 69, 70, 71, 72, 73, 74, 75, 76, 77, 78, 79, 80, 81, 82, 83, 84, 85, 86, 87, 88, 89, 90, 91, 92, 93, 94, 95, 96, 97, 98, 99, 100, 101, 102, 103, 104, 105, 106, 107, 108, 109, 110, 111, 112, 113, 114, 115, 116, 117, 118, 119, 120, 121, 122, 123, 124, 125, 126, 127, 128, 129, 130, 131, 132, 133, 237, 238, 239, 240, 241, 242, 243, 244, 245, 246, 247, 248, 249, 250, 251, 252, 253, 254, 255] (by decide +kernel) (by decide +kernel)
theorem gX8_goOnByOne_X6_rollUpBy : GoodIn wsX8_goOnByOne (wsV RX8 56 RX6 yX6_rollUpBy wsX6_rollUpBy) := goodIn_app (goodIn_of _ (by decide +kernel)) ggX8_goOnByOne_X6_rollUpBy
theorem ggX8_goOnByOne_X5_isDueAt : GoodIn wsX8_goOnByOne wsX5_isDueAt := goodIn_r _ [138, 139, 225, 226, 227, 228, 229, 230, 231, 232, 233] (by decide +kernel) (by decide +kernel)
theorem gX8_goOnByOne_X5_isDueAt : GoodIn wsX8_goOnByOne (wsV RX8 62 RX5 yX5_isDueAt wsX5_isDueAt) := goodIn_app (goodIn_of _ (by decide +kernel)) ggX8_goOnByOne_X5_isDueAt
theorem ggX8_goOnByOne_X5_told : GoodIn wsX8_goOnByOne wsX5_told := goodIn_r _ [143, 144, 145, 146, 147, 148, 149, 35, 150, 151, 152, 153, 154, 155, 156, 157, 158, 111, 133, 81, 69, 38, 159, 57, 160, 161, 162, 163, 112, 90, 91, 78, 92, 93, 71, 60, 61, 44, 62, 63, 64, 164, 165, 166, 167, 168, 169, 170, 171, 172, 173, 174, 175, 176, 177, 178, 179, 180, 181, 83, 84, 85, 182, 183, 184, 185, 186, 87, 88, 187, 188, 189, 225, 226, 227, 228, 229, 230, 231, 232, 233, 242, 243, 244, 245, 246, 254, 255, 247, 248, 249, 250, 251, 252, 253] (by decide +kernel) (by decide +kernel)
theorem gX8_goOnByOne_X5_told : GoodIn wsX8_goOnByOne (wsV RX8 66 RX5 yX5_told wsX5_told) := goodIn_app (goodIn_of _ (by decide +kernel)) ggX8_goOnByOne_X5_told
theorem ggX8_goOnByOne_X5_changesBy : GoodIn wsX8_goOnByOne wsX5_changesBy := goodIn_r _ [193, 194, 195, 196, 197, 198, 199, 200, 137, 201, 202, 203, 204, 205, 206, 207, 208, 209, 210, 211, 225, 226, 227, 228, 229, 230, 231, 232, 233] (by decide +kernel) (by decide +kernel)
theorem gX8_goOnByOne_X5_changesBy : GoodIn wsX8_goOnByOne (wsV RX8 70 RX5 yX5_changesBy wsX5_changesBy) := goodIn_app (goodIn_of _ (by decide +kernel)) ggX8_goOnByOne_X5_changesBy
theorem ggX8_goOnByOne_X1_add : GoodIn wsX8_goOnByOne wsX1_add := goodIn_r _ [216, 217, 218, 219, 256, 257, 258] (by decide +kernel) (by decide +kernel)
theorem gX8_goOnByOne_X1_add : GoodIn wsX8_goOnByOne (wsV RX8 76 RX1 yX1_add wsX1_add) := goodIn_app (goodIn_of _ (by decide +kernel)) ggX8_goOnByOne_X1_add
theorem dX8_goOnByOne_0 : decode cX8_goOnByOne 0 = .ok (.aload_n 0, 1) := by decide +kernel
theorem dX8_goOnByOne_1 : decode cX8_goOnByOne 1 = .ok (.dup, 1) := by decide +kernel
theorem dX8_goOnByOne_2 : decode cX8_goOnByOne 2 = .ok (.getfield 26, 3) := by decide +kernel
theorem dX8_goOnByOne_5 : decode cX8_goOnByOne 5 = .ok (.iconst 1, 1) := by decide +kernel
theorem dX8_goOnByOne_6 : decode cX8_goOnByOne 6 = .ok (.iadd, 1) := by decide +kernel
theorem dX8_goOnByOne_7 : decode cX8_goOnByOne 7 = .ok (.putfield 26, 3) := by decide +kernel
theorem dX8_goOnByOne_10 : decode cX8_goOnByOne 10 = .ok (.iconst 0, 1) := by decide +kernel
theorem dX8_goOnByOne_11 : decode cX8_goOnByOne 11 = .ok (.istore_n 1, 1) := by decide +kernel
theorem dX8_goOnByOne_12 : decode cX8_goOnByOne 12 = .ok (.iload_n 1, 1) := by decide +kernel
theorem dX8_goOnByOne_13 : decode cX8_goOnByOne 13 = .ok (.aload_n 0, 1) := by decide +kernel
theorem dX8_goOnByOne_14 : decode cX8_goOnByOne 14 = .ok (.getfield 10, 3) := by decide +kernel
theorem dX8_goOnByOne_17 : decode cX8_goOnByOne 17 = .ok (.invokevirtual 34, 3) := by decide +kernel
theorem dX8_goOnByOne_20 : decode cX8_goOnByOne 20 = .ok (.if_icmp .ge 31, 3) := by decide +kernel
theorem dX8_goOnByOne_23 : decode cX8_goOnByOne 23 = .ok (.aload_n 0, 1) := by decide +kernel
theorem dX8_goOnByOne_24 : decode cX8_goOnByOne 24 = .ok (.getfield 10, 3) := by decide +kernel
theorem dX8_goOnByOne_27 : decode cX8_goOnByOne 27 = .ok (.iload_n 1, 1) := by decide +kernel
theorem dX8_goOnByOne_28 : decode cX8_goOnByOne 28 = .ok (.invokevirtual 38, 3) := by decide +kernel
theorem dX8_goOnByOne_31 : decode cX8_goOnByOne 31 = .ok (.checkcast 42, 3) := by decide +kernel
theorem dX8_goOnByOne_34 : decode cX8_goOnByOne 34 = .ok (.aload_n 0, 1) := by decide +kernel
theorem dX8_goOnByOne_35 : decode cX8_goOnByOne 35 = .ok (.getfield 26, 3) := by decide +kernel
theorem dX8_goOnByOne_38 : decode cX8_goOnByOne 38 = .ok (.aload_n 0, 1) := by decide +kernel
theorem dX8_goOnByOne_39 : decode cX8_goOnByOne 39 = .ok (.getfield 30, 3) := by decide +kernel
theorem dX8_goOnByOne_42 : decode cX8_goOnByOne 42 = .ok (.invokevirtual 56, 3) := by decide +kernel
theorem dX8_goOnByOne_45 : decode cX8_goOnByOne 45 = .ok (.iinc 1 1, 3) := by decide +kernel
theorem dX8_goOnByOne_48 : decode cX8_goOnByOne 48 = .ok (.goto (-36), 3) := by decide +kernel
theorem dX8_goOnByOne_51 : decode cX8_goOnByOne 51 = .ok (.iconst 0, 1) := by decide +kernel
theorem dX8_goOnByOne_52 : decode cX8_goOnByOne 52 = .ok (.istore_n 1, 1) := by decide +kernel
theorem dX8_goOnByOne_53 : decode cX8_goOnByOne 53 = .ok (.iload_n 1, 1) := by decide +kernel
theorem dX8_goOnByOne_54 : decode cX8_goOnByOne 54 = .ok (.aload_n 0, 1) := by decide +kernel
theorem dX8_goOnByOne_55 : decode cX8_goOnByOne 55 = .ok (.getfield 16, 3) := by decide +kernel
theorem dX8_goOnByOne_58 : decode cX8_goOnByOne 58 = .ok (.invokevirtual 34, 3) := by decide +kernel
theorem dX8_goOnByOne_61 : decode cX8_goOnByOne 61 = .ok (.if_icmp .ge 63, 3) := by decide +kernel
theorem dX8_goOnByOne_64 : decode cX8_goOnByOne 64 = .ok (.aload_n 0, 1) := by decide +kernel
theorem dX8_goOnByOne_65 : decode cX8_goOnByOne 65 = .ok (.getfield 16, 3) := by decide +kernel
theorem dX8_goOnByOne_68 : decode cX8_goOnByOne 68 = .ok (.iload_n 1, 1) := by decide +kernel
theorem dX8_goOnByOne_69 : decode cX8_goOnByOne 69 = .ok (.invokevirtual 38, 3) := by decide +kernel
theorem dX8_goOnByOne_72 : decode cX8_goOnByOne 72 = .ok (.checkcast 60, 3) := by decide +kernel
theorem dX8_goOnByOne_75 : decode cX8_goOnByOne 75 = .ok (.astore_n 2, 1) := by decide +kernel
theorem dX8_goOnByOne_76 : decode cX8_goOnByOne 76 = .ok (.aload_n 2, 1) := by decide +kernel
theorem dX8_goOnByOne_77 : decode cX8_goOnByOne 77 = .ok (.aload_n 0, 1) := by decide +kernel
theorem dX8_goOnByOne_78 : decode cX8_goOnByOne 78 = .ok (.getfield 26, 3) := by decide +kernel
theorem dX8_goOnByOne_81 : decode cX8_goOnByOne 81 = .ok (.invokevirtual 62, 3) := by decide +kernel
theorem dX8_goOnByOne_84 : decode cX8_goOnByOne 84 = .ok (.ifCond .eq 34, 3) := by decide +kernel
theorem dX8_goOnByOne_87 : decode cX8_goOnByOne 87 = .ok (.aload_n 2, 1) := by decide +kernel
theorem dX8_goOnByOne_88 : decode cX8_goOnByOne 88 = .ok (.aload_n 2, 1) := by decide +kernel
theorem dX8_goOnByOne_89 : decode cX8_goOnByOne 89 = .ok (.aload_n 0, 1) := by decide +kernel
theorem dX8_goOnByOne_90 : decode cX8_goOnByOne 90 = .ok (.getfield 26, 3) := by decide +kernel
theorem dX8_goOnByOne_93 : decode cX8_goOnByOne 93 = .ok (.invokevirtual 66, 3) := by decide +kernel
theorem dX8_goOnByOne_96 : decode cX8_goOnByOne 96 = .ok (.invokevirtual 70, 3) := by decide +kernel
theorem dX8_goOnByOne_99 : decode cX8_goOnByOne 99 = .ok (.ifCond .eq 19, 3) := by decide +kernel
theorem dX8_goOnByOne_102 : decode cX8_goOnByOne 102 = .ok (.aload_n 0, 1) := by decide +kernel
theorem dX8_goOnByOne_103 : decode cX8_goOnByOne 103 = .ok (.getfield 22, 3) := by decide +kernel
theorem dX8_goOnByOne_106 : decode cX8_goOnByOne 106 = .ok (.aload_n 0, 1) := by decide +kernel
theorem dX8_goOnByOne_107 : decode cX8_goOnByOne 107 = .ok (.getfield 26, 3) := by decide +kernel
theorem dX8_goOnByOne_110 : decode cX8_goOnByOne 110 = .ok (.iload_n 1, 1) := by decide +kernel
theorem dX8_goOnByOne_111 : decode cX8_goOnByOne 111 = .ok (.aload_n 2, 1) := by decide +kernel
theorem dX8_goOnByOne_112 : decode cX8_goOnByOne 112 = .ok (.getfield 73, 3) := by decide +kernel
theorem dX8_goOnByOne_115 : decode cX8_goOnByOne 115 = .ok (.invokevirtual 76, 3) := by decide +kernel
theorem dX8_goOnByOne_118 : decode cX8_goOnByOne 118 = .ok (.iinc 1 1, 3) := by decide +kernel
theorem dX8_goOnByOne_121 : decode cX8_goOnByOne 121 = .ok (.goto (-68), 3) := by decide +kernel
theorem dX8_goOnByOne_124 : decode cX8_goOnByOne 124 = .ok (.return_, 1) := by decide +kernel
theorem ggX8_copyFrom_Jx4a65c_size_8abf5 : GoodIn wsX8_copyFrom wsJx4a65c_size_8abf5 := goodIn_r _ [10, 11, 94, 95, 96] (by decide +kernel) (by decide +kernel)
theorem gX8_copyFrom_Jx4a65c_size_8abf5 : GoodIn wsX8_copyFrom (wsV RX8 34 RJx4a65c yJx4a65c_size_8abf5 wsJx4a65c_size_8abf5) := goodIn_app (goodIn_of _ (by decide +kernel)) ggX8_copyFrom_Jx4a65c_size_8abf5
theorem ggX8_copyFrom_Jx4a65c_get_915e3 : GoodIn wsX8_copyFrom wsJx4a65c_get_915e3 := goodIn_r _ [15, 11, 16, 17, 18, 19, 20, 21, 22, 23, 24, 25, 26, 9, 27, 28, 94, 95, 96] (by decide +kernel) (by decide +kernel)
theorem gX8_copyFrom_Jx4a65c_get_915e3 : GoodIn wsX8_copyFrom (wsV RX8 38 RJx4a65c yJx4a65c_get_915e3 wsJx4a65c_get_915e3) := goodIn_app (goodIn_of _ (by decide +kernel)) ggX8_copyFrom_Jx4a65c_get_915e3
theorem ggX8_copyFrom_X6_copyFrom : GoodIn wsX8_copyFrom wsX6_copyFrom := goodIn_r _ [33, 34, 35, 36, 37, 38, 39, 40, 41, 42, 43, 44, 45, 46, 47, 48, 49, 50, 51, 52, 53, 54, 55, 56, 57, 58, 59, 60, 61, 62, 63, 64, 65, 66, 67, 68, 69, 70, 71, 72, 73, 74, 75, 76, 77, 78, 79, 80, 81, 97, 98, 99, 100, 101, 102, 103, 104, 105, 106, 107, 108, 109, 110] (by decide +kernel) (by decide +kernel)
theorem gX8_copyFrom_X6_copyFrom : GoodIn wsX8_copyFrom (wsV RX8 80 RX6 yX6_copyFrom wsX6_copyFrom) := goodIn_app (goodIn_of _ (by decide +kernel)) ggX8_copyFrom_X6_copyFrom
theorem ggX8_copyFrom_X5_copyFrom : GoodIn wsX8_copyFrom wsX5_copyFrom := goodIn_r _ [86, 87, 88, 111, 112, 113, 114, 115, 116, 117, 118, 119] (by decide +kernel) (by decide +kernel)
theorem gX8_copyFrom_X5_copyFrom : GoodIn wsX8_copyFrom (wsV RX8 84 RX5 yX5_copyFrom wsX5_copyFrom) := goodIn_app (goodIn_of _ (by decide +kernel)) ggX8_copyFrom_X5_copyFrom
theorem dX8_copyFrom_0 : decode cX8_copyFrom 0 = .ok (.aload_n 0, 1) := by decide +kernel
theorem dX8_copyFrom_1 : decode cX8_copyFrom 1 = .ok (.aload_n 1, 1) := by decide +kernel
theorem dX8_copyFrom_2 : decode cX8_copyFrom 2 = .ok (.getfield 26, 3) := by decide +kernel
theorem dX8_copyFrom_5 : decode cX8_copyFrom 5 = .ok (.putfield 26, 3) := by decide +kernel
theorem dX8_copyFrom_8 : decode cX8_copyFrom 8 = .ok (.iconst 0, 1) := by decide +kernel
theorem dX8_copyFrom_9 : decode cX8_copyFrom 9 = .ok (.istore_n 2, 1) := by decide +kernel
theorem dX8_copyFrom_10 : decode cX8_copyFrom 10 = .ok (.iload_n 2, 1) := by decide +kernel
theorem dX8_copyFrom_11 : decode cX8_copyFrom 11 = .ok (.aload_n 0, 1) := by decide +kernel
theorem dX8_copyFrom_12 : decode cX8_copyFrom 12 = .ok (.getfield 10, 3) := by decide +kernel
theorem dX8_copyFrom_15 : decode cX8_copyFrom 15 = .ok (.invokevirtual 34, 3) := by decide +kernel
theorem dX8_copyFrom_18 : decode cX8_copyFrom 18 = .ok (.if_icmp .ge 45, 3) := by decide +kernel
theorem dX8_copyFrom_21 : decode cX8_copyFrom 21 = .ok (.iload_n 2, 1) := by decide +kernel
theorem dX8_copyFrom_22 : decode cX8_copyFrom 22 = .ok (.aload_n 1, 1) := by decide +kernel
theorem dX8_copyFrom_23 : decode cX8_copyFrom 23 = .ok (.getfield 10, 3) := by decide +kernel
theorem dX8_copyFrom_26 : decode cX8_copyFrom 26 = .ok (.invokevirtual 34, 3) := by decide +kernel
theorem dX8_copyFrom_29 : decode cX8_copyFrom 29 = .ok (.if_icmp .ge 34, 3) := by decide +kernel
theorem dX8_copyFrom_32 : decode cX8_copyFrom 32 = .ok (.aload_n 0, 1) := by decide +kernel
theorem dX8_copyFrom_33 : decode cX8_copyFrom 33 = .ok (.getfield 10, 3) := by decide +kernel
theorem dX8_copyFrom_36 : decode cX8_copyFrom 36 = .ok (.iload_n 2, 1) := by decide +kernel
theorem dX8_copyFrom_37 : decode cX8_copyFrom 37 = .ok (.invokevirtual 38, 3) := by decide +kernel
theorem dX8_copyFrom_40 : decode cX8_copyFrom 40 = .ok (.checkcast 42, 3) := by decide +kernel
theorem dX8_copyFrom_43 : decode cX8_copyFrom 43 = .ok (.aload_n 1, 1) := by decide +kernel
theorem dX8_copyFrom_44 : decode cX8_copyFrom 44 = .ok (.getfield 10, 3) := by decide +kernel
theorem dX8_copyFrom_47 : decode cX8_copyFrom 47 = .ok (.iload_n 2, 1) := by decide +kernel
theorem dX8_copyFrom_48 : decode cX8_copyFrom 48 = .ok (.invokevirtual 38, 3) := by decide +kernel
theorem dX8_copyFrom_51 : decode cX8_copyFrom 51 = .ok (.checkcast 42, 3) := by decide +kernel
theorem dX8_copyFrom_54 : decode cX8_copyFrom 54 = .ok (.invokevirtual 80, 3) := by decide +kernel
theorem dX8_copyFrom_57 : decode cX8_copyFrom 57 = .ok (.iinc 2 1, 3) := by decide +kernel
theorem dX8_copyFrom_60 : decode cX8_copyFrom 60 = .ok (.goto (-50), 3) := by decide +kernel
theorem dX8_copyFrom_63 : decode cX8_copyFrom 63 = .ok (.iconst 0, 1) := by decide +kernel
theorem dX8_copyFrom_64 : decode cX8_copyFrom 64 = .ok (.istore_n 2, 1) := by decide +kernel
theorem dX8_copyFrom_65 : decode cX8_copyFrom 65 = .ok (.iload_n 2, 1) := by decide +kernel
theorem dX8_copyFrom_66 : decode cX8_copyFrom 66 = .ok (.aload_n 0, 1) := by decide +kernel
theorem dX8_copyFrom_67 : decode cX8_copyFrom 67 = .ok (.getfield 16, 3) := by decide +kernel
theorem dX8_copyFrom_70 : decode cX8_copyFrom 70 = .ok (.invokevirtual 34, 3) := by decide +kernel
theorem dX8_copyFrom_73 : decode cX8_copyFrom 73 = .ok (.if_icmp .ge 45, 3) := by decide +kernel
theorem dX8_copyFrom_76 : decode cX8_copyFrom 76 = .ok (.iload_n 2, 1) := by decide +kernel
theorem dX8_copyFrom_77 : decode cX8_copyFrom 77 = .ok (.aload_n 1, 1) := by decide +kernel
theorem dX8_copyFrom_78 : decode cX8_copyFrom 78 = .ok (.getfield 16, 3) := by decide +kernel
theorem dX8_copyFrom_81 : decode cX8_copyFrom 81 = .ok (.invokevirtual 34, 3) := by decide +kernel
theorem dX8_copyFrom_84 : decode cX8_copyFrom 84 = .ok (.if_icmp .ge 34, 3) := by decide +kernel
theorem dX8_copyFrom_87 : decode cX8_copyFrom 87 = .ok (.aload_n 0, 1) := by decide +kernel
theorem dX8_copyFrom_88 : decode cX8_copyFrom 88 = .ok (.getfield 16, 3) := by decide +kernel
theorem dX8_copyFrom_91 : decode cX8_copyFrom 91 = .ok (.iload_n 2, 1) := by decide +kernel
theorem dX8_copyFrom_92 : decode cX8_copyFrom 92 = .ok (.invokevirtual 38, 3) := by decide +kernel
theorem dX8_copyFrom_95 : decode cX8_copyFrom 95 = .ok (.checkcast 60, 3) := by decide +kernel
theorem dX8_copyFrom_98 : decode cX8_copyFrom 98 = .ok (.aload_n 1, 1) := by decide +kernel
theorem dX8_copyFrom_99 : decode cX8_copyFrom 99 = .ok (.getfield 16, 3) := by decide +kernel
theorem dX8_copyFrom_102 : decode cX8_copyFrom 102 = .ok (.iload_n 2, 1) := by decide +kernel
theorem dX8_copyFrom_103 : decode cX8_copyFrom 103 = .ok (.invokevirtual 38, 3) := by decide +kernel
theorem dX8_copyFrom_106 : decode cX8_copyFrom 106 = .ok (.checkcast 60, 3) := by decide +kernel
theorem dX8_copyFrom_109 : decode cX8_copyFrom 109 = .ok (.invokevirtual 84, 3) := by decide +kernel
theorem dX8_copyFrom_112 : decode cX8_copyFrom 112 = .ok (.iinc 2 1, 3) := by decide +kernel
theorem dX8_copyFrom_115 : decode cX8_copyFrom 115 = .ok (.goto (-50), 3) := by decide +kernel
theorem dX8_copyFrom_118 : decode cX8_copyFrom 118 = .ok (.return_, 1) := by decide +kernel
theorem dJ9_max_7cf53_0 : decode cJ9_max_7cf53 0 = .ok (.iload_n 0, 1) := by decide +kernel
theorem dJ9_max_7cf53_1 : decode cJ9_max_7cf53 1 = .ok (.iload_n 1, 1) := by decide +kernel
theorem dJ9_max_7cf53_2 : decode cJ9_max_7cf53 2 = .ok (.if_icmp .lt 7, 3) := by decide +kernel
theorem dJ9_max_7cf53_5 : decode cJ9_max_7cf53 5 = .ok (.iload_n 0, 1) := by decide +kernel
theorem dJ9_max_7cf53_6 : decode cJ9_max_7cf53 6 = .ok (.goto 4, 3) := by decide +kernel
theorem dJ9_max_7cf53_9 : decode cJ9_max_7cf53 9 = .ok (.iload_n 1, 1) := by decide +kernel
theorem dJ9_max_7cf53_10 : decode cJ9_max_7cf53 10 = .ok (.ireturn, 1) := by decide +kernel
theorem dJ9_min_7cf53_0 : decode cJ9_min_7cf53 0 = .ok (.iload_n 0, 1) := by decide +kernel
theorem dJ9_min_7cf53_1 : decode cJ9_min_7cf53 1 = .ok (.iload_n 1, 1) := by decide +kernel
theorem dJ9_min_7cf53_2 : decode cJ9_min_7cf53 2 = .ok (.if_icmp .gt 7, 3) := by decide +kernel
theorem dJ9_min_7cf53_5 : decode cJ9_min_7cf53 5 = .ok (.iload_n 0, 1) := by decide +kernel
theorem dJ9_min_7cf53_6 : decode cJ9_min_7cf53 6 = .ok (.goto 4, 3) := by decide +kernel
theorem dJ9_min_7cf53_9 : decode cJ9_min_7cf53 9 = .ok (.iload_n 1, 1) := by decide +kernel
theorem dJ9_min_7cf53_10 : decode cJ9_min_7cf53 10 = .ok (.ireturn, 1) := by decide +kernel
theorem dJxa1e45_init_da8c8_0 : decode cJxa1e45_init_da8c8 0 = .ok (.aload_n 0, 1) := by decide +kernel
theorem dJxa1e45_init_da8c8_1 : decode cJxa1e45_init_da8c8 1 = .ok (.invokespecial 1, 3) := by decide +kernel
theorem dJxa1e45_init_da8c8_4 : decode cJxa1e45_init_da8c8 4 = .ok (.return_, 1) := by decide +kernel
theorem ggJxc12de_init_da8c8_Jxa1e45_init_da8c8 : GoodIn wsJxc12de_init_da8c8 wsJxa1e45_init_da8c8 := goodIn_r _ [5, 6, 7, 8] (by decide +kernel) (by decide +kernel)
theorem gJxc12de_init_da8c8_Jxa1e45_init_da8c8 : GoodIn wsJxc12de_init_da8c8 (wsJxa1e45_init_da8c8) := ggJxc12de_init_da8c8_Jxa1e45_init_da8c8
theorem dJxc12de_init_da8c8_0 : decode cJxc12de_init_da8c8 0 = .ok (.aload_n 0, 1) := by decide +kernel
theorem dJxc12de_init_da8c8_1 : decode cJxc12de_init_da8c8 1 = .ok (.invokespecial 1, 3) := by decide +kernel
theorem dJxc12de_init_da8c8_4 : decode cJxc12de_init_da8c8 4 = .ok (.aload_n 0, 1) := by decide +kernel
theorem dJxc12de_init_da8c8_5 : decode cJxc12de_init_da8c8 5 = .ok (.iconst 0, 1) := by decide +kernel
theorem dJxc12de_init_da8c8_6 : decode cJxc12de_init_da8c8 6 = .ok (.putfield 7, 3) := by decide +kernel
theorem dJxc12de_init_da8c8_9 : decode cJxc12de_init_da8c8 9 = .ok (.return_, 1) := by decide +kernel
theorem ggJx4a65c_init_da8c8_Jxc12de_init_da8c8 : GoodIn wsJx4a65c_init_da8c8 wsJxc12de_init_da8c8 := goodIn_r _ [6, 7, 8, 9, 10, 11, 12, 13, 14, 15, 16, 17] (by decide +kernel) (by decide +kernel)
theorem gJx4a65c_init_da8c8_Jxc12de_init_da8c8 : GoodIn wsJx4a65c_init_da8c8 (wsJxc12de_init_da8c8) := ggJx4a65c_init_da8c8_Jxc12de_init_da8c8
theorem dJx4a65c_init_da8c8_0 : decode cJx4a65c_init_da8c8 0 = .ok (.aload_n 0, 1) := by decide +kernel
theorem dJx4a65c_init_da8c8_1 : decode cJx4a65c_init_da8c8 1 = .ok (.invokespecial 1, 3) := by decide +kernel
theorem dJx4a65c_init_da8c8_4 : decode cJx4a65c_init_da8c8 4 = .ok (.aload_n 0, 1) := by decide +kernel
theorem dJx4a65c_init_da8c8_5 : decode cJx4a65c_init_da8c8 5 = .ok (.getstatic 39, 3) := by decide +kernel
theorem dJx4a65c_init_da8c8_8 : decode cJx4a65c_init_da8c8 8 = .ok (.putfield 9, 3) := by decide +kernel
theorem dJx4a65c_init_da8c8_11 : decode cJx4a65c_init_da8c8 11 = .ok (.return_, 1) := by decide +kernel
theorem ggJx4a65c_grow_92f84_J8_newLength_cabcc : GoodIn wsJx4a65c_grow_92f84 wsJ8_newLength_cabcc := goodIn_r _ [11, 12, 4, 5, 6, 13, 14, 15, 10, 16] (by decide +kernel) (by decide +kernel)
theorem gJx4a65c_grow_92f84_J8_newLength_cabcc : GoodIn wsJx4a65c_grow_92f84 (va_wsS RJx4a65c 73 yJ8_newLength_cabcc wsJ8_newLength_cabcc) := goodIn_app (goodIn_of _ (by decide +kernel)) ggJx4a65c_grow_92f84_J8_newLength_cabcc
theorem ggJx4a65c_grow_92f84_J7_copyOf_1904c : GoodIn wsJx4a65c_grow_92f84 wsJ7_copyOf_1904c := goodIn_r _ [20, 21, 22, 23, 24, 25, 26, 19, 27, 28, 29, 30, 31, 5, 32, 33, 34, 35, 36] (by decide +kernel) (by decide +kernel)
theorem gJx4a65c_grow_92f84_J7_copyOf_1904c : GoodIn wsJx4a65c_grow_92f84 (va_wsS RJx4a65c 66 yJ7_copyOf_1904c wsJ7_copyOf_1904c) := goodIn_app (goodIn_of _ (by decide +kernel)) ggJx4a65c_grow_92f84_J7_copyOf_1904c
theorem dJx4a65c_grow_92f84_0 : decode cJx4a65c_grow_92f84 0 = .ok (.aload_n 0, 1) := by decide +kernel
theorem dJx4a65c_grow_92f84_1 : decode cJx4a65c_grow_92f84 1 = .ok (.getfield 9, 3) := by decide +kernel
theorem dJx4a65c_grow_92f84_4 : decode cJx4a65c_grow_92f84 4 = .ok (.arraylength, 1) := by decide +kernel
theorem dJx4a65c_grow_92f84_5 : decode cJx4a65c_grow_92f84 5 = .ok (.istore_n 2, 1) := by decide +kernel
theorem dJx4a65c_grow_92f84_6 : decode cJx4a65c_grow_92f84 6 = .ok (.iload_n 2, 1) := by decide +kernel
theorem dJx4a65c_grow_92f84_7 : decode cJx4a65c_grow_92f84 7 = .ok (.ifCond .gt 13, 3) := by decide +kernel
theorem dJx4a65c_grow_92f84_10 : decode cJx4a65c_grow_92f84 10 = .ok (.aload_n 0, 1) := by decide +kernel
theorem dJx4a65c_grow_92f84_11 : decode cJx4a65c_grow_92f84 11 = .ok (.getfield 9, 3) := by decide +kernel
theorem dJx4a65c_grow_92f84_14 : decode cJx4a65c_grow_92f84 14 = .ok (.getstatic 39, 3) := by decide +kernel
theorem dJx4a65c_grow_92f84_17 : decode cJx4a65c_grow_92f84 17 = .ok (.if_acmp .eq 28, 3) := by decide +kernel
theorem dJx4a65c_grow_92f84_20 : decode cJx4a65c_grow_92f84 20 = .ok (.iload_n 2, 1) := by decide +kernel
theorem dJx4a65c_grow_92f84_21 : decode cJx4a65c_grow_92f84 21 = .ok (.iload_n 1, 1) := by decide +kernel
theorem dJx4a65c_grow_92f84_22 : decode cJx4a65c_grow_92f84 22 = .ok (.iload_n 2, 1) := by decide +kernel
theorem dJx4a65c_grow_92f84_23 : decode cJx4a65c_grow_92f84 23 = .ok (.isub, 1) := by decide +kernel
theorem dJx4a65c_grow_92f84_24 : decode cJx4a65c_grow_92f84 24 = .ok (.iload_n 2, 1) := by decide +kernel
theorem dJx4a65c_grow_92f84_25 : decode cJx4a65c_grow_92f84 25 = .ok (.iconst 1, 1) := by decide +kernel
theorem dJx4a65c_grow_92f84_26 : decode cJx4a65c_grow_92f84 26 = .ok (.ishr, 1) := by decide +kernel
theorem dJx4a65c_grow_92f84_27 : decode cJx4a65c_grow_92f84 27 = .ok (.invokestatic 73, 3) := by decide +kernel
theorem dJx4a65c_grow_92f84_30 : decode cJx4a65c_grow_92f84 30 = .ok (.istore_n 3, 1) := by decide +kernel
theorem dJx4a65c_grow_92f84_31 : decode cJx4a65c_grow_92f84 31 = .ok (.aload_n 0, 1) := by decide +kernel
theorem dJx4a65c_grow_92f84_32 : decode cJx4a65c_grow_92f84 32 = .ok (.aload_n 0, 1) := by decide +kernel
theorem dJx4a65c_grow_92f84_33 : decode cJx4a65c_grow_92f84 33 = .ok (.getfield 9, 3) := by decide +kernel
theorem dJx4a65c_grow_92f84_36 : decode cJx4a65c_grow_92f84 36 = .ok (.iload_n 3, 1) := by decide +kernel
theorem dJx4a65c_grow_92f84_37 : decode cJx4a65c_grow_92f84 37 = .ok (.invokestatic 66, 3) := by decide +kernel
theorem dJx4a65c_grow_92f84_40 : decode cJx4a65c_grow_92f84 40 = .ok (.dup_x1, 1) := by decide +kernel
theorem dJx4a65c_grow_92f84_41 : decode cJx4a65c_grow_92f84 41 = .ok (.putfield 9, 3) := by decide +kernel
theorem dJx4a65c_grow_92f84_44 : decode cJx4a65c_grow_92f84 44 = .ok (.areturn, 1) := by decide +kernel
theorem dJx4a65c_grow_92f84_45 : decode cJx4a65c_grow_92f84 45 = .ok (.aload_n 0, 1) := by decide +kernel
theorem dJx4a65c_grow_92f84_46 : decode cJx4a65c_grow_92f84 46 = .ok (.bipush 10, 2) := by decide +kernel
theorem dJx4a65c_grow_92f84_48 : decode cJx4a65c_grow_92f84 48 = .ok (.iload_n 1, 1) := by decide +kernel
theorem dJx4a65c_grow_92f84_49 : decode cJx4a65c_grow_92f84 49 = .ok (.invokestatic 79, 3) := by decide +kernel
theorem dJx4a65c_grow_92f84_52 : decode cJx4a65c_grow_92f84 52 = .ok (.anewarray 7, 3) := by decide +kernel
theorem dJx4a65c_grow_92f84_55 : decode cJx4a65c_grow_92f84 55 = .ok (.dup_x1, 1) := by decide +kernel
theorem dJx4a65c_grow_92f84_56 : decode cJx4a65c_grow_92f84 56 = .ok (.putfield 9, 3) := by decide +kernel
theorem dJx4a65c_grow_92f84_59 : decode cJx4a65c_grow_92f84 59 = .ok (.areturn, 1) := by decide +kernel
theorem ggJx4a65c_grow_d5877_Jx4a65c_grow_92f84 : GoodIn wsJx4a65c_grow_d5877 wsJx4a65c_grow_92f84 := goodIn_r _ [6, 7, 8, 9, 10, 11, 12, 13, 14, 15, 16, 17, 18, 19, 20, 21, 22, 23, 24, 25, 26, 27, 28, 29, 30, 31, 32, 33, 34, 35, 36, 37, 38, 39, 40, 41, 42, 43, 44, 45] (by decide +kernel) (by decide +kernel)
theorem gJx4a65c_grow_d5877_Jx4a65c_grow_92f84 : GoodIn wsJx4a65c_grow_d5877 (wsV RJx4a65c 69 RJx4a65c yJx4a65c_grow_92f84 wsJx4a65c_grow_92f84) := goodIn_app (goodIn_of _ (by decide +kernel)) ggJx4a65c_grow_d5877_Jx4a65c_grow_92f84
theorem dJx4a65c_grow_d5877_0 : decode cJx4a65c_grow_d5877 0 = .ok (.aload_n 0, 1) := by decide +kernel
theorem dJx4a65c_grow_d5877_1 : decode cJx4a65c_grow_d5877 1 = .ok (.aload_n 0, 1) := by decide +kernel
theorem dJx4a65c_grow_d5877_2 : decode cJx4a65c_grow_d5877 2 = .ok (.getfield 48, 3) := by decide +kernel
theorem dJx4a65c_grow_d5877_5 : decode cJx4a65c_grow_d5877 5 = .ok (.iconst 1, 1) := by decide +kernel
theorem dJx4a65c_grow_d5877_6 : decode cJx4a65c_grow_d5877 6 = .ok (.iadd, 1) := by decide +kernel
theorem dJx4a65c_grow_d5877_7 : decode cJx4a65c_grow_d5877 7 = .ok (.invokevirtual 69, 3) := by decide +kernel
theorem dJx4a65c_grow_d5877_10 : decode cJx4a65c_grow_d5877 10 = .ok (.areturn, 1) := by decide +kernel
theorem dJx4a65c_size_8abf5_0 : decode cJx4a65c_size_8abf5 0 = .ok (.aload_n 0, 1) := by decide +kernel
theorem dJx4a65c_size_8abf5_1 : decode cJx4a65c_size_8abf5 1 = .ok (.getfield 48, 3) := by decide +kernel
theorem dJx4a65c_size_8abf5_4 : decode cJx4a65c_size_8abf5 4 = .ok (.ireturn, 1) := by decide +kernel
theorem dJx4a65c_elementData_915e3_0 : decode cJx4a65c_elementData_915e3 0 = .ok (.aload_n 0, 1) := by decide +kernel
theorem dJx4a65c_elementData_915e3_1 : decode cJx4a65c_elementData_915e3 1 = .ok (.getfield 9, 3) := by decide +kernel
theorem dJx4a65c_elementData_915e3_4 : decode cJx4a65c_elementData_915e3 4 = .ok (.iload_n 1, 1) := by decide +kernel
theorem dJx4a65c_elementData_915e3_5 : decode cJx4a65c_elementData_915e3 5 = .ok (.aaload, 1) := by decide +kernel
theorem dJx4a65c_elementData_915e3_6 : decode cJx4a65c_elementData_915e3 6 = .ok (.areturn, 1) := by decide +kernel
theorem ggJx4a65c_get_915e3_J15_checkIndex_7cf53 : GoodIn wsJx4a65c_get_915e3 wsJ15_checkIndex_7cf53 := goodIn_r _ [5, 6, 7, 8, 9] (by decide +kernel) (by decide +kernel)
theorem gJx4a65c_get_915e3_J15_checkIndex_7cf53 : GoodIn wsJx4a65c_get_915e3 (va_wsS RJx4a65c 118 yJ15_checkIndex_7cf53 wsJ15_checkIndex_7cf53) := goodIn_app (goodIn_of _ (by decide +kernel)) ggJx4a65c_get_915e3_J15_checkIndex_7cf53
theorem ggJx4a65c_get_915e3_Jx4a65c_elementData_915e3 : GoodIn wsJx4a65c_get_915e3 wsJx4a65c_elementData_915e3 := goodIn_r _ [14, 15, 16, 17, 18] (by decide +kernel) (by decide +kernel)
theorem gJx4a65c_get_915e3_Jx4a65c_elementData_915e3 : GoodIn wsJx4a65c_get_915e3 (wsV RJx4a65c 123 RJx4a65c yJx4a65c_elementData_915e3 wsJx4a65c_elementData_915e3) := goodIn_app (goodIn_of _ (by decide +kernel)) ggJx4a65c_get_915e3_Jx4a65c_elementData_915e3
theorem dJx4a65c_get_915e3_0 : decode cJx4a65c_get_915e3 0 = .ok (.iload_n 1, 1) := by decide +kernel
theorem dJx4a65c_get_915e3_1 : decode cJx4a65c_get_915e3 1 = .ok (.aload_n 0, 1) := by decide +kernel
theorem dJx4a65c_get_915e3_2 : decode cJx4a65c_get_915e3 2 = .ok (.getfield 48, 3) := by decide +kernel
theorem dJx4a65c_get_915e3_5 : decode cJx4a65c_get_915e3 5 = .ok (.invokestatic 118, 3) := by decide +kernel
theorem dJx4a65c_get_915e3_8 : decode cJx4a65c_get_915e3 8 = .ok (.pop, 1) := by decide +kernel
theorem dJx4a65c_get_915e3_9 : decode cJx4a65c_get_915e3 9 = .ok (.aload_n 0, 1) := by decide +kernel
theorem dJx4a65c_get_915e3_10 : decode cJx4a65c_get_915e3 10 = .ok (.iload_n 1, 1) := by decide +kernel
theorem dJx4a65c_get_915e3_11 : decode cJx4a65c_get_915e3 11 = .ok (.invokevirtual 123, 3) := by decide +kernel
theorem dJx4a65c_get_915e3_14 : decode cJx4a65c_get_915e3 14 = .ok (.areturn, 1) := by decide +kernel
theorem ggJx4a65c_add_72be8_Jx4a65c_grow_d5877 : GoodIn wsJx4a65c_add_72be8 wsJx4a65c_grow_d5877 := goodIn_r _ [6, 1, 7, 8, 9, 5, 10, 11, 12, 13, 14, 15, 16, 17, 18, 19, 20, 21, 22, 23, 24, 25, 26, 27, 28, 29, 30, 31, 32, 33, 34, 35, 36, 37, 38, 39, 40, 41, 42, 43, 44, 45, 46, 47, 48, 49] (by decide +kernel) (by decide +kernel)
theorem gJx4a65c_add_72be8_Jx4a65c_grow_d5877 : GoodIn wsJx4a65c_add_72be8 (wsV RJx4a65c 129 RJx4a65c yJx4a65c_grow_d5877 wsJx4a65c_grow_d5877) := goodIn_app (goodIn_of _ (by decide +kernel)) ggJx4a65c_add_72be8_Jx4a65c_grow_d5877
theorem dJx4a65c_add_72be8_0 : decode cJx4a65c_add_72be8 0 = .ok (.iload_n 3, 1) := by decide +kernel
theorem dJx4a65c_add_72be8_1 : decode cJx4a65c_add_72be8 1 = .ok (.aload_n 2, 1) := by decide +kernel
theorem dJx4a65c_add_72be8_2 : decode cJx4a65c_add_72be8 2 = .ok (.arraylength, 1) := by decide +kernel
theorem dJx4a65c_add_72be8_3 : decode cJx4a65c_add_72be8 3 = .ok (.if_icmp .ne 8, 3) := by decide +kernel
theorem dJx4a65c_add_72be8_6 : decode cJx4a65c_add_72be8 6 = .ok (.aload_n 0, 1) := by decide +kernel
theorem dJx4a65c_add_72be8_7 : decode cJx4a65c_add_72be8 7 = .ok (.invokevirtual 129, 3) := by decide +kernel
theorem dJx4a65c_add_72be8_10 : decode cJx4a65c_add_72be8 10 = .ok (.astore_n 2, 1) := by decide +kernel
theorem dJx4a65c_add_72be8_11 : decode cJx4a65c_add_72be8 11 = .ok (.aload_n 2, 1) := by decide +kernel
theorem dJx4a65c_add_72be8_12 : decode cJx4a65c_add_72be8 12 = .ok (.iload_n 3, 1) := by decide +kernel
theorem dJx4a65c_add_72be8_13 : decode cJx4a65c_add_72be8 13 = .ok (.aload_n 1, 1) := by decide +kernel
theorem dJx4a65c_add_72be8_14 : decode cJx4a65c_add_72be8 14 = .ok (.aastore, 1) := by decide +kernel
theorem dJx4a65c_add_72be8_15 : decode cJx4a65c_add_72be8 15 = .ok (.aload_n 0, 1) := by decide +kernel
theorem dJx4a65c_add_72be8_16 : decode cJx4a65c_add_72be8 16 = .ok (.iload_n 3, 1) := by decide +kernel
theorem dJx4a65c_add_72be8_17 : decode cJx4a65c_add_72be8 17 = .ok (.iconst 1, 1) := by decide +kernel
theorem dJx4a65c_add_72be8_18 : decode cJx4a65c_add_72be8 18 = .ok (.iadd, 1) := by decide +kernel
theorem dJx4a65c_add_72be8_19 : decode cJx4a65c_add_72be8 19 = .ok (.putfield 48, 3) := by decide +kernel
theorem dJx4a65c_add_72be8_22 : decode cJx4a65c_add_72be8 22 = .ok (.return_, 1) := by decide +kernel
theorem ggJx4a65c_add_9ea2d_Jx4a65c_add_72be8 : GoodIn wsJx4a65c_add_9ea2d wsJx4a65c_add_72be8 := goodIn_r _ [9, 4, 10, 11, 12, 8, 13, 14, 15, 16, 17, 3, 18, 19, 20, 21, 22, 23, 24, 25, 26, 27, 28, 29, 30, 31, 32, 33, 34, 35, 36, 37, 38, 39, 40, 41, 42, 43, 44, 45, 46, 47, 48, 49, 50, 51, 52, 53, 54, 55] (by decide +kernel) (by decide +kernel)
theorem gJx4a65c_add_9ea2d_Jx4a65c_add_72be8 : GoodIn wsJx4a65c_add_9ea2d (wsV RJx4a65c 131 RJx4a65c yJx4a65c_add_72be8 wsJx4a65c_add_72be8) := goodIn_app (goodIn_of _ (by decide +kernel)) ggJx4a65c_add_9ea2d_Jx4a65c_add_72be8
theorem dJx4a65c_add_9ea2d_0 : decode cJx4a65c_add_9ea2d 0 = .ok (.aload_n 0, 1) := by decide +kernel
theorem dJx4a65c_add_9ea2d_1 : decode cJx4a65c_add_9ea2d 1 = .ok (.dup, 1) := by decide +kernel
theorem dJx4a65c_add_9ea2d_2 : decode cJx4a65c_add_9ea2d 2 = .ok (.getfield 63, 3) := by decide +kernel
theorem dJx4a65c_add_9ea2d_5 : decode cJx4a65c_add_9ea2d 5 = .ok (.iconst 1, 1) := by decide +kernel
theorem dJx4a65c_add_9ea2d_6 : decode cJx4a65c_add_9ea2d 6 = .ok (.iadd, 1) := by decide +kernel
theorem dJx4a65c_add_9ea2d_7 : decode cJx4a65c_add_9ea2d 7 = .ok (.putfield 63, 3) := by decide +kernel
theorem dJx4a65c_add_9ea2d_10 : decode cJx4a65c_add_9ea2d 10 = .ok (.aload_n 0, 1) := by decide +kernel
theorem dJx4a65c_add_9ea2d_11 : decode cJx4a65c_add_9ea2d 11 = .ok (.aload_n 1, 1) := by decide +kernel
theorem dJx4a65c_add_9ea2d_12 : decode cJx4a65c_add_9ea2d 12 = .ok (.aload_n 0, 1) := by decide +kernel
theorem dJx4a65c_add_9ea2d_13 : decode cJx4a65c_add_9ea2d 13 = .ok (.getfield 9, 3) := by decide +kernel
theorem dJx4a65c_add_9ea2d_16 : decode cJx4a65c_add_9ea2d 16 = .ok (.aload_n 0, 1) := by decide +kernel
theorem dJx4a65c_add_9ea2d_17 : decode cJx4a65c_add_9ea2d 17 = .ok (.getfield 48, 3) := by decide +kernel
theorem dJx4a65c_add_9ea2d_20 : decode cJx4a65c_add_9ea2d 20 = .ok (.invokevirtual 131, 3) := by decide +kernel
theorem dJx4a65c_add_9ea2d_23 : decode cJx4a65c_add_9ea2d 23 = .ok (.iconst 1, 1) := by decide +kernel
theorem dJx4a65c_add_9ea2d_24 : decode cJx4a65c_add_9ea2d 24 = .ok (.ireturn, 1) := by decide +kernel
theorem dJ7_fill_53178_0 : decode cJ7_fill_53178 0 = .ok (.iconst 0, 1) := by decide +kernel
theorem dJ7_fill_53178_1 : decode cJ7_fill_53178 1 = .ok (.istore_n 2, 1) := by decide +kernel
theorem dJ7_fill_53178_2 : decode cJ7_fill_53178 2 = .ok (.aload_n 0, 1) := by decide +kernel
theorem dJ7_fill_53178_3 : decode cJ7_fill_53178 3 = .ok (.arraylength, 1) := by decide +kernel
theorem dJ7_fill_53178_4 : decode cJ7_fill_53178 4 = .ok (.istore_n 3, 1) := by decide +kernel
theorem dJ7_fill_53178_5 : decode cJ7_fill_53178 5 = .ok (.iload_n 2, 1) := by decide +kernel
theorem dJ7_fill_53178_6 : decode cJ7_fill_53178 6 = .ok (.iload_n 3, 1) := by decide +kernel
theorem dJ7_fill_53178_7 : decode cJ7_fill_53178 7 = .ok (.if_icmp .ge 13, 3) := by decide +kernel
theorem dJ7_fill_53178_10 : decode cJ7_fill_53178 10 = .ok (.aload_n 0, 1) := by decide +kernel
theorem dJ7_fill_53178_11 : decode cJ7_fill_53178 11 = .ok (.iload_n 2, 1) := by decide +kernel
theorem dJ7_fill_53178_12 : decode cJ7_fill_53178 12 = .ok (.iload_n 1, 1) := by decide +kernel
theorem dJ7_fill_53178_13 : decode cJ7_fill_53178 13 = .ok (.iastore, 1) := by decide +kernel
theorem dJ7_fill_53178_14 : decode cJ7_fill_53178 14 = .ok (.iinc 2 1, 3) := by decide +kernel
theorem dJ7_fill_53178_17 : decode cJ7_fill_53178 17 = .ok (.goto (-12), 3) := by decide +kernel
theorem dJ7_fill_53178_20 : decode cJ7_fill_53178 20 = .ok (.return_, 1) := by decide +kernel
theorem ggJ7_copyOf_1904c_J7_copyOf_6403c : GoodIn wsJ7_copyOf_1904c wsJ7_copyOf_6403c := goodIn_r _ [8, 9, 10, 11, 12, 13, 14, 15, 16, 17, 18] (by decide +kernel) (by decide +kernel)
theorem gJ7_copyOf_1904c_J7_copyOf_6403c : GoodIn wsJ7_copyOf_1904c (va_wsS RJ7 300 yJ7_copyOf_6403c wsJ7_copyOf_6403c) := goodIn_app (goodIn_of _ (by decide +kernel)) ggJ7_copyOf_1904c_J7_copyOf_6403c
theorem dJ7_copyOf_1904c_0 : decode cJ7_copyOf_1904c 0 = .ok (.aload_n 0, 1) := by decide +kernel
theorem dJ7_copyOf_1904c_1 : decode cJ7_copyOf_1904c 1 = .ok (.iload_n 1, 1) := by decide +kernel
theorem dJ7_copyOf_1904c_2 : decode cJ7_copyOf_1904c 2 = .ok (.aload_n 0, 1) := by decide +kernel
theorem dJ7_copyOf_1904c_3 : decode cJ7_copyOf_1904c 3 = .ok (.invokevirtual 86, 3) := by decide +kernel
theorem dJ7_copyOf_1904c_6 : decode cJ7_copyOf_1904c 6 = .ok (.invokestatic 300, 3) := by decide +kernel
theorem dJ7_copyOf_1904c_9 : decode cJ7_copyOf_1904c 9 = .ok (.areturn, 1) := by decide +kernel
theorem dJ7_copyOf_6403c_0 : decode cJ7_copyOf_6403c 0 = .ok (.aload_n 2, 1) := by decide +kernel
theorem dJ7_copyOf_6403c_1 : decode cJ7_copyOf_6403c 1 = .ok (.ldc 110, 2) := by decide +kernel
theorem dJ7_copyOf_6403c_3 : decode cJ7_copyOf_6403c 3 = .ok (.if_acmp .ne 10, 3) := by decide +kernel
theorem dJ7_copyOf_6403c_6 : decode cJ7_copyOf_6403c 6 = .ok (.iload_n 1, 1) := by decide +kernel
theorem dJ7_copyOf_6403c_7 : decode cJ7_copyOf_6403c 7 = .ok (.anewarray 2, 3) := by decide +kernel
theorem dJ7_copyOf_6403c_10 : decode cJ7_copyOf_6403c 10 = .ok (.goto 14, 3) := by decide +kernel
theorem dJ7_copyOf_6403c_13 : decode cJ7_copyOf_6403c 13 = .ok (.aload_n 2, 1) := by decide +kernel
theorem dJ7_copyOf_6403c_14 : decode cJ7_copyOf_6403c 14 = .ok (.invokevirtual 90, 3) := by decide +kernel
theorem dJ7_copyOf_6403c_17 : decode cJ7_copyOf_6403c 17 = .ok (.iload_n 1, 1) := by decide +kernel
theorem dJ7_copyOf_6403c_18 : decode cJ7_copyOf_6403c 18 = .ok (.invokestatic 95, 3) := by decide +kernel
theorem dJ7_copyOf_6403c_21 : decode cJ7_copyOf_6403c 21 = .ok (.checkcast 110, 3) := by decide +kernel
theorem dJ7_copyOf_6403c_24 : decode cJ7_copyOf_6403c 24 = .ok (.astore_n 3, 1) := by decide +kernel
theorem dJ7_copyOf_6403c_25 : decode cJ7_copyOf_6403c 25 = .ok (.aload_n 0, 1) := by decide +kernel
theorem dJ7_copyOf_6403c_26 : decode cJ7_copyOf_6403c 26 = .ok (.iconst 0, 1) := by decide +kernel
theorem dJ7_copyOf_6403c_27 : decode cJ7_copyOf_6403c 27 = .ok (.aload_n 3, 1) := by decide +kernel
theorem dJ7_copyOf_6403c_28 : decode cJ7_copyOf_6403c 28 = .ok (.iconst 0, 1) := by decide +kernel
theorem dJ7_copyOf_6403c_29 : decode cJ7_copyOf_6403c 29 = .ok (.aload_n 0, 1) := by decide +kernel
theorem dJ7_copyOf_6403c_30 : decode cJ7_copyOf_6403c 30 = .ok (.arraylength, 1) := by decide +kernel
theorem dJ7_copyOf_6403c_31 : decode cJ7_copyOf_6403c 31 = .ok (.iload_n 1, 1) := by decide +kernel
theorem dJ7_copyOf_6403c_32 : decode cJ7_copyOf_6403c 32 = .ok (.invokestatic 304, 3) := by decide +kernel
theorem dJ7_copyOf_6403c_35 : decode cJ7_copyOf_6403c 35 = .ok (.invokestatic 150, 3) := by decide +kernel
theorem dJ7_copyOf_6403c_38 : decode cJ7_copyOf_6403c 38 = .ok (.aload_n 3, 1) := by decide +kernel
theorem dJ7_copyOf_6403c_39 : decode cJ7_copyOf_6403c 39 = .ok (.areturn, 1) := by decide +kernel
theorem ggJ15_checkIndex_7cf53_J3_checkIndex_8e157 : GoodIn wsJ15_checkIndex_7cf53 wsJ3_checkIndex_8e157 := goodIn_r _ [4] (by decide +kernel) (by decide +kernel)
theorem gJ15_checkIndex_7cf53_J3_checkIndex_8e157 : GoodIn wsJ15_checkIndex_7cf53 (va_wsS RJ15 105 yJ3_checkIndex_8e157 wsJ3_checkIndex_8e157) := goodIn_app (goodIn_of _ (by decide +kernel)) ggJ15_checkIndex_7cf53_J3_checkIndex_8e157
theorem dJ15_checkIndex_7cf53_0 : decode cJ15_checkIndex_7cf53 0 = .ok (.iload_n 0, 1) := by decide +kernel
theorem dJ15_checkIndex_7cf53_1 : decode cJ15_checkIndex_7cf53 1 = .ok (.iload_n 1, 1) := by decide +kernel
theorem dJ15_checkIndex_7cf53_2 : decode cJ15_checkIndex_7cf53 2 = .ok (.aconst_null, 1) := by decide +kernel
theorem dJ15_checkIndex_7cf53_3 : decode cJ15_checkIndex_7cf53 3 = .ok (.invokestatic 105, 3) := by decide +kernel
theorem dJ15_checkIndex_7cf53_6 : decode cJ15_checkIndex_7cf53 6 = .ok (.ireturn, 1) := by decide +kernel
theorem ggJ8_newLength_cabcc_J8_hugeLength_7cf53 : GoodIn wsJ8_newLength_cabcc wsJ8_hugeLength_7cf53 := goodIn_r _ [9, 5] (by decide +kernel) (by decide +kernel)
theorem gJ8_newLength_cabcc_J8_hugeLength_7cf53 : GoodIn wsJ8_newLength_cabcc (va_wsS RJ8 201 yJ8_hugeLength_7cf53 wsJ8_hugeLength_7cf53) := goodIn_app (goodIn_of _ (by decide +kernel)) ggJ8_newLength_cabcc_J8_hugeLength_7cf53
theorem dJ8_newLength_cabcc_0 : decode cJ8_newLength_cabcc 0 = .ok (.iload_n 0, 1) := by decide +kernel
theorem dJ8_newLength_cabcc_1 : decode cJ8_newLength_cabcc 1 = .ok (.iload_n 1, 1) := by decide +kernel
theorem dJ8_newLength_cabcc_2 : decode cJ8_newLength_cabcc 2 = .ok (.iload_n 2, 1) := by decide +kernel
theorem dJ8_newLength_cabcc_3 : decode cJ8_newLength_cabcc 3 = .ok (.invokestatic 194, 3) := by decide +kernel
theorem dJ8_newLength_cabcc_6 : decode cJ8_newLength_cabcc 6 = .ok (.iadd, 1) := by decide +kernel
theorem dJ8_newLength_cabcc_7 : decode cJ8_newLength_cabcc 7 = .ok (.istore_n 3, 1) := by decide +kernel
theorem dJ8_newLength_cabcc_8 : decode cJ8_newLength_cabcc 8 = .ok (.iconst 0, 1) := by decide +kernel
theorem dJ8_newLength_cabcc_9 : decode cJ8_newLength_cabcc 9 = .ok (.iload_n 3, 1) := by decide +kernel
theorem dJ8_newLength_cabcc_10 : decode cJ8_newLength_cabcc 10 = .ok (.if_icmp .ge 11, 3) := by decide +kernel
theorem dJ8_newLength_cabcc_13 : decode cJ8_newLength_cabcc 13 = .ok (.iload_n 3, 1) := by decide +kernel
theorem dJ8_newLength_cabcc_14 : decode cJ8_newLength_cabcc 14 = .ok (.ldc 200, 2) := by decide +kernel
theorem dJ8_newLength_cabcc_16 : decode cJ8_newLength_cabcc 16 = .ok (.if_icmp .gt 5, 3) := by decide +kernel
theorem dJ8_newLength_cabcc_19 : decode cJ8_newLength_cabcc 19 = .ok (.iload_n 3, 1) := by decide +kernel
theorem dJ8_newLength_cabcc_20 : decode cJ8_newLength_cabcc 20 = .ok (.ireturn, 1) := by decide +kernel
theorem dJ8_newLength_cabcc_21 : decode cJ8_newLength_cabcc 21 = .ok (.iload_n 0, 1) := by decide +kernel
theorem dJ8_newLength_cabcc_22 : decode cJ8_newLength_cabcc 22 = .ok (.iload_n 1, 1) := by decide +kernel
theorem dJ8_newLength_cabcc_23 : decode cJ8_newLength_cabcc 23 = .ok (.invokestatic 201, 3) := by decide +kernel
theorem dJ8_newLength_cabcc_26 : decode cJ8_newLength_cabcc 26 = .ok (.ireturn, 1) := by decide +kernel
theorem dJ8_hugeLength_7cf53_0 : decode cJ8_hugeLength_7cf53 0 = .ok (.iload_n 0, 1) := by decide +kernel
theorem dJ8_hugeLength_7cf53_1 : decode cJ8_hugeLength_7cf53 1 = .ok (.iload_n 1, 1) := by decide +kernel
theorem dJ8_hugeLength_7cf53_2 : decode cJ8_hugeLength_7cf53 2 = .ok (.iadd, 1) := by decide +kernel
theorem dJ8_hugeLength_7cf53_3 : decode cJ8_hugeLength_7cf53 3 = .ok (.istore_n 2, 1) := by decide +kernel
theorem dJ8_hugeLength_7cf53_4 : decode cJ8_hugeLength_7cf53 4 = .ok (.iload_n 2, 1) := by decide +kernel
theorem dJ8_hugeLength_7cf53_5 : decode cJ8_hugeLength_7cf53 5 = .ok (.ifCond .ge 44, 3) := by decide +kernel
theorem dJ8_hugeLength_7cf53_8 : decode cJ8_hugeLength_7cf53 8 = .ok (.new 204, 3) := by decide +kernel
theorem dJ8_hugeLength_7cf53_11 : decode cJ8_hugeLength_7cf53 11 = .ok (.dup, 1) := by decide +kernel
theorem dJ8_hugeLength_7cf53_12 : decode cJ8_hugeLength_7cf53 12 = .ok (.new 89, 3) := by decide +kernel
theorem dJ8_hugeLength_7cf53_15 : decode cJ8_hugeLength_7cf53 15 = .ok (.dup, 1) := by decide +kernel
theorem dJ8_hugeLength_7cf53_16 : decode cJ8_hugeLength_7cf53 16 = .ok (.invokespecial 91, 3) := by decide +kernel
theorem dJ8_hugeLength_7cf53_19 : decode cJ8_hugeLength_7cf53 19 = .ok (.ldc 206, 2) := by decide +kernel
theorem dJ8_hugeLength_7cf53_21 : decode cJ8_hugeLength_7cf53 21 = .ok (.invokevirtual 94, 3) := by decide +kernel
theorem dJ8_hugeLength_7cf53_24 : decode cJ8_hugeLength_7cf53 24 = .ok (.iload_n 0, 1) := by decide +kernel
theorem dJ8_hugeLength_7cf53_25 : decode cJ8_hugeLength_7cf53 25 = .ok (.invokevirtual 98, 3) := by decide +kernel
theorem dJ8_hugeLength_7cf53_28 : decode cJ8_hugeLength_7cf53 28 = .ok (.ldc 208, 2) := by decide +kernel
theorem dJ8_hugeLength_7cf53_30 : decode cJ8_hugeLength_7cf53 30 = .ok (.invokevirtual 94, 3) := by decide +kernel
theorem dJ8_hugeLength_7cf53_33 : decode cJ8_hugeLength_7cf53 33 = .ok (.iload_n 1, 1) := by decide +kernel
theorem dJ8_hugeLength_7cf53_34 : decode cJ8_hugeLength_7cf53 34 = .ok (.invokevirtual 98, 3) := by decide +kernel
theorem dJ8_hugeLength_7cf53_37 : decode cJ8_hugeLength_7cf53 37 = .ok (.ldc 210, 2) := by decide +kernel
theorem dJ8_hugeLength_7cf53_39 : decode cJ8_hugeLength_7cf53 39 = .ok (.invokevirtual 94, 3) := by decide +kernel
theorem dJ8_hugeLength_7cf53_42 : decode cJ8_hugeLength_7cf53 42 = .ok (.invokevirtual 101, 3) := by decide +kernel
theorem dJ8_hugeLength_7cf53_45 : decode cJ8_hugeLength_7cf53 45 = .ok (.invokespecial 212, 3) := by decide +kernel
theorem dJ8_hugeLength_7cf53_48 : decode cJ8_hugeLength_7cf53 48 = .ok (.athrow, 1) := by decide +kernel
theorem dJ8_hugeLength_7cf53_49 : decode cJ8_hugeLength_7cf53 49 = .ok (.iload_n 2, 1) := by decide +kernel
theorem dJ8_hugeLength_7cf53_50 : decode cJ8_hugeLength_7cf53 50 = .ok (.ldc 200, 2) := by decide +kernel
theorem dJ8_hugeLength_7cf53_52 : decode cJ8_hugeLength_7cf53 52 = .ok (.if_icmp .gt 6, 3) := by decide +kernel
theorem dJ8_hugeLength_7cf53_55 : decode cJ8_hugeLength_7cf53 55 = .ok (.ldc 200, 2) := by decide +kernel
theorem dJ8_hugeLength_7cf53_57 : decode cJ8_hugeLength_7cf53 57 = .ok (.ireturn, 1) := by decide +kernel
theorem dJ8_hugeLength_7cf53_58 : decode cJ8_hugeLength_7cf53 58 = .ok (.iload_n 2, 1) := by decide +kernel
theorem dJ8_hugeLength_7cf53_59 : decode cJ8_hugeLength_7cf53 59 = .ok (.ireturn, 1) := by decide +kernel
theorem dJ3_checkIndex_8e157_0 : decode cJ3_checkIndex_8e157 0 = .ok (.iload_n 0, 1) := by decide +kernel
theorem dJ3_checkIndex_8e157_1 : decode cJ3_checkIndex_8e157 1 = .ok (.ifCond .lt 8, 3) := by decide +kernel
theorem dJ3_checkIndex_8e157_4 : decode cJ3_checkIndex_8e157 4 = .ok (.iload_n 0, 1) := by decide +kernel
theorem dJ3_checkIndex_8e157_5 : decode cJ3_checkIndex_8e157 5 = .ok (.iload_n 1, 1) := by decide +kernel
theorem dJ3_checkIndex_8e157_6 : decode cJ3_checkIndex_8e157 6 = .ok (.if_icmp .lt 10, 3) := by decide +kernel
theorem dJ3_checkIndex_8e157_9 : decode cJ3_checkIndex_8e157 9 = .ok (.aload_n 2, 1) := by decide +kernel
theorem dJ3_checkIndex_8e157_10 : decode cJ3_checkIndex_8e157 10 = .ok (.iload_n 0, 1) := by decide +kernel
theorem dJ3_checkIndex_8e157_11 : decode cJ3_checkIndex_8e157 11 = .ok (.iload_n 1, 1) := by decide +kernel
theorem dJ3_checkIndex_8e157_12 : decode cJ3_checkIndex_8e157 12 = .ok (.invokestatic 95, 3) := by decide +kernel
theorem dJ3_checkIndex_8e157_15 : decode cJ3_checkIndex_8e157 15 = .ok (.athrow, 1) := by decide +kernel
theorem dJ3_checkIndex_8e157_16 : decode cJ3_checkIndex_8e157 16 = .ok (.iload_n 0, 1) := by decide +kernel
theorem dJ3_checkIndex_8e157_17 : decode cJ3_checkIndex_8e157 17 = .ok (.ireturn, 1) := by decide +kernel
