theorem dX3_thrown_0 : decode cX3_thrown 0 = .ok (.aload_n 0, 1) := by decide +kernel
theorem dX3_thrown_1 : decode cX3_thrown 1 = .ok (.getfield 1, 3) := by decide +kernel
theorem dX3_thrown_4 : decode cX3_thrown 4 = .ok (.ireturn, 1) := by decide +kernel
theorem dX3_init_0 : decode cX3_init 0 = .ok (.aload_n 0, 1) := by decide +kernel
theorem dX3_init_1 : decode cX3_init 1 = .ok (.invokespecial 7, 3) := by decide +kernel
theorem dX3_init_4 : decode cX3_init 4 = .ok (.aload_n 0, 1) := by decide +kernel
theorem dX3_init_5 : decode cX3_init 5 = .ok (.sipush 13000, 3) := by decide +kernel
theorem dX3_init_8 : decode cX3_init 8 = .ok (.newarray .int, 2) := by decide +kernel
theorem dX3_init_10 : decode cX3_init 10 = .ok (.putfield 13, 3) := by decide +kernel
theorem dX3_init_13 : decode cX3_init 13 = .ok (.aload_n 0, 1) := by decide +kernel
theorem dX3_init_14 : decode cX3_init 14 = .ok (.sipush 13000, 3) := by decide +kernel
theorem dX3_init_17 : decode cX3_init 17 = .ok (.newarray .int, 2) := by decide +kernel
theorem dX3_init_19 : decode cX3_init 19 = .ok (.putfield 17, 3) := by decide +kernel
theorem dX3_init_22 : decode cX3_init 22 = .ok (.aload_n 0, 1) := by decide +kernel
theorem dX3_init_23 : decode cX3_init 23 = .ok (.sipush 13000, 3) := by decide +kernel
theorem dX3_init_26 : decode cX3_init 26 = .ok (.newarray .boolean, 2) := by decide +kernel
theorem dX3_init_28 : decode cX3_init 28 = .ok (.putfield 20, 3) := by decide +kernel
theorem dX3_init_31 : decode cX3_init 31 = .ok (.aload_n 0, 1) := by decide +kernel
theorem dX3_init_32 : decode cX3_init 32 = .ok (.bipush 64, 2) := by decide +kernel
theorem dX3_init_34 : decode cX3_init 34 = .ok (.newarray .int, 2) := by decide +kernel
theorem dX3_init_36 : decode cX3_init 36 = .ok (.putfield 24, 3) := by decide +kernel
theorem dX3_init_39 : decode cX3_init 39 = .ok (.aload_n 0, 1) := by decide +kernel
theorem dX3_init_40 : decode cX3_init 40 = .ok (.bipush 60, 2) := by decide +kernel
theorem dX3_init_42 : decode cX3_init 42 = .ok (.newarray .boolean, 2) := by decide +kernel
theorem dX3_init_44 : decode cX3_init 44 = .ok (.putfield 27, 3) := by decide +kernel
theorem dX3_init_47 : decode cX3_init 47 = .ok (.aload_n 0, 1) := by decide +kernel
theorem dX3_init_48 : decode cX3_init 48 = .ok (.bipush 60, 2) := by decide +kernel
theorem dX3_init_50 : decode cX3_init 50 = .ok (.newarray .int, 2) := by decide +kernel
theorem dX3_init_52 : decode cX3_init 52 = .ok (.putfield 30, 3) := by decide +kernel
theorem dX3_init_55 : decode cX3_init 55 = .ok (.aload_n 0, 1) := by decide +kernel
theorem dX3_init_56 : decode cX3_init 56 = .ok (.bipush 60, 2) := by decide +kernel
theorem dX3_init_58 : decode cX3_init 58 = .ok (.newarray .int, 2) := by decide +kernel
theorem dX3_init_60 : decode cX3_init 60 = .ok (.putfield 33, 3) := by decide +kernel
theorem dX3_init_63 : decode cX3_init 63 = .ok (.aload_n 0, 1) := by decide +kernel
theorem dX3_init_64 : decode cX3_init 64 = .ok (.bipush 60, 2) := by decide +kernel
theorem dX3_init_66 : decode cX3_init 66 = .ok (.newarray .int, 2) := by decide +kernel
theorem dX3_init_68 : decode cX3_init 68 = .ok (.putfield 36, 3) := by decide +kernel
theorem dX3_init_71 : decode cX3_init 71 = .ok (.aload_n 0, 1) := by decide +kernel
theorem dX3_init_72 : decode cX3_init 72 = .ok (.sipush 12000, 3) := by decide +kernel
theorem dX3_init_75 : decode cX3_init 75 = .ok (.newarray .int, 2) := by decide +kernel
theorem dX3_init_77 : decode cX3_init 77 = .ok (.putfield 39, 3) := by decide +kernel
theorem dX3_init_80 : decode cX3_init 80 = .ok (.aload_n 0, 1) := by decide +kernel
theorem dX3_init_81 : decode cX3_init 81 = .ok (.bipush 60, 2) := by decide +kernel
theorem dX3_init_83 : decode cX3_init 83 = .ok (.newarray .int, 2) := by decide +kernel
theorem dX3_init_85 : decode cX3_init 85 = .ok (.putfield 42, 3) := by decide +kernel
theorem dX3_init_88 : decode cX3_init 88 = .ok (.aload_n 0, 1) := by decide +kernel
theorem dX3_init_89 : decode cX3_init 89 = .ok (.bipush 60, 2) := by decide +kernel
theorem dX3_init_91 : decode cX3_init 91 = .ok (.newarray .int, 2) := by decide +kernel
theorem dX3_init_93 : decode cX3_init 93 = .ok (.putfield 45, 3) := by decide +kernel
theorem dX3_init_96 : decode cX3_init 96 = .ok (.aload_n 0, 1) := by decide +kernel
theorem dX3_init_97 : decode cX3_init 97 = .ok (.bipush 60, 2) := by decide +kernel
theorem dX3_init_99 : decode cX3_init 99 = .ok (.newarray .boolean, 2) := by decide +kernel
theorem dX3_init_101 : decode cX3_init 101 = .ok (.putfield 48, 3) := by decide +kernel
theorem dX3_init_104 : decode cX3_init 104 = .ok (.aload_n 0, 1) := by decide +kernel
theorem dX3_init_105 : decode cX3_init 105 = .ok (.bipush 60, 2) := by decide +kernel
theorem dX3_init_107 : decode cX3_init 107 = .ok (.newarray .int, 2) := by decide +kernel
theorem dX3_init_109 : decode cX3_init 109 = .ok (.putfield 51, 3) := by decide +kernel
theorem dX3_init_112 : decode cX3_init 112 = .ok (.aload_n 0, 1) := by decide +kernel
theorem dX3_init_113 : decode cX3_init 113 = .ok (.sipush 200, 3) := by decide +kernel
theorem dX3_init_116 : decode cX3_init 116 = .ok (.newarray .int, 2) := by decide +kernel
theorem dX3_init_118 : decode cX3_init 118 = .ok (.putfield 54, 3) := by decide +kernel
theorem dX3_init_121 : decode cX3_init 121 = .ok (.aload_n 0, 1) := by decide +kernel
theorem dX3_init_122 : decode cX3_init 122 = .ok (.sipush 4000, 3) := by decide +kernel
theorem dX3_init_125 : decode cX3_init 125 = .ok (.newarray .int, 2) := by decide +kernel
theorem dX3_init_127 : decode cX3_init 127 = .ok (.putfield 57, 3) := by decide +kernel
theorem dX3_init_130 : decode cX3_init 130 = .ok (.aload_n 0, 1) := by decide +kernel
theorem dX3_init_131 : decode cX3_init 131 = .ok (.bipush 60, 2) := by decide +kernel
theorem dX3_init_133 : decode cX3_init 133 = .ok (.newarray .int, 2) := by decide +kernel
theorem dX3_init_135 : decode cX3_init 135 = .ok (.putfield 60, 3) := by decide +kernel
theorem dX3_init_138 : decode cX3_init 138 = .ok (.aload_n 0, 1) := by decide +kernel
theorem dX3_init_139 : decode cX3_init 139 = .ok (.sipush 200, 3) := by decide +kernel
theorem dX3_init_142 : decode cX3_init 142 = .ok (.newarray .int, 2) := by decide +kernel
theorem dX3_init_144 : decode cX3_init 144 = .ok (.putfield 63, 3) := by decide +kernel
theorem dX3_init_147 : decode cX3_init 147 = .ok (.aload_n 0, 1) := by decide +kernel
theorem dX3_init_148 : decode cX3_init 148 = .ok (.iconst 4, 1) := by decide +kernel
theorem dX3_init_149 : decode cX3_init 149 = .ok (.newarray .int, 2) := by decide +kernel
theorem dX3_init_151 : decode cX3_init 151 = .ok (.putfield 66, 3) := by decide +kernel
theorem dX3_init_154 : decode cX3_init 154 = .ok (.aload_n 0, 1) := by decide +kernel
theorem dX3_init_155 : decode cX3_init 155 = .ok (.sipush 200, 3) := by decide +kernel
theorem dX3_init_158 : decode cX3_init 158 = .ok (.newarray .int, 2) := by decide +kernel
theorem dX3_init_160 : decode cX3_init 160 = .ok (.putfield 69, 3) := by decide +kernel
theorem dX3_init_163 : decode cX3_init 163 = .ok (.iconst 0, 1) := by decide +kernel
theorem dX3_init_164 : decode cX3_init 164 = .ok (.istore_n 1, 1) := by decide +kernel
theorem dX3_init_165 : decode cX3_init 165 = .ok (.iload_n 1, 1) := by decide +kernel
theorem dX3_init_166 : decode cX3_init 166 = .ok (.sipush 200, 3) := by decide +kernel
theorem dX3_init_169 : decode cX3_init 169 = .ok (.if_icmp .ge 16, 3) := by decide +kernel
theorem dX3_init_172 : decode cX3_init 172 = .ok (.aload_n 0, 1) := by decide +kernel
theorem dX3_init_173 : decode cX3_init 173 = .ok (.getfield 54, 3) := by decide +kernel
theorem dX3_init_176 : decode cX3_init 176 = .ok (.iload_n 1, 1) := by decide +kernel
theorem dX3_init_177 : decode cX3_init 177 = .ok (.iconst (-1), 1) := by decide +kernel
theorem dX3_init_178 : decode cX3_init 178 = .ok (.iastore, 1) := by decide +kernel
theorem dX3_init_179 : decode cX3_init 179 = .ok (.iinc 1 1, 3) := by decide +kernel
theorem dX3_init_182 : decode cX3_init 182 = .ok (.goto (-17), 3) := by decide +kernel
theorem dX3_init_185 : decode cX3_init 185 = .ok (.return_, 1) := by decide +kernel
theorem dX3_fails_0 : decode cX3_fails 0 = .ok (.aload_n 0, 1) := by decide +kernel
theorem dX3_fails_1 : decode cX3_fails 1 = .ok (.iload_n 1, 1) := by decide +kernel
theorem dX3_fails_2 : decode cX3_fails 2 = .ok (.ifCond .ne 7, 3) := by decide +kernel
theorem dX3_fails_5 : decode cX3_fails 5 = .ok (.iconst 1, 1) := by decide +kernel
theorem dX3_fails_6 : decode cX3_fails 6 = .ok (.goto 12, 3) := by decide +kernel
theorem dX3_fails_9 : decode cX3_fails 9 = .ok (.iload_n 2, 1) := by decide +kernel
theorem dX3_fails_10 : decode cX3_fails 10 = .ok (.ifCond .ne 7, 3) := by decide +kernel
theorem dX3_fails_13 : decode cX3_fails 13 = .ok (.iconst 2, 1) := by decide +kernel
theorem dX3_fails_14 : decode cX3_fails 14 = .ok (.goto 4, 3) := by decide +kernel
theorem dX3_fails_17 : decode cX3_fails 17 = .ok (.iconst 0, 1) := by decide +kernel
theorem dX3_fails_18 : decode cX3_fails 18 = .ok (.putfield 1, 3) := by decide +kernel
theorem dX3_fails_21 : decode cX3_fails 21 = .ok (.aload_n 0, 1) := by decide +kernel
theorem dX3_fails_22 : decode cX3_fails 22 = .ok (.getfield 1, 3) := by decide +kernel
theorem dX3_fails_25 : decode cX3_fails 25 = .ok (.ifCond .eq 7, 3) := by decide +kernel
theorem dX3_fails_28 : decode cX3_fails 28 = .ok (.iconst 1, 1) := by decide +kernel
theorem dX3_fails_29 : decode cX3_fails 29 = .ok (.goto 4, 3) := by decide +kernel
theorem dX3_fails_32 : decode cX3_fails 32 = .ok (.iconst 0, 1) := by decide +kernel
theorem dX3_fails_33 : decode cX3_fails 33 = .ok (.ireturn, 1) := by decide +kernel
theorem dX3_isTransaction_0 : decode cX3_isTransaction 0 = .ok (.iload_n 1, 1) := by decide +kernel
theorem dX3_isTransaction_1 : decode cX3_isTransaction 1 = .ok (.ifCond .lt 15, 3) := by decide +kernel
theorem dX3_isTransaction_4 : decode cX3_isTransaction 4 = .ok (.iload_n 1, 1) := by decide +kernel
theorem dX3_isTransaction_5 : decode cX3_isTransaction 5 = .ok (.aload_n 0, 1) := by decide +kernel
theorem dX3_isTransaction_6 : decode cX3_isTransaction 6 = .ok (.getfield 72, 3) := by decide +kernel
theorem dX3_isTransaction_9 : decode cX3_isTransaction 9 = .ok (.if_icmp .ge 7, 3) := by decide +kernel
theorem dX3_isTransaction_12 : decode cX3_isTransaction 12 = .ok (.iconst 1, 1) := by decide +kernel
theorem dX3_isTransaction_13 : decode cX3_isTransaction 13 = .ok (.goto 4, 3) := by decide +kernel
theorem dX3_isTransaction_16 : decode cX3_isTransaction 16 = .ok (.iconst 0, 1) := by decide +kernel
theorem dX3_isTransaction_17 : decode cX3_isTransaction 17 = .ok (.ireturn, 1) := by decide +kernel
theorem dX3_isTriple_0 : decode cX3_isTriple 0 = .ok (.iload_n 0, 1) := by decide +kernel
theorem dX3_isTriple_1 : decode cX3_isTriple 1 = .ok (.ifCond .lt 14, 3) := by decide +kernel
theorem dX3_isTriple_4 : decode cX3_isTriple 4 = .ok (.iload_n 0, 1) := by decide +kernel
theorem dX3_isTriple_5 : decode cX3_isTriple 5 = .ok (.sipush 200, 3) := by decide +kernel
theorem dX3_isTriple_8 : decode cX3_isTriple 8 = .ok (.if_icmp .ge 7, 3) := by decide +kernel
theorem dX3_isTriple_11 : decode cX3_isTriple 11 = .ok (.iconst 1, 1) := by decide +kernel
theorem dX3_isTriple_12 : decode cX3_isTriple 12 = .ok (.goto 4, 3) := by decide +kernel
theorem dX3_isTriple_15 : decode cX3_isTriple 15 = .ok (.iconst 0, 1) := by decide +kernel
theorem dX3_isTriple_16 : decode cX3_isTriple 16 = .ok (.ireturn, 1) := by decide +kernel
theorem dX3_isLive_0 : decode cX3_isLive 0 = .ok (.aload_n 0, 1) := by decide +kernel
theorem dX3_isLive_1 : decode cX3_isLive 1 = .ok (.getfield 33, 3) := by decide +kernel
theorem dX3_isLive_4 : decode cX3_isLive 4 = .ok (.iload_n 1, 1) := by decide +kernel
theorem dX3_isLive_5 : decode cX3_isLive 5 = .ok (.iaload, 1) := by decide +kernel
theorem dX3_isLive_6 : decode cX3_isLive 6 = .ok (.iconst 3, 1) := by decide +kernel
theorem dX3_isLive_7 : decode cX3_isLive 7 = .ok (.if_icmp .ge 7, 3) := by decide +kernel
theorem dX3_isLive_10 : decode cX3_isLive 10 = .ok (.iconst 1, 1) := by decide +kernel
theorem dX3_isLive_11 : decode cX3_isLive 11 = .ok (.goto 4, 3) := by decide +kernel
theorem dX3_isLive_14 : decode cX3_isLive 14 = .ok (.iconst 0, 1) := by decide +kernel
theorem dX3_isLive_15 : decode cX3_isLive 15 = .ok (.ireturn, 1) := by decide +kernel
set_option maxRecDepth 20000 in
theorem ggX3_isTellable_X3_leastKept : GoodIn wsX3_isTellable wsX3_leastKept := goodIn_r _ [6, 1, 7, 8, 9, 10, 11, 12, 5, 13, 14, 15, 16, 17, 18, 19, 20, 21, 22, 23, 24, 25, 26, 27, 28, 29, 30, 31, 32, 33, 34, 35, 36, 37, 38, 39, 40, 41] (by decide +kernel) (by decide +kernel)
set_option maxRecDepth 20000 in
theorem gX3_isTellable_X3_leastKept : GoodIn wsX3_isTellable (wsV RX3 75 RX3 yX3_leastKept wsX3_leastKept) := goodIn_app (goodIn_of _ (by decide +kernel)) ggX3_isTellable_X3_leastKept
theorem dX3_isTellable_0 : decode cX3_isTellable 0 = .ok (.iload_n 1, 1) := by decide +kernel
theorem dX3_isTellable_1 : decode cX3_isTellable 1 = .ok (.aload_n 0, 1) := by decide +kernel
theorem dX3_isTellable_2 : decode cX3_isTellable 2 = .ok (.invokevirtual 75, 3) := by decide +kernel
theorem dX3_isTellable_5 : decode cX3_isTellable 5 = .ok (.if_icmp .lt 15, 3) := by decide +kernel
theorem dX3_isTellable_8 : decode cX3_isTellable 8 = .ok (.iload_n 1, 1) := by decide +kernel
theorem dX3_isTellable_9 : decode cX3_isTellable 9 = .ok (.aload_n 0, 1) := by decide +kernel
theorem dX3_isTellable_10 : decode cX3_isTellable 10 = .ok (.getfield 79, 3) := by decide +kernel
theorem dX3_isTellable_13 : decode cX3_isTellable 13 = .ok (.if_icmp .gt 7, 3) := by decide +kernel
theorem dX3_isTellable_16 : decode cX3_isTellable 16 = .ok (.iconst 1, 1) := by decide +kernel
theorem dX3_isTellable_17 : decode cX3_isTellable 17 = .ok (.goto 4, 3) := by decide +kernel
theorem dX3_isTellable_20 : decode cX3_isTellable 20 = .ok (.iconst 0, 1) := by decide +kernel
theorem dX3_isTellable_21 : decode cX3_isTellable 21 = .ok (.ireturn, 1) := by decide +kernel
theorem dX3_rowOf_0 : decode cX3_rowOf 0 = .ok (.iconst (-1), 1) := by decide +kernel
theorem dX3_rowOf_1 : decode cX3_rowOf 1 = .ok (.istore_n 3, 1) := by decide +kernel
theorem dX3_rowOf_2 : decode cX3_rowOf 2 = .ok (.iconst 0, 1) := by decide +kernel
theorem dX3_rowOf_3 : decode cX3_rowOf 3 = .ok (.istore 4, 2) := by decide +kernel
theorem dX3_rowOf_5 : decode cX3_rowOf 5 = .ok (.iload 4, 2) := by decide +kernel
theorem dX3_rowOf_7 : decode cX3_rowOf 7 = .ok (.aload_n 0, 1) := by decide +kernel
theorem dX3_rowOf_8 : decode cX3_rowOf 8 = .ok (.getfield 82, 3) := by decide +kernel
theorem dX3_rowOf_11 : decode cX3_rowOf 11 = .ok (.if_icmp .ge 54, 3) := by decide +kernel
theorem dX3_rowOf_14 : decode cX3_rowOf 14 = .ok (.aload_n 0, 1) := by decide +kernel
theorem dX3_rowOf_15 : decode cX3_rowOf 15 = .ok (.getfield 13, 3) := by decide +kernel
theorem dX3_rowOf_18 : decode cX3_rowOf 18 = .ok (.iload 4, 2) := by decide +kernel
theorem dX3_rowOf_20 : decode cX3_rowOf 20 = .ok (.iaload, 1) := by decide +kernel
theorem dX3_rowOf_21 : decode cX3_rowOf 21 = .ok (.iload_n 1, 1) := by decide +kernel
theorem dX3_rowOf_22 : decode cX3_rowOf 22 = .ok (.if_icmp .ne 37, 3) := by decide +kernel
theorem dX3_rowOf_25 : decode cX3_rowOf 25 = .ok (.aload_n 0, 1) := by decide +kernel
theorem dX3_rowOf_26 : decode cX3_rowOf 26 = .ok (.getfield 17, 3) := by decide +kernel
theorem dX3_rowOf_29 : decode cX3_rowOf 29 = .ok (.iload 4, 2) := by decide +kernel
theorem dX3_rowOf_31 : decode cX3_rowOf 31 = .ok (.iaload, 1) := by decide +kernel
theorem dX3_rowOf_32 : decode cX3_rowOf 32 = .ok (.iload_n 2, 1) := by decide +kernel
theorem dX3_rowOf_33 : decode cX3_rowOf 33 = .ok (.if_icmp .gt 26, 3) := by decide +kernel
theorem dX3_rowOf_36 : decode cX3_rowOf 36 = .ok (.iload_n 3, 1) := by decide +kernel
theorem dX3_rowOf_37 : decode cX3_rowOf 37 = .ok (.ifCond .lt 19, 3) := by decide +kernel
theorem dX3_rowOf_40 : decode cX3_rowOf 40 = .ok (.aload_n 0, 1) := by decide +kernel
theorem dX3_rowOf_41 : decode cX3_rowOf 41 = .ok (.getfield 17, 3) := by decide +kernel
theorem dX3_rowOf_44 : decode cX3_rowOf 44 = .ok (.iload 4, 2) := by decide +kernel
theorem dX3_rowOf_46 : decode cX3_rowOf 46 = .ok (.iaload, 1) := by decide +kernel
theorem dX3_rowOf_47 : decode cX3_rowOf 47 = .ok (.aload_n 0, 1) := by decide +kernel
theorem dX3_rowOf_48 : decode cX3_rowOf 48 = .ok (.getfield 17, 3) := by decide +kernel
theorem dX3_rowOf_51 : decode cX3_rowOf 51 = .ok (.iload_n 3, 1) := by decide +kernel
theorem dX3_rowOf_52 : decode cX3_rowOf 52 = .ok (.iaload, 1) := by decide +kernel
theorem dX3_rowOf_53 : decode cX3_rowOf 53 = .ok (.if_icmp .le 6, 3) := by decide +kernel
theorem dX3_rowOf_56 : decode cX3_rowOf 56 = .ok (.iload 4, 2) := by decide +kernel
theorem dX3_rowOf_58 : decode cX3_rowOf 58 = .ok (.istore_n 3, 1) := by decide +kernel
theorem dX3_rowOf_59 : decode cX3_rowOf 59 = .ok (.iinc 4 1, 3) := by decide +kernel
theorem dX3_rowOf_62 : decode cX3_rowOf 62 = .ok (.goto (-57), 3) := by decide +kernel
theorem dX3_rowOf_65 : decode cX3_rowOf 65 = .ok (.iload_n 3, 1) := by decide +kernel
theorem dX3_rowOf_66 : decode cX3_rowOf 66 = .ok (.ireturn, 1) := by decide +kernel
set_option maxRecDepth 20000 in
theorem ggX3_isThere_X3_rowOf : GoodIn wsX3_isThere wsX3_rowOf := goodIn_r _ [6, 7, 8, 9, 10, 11, 12, 13, 14, 15, 16, 17, 18, 19, 20, 21, 22, 23, 24, 25, 26, 27, 28, 29, 30, 31, 32, 33, 34, 35, 36] (by decide +kernel) (by decide +kernel)
set_option maxRecDepth 20000 in
theorem gX3_isThere_X3_rowOf : GoodIn wsX3_isThere (wsV RX3 85 RX3 yX3_rowOf wsX3_rowOf) := goodIn_app (goodIn_of _ (by decide +kernel)) ggX3_isThere_X3_rowOf
theorem dX3_isThere_0 : decode cX3_isThere 0 = .ok (.aload_n 0, 1) := by decide +kernel
theorem dX3_isThere_1 : decode cX3_isThere 1 = .ok (.iload_n 1, 1) := by decide +kernel
theorem dX3_isThere_2 : decode cX3_isThere 2 = .ok (.iload_n 2, 1) := by decide +kernel
theorem dX3_isThere_3 : decode cX3_isThere 3 = .ok (.invokevirtual 85, 3) := by decide +kernel
theorem dX3_isThere_6 : decode cX3_isThere 6 = .ok (.istore_n 3, 1) := by decide +kernel
theorem dX3_isThere_7 : decode cX3_isThere 7 = .ok (.iload_n 3, 1) := by decide +kernel
theorem dX3_isThere_8 : decode cX3_isThere 8 = .ok (.ifCond .lt 16, 3) := by decide +kernel
theorem dX3_isThere_11 : decode cX3_isThere 11 = .ok (.aload_n 0, 1) := by decide +kernel
theorem dX3_isThere_12 : decode cX3_isThere 12 = .ok (.getfield 20, 3) := by decide +kernel
theorem dX3_isThere_15 : decode cX3_isThere 15 = .ok (.iload_n 3, 1) := by decide +kernel
theorem dX3_isThere_16 : decode cX3_isThere 16 = .ok (.baload, 1) := by decide +kernel
theorem dX3_isThere_17 : decode cX3_isThere 17 = .ok (.ifCond .eq 7, 3) := by decide +kernel
theorem dX3_isThere_20 : decode cX3_isThere 20 = .ok (.iconst 1, 1) := by decide +kernel
theorem dX3_isThere_21 : decode cX3_isThere 21 = .ok (.goto 4, 3) := by decide +kernel
theorem dX3_isThere_24 : decode cX3_isThere 24 = .ok (.iconst 0, 1) := by decide +kernel
theorem dX3_isThere_25 : decode cX3_isThere 25 = .ok (.ireturn, 1) := by decide +kernel
theorem dX3_hasAbove_0 : decode cX3_hasAbove 0 = .ok (.iconst 0, 1) := by decide +kernel
theorem dX3_hasAbove_1 : decode cX3_hasAbove 1 = .ok (.istore_n 3, 1) := by decide +kernel
theorem dX3_hasAbove_2 : decode cX3_hasAbove 2 = .ok (.iload_n 3, 1) := by decide +kernel
theorem dX3_hasAbove_3 : decode cX3_hasAbove 3 = .ok (.aload_n 0, 1) := by decide +kernel
theorem dX3_hasAbove_4 : decode cX3_hasAbove 4 = .ok (.getfield 82, 3) := by decide +kernel
theorem dX3_hasAbove_7 : decode cX3_hasAbove 7 = .ok (.if_icmp .ge 31, 3) := by decide +kernel
theorem dX3_hasAbove_10 : decode cX3_hasAbove 10 = .ok (.aload_n 0, 1) := by decide +kernel
theorem dX3_hasAbove_11 : decode cX3_hasAbove 11 = .ok (.getfield 13, 3) := by decide +kernel
theorem dX3_hasAbove_14 : decode cX3_hasAbove 14 = .ok (.iload_n 3, 1) := by decide +kernel
theorem dX3_hasAbove_15 : decode cX3_hasAbove 15 = .ok (.iaload, 1) := by decide +kernel
theorem dX3_hasAbove_16 : decode cX3_hasAbove 16 = .ok (.iload_n 1, 1) := by decide +kernel
theorem dX3_hasAbove_17 : decode cX3_hasAbove 17 = .ok (.if_icmp .ne 15, 3) := by decide +kernel
theorem dX3_hasAbove_20 : decode cX3_hasAbove 20 = .ok (.aload_n 0, 1) := by decide +kernel
theorem dX3_hasAbove_21 : decode cX3_hasAbove 21 = .ok (.getfield 17, 3) := by decide +kernel
theorem dX3_hasAbove_24 : decode cX3_hasAbove 24 = .ok (.iload_n 3, 1) := by decide +kernel
theorem dX3_hasAbove_25 : decode cX3_hasAbove 25 = .ok (.iaload, 1) := by decide +kernel
theorem dX3_hasAbove_26 : decode cX3_hasAbove 26 = .ok (.iload_n 2, 1) := by decide +kernel
theorem dX3_hasAbove_27 : decode cX3_hasAbove 27 = .ok (.if_icmp .le 5, 3) := by decide +kernel
theorem dX3_hasAbove_30 : decode cX3_hasAbove 30 = .ok (.iconst 1, 1) := by decide +kernel
theorem dX3_hasAbove_31 : decode cX3_hasAbove 31 = .ok (.ireturn, 1) := by decide +kernel
theorem dX3_hasAbove_32 : decode cX3_hasAbove 32 = .ok (.iinc 3 1, 3) := by decide +kernel
theorem dX3_hasAbove_35 : decode cX3_hasAbove 35 = .ok (.goto (-33), 3) := by decide +kernel
theorem dX3_hasAbove_38 : decode cX3_hasAbove 38 = .ok (.iconst 0, 1) := by decide +kernel
theorem dX3_hasAbove_39 : decode cX3_hasAbove 39 = .ok (.ireturn, 1) := by decide +kernel
set_option maxRecDepth 20000 in
theorem ggX3_least_X3_leastKept : GoodIn wsX3_least wsX3_leastKept := goodIn_r _ [6, 7, 8, 9, 10, 11, 12, 13, 5, 14, 15, 16, 17, 18, 19, 20, 21, 22, 23, 24, 25, 26, 27, 28, 29, 30, 31, 32, 33, 34, 35, 36, 37, 38, 39, 40, 41, 42] (by decide +kernel) (by decide +kernel)
set_option maxRecDepth 20000 in
theorem gX3_least_X3_leastKept : GoodIn wsX3_least (wsV RX3 75 RX3 yX3_leastKept wsX3_leastKept) := goodIn_app (goodIn_of _ (by decide +kernel)) ggX3_least_X3_leastKept
theorem dX3_least_0 : decode cX3_least 0 = .ok (.aload_n 0, 1) := by decide +kernel
theorem dX3_least_1 : decode cX3_least 1 = .ok (.iconst 0, 1) := by decide +kernel
theorem dX3_least_2 : decode cX3_least 2 = .ok (.putfield 1, 3) := by decide +kernel
theorem dX3_least_5 : decode cX3_least 5 = .ok (.aload_n 0, 1) := by decide +kernel
theorem dX3_least_6 : decode cX3_least 6 = .ok (.invokevirtual 75, 3) := by decide +kernel
theorem dX3_least_9 : decode cX3_least 9 = .ok (.ireturn, 1) := by decide +kernel
set_option maxRecDepth 20000 in
theorem ggX3_leastKept_X3_isLive : GoodIn wsX3_leastKept wsX3_isLive := goodIn_r _ [9, 10, 11, 12, 13, 14, 15, 16, 17, 18, 19, 20, 21, 22, 23, 24, 25, 26, 27, 28, 29, 30, 31, 32, 33, 34, 35, 36, 37] (by decide +kernel) (by decide +kernel)
set_option maxRecDepth 20000 in
theorem gX3_leastKept_X3_isLive : GoodIn wsX3_leastKept (wsV RX3 89 RX3 yX3_isLive wsX3_isLive) := goodIn_app (goodIn_of _ (by decide +kernel)) ggX3_leastKept_X3_isLive
theorem dX3_leastKept_0 : decode cX3_leastKept 0 = .ok (.aload_n 0, 1) := by decide +kernel
theorem dX3_leastKept_1 : decode cX3_leastKept 1 = .ok (.getfield 79, 3) := by decide +kernel
theorem dX3_leastKept_4 : decode cX3_leastKept 4 = .ok (.istore_n 1, 1) := by decide +kernel
theorem dX3_leastKept_5 : decode cX3_leastKept 5 = .ok (.iconst 0, 1) := by decide +kernel
theorem dX3_leastKept_6 : decode cX3_leastKept 6 = .ok (.istore_n 2, 1) := by decide +kernel
theorem dX3_leastKept_7 : decode cX3_leastKept 7 = .ok (.iload_n 2, 1) := by decide +kernel
theorem dX3_leastKept_8 : decode cX3_leastKept 8 = .ok (.aload_n 0, 1) := by decide +kernel
theorem dX3_leastKept_9 : decode cX3_leastKept 9 = .ok (.getfield 72, 3) := by decide +kernel
theorem dX3_leastKept_12 : decode cX3_leastKept 12 = .ok (.if_icmp .ge 38, 3) := by decide +kernel
theorem dX3_leastKept_15 : decode cX3_leastKept 15 = .ok (.aload_n 0, 1) := by decide +kernel
theorem dX3_leastKept_16 : decode cX3_leastKept 16 = .ok (.iload_n 2, 1) := by decide +kernel
theorem dX3_leastKept_17 : decode cX3_leastKept 17 = .ok (.invokevirtual 89, 3) := by decide +kernel
theorem dX3_leastKept_20 : decode cX3_leastKept 20 = .ok (.ifCond .eq 22, 3) := by decide +kernel
theorem dX3_leastKept_23 : decode cX3_leastKept 23 = .ok (.aload_n 0, 1) := by decide +kernel
theorem dX3_leastKept_24 : decode cX3_leastKept 24 = .ok (.getfield 30, 3) := by decide +kernel
theorem dX3_leastKept_27 : decode cX3_leastKept 27 = .ok (.iload_n 2, 1) := by decide +kernel
theorem dX3_leastKept_28 : decode cX3_leastKept 28 = .ok (.iaload, 1) := by decide +kernel
theorem dX3_leastKept_29 : decode cX3_leastKept 29 = .ok (.iload_n 1, 1) := by decide +kernel
theorem dX3_leastKept_30 : decode cX3_leastKept 30 = .ok (.if_icmp .ge 12, 3) := by decide +kernel
theorem dX3_leastKept_33 : decode cX3_leastKept 33 = .ok (.aload_n 0, 1) := by decide +kernel
theorem dX3_leastKept_34 : decode cX3_leastKept 34 = .ok (.getfield 30, 3) := by decide +kernel
theorem dX3_leastKept_37 : decode cX3_leastKept 37 = .ok (.iload_n 2, 1) := by decide +kernel
theorem dX3_leastKept_38 : decode cX3_leastKept 38 = .ok (.iaload, 1) := by decide +kernel
theorem dX3_leastKept_39 : decode cX3_leastKept 39 = .ok (.goto 4, 3) := by decide +kernel
theorem dX3_leastKept_42 : decode cX3_leastKept 42 = .ok (.iload_n 1, 1) := by decide +kernel
theorem dX3_leastKept_43 : decode cX3_leastKept 43 = .ok (.istore_n 1, 1) := by decide +kernel
theorem dX3_leastKept_44 : decode cX3_leastKept 44 = .ok (.iinc 2 1, 3) := by decide +kernel
theorem dX3_leastKept_47 : decode cX3_leastKept 47 = .ok (.goto (-40), 3) := by decide +kernel
theorem dX3_leastKept_50 : decode cX3_leastKept 50 = .ok (.iconst 0, 1) := by decide +kernel
theorem dX3_leastKept_51 : decode cX3_leastKept 51 = .ok (.istore_n 2, 1) := by decide +kernel
theorem dX3_leastKept_52 : decode cX3_leastKept 52 = .ok (.iload_n 2, 1) := by decide +kernel
theorem dX3_leastKept_53 : decode cX3_leastKept 53 = .ok (.bipush 64, 2) := by decide +kernel
theorem dX3_leastKept_55 : decode cX3_leastKept 55 = .ok (.if_icmp .ge 29, 3) := by decide +kernel
theorem dX3_leastKept_58 : decode cX3_leastKept 58 = .ok (.aload_n 0, 1) := by decide +kernel
theorem dX3_leastKept_59 : decode cX3_leastKept 59 = .ok (.getfield 24, 3) := by decide +kernel
theorem dX3_leastKept_62 : decode cX3_leastKept 62 = .ok (.iload_n 2, 1) := by decide +kernel
theorem dX3_leastKept_63 : decode cX3_leastKept 63 = .ok (.iaload, 1) := by decide +kernel
theorem dX3_leastKept_64 : decode cX3_leastKept 64 = .ok (.ifCond .le 12, 3) := by decide +kernel
theorem dX3_leastKept_67 : decode cX3_leastKept 67 = .ok (.iload_n 2, 1) := by decide +kernel
theorem dX3_leastKept_68 : decode cX3_leastKept 68 = .ok (.iload_n 1, 1) := by decide +kernel
theorem dX3_leastKept_69 : decode cX3_leastKept 69 = .ok (.if_icmp .ge 7, 3) := by decide +kernel
theorem dX3_leastKept_72 : decode cX3_leastKept 72 = .ok (.iload_n 2, 1) := by decide +kernel
theorem dX3_leastKept_73 : decode cX3_leastKept 73 = .ok (.goto 4, 3) := by decide +kernel
theorem dX3_leastKept_76 : decode cX3_leastKept 76 = .ok (.iload_n 1, 1) := by decide +kernel
theorem dX3_leastKept_77 : decode cX3_leastKept 77 = .ok (.istore_n 1, 1) := by decide +kernel
theorem dX3_leastKept_78 : decode cX3_leastKept 78 = .ok (.iinc 2 1, 3) := by decide +kernel
theorem dX3_leastKept_81 : decode cX3_leastKept 81 = .ok (.goto (-29), 3) := by decide +kernel
theorem dX3_leastKept_84 : decode cX3_leastKept 84 = .ok (.iload_n 1, 1) := by decide +kernel
theorem dX3_leastKept_85 : decode cX3_leastKept 85 = .ok (.ireturn, 1) := by decide +kernel
theorem dX3_latest_0 : decode cX3_latest 0 = .ok (.aload_n 0, 1) := by decide +kernel
theorem dX3_latest_1 : decode cX3_latest 1 = .ok (.iconst 0, 1) := by decide +kernel
theorem dX3_latest_2 : decode cX3_latest 2 = .ok (.putfield 1, 3) := by decide +kernel
theorem dX3_latest_5 : decode cX3_latest 5 = .ok (.aload_n 0, 1) := by decide +kernel
theorem dX3_latest_6 : decode cX3_latest 6 = .ok (.getfield 79, 3) := by decide +kernel
theorem dX3_latest_9 : decode cX3_latest 9 = .ok (.ireturn, 1) := by decide +kernel
theorem dX3_rows_0 : decode cX3_rows 0 = .ok (.aload_n 0, 1) := by decide +kernel
theorem dX3_rows_1 : decode cX3_rows 1 = .ok (.iconst 0, 1) := by decide +kernel
theorem dX3_rows_2 : decode cX3_rows 2 = .ok (.putfield 1, 3) := by decide +kernel
theorem dX3_rows_5 : decode cX3_rows 5 = .ok (.aload_n 0, 1) := by decide +kernel
theorem dX3_rows_6 : decode cX3_rows 6 = .ok (.getfield 82, 3) := by decide +kernel
theorem dX3_rows_9 : decode cX3_rows 9 = .ok (.ireturn, 1) := by decide +kernel
set_option maxRecDepth 20000 in
theorem ggX3_told_X3_isTellable : GoodIn wsX3_told wsX3_isTellable := goodIn_r _ [5, 6, 7, 8, 9, 4, 10, 11, 12, 13, 14, 15, 16, 17, 18, 39, 40, 41, 42, 43, 44, 45, 46, 47, 48, 49, 50, 51, 52, 53, 54, 55, 56, 57, 58, 59, 60, 61, 62, 63, 64, 65] (by decide +kernel) (by decide +kernel)
set_option maxRecDepth 20000 in
theorem gX3_told_X3_isTellable : GoodIn wsX3_told (wsV RX3 93 RX3 yX3_isTellable wsX3_isTellable) := goodIn_app (goodIn_of _ (by decide +kernel)) ggX3_told_X3_isTellable
set_option maxRecDepth 20000 in
theorem ggX3_told_X3_isTriple : GoodIn wsX3_told wsX3_isTriple := goodIn_r _ [21] (by decide +kernel) (by decide +kernel)
set_option maxRecDepth 20000 in
theorem gX3_told_X3_isTriple : GoodIn wsX3_told (va_wsS RX3 96 yX3_isTriple wsX3_isTriple) := goodIn_app (goodIn_of _ (by decide +kernel)) ggX3_told_X3_isTriple
set_option maxRecDepth 20000 in
theorem ggX3_told_X3_fails : GoodIn wsX3_told wsX3_fails := goodIn_r _ [25, 26, 39, 40, 41, 42, 43, 44, 45, 46, 47, 48, 49, 50, 51, 52, 53, 54, 55, 56, 57, 58, 59, 60, 61, 62, 63, 64, 65] (by decide +kernel) (by decide +kernel)
set_option maxRecDepth 20000 in
theorem gX3_told_X3_fails : GoodIn wsX3_told (wsV RX3 99 RX3 yX3_fails wsX3_fails) := goodIn_app (goodIn_of _ (by decide +kernel)) ggX3_told_X3_fails
set_option maxRecDepth 20000 in
theorem ggX3_told_X3_isThere : GoodIn wsX3_told wsX3_isThere := goodIn_r _ [30, 31, 32, 33, 34, 4, 35, 36, 37, 38, 39, 40, 41, 42, 43, 44, 45, 46, 47, 48, 49, 50, 51, 52, 53, 54, 55, 56, 57, 58, 59, 60, 61, 62, 63, 64, 65] (by decide +kernel) (by decide +kernel)
set_option maxRecDepth 20000 in
theorem gX3_told_X3_isThere : GoodIn wsX3_told (wsV RX3 103 RX3 yX3_isThere wsX3_isThere) := goodIn_app (goodIn_of _ (by decide +kernel)) ggX3_told_X3_isThere
theorem dX3_told_0 : decode cX3_told 0 = .ok (.aload_n 0, 1) := by decide +kernel
theorem dX3_told_1 : decode cX3_told 1 = .ok (.aload_n 0, 1) := by decide +kernel
theorem dX3_told_2 : decode cX3_told 2 = .ok (.iload_n 1, 1) := by decide +kernel
theorem dX3_told_3 : decode cX3_told 3 = .ok (.invokevirtual 93, 3) := by decide +kernel
theorem dX3_told_6 : decode cX3_told 6 = .ok (.ifCond .eq 14, 3) := by decide +kernel
theorem dX3_told_9 : decode cX3_told 9 = .ok (.iload_n 2, 1) := by decide +kernel
theorem dX3_told_10 : decode cX3_told 10 = .ok (.invokestatic 96, 3) := by decide +kernel
theorem dX3_told_13 : decode cX3_told 13 = .ok (.ifCond .eq 7, 3) := by decide +kernel
theorem dX3_told_16 : decode cX3_told 16 = .ok (.iconst 1, 1) := by decide +kernel
theorem dX3_told_17 : decode cX3_told 17 = .ok (.goto 4, 3) := by decide +kernel
theorem dX3_told_20 : decode cX3_told 20 = .ok (.iconst 0, 1) := by decide +kernel
theorem dX3_told_21 : decode cX3_told 21 = .ok (.iconst 1, 1) := by decide +kernel
theorem dX3_told_22 : decode cX3_told 22 = .ok (.invokevirtual 99, 3) := by decide +kernel
theorem dX3_told_25 : decode cX3_told 25 = .ok (.ifCond .ne 16, 3) := by decide +kernel
theorem dX3_told_28 : decode cX3_told 28 = .ok (.aload_n 0, 1) := by decide +kernel
theorem dX3_told_29 : decode cX3_told 29 = .ok (.iload_n 2, 1) := by decide +kernel
theorem dX3_told_30 : decode cX3_told 30 = .ok (.iload_n 1, 1) := by decide +kernel
theorem dX3_told_31 : decode cX3_told 31 = .ok (.invokevirtual 103, 3) := by decide +kernel
theorem dX3_told_34 : decode cX3_told 34 = .ok (.ifCond .eq 7, 3) := by decide +kernel
theorem dX3_told_37 : decode cX3_told 37 = .ok (.iconst 1, 1) := by decide +kernel
theorem dX3_told_38 : decode cX3_told 38 = .ok (.goto 4, 3) := by decide +kernel
theorem dX3_told_41 : decode cX3_told 41 = .ok (.iconst 0, 1) := by decide +kernel
theorem dX3_told_42 : decode cX3_told 42 = .ok (.ireturn, 1) := by decide +kernel
set_option maxRecDepth 20000 in
theorem ggX3_pin_X3_isTellable : GoodIn wsX3_pin wsX3_isTellable := goodIn_r _ [6, 7, 8, 9, 10, 5, 11, 12, 13, 1, 14, 15, 16, 17, 18, 24, 25, 26, 27, 28, 29, 30, 31, 32, 33, 34, 35, 36, 37, 38, 39, 40, 41, 42, 43, 44, 45, 46, 47, 48, 49, 50] (by decide +kernel) (by decide +kernel)
set_option maxRecDepth 20000 in
theorem gX3_pin_X3_isTellable : GoodIn wsX3_pin (wsV RX3 93 RX3 yX3_isTellable wsX3_isTellable) := goodIn_app (goodIn_of _ (by decide +kernel)) ggX3_pin_X3_isTellable
set_option maxRecDepth 20000 in
theorem ggX3_pin_X3_fails : GoodIn wsX3_pin wsX3_fails := goodIn_r _ [22, 23, 24, 25, 26, 27, 28, 29, 30, 31, 32, 33, 34, 35, 36, 37, 38, 39, 40, 41, 42, 43, 44, 45, 46, 47, 48, 49, 50] (by decide +kernel) (by decide +kernel)
set_option maxRecDepth 20000 in
theorem gX3_pin_X3_fails : GoodIn wsX3_pin (wsV RX3 99 RX3 yX3_fails wsX3_fails) := goodIn_app (goodIn_of _ (by decide +kernel)) ggX3_pin_X3_fails
theorem dX3_pin_0 : decode cX3_pin 0 = .ok (.aload_n 0, 1) := by decide +kernel
theorem dX3_pin_1 : decode cX3_pin 1 = .ok (.aload_n 0, 1) := by decide +kernel
theorem dX3_pin_2 : decode cX3_pin 2 = .ok (.iload_n 1, 1) := by decide +kernel
theorem dX3_pin_3 : decode cX3_pin 3 = .ok (.invokevirtual 93, 3) := by decide +kernel
theorem dX3_pin_6 : decode cX3_pin 6 = .ok (.iconst 1, 1) := by decide +kernel
theorem dX3_pin_7 : decode cX3_pin 7 = .ok (.invokevirtual 99, 3) := by decide +kernel
theorem dX3_pin_10 : decode cX3_pin 10 = .ok (.ifCond .eq 5, 3) := by decide +kernel
theorem dX3_pin_13 : decode cX3_pin 13 = .ok (.iconst 0, 1) := by decide +kernel
theorem dX3_pin_14 : decode cX3_pin 14 = .ok (.ireturn, 1) := by decide +kernel
theorem dX3_pin_15 : decode cX3_pin 15 = .ok (.aload_n 0, 1) := by decide +kernel
theorem dX3_pin_16 : decode cX3_pin 16 = .ok (.getfield 24, 3) := by decide +kernel
theorem dX3_pin_19 : decode cX3_pin 19 = .ok (.iload_n 1, 1) := by decide +kernel
theorem dX3_pin_20 : decode cX3_pin 20 = .ok (.dup2, 1) := by decide +kernel
theorem dX3_pin_21 : decode cX3_pin 21 = .ok (.iaload, 1) := by decide +kernel
theorem dX3_pin_22 : decode cX3_pin 22 = .ok (.iconst 1, 1) := by decide +kernel
theorem dX3_pin_23 : decode cX3_pin 23 = .ok (.iadd, 1) := by decide +kernel
theorem dX3_pin_24 : decode cX3_pin 24 = .ok (.iastore, 1) := by decide +kernel
theorem dX3_pin_25 : decode cX3_pin 25 = .ok (.aload_n 0, 1) := by decide +kernel
theorem dX3_pin_26 : decode cX3_pin 26 = .ok (.getfield 24, 3) := by decide +kernel
theorem dX3_pin_29 : decode cX3_pin 29 = .ok (.iload_n 1, 1) := by decide +kernel
theorem dX3_pin_30 : decode cX3_pin 30 = .ok (.iaload, 1) := by decide +kernel
theorem dX3_pin_31 : decode cX3_pin 31 = .ok (.ireturn, 1) := by decide +kernel
set_option maxRecDepth 20000 in
theorem ggX3_unpin_X3_fails : GoodIn wsX3_unpin wsX3_fails := goodIn_r _ [6, 7, 8, 9, 10, 11, 12, 13, 14, 15, 16, 17, 18, 19, 20, 21, 22, 23, 24, 25, 26, 27, 28, 29, 30, 31, 32, 33, 34] (by decide +kernel) (by decide +kernel)
set_option maxRecDepth 20000 in
theorem gX3_unpin_X3_fails : GoodIn wsX3_unpin (wsV RX3 99 RX3 yX3_fails wsX3_fails) := goodIn_app (goodIn_of _ (by decide +kernel)) ggX3_unpin_X3_fails
theorem dX3_unpin_0 : decode cX3_unpin 0 = .ok (.aload_n 0, 1) := by decide +kernel
theorem dX3_unpin_1 : decode cX3_unpin 1 = .ok (.iload_n 1, 1) := by decide +kernel
theorem dX3_unpin_2 : decode cX3_unpin 2 = .ok (.ifCond .lt 22, 3) := by decide +kernel
theorem dX3_unpin_5 : decode cX3_unpin 5 = .ok (.iload_n 1, 1) := by decide +kernel
theorem dX3_unpin_6 : decode cX3_unpin 6 = .ok (.bipush 64, 2) := by decide +kernel
theorem dX3_unpin_8 : decode cX3_unpin 8 = .ok (.if_icmp .ge 16, 3) := by decide +kernel
theorem dX3_unpin_11 : decode cX3_unpin 11 = .ok (.aload_n 0, 1) := by decide +kernel
theorem dX3_unpin_12 : decode cX3_unpin 12 = .ok (.getfield 24, 3) := by decide +kernel
theorem dX3_unpin_15 : decode cX3_unpin 15 = .ok (.iload_n 1, 1) := by decide +kernel
theorem dX3_unpin_16 : decode cX3_unpin 16 = .ok (.iaload, 1) := by decide +kernel
theorem dX3_unpin_17 : decode cX3_unpin 17 = .ok (.ifCond .le 7, 3) := by decide +kernel
theorem dX3_unpin_20 : decode cX3_unpin 20 = .ok (.iconst 1, 1) := by decide +kernel
theorem dX3_unpin_21 : decode cX3_unpin 21 = .ok (.goto 4, 3) := by decide +kernel
theorem dX3_unpin_24 : decode cX3_unpin 24 = .ok (.iconst 0, 1) := by decide +kernel
theorem dX3_unpin_25 : decode cX3_unpin 25 = .ok (.iconst 1, 1) := by decide +kernel
theorem dX3_unpin_26 : decode cX3_unpin 26 = .ok (.invokevirtual 99, 3) := by decide +kernel
theorem dX3_unpin_29 : decode cX3_unpin 29 = .ok (.ifCond .eq 5, 3) := by decide +kernel
theorem dX3_unpin_32 : decode cX3_unpin 32 = .ok (.iconst 0, 1) := by decide +kernel
theorem dX3_unpin_33 : decode cX3_unpin 33 = .ok (.ireturn, 1) := by decide +kernel
theorem dX3_unpin_34 : decode cX3_unpin 34 = .ok (.aload_n 0, 1) := by decide +kernel
theorem dX3_unpin_35 : decode cX3_unpin 35 = .ok (.getfield 24, 3) := by decide +kernel
theorem dX3_unpin_38 : decode cX3_unpin 38 = .ok (.iload_n 1, 1) := by decide +kernel
theorem dX3_unpin_39 : decode cX3_unpin 39 = .ok (.dup2, 1) := by decide +kernel
theorem dX3_unpin_40 : decode cX3_unpin 40 = .ok (.iaload, 1) := by decide +kernel
theorem dX3_unpin_41 : decode cX3_unpin 41 = .ok (.iconst 1, 1) := by decide +kernel
theorem dX3_unpin_42 : decode cX3_unpin 42 = .ok (.isub, 1) := by decide +kernel
theorem dX3_unpin_43 : decode cX3_unpin 43 = .ok (.iastore, 1) := by decide +kernel
theorem dX3_unpin_44 : decode cX3_unpin 44 = .ok (.aload_n 0, 1) := by decide +kernel
theorem dX3_unpin_45 : decode cX3_unpin 45 = .ok (.getfield 24, 3) := by decide +kernel
theorem dX3_unpin_48 : decode cX3_unpin 48 = .ok (.iload_n 1, 1) := by decide +kernel
theorem dX3_unpin_49 : decode cX3_unpin 49 = .ok (.iaload, 1) := by decide +kernel
theorem dX3_unpin_50 : decode cX3_unpin 50 = .ok (.ireturn, 1) := by decide +kernel
set_option maxRecDepth 20000 in
theorem ggX3_free_X3_leastKept : GoodIn wsX3_free wsX3_leastKept := goodIn_r _ [11, 12, 13, 14, 15, 16, 17, 18, 10, 19, 20, 25, 26, 27, 28, 29, 30, 31, 32, 33, 34, 35, 36, 37, 38, 39, 40, 41, 42, 43, 44, 45, 46, 47, 48, 49, 50, 51] (by decide +kernel) (by decide +kernel)
set_option maxRecDepth 20000 in
theorem gX3_free_X3_leastKept : GoodIn wsX3_free (wsV RX3 75 RX3 yX3_leastKept wsX3_leastKept) := goodIn_app (goodIn_of _ (by decide +kernel)) ggX3_free_X3_leastKept
set_option maxRecDepth 20000 in
theorem ggX3_free_X3_rowOf : GoodIn wsX3_free wsX3_rowOf := goodIn_r _ [24, 4, 5, 3, 25, 26, 27, 28, 29, 30, 31, 32, 33, 34, 35, 36, 37, 38, 39, 40, 41, 42, 43, 44, 45, 46, 47, 48, 49, 50, 51] (by decide +kernel) (by decide +kernel)
set_option maxRecDepth 20000 in
theorem gX3_free_X3_rowOf : GoodIn wsX3_free (wsV RX3 85 RX3 yX3_rowOf wsX3_rowOf) := goodIn_app (goodIn_of _ (by decide +kernel)) ggX3_free_X3_rowOf
theorem dX3_free_0 : decode cX3_free 0 = .ok (.aload_n 0, 1) := by decide +kernel
theorem dX3_free_1 : decode cX3_free 1 = .ok (.iconst 0, 1) := by decide +kernel
theorem dX3_free_2 : decode cX3_free 2 = .ok (.putfield 1, 3) := by decide +kernel
theorem dX3_free_5 : decode cX3_free 5 = .ok (.aload_n 0, 1) := by decide +kernel
theorem dX3_free_6 : decode cX3_free 6 = .ok (.invokevirtual 75, 3) := by decide +kernel
theorem dX3_free_9 : decode cX3_free 9 = .ok (.istore_n 1, 1) := by decide +kernel
theorem dX3_free_10 : decode cX3_free 10 = .ok (.iconst 0, 1) := by decide +kernel
theorem dX3_free_11 : decode cX3_free 11 = .ok (.istore_n 2, 1) := by decide +kernel
theorem dX3_free_12 : decode cX3_free 12 = .ok (.iconst 0, 1) := by decide +kernel
theorem dX3_free_13 : decode cX3_free 13 = .ok (.istore_n 3, 1) := by decide +kernel
theorem dX3_free_14 : decode cX3_free 14 = .ok (.iload_n 3, 1) := by decide +kernel
theorem dX3_free_15 : decode cX3_free 15 = .ok (.sipush 200, 3) := by decide +kernel
theorem dX3_free_18 : decode cX3_free 18 = .ok (.if_icmp .ge 39, 3) := by decide +kernel
theorem dX3_free_21 : decode cX3_free 21 = .ok (.aload_n 0, 1) := by decide +kernel
theorem dX3_free_22 : decode cX3_free 22 = .ok (.iload_n 3, 1) := by decide +kernel
theorem dX3_free_23 : decode cX3_free 23 = .ok (.iload_n 1, 1) := by decide +kernel
theorem dX3_free_24 : decode cX3_free 24 = .ok (.invokevirtual 85, 3) := by decide +kernel
theorem dX3_free_27 : decode cX3_free 27 = .ok (.istore 4, 2) := by decide +kernel
theorem dX3_free_29 : decode cX3_free 29 = .ok (.aload_n 0, 1) := by decide +kernel
theorem dX3_free_30 : decode cX3_free 30 = .ok (.getfield 69, 3) := by decide +kernel
theorem dX3_free_33 : decode cX3_free 33 = .ok (.iload_n 3, 1) := by decide +kernel
theorem dX3_free_34 : decode cX3_free 34 = .ok (.iload 4, 2) := by decide +kernel
theorem dX3_free_36 : decode cX3_free 36 = .ok (.ifCond .ge 7, 3) := by decide +kernel
theorem dX3_free_39 : decode cX3_free 39 = .ok (.iconst (-1), 1) := by decide +kernel
theorem dX3_free_40 : decode cX3_free 40 = .ok (.goto 10, 3) := by decide +kernel
theorem dX3_free_43 : decode cX3_free 43 = .ok (.aload_n 0, 1) := by decide +kernel
theorem dX3_free_44 : decode cX3_free 44 = .ok (.getfield 17, 3) := by decide +kernel
theorem dX3_free_47 : decode cX3_free 47 = .ok (.iload 4, 2) := by decide +kernel
theorem dX3_free_49 : decode cX3_free 49 = .ok (.iaload, 1) := by decide +kernel
theorem dX3_free_50 : decode cX3_free 50 = .ok (.iastore, 1) := by decide +kernel
theorem dX3_free_51 : decode cX3_free 51 = .ok (.iinc 3 1, 3) := by decide +kernel
theorem dX3_free_54 : decode cX3_free 54 = .ok (.goto (-40), 3) := by decide +kernel
theorem dX3_free_57 : decode cX3_free 57 = .ok (.aload_n 0, 1) := by decide +kernel
theorem dX3_free_58 : decode cX3_free 58 = .ok (.getfield 82, 3) := by decide +kernel
theorem dX3_free_61 : decode cX3_free 61 = .ok (.istore_n 3, 1) := by decide +kernel
theorem dX3_free_62 : decode cX3_free 62 = .ok (.iconst 0, 1) := by decide +kernel
theorem dX3_free_63 : decode cX3_free 63 = .ok (.istore 4, 2) := by decide +kernel
theorem dX3_free_65 : decode cX3_free 65 = .ok (.iload 4, 2) := by decide +kernel
theorem dX3_free_67 : decode cX3_free 67 = .ok (.iload_n 3, 1) := by decide +kernel
theorem dX3_free_68 : decode cX3_free 68 = .ok (.if_icmp .ge 114, 3) := by decide +kernel
theorem dX3_free_71 : decode cX3_free 71 = .ok (.aload_n 0, 1) := by decide +kernel
theorem dX3_free_72 : decode cX3_free 72 = .ok (.getfield 13, 3) := by decide +kernel
theorem dX3_free_75 : decode cX3_free 75 = .ok (.iload 4, 2) := by decide +kernel
theorem dX3_free_77 : decode cX3_free 77 = .ok (.iaload, 1) := by decide +kernel
theorem dX3_free_78 : decode cX3_free 78 = .ok (.istore 5, 2) := by decide +kernel
theorem dX3_free_80 : decode cX3_free 80 = .ok (.aload_n 0, 1) := by decide +kernel
theorem dX3_free_81 : decode cX3_free 81 = .ok (.getfield 17, 3) := by decide +kernel
theorem dX3_free_84 : decode cX3_free 84 = .ok (.iload 4, 2) := by decide +kernel
theorem dX3_free_86 : decode cX3_free 86 = .ok (.iaload, 1) := by decide +kernel
theorem dX3_free_87 : decode cX3_free 87 = .ok (.aload_n 0, 1) := by decide +kernel
theorem dX3_free_88 : decode cX3_free 88 = .ok (.getfield 69, 3) := by decide +kernel
theorem dX3_free_91 : decode cX3_free 91 = .ok (.iload 5, 2) := by decide +kernel
theorem dX3_free_93 : decode cX3_free 93 = .ok (.iaload, 1) := by decide +kernel
theorem dX3_free_94 : decode cX3_free 94 = .ok (.if_icmp .lt 30, 3) := by decide +kernel
theorem dX3_free_97 : decode cX3_free 97 = .ok (.aload_n 0, 1) := by decide +kernel
theorem dX3_free_98 : decode cX3_free 98 = .ok (.getfield 17, 3) := by decide +kernel
theorem dX3_free_101 : decode cX3_free 101 = .ok (.iload 4, 2) := by decide +kernel
theorem dX3_free_103 : decode cX3_free 103 = .ok (.iaload, 1) := by decide +kernel
theorem dX3_free_104 : decode cX3_free 104 = .ok (.aload_n 0, 1) := by decide +kernel
theorem dX3_free_105 : decode cX3_free 105 = .ok (.getfield 69, 3) := by decide +kernel
theorem dX3_free_108 : decode cX3_free 108 = .ok (.iload 5, 2) := by decide +kernel
theorem dX3_free_110 : decode cX3_free 110 = .ok (.iaload, 1) := by decide +kernel
theorem dX3_free_111 : decode cX3_free 111 = .ok (.if_icmp .ne 17, 3) := by decide +kernel
theorem dX3_free_114 : decode cX3_free 114 = .ok (.aload_n 0, 1) := by decide +kernel
theorem dX3_free_115 : decode cX3_free 115 = .ok (.getfield 20, 3) := by decide +kernel
theorem dX3_free_118 : decode cX3_free 118 = .ok (.iload 4, 2) := by decide +kernel
theorem dX3_free_120 : decode cX3_free 120 = .ok (.baload, 1) := by decide +kernel
theorem dX3_free_121 : decode cX3_free 121 = .ok (.ifCond .ne 7, 3) := by decide +kernel
theorem dX3_free_124 : decode cX3_free 124 = .ok (.iconst 1, 1) := by decide +kernel
theorem dX3_free_125 : decode cX3_free 125 = .ok (.goto 4, 3) := by decide +kernel
theorem dX3_free_128 : decode cX3_free 128 = .ok (.iconst 0, 1) := by decide +kernel
theorem dX3_free_129 : decode cX3_free 129 = .ok (.istore 6, 2) := by decide +kernel
theorem dX3_free_131 : decode cX3_free 131 = .ok (.iload 6, 2) := by decide +kernel
theorem dX3_free_133 : decode cX3_free 133 = .ok (.ifCond .eq 6, 3) := by decide +kernel
theorem dX3_free_136 : decode cX3_free 136 = .ok (.goto 40, 3) := by decide +kernel
theorem dX3_free_139 : decode cX3_free 139 = .ok (.aload_n 0, 1) := by decide +kernel
theorem dX3_free_140 : decode cX3_free 140 = .ok (.getfield 13, 3) := by decide +kernel
theorem dX3_free_143 : decode cX3_free 143 = .ok (.iload_n 2, 1) := by decide +kernel
theorem dX3_free_144 : decode cX3_free 144 = .ok (.iload 5, 2) := by decide +kernel
theorem dX3_free_146 : decode cX3_free 146 = .ok (.iastore, 1) := by decide +kernel
theorem dX3_free_147 : decode cX3_free 147 = .ok (.aload_n 0, 1) := by decide +kernel
theorem dX3_free_148 : decode cX3_free 148 = .ok (.getfield 17, 3) := by decide +kernel
theorem dX3_free_151 : decode cX3_free 151 = .ok (.iload_n 2, 1) := by decide +kernel
theorem dX3_free_152 : decode cX3_free 152 = .ok (.aload_n 0, 1) := by decide +kernel
theorem dX3_free_153 : decode cX3_free 153 = .ok (.getfield 17, 3) := by decide +kernel
theorem dX3_free_156 : decode cX3_free 156 = .ok (.iload 4, 2) := by decide +kernel
theorem dX3_free_158 : decode cX3_free 158 = .ok (.iaload, 1) := by decide +kernel
theorem dX3_free_159 : decode cX3_free 159 = .ok (.iastore, 1) := by decide +kernel
theorem dX3_free_160 : decode cX3_free 160 = .ok (.aload_n 0, 1) := by decide +kernel
theorem dX3_free_161 : decode cX3_free 161 = .ok (.getfield 20, 3) := by decide +kernel
theorem dX3_free_164 : decode cX3_free 164 = .ok (.iload_n 2, 1) := by decide +kernel
theorem dX3_free_165 : decode cX3_free 165 = .ok (.aload_n 0, 1) := by decide +kernel
theorem dX3_free_166 : decode cX3_free 166 = .ok (.getfield 20, 3) := by decide +kernel
theorem dX3_free_169 : decode cX3_free 169 = .ok (.iload 4, 2) := by decide +kernel
theorem dX3_free_171 : decode cX3_free 171 = .ok (.baload, 1) := by decide +kernel
theorem dX3_free_172 : decode cX3_free 172 = .ok (.bastore, 1) := by decide +kernel
theorem dX3_free_173 : decode cX3_free 173 = .ok (.iinc 2 1, 3) := by decide +kernel
theorem dX3_free_176 : decode cX3_free 176 = .ok (.iinc 4 1, 3) := by decide +kernel
theorem dX3_free_179 : decode cX3_free 179 = .ok (.goto (-114), 3) := by decide +kernel
theorem dX3_free_182 : decode cX3_free 182 = .ok (.aload_n 0, 1) := by decide +kernel
theorem dX3_free_183 : decode cX3_free 183 = .ok (.iload_n 2, 1) := by decide +kernel
theorem dX3_free_184 : decode cX3_free 184 = .ok (.putfield 82, 3) := by decide +kernel
theorem dX3_free_187 : decode cX3_free 187 = .ok (.iload_n 3, 1) := by decide +kernel
theorem dX3_free_188 : decode cX3_free 188 = .ok (.iload_n 2, 1) := by decide +kernel
theorem dX3_free_189 : decode cX3_free 189 = .ok (.isub, 1) := by decide +kernel
theorem dX3_free_190 : decode cX3_free 190 = .ok (.ireturn, 1) := by decide +kernel
theorem dX3_start_0 : decode cX3_start 0 = .ok (.aload_n 0, 1) := by decide +kernel
theorem dX3_start_1 : decode cX3_start 1 = .ok (.getfield 27, 3) := by decide +kernel
theorem dX3_start_4 : decode cX3_start 4 = .ok (.aload_n 0, 1) := by decide +kernel
theorem dX3_start_5 : decode cX3_start 5 = .ok (.getfield 72, 3) := by decide +kernel
theorem dX3_start_8 : decode cX3_start 8 = .ok (.iload_n 1, 1) := by decide +kernel
theorem dX3_start_9 : decode cX3_start 9 = .ok (.bastore, 1) := by decide +kernel
theorem dX3_start_10 : decode cX3_start 10 = .ok (.aload_n 0, 1) := by decide +kernel
theorem dX3_start_11 : decode cX3_start 11 = .ok (.getfield 30, 3) := by decide +kernel
theorem dX3_start_14 : decode cX3_start 14 = .ok (.aload_n 0, 1) := by decide +kernel
theorem dX3_start_15 : decode cX3_start 15 = .ok (.getfield 72, 3) := by decide +kernel
theorem dX3_start_18 : decode cX3_start 18 = .ok (.iload_n 2, 1) := by decide +kernel
theorem dX3_start_19 : decode cX3_start 19 = .ok (.iastore, 1) := by decide +kernel
theorem dX3_start_20 : decode cX3_start 20 = .ok (.aload_n 0, 1) := by decide +kernel
theorem dX3_start_21 : decode cX3_start 21 = .ok (.getfield 33, 3) := by decide +kernel
theorem dX3_start_24 : decode cX3_start 24 = .ok (.aload_n 0, 1) := by decide +kernel
theorem dX3_start_25 : decode cX3_start 25 = .ok (.getfield 72, 3) := by decide +kernel
theorem dX3_start_28 : decode cX3_start 28 = .ok (.iconst 0, 1) := by decide +kernel
theorem dX3_start_29 : decode cX3_start 29 = .ok (.iastore, 1) := by decide +kernel
theorem dX3_start_30 : decode cX3_start 30 = .ok (.aload_n 0, 1) := by decide +kernel
theorem dX3_start_31 : decode cX3_start 31 = .ok (.getfield 42, 3) := by decide +kernel
theorem dX3_start_34 : decode cX3_start 34 = .ok (.aload_n 0, 1) := by decide +kernel
theorem dX3_start_35 : decode cX3_start 35 = .ok (.getfield 72, 3) := by decide +kernel
theorem dX3_start_38 : decode cX3_start 38 = .ok (.iconst (-1), 1) := by decide +kernel
theorem dX3_start_39 : decode cX3_start 39 = .ok (.iastore, 1) := by decide +kernel
theorem dX3_start_40 : decode cX3_start 40 = .ok (.aload_n 0, 1) := by decide +kernel
theorem dX3_start_41 : decode cX3_start 41 = .ok (.dup, 1) := by decide +kernel
theorem dX3_start_42 : decode cX3_start 42 = .ok (.getfield 72, 3) := by decide +kernel
theorem dX3_start_45 : decode cX3_start 45 = .ok (.iconst 1, 1) := by decide +kernel
theorem dX3_start_46 : decode cX3_start 46 = .ok (.iadd, 1) := by decide +kernel
theorem dX3_start_47 : decode cX3_start 47 = .ok (.putfield 72, 3) := by decide +kernel
theorem dX3_start_50 : decode cX3_start 50 = .ok (.aload_n 0, 1) := by decide +kernel
theorem dX3_start_51 : decode cX3_start 51 = .ok (.getfield 72, 3) := by decide +kernel
theorem dX3_start_54 : decode cX3_start 54 = .ok (.iconst 1, 1) := by decide +kernel
theorem dX3_start_55 : decode cX3_start 55 = .ok (.isub, 1) := by decide +kernel
theorem dX3_start_56 : decode cX3_start 56 = .ok (.ireturn, 1) := by decide +kernel
set_option maxRecDepth 20000 in
theorem ggX3_begin_X3_start : GoodIn wsX3_begin wsX3_start := goodIn_r _ [8, 9, 1, 10, 11, 12, 13, 14, 15, 16, 17, 18, 19, 20, 21, 22, 23, 24, 25, 26, 27, 28, 29, 30, 31, 32, 33, 34, 35, 36, 37, 38, 39] (by decide +kernel) (by decide +kernel)
set_option maxRecDepth 20000 in
theorem gX3_begin_X3_start : GoodIn wsX3_begin (wsV RX3 107 RX3 yX3_start wsX3_start) := goodIn_app (goodIn_of _ (by decide +kernel)) ggX3_begin_X3_start
theorem dX3_begin_0 : decode cX3_begin 0 = .ok (.aload_n 0, 1) := by decide +kernel
theorem dX3_begin_1 : decode cX3_begin 1 = .ok (.aload_n 0, 1) := by decide +kernel
theorem dX3_begin_2 : decode cX3_begin 2 = .ok (.getfield 72, 3) := by decide +kernel
theorem dX3_begin_5 : decode cX3_begin 5 = .ok (.bipush 60, 2) := by decide +kernel
theorem dX3_begin_7 : decode cX3_begin 7 = .ok (.if_icmp .ge 7, 3) := by decide +kernel
theorem dX3_begin_10 : decode cX3_begin 10 = .ok (.iconst 0, 1) := by decide +kernel
theorem dX3_begin_11 : decode cX3_begin 11 = .ok (.goto 4, 3) := by decide +kernel
theorem dX3_begin_14 : decode cX3_begin 14 = .ok (.iconst 1, 1) := by decide +kernel
theorem dX3_begin_15 : decode cX3_begin 15 = .ok (.putfield 1, 3) := by decide +kernel
theorem dX3_begin_18 : decode cX3_begin 18 = .ok (.aload_n 0, 1) := by decide +kernel
theorem dX3_begin_19 : decode cX3_begin 19 = .ok (.getfield 1, 3) := by decide +kernel
theorem dX3_begin_22 : decode cX3_begin 22 = .ok (.ifCond .ne 15, 3) := by decide +kernel
theorem dX3_begin_25 : decode cX3_begin 25 = .ok (.aload_n 0, 1) := by decide +kernel
theorem dX3_begin_26 : decode cX3_begin 26 = .ok (.iconst 1, 1) := by decide +kernel
theorem dX3_begin_27 : decode cX3_begin 27 = .ok (.aload_n 0, 1) := by decide +kernel
theorem dX3_begin_28 : decode cX3_begin 28 = .ok (.getfield 79, 3) := by decide +kernel
theorem dX3_begin_31 : decode cX3_begin 31 = .ok (.invokevirtual 107, 3) := by decide +kernel
theorem dX3_begin_34 : decode cX3_begin 34 = .ok (.goto 4, 3) := by decide +kernel
theorem dX3_begin_37 : decode cX3_begin 37 = .ok (.iconst 0, 1) := by decide +kernel
theorem dX3_begin_38 : decode cX3_begin 38 = .ok (.ireturn, 1) := by decide +kernel
set_option maxRecDepth 20000 in
theorem ggX3_look_X3_isTellable : GoodIn wsX3_look wsX3_isTellable := goodIn_r _ [6, 7, 8, 9, 10, 5, 11, 1, 12, 13, 14, 15, 16, 17, 18, 30, 31, 32, 33, 34, 35, 36, 37, 38, 39, 40, 41, 42, 43, 44, 45, 46, 47, 48, 49, 50, 51, 52, 53, 54, 55, 56] (by decide +kernel) (by decide +kernel)
set_option maxRecDepth 20000 in
theorem gX3_look_X3_isTellable : GoodIn wsX3_look (wsV RX3 93 RX3 yX3_isTellable wsX3_isTellable) := goodIn_app (goodIn_of _ (by decide +kernel)) ggX3_look_X3_isTellable
set_option maxRecDepth 20000 in
theorem ggX3_look_X3_fails : GoodIn wsX3_look wsX3_fails := goodIn_r _ [22, 23, 30, 31, 32, 33, 34, 35, 36, 37, 38, 39, 40, 41, 42, 43, 44, 45, 46, 47, 48, 49, 50, 51, 52, 53, 54, 55, 56] (by decide +kernel) (by decide +kernel)
set_option maxRecDepth 20000 in
theorem gX3_look_X3_fails : GoodIn wsX3_look (wsV RX3 99 RX3 yX3_fails wsX3_fails) := goodIn_app (goodIn_of _ (by decide +kernel)) ggX3_look_X3_fails
set_option maxRecDepth 20000 in
theorem ggX3_look_X3_start : GoodIn wsX3_look wsX3_start := goodIn_r _ [27, 28, 1, 12, 18, 29, 30, 31, 32, 33, 34, 35, 36, 37, 38, 39, 40, 41, 42, 43, 44, 45, 46, 47, 48, 49, 50, 51, 52, 53, 54, 55, 56] (by decide +kernel) (by decide +kernel)
set_option maxRecDepth 20000 in
theorem gX3_look_X3_start : GoodIn wsX3_look (wsV RX3 107 RX3 yX3_start wsX3_start) := goodIn_app (goodIn_of _ (by decide +kernel)) ggX3_look_X3_start
theorem dX3_look_0 : decode cX3_look 0 = .ok (.aload_n 0, 1) := by decide +kernel
theorem dX3_look_1 : decode cX3_look 1 = .ok (.aload_n 0, 1) := by decide +kernel
theorem dX3_look_2 : decode cX3_look 2 = .ok (.iload_n 1, 1) := by decide +kernel
theorem dX3_look_3 : decode cX3_look 3 = .ok (.invokevirtual 93, 3) := by decide +kernel
theorem dX3_look_6 : decode cX3_look 6 = .ok (.aload_n 0, 1) := by decide +kernel
theorem dX3_look_7 : decode cX3_look 7 = .ok (.getfield 72, 3) := by decide +kernel
theorem dX3_look_10 : decode cX3_look 10 = .ok (.bipush 60, 2) := by decide +kernel
theorem dX3_look_12 : decode cX3_look 12 = .ok (.if_icmp .ge 7, 3) := by decide +kernel
theorem dX3_look_15 : decode cX3_look 15 = .ok (.iconst 1, 1) := by decide +kernel
theorem dX3_look_16 : decode cX3_look 16 = .ok (.goto 4, 3) := by decide +kernel
theorem dX3_look_19 : decode cX3_look 19 = .ok (.iconst 0, 1) := by decide +kernel
theorem dX3_look_20 : decode cX3_look 20 = .ok (.invokevirtual 99, 3) := by decide +kernel
theorem dX3_look_23 : decode cX3_look 23 = .ok (.ifCond .eq 7, 3) := by decide +kernel
theorem dX3_look_26 : decode cX3_look 26 = .ok (.iconst 0, 1) := by decide +kernel
theorem dX3_look_27 : decode cX3_look 27 = .ok (.goto 9, 3) := by decide +kernel
theorem dX3_look_30 : decode cX3_look 30 = .ok (.aload_n 0, 1) := by decide +kernel
theorem dX3_look_31 : decode cX3_look 31 = .ok (.iconst 0, 1) := by decide +kernel
theorem dX3_look_32 : decode cX3_look 32 = .ok (.iload_n 1, 1) := by decide +kernel
theorem dX3_look_33 : decode cX3_look 33 = .ok (.invokevirtual 107, 3) := by decide +kernel
theorem dX3_look_36 : decode cX3_look 36 = .ok (.ireturn, 1) := by decide +kernel
set_option maxRecDepth 20000 in
theorem ggX3_state_X3_isTransaction : GoodIn wsX3_state wsX3_isTransaction := goodIn_r _ [6, 7, 13, 14, 15, 16, 17, 18, 19, 20, 21, 22, 23, 24, 25, 26, 27, 28, 29, 30, 31, 32, 33, 34, 35, 36, 37, 38, 39] (by decide +kernel) (by decide +kernel)
set_option maxRecDepth 20000 in
theorem gX3_state_X3_isTransaction : GoodIn wsX3_state (wsV RX3 111 RX3 yX3_isTransaction wsX3_isTransaction) := goodIn_app (goodIn_of _ (by decide +kernel)) ggX3_state_X3_isTransaction
set_option maxRecDepth 20000 in
theorem ggX3_state_X3_fails : GoodIn wsX3_state wsX3_fails := goodIn_r _ [11, 12, 13, 14, 15, 16, 17, 18, 19, 20, 21, 22, 23, 24, 25, 26, 27, 28, 29, 30, 31, 32, 33, 34, 35, 36, 37, 38, 39] (by decide +kernel) (by decide +kernel)
set_option maxRecDepth 20000 in
theorem gX3_state_X3_fails : GoodIn wsX3_state (wsV RX3 99 RX3 yX3_fails wsX3_fails) := goodIn_app (goodIn_of _ (by decide +kernel)) ggX3_state_X3_fails
theorem dX3_state_0 : decode cX3_state 0 = .ok (.aload_n 0, 1) := by decide +kernel
theorem dX3_state_1 : decode cX3_state 1 = .ok (.aload_n 0, 1) := by decide +kernel
theorem dX3_state_2 : decode cX3_state 2 = .ok (.iload_n 1, 1) := by decide +kernel
theorem dX3_state_3 : decode cX3_state 3 = .ok (.invokevirtual 111, 3) := by decide +kernel
theorem dX3_state_6 : decode cX3_state 6 = .ok (.iconst 1, 1) := by decide +kernel
theorem dX3_state_7 : decode cX3_state 7 = .ok (.invokevirtual 99, 3) := by decide +kernel
theorem dX3_state_10 : decode cX3_state 10 = .ok (.ifCond .eq 7, 3) := by decide +kernel
theorem dX3_state_13 : decode cX3_state 13 = .ok (.iconst 0, 1) := by decide +kernel
theorem dX3_state_14 : decode cX3_state 14 = .ok (.goto 9, 3) := by decide +kernel
theorem dX3_state_17 : decode cX3_state 17 = .ok (.aload_n 0, 1) := by decide +kernel
theorem dX3_state_18 : decode cX3_state 18 = .ok (.getfield 33, 3) := by decide +kernel
theorem dX3_state_21 : decode cX3_state 21 = .ok (.iload_n 1, 1) := by decide +kernel
theorem dX3_state_22 : decode cX3_state 22 = .ok (.iaload, 1) := by decide +kernel
theorem dX3_state_23 : decode cX3_state 23 = .ok (.ireturn, 1) := by decide +kernel
set_option maxRecDepth 20000 in
theorem ggX3_waits_X3_isTransaction : GoodIn wsX3_waits wsX3_isTransaction := goodIn_r _ [7, 8, 14, 15, 16, 17, 18, 19, 20, 21, 22, 23, 24, 25, 26, 27, 28, 29, 30, 31, 32, 33, 34, 35, 36, 37, 38, 39, 40] (by decide +kernel) (by decide +kernel)
set_option maxRecDepth 20000 in
theorem gX3_waits_X3_isTransaction : GoodIn wsX3_waits (wsV RX3 111 RX3 yX3_isTransaction wsX3_isTransaction) := goodIn_app (goodIn_of _ (by decide +kernel)) ggX3_waits_X3_isTransaction
set_option maxRecDepth 20000 in
theorem ggX3_waits_X3_fails : GoodIn wsX3_waits wsX3_fails := goodIn_r _ [12, 13, 14, 15, 16, 17, 18, 19, 20, 21, 22, 23, 24, 25, 26, 27, 28, 29, 30, 31, 32, 33, 34, 35, 36, 37, 38, 39, 40] (by decide +kernel) (by decide +kernel)
set_option maxRecDepth 20000 in
theorem gX3_waits_X3_fails : GoodIn wsX3_waits (wsV RX3 99 RX3 yX3_fails wsX3_fails) := goodIn_app (goodIn_of _ (by decide +kernel)) ggX3_waits_X3_fails
theorem dX3_waits_0 : decode cX3_waits 0 = .ok (.aload_n 0, 1) := by decide +kernel
theorem dX3_waits_1 : decode cX3_waits 1 = .ok (.aload_n 0, 1) := by decide +kernel
theorem dX3_waits_2 : decode cX3_waits 2 = .ok (.iload_n 1, 1) := by decide +kernel
theorem dX3_waits_3 : decode cX3_waits 3 = .ok (.invokevirtual 111, 3) := by decide +kernel
theorem dX3_waits_6 : decode cX3_waits 6 = .ok (.iconst 1, 1) := by decide +kernel
theorem dX3_waits_7 : decode cX3_waits 7 = .ok (.invokevirtual 99, 3) := by decide +kernel
theorem dX3_waits_10 : decode cX3_waits 10 = .ok (.ifCond .eq 5, 3) := by decide +kernel
theorem dX3_waits_13 : decode cX3_waits 13 = .ok (.iconst 0, 1) := by decide +kernel
theorem dX3_waits_14 : decode cX3_waits 14 = .ok (.ireturn, 1) := by decide +kernel
theorem dX3_waits_15 : decode cX3_waits 15 = .ok (.aload_n 0, 1) := by decide +kernel
theorem dX3_waits_16 : decode cX3_waits 16 = .ok (.getfield 33, 3) := by decide +kernel
theorem dX3_waits_19 : decode cX3_waits 19 = .ok (.iload_n 1, 1) := by decide +kernel
theorem dX3_waits_20 : decode cX3_waits 20 = .ok (.iaload, 1) := by decide +kernel
theorem dX3_waits_21 : decode cX3_waits 21 = .ok (.iconst 1, 1) := by decide +kernel
theorem dX3_waits_22 : decode cX3_waits 22 = .ok (.if_icmp .ne 12, 3) := by decide +kernel
theorem dX3_waits_25 : decode cX3_waits 25 = .ok (.aload_n 0, 1) := by decide +kernel
theorem dX3_waits_26 : decode cX3_waits 26 = .ok (.getfield 42, 3) := by decide +kernel
theorem dX3_waits_29 : decode cX3_waits 29 = .ok (.iload_n 1, 1) := by decide +kernel
theorem dX3_waits_30 : decode cX3_waits 30 = .ok (.iaload, 1) := by decide +kernel
theorem dX3_waits_31 : decode cX3_waits 31 = .ok (.goto 4, 3) := by decide +kernel
theorem dX3_waits_34 : decode cX3_waits 34 = .ok (.iconst (-1), 1) := by decide +kernel
theorem dX3_waits_35 : decode cX3_waits 35 = .ok (.ireturn, 1) := by decide +kernel
set_option maxRecDepth 20000 in
theorem ggX3_read_X3_isTransaction : GoodIn wsX3_read wsX3_isTransaction := goodIn_r _ [7, 8, 34, 35, 36, 37, 38, 39, 40, 41, 42, 43, 44, 45, 46, 47, 48, 49, 50, 51, 52, 53, 54, 55, 56, 57, 58, 59, 60] (by decide +kernel) (by decide +kernel)
set_option maxRecDepth 20000 in
theorem gX3_read_X3_isTransaction : GoodIn wsX3_read (wsV RX3 111 RX3 yX3_isTransaction wsX3_isTransaction) := goodIn_app (goodIn_of _ (by decide +kernel)) ggX3_read_X3_isTransaction
set_option maxRecDepth 20000 in
theorem ggX3_read_X3_isTriple : GoodIn wsX3_read wsX3_isTriple := goodIn_r _ [11] (by decide +kernel) (by decide +kernel)
set_option maxRecDepth 20000 in
theorem gX3_read_X3_isTriple : GoodIn wsX3_read (va_wsS RX3 96 yX3_isTriple wsX3_isTriple) := goodIn_app (goodIn_of _ (by decide +kernel)) ggX3_read_X3_isTriple
set_option maxRecDepth 20000 in
theorem ggX3_read_X3_isLive : GoodIn wsX3_read wsX3_isLive := goodIn_r _ [15, 16, 34, 35, 36, 37, 38, 39, 40, 41, 42, 43, 44, 45, 46, 47, 48, 49, 50, 51, 52, 53, 54, 55, 56, 57, 58, 59, 60] (by decide +kernel) (by decide +kernel)
set_option maxRecDepth 20000 in
theorem gX3_read_X3_isLive : GoodIn wsX3_read (wsV RX3 89 RX3 yX3_isLive wsX3_isLive) := goodIn_app (goodIn_of _ (by decide +kernel)) ggX3_read_X3_isLive
set_option maxRecDepth 20000 in
theorem ggX3_read_X3_fails : GoodIn wsX3_read wsX3_fails := goodIn_r _ [20, 21, 34, 35, 36, 37, 38, 39, 40, 41, 42, 43, 44, 45, 46, 47, 48, 49, 50, 51, 52, 53, 54, 55, 56, 57, 58, 59, 60] (by decide +kernel) (by decide +kernel)
set_option maxRecDepth 20000 in
theorem gX3_read_X3_fails : GoodIn wsX3_read (wsV RX3 99 RX3 yX3_fails wsX3_fails) := goodIn_app (goodIn_of _ (by decide +kernel)) ggX3_read_X3_fails
set_option maxRecDepth 20000 in
theorem ggX3_read_X3_isThere : GoodIn wsX3_read wsX3_isThere := goodIn_r _ [25, 26, 27, 28, 29, 6, 30, 31, 32, 33, 34, 35, 36, 37, 38, 39, 40, 41, 42, 43, 44, 45, 46, 47, 48, 49, 50, 51, 52, 53, 54, 55, 56, 57, 58, 59, 60] (by decide +kernel) (by decide +kernel)
set_option maxRecDepth 20000 in
theorem gX3_read_X3_isThere : GoodIn wsX3_read (wsV RX3 103 RX3 yX3_isThere wsX3_isThere) := goodIn_app (goodIn_of _ (by decide +kernel)) ggX3_read_X3_isThere
theorem dX3_read_0 : decode cX3_read 0 = .ok (.aload_n 0, 1) := by decide +kernel
theorem dX3_read_1 : decode cX3_read 1 = .ok (.iload_n 1, 1) := by decide +kernel
theorem dX3_read_2 : decode cX3_read 2 = .ok (.invokevirtual 111, 3) := by decide +kernel
theorem dX3_read_5 : decode cX3_read 5 = .ok (.ifCond .eq 14, 3) := by decide +kernel
theorem dX3_read_8 : decode cX3_read 8 = .ok (.iload_n 2, 1) := by decide +kernel
theorem dX3_read_9 : decode cX3_read 9 = .ok (.invokestatic 96, 3) := by decide +kernel
theorem dX3_read_12 : decode cX3_read 12 = .ok (.ifCond .eq 7, 3) := by decide +kernel
theorem dX3_read_15 : decode cX3_read 15 = .ok (.iconst 1, 1) := by decide +kernel
theorem dX3_read_16 : decode cX3_read 16 = .ok (.goto 4, 3) := by decide +kernel
theorem dX3_read_19 : decode cX3_read 19 = .ok (.iconst 0, 1) := by decide +kernel
theorem dX3_read_20 : decode cX3_read 20 = .ok (.istore_n 3, 1) := by decide +kernel
theorem dX3_read_21 : decode cX3_read 21 = .ok (.aload_n 0, 1) := by decide +kernel
theorem dX3_read_22 : decode cX3_read 22 = .ok (.iload_n 3, 1) := by decide +kernel
theorem dX3_read_23 : decode cX3_read 23 = .ok (.iload_n 3, 1) := by decide +kernel
theorem dX3_read_24 : decode cX3_read 24 = .ok (.ifCond .eq 15, 3) := by decide +kernel
theorem dX3_read_27 : decode cX3_read 27 = .ok (.aload_n 0, 1) := by decide +kernel
theorem dX3_read_28 : decode cX3_read 28 = .ok (.iload_n 1, 1) := by decide +kernel
theorem dX3_read_29 : decode cX3_read 29 = .ok (.invokevirtual 89, 3) := by decide +kernel
theorem dX3_read_32 : decode cX3_read 32 = .ok (.ifCond .eq 7, 3) := by decide +kernel
theorem dX3_read_35 : decode cX3_read 35 = .ok (.iconst 1, 1) := by decide +kernel
theorem dX3_read_36 : decode cX3_read 36 = .ok (.goto 4, 3) := by decide +kernel
theorem dX3_read_39 : decode cX3_read 39 = .ok (.iconst 0, 1) := by decide +kernel
theorem dX3_read_40 : decode cX3_read 40 = .ok (.invokevirtual 99, 3) := by decide +kernel
theorem dX3_read_43 : decode cX3_read 43 = .ok (.ifCond .eq 5, 3) := by decide +kernel
theorem dX3_read_46 : decode cX3_read 46 = .ok (.iconst 0, 1) := by decide +kernel
theorem dX3_read_47 : decode cX3_read 47 = .ok (.ireturn, 1) := by decide +kernel
theorem dX3_read_48 : decode cX3_read 48 = .ok (.aload_n 0, 1) := by decide +kernel
theorem dX3_read_49 : decode cX3_read 49 = .ok (.getfield 39, 3) := by decide +kernel
theorem dX3_read_52 : decode cX3_read 52 = .ok (.sipush 200, 3) := by decide +kernel
theorem dX3_read_55 : decode cX3_read 55 = .ok (.iload_n 1, 1) := by decide +kernel
theorem dX3_read_56 : decode cX3_read 56 = .ok (.imul, 1) := by decide +kernel
theorem dX3_read_57 : decode cX3_read 57 = .ok (.iload_n 2, 1) := by decide +kernel
theorem dX3_read_58 : decode cX3_read 58 = .ok (.iadd, 1) := by decide +kernel
theorem dX3_read_59 : decode cX3_read 59 = .ok (.iaload, 1) := by decide +kernel
theorem dX3_read_60 : decode cX3_read 60 = .ok (.istore 4, 2) := by decide +kernel
theorem dX3_read_62 : decode cX3_read 62 = .ok (.iload 4, 2) := by decide +kernel
theorem dX3_read_64 : decode cX3_read 64 = .ok (.ifCond .le 17, 3) := by decide +kernel
theorem dX3_read_67 : decode cX3_read 67 = .ok (.iload 4, 2) := by decide +kernel
theorem dX3_read_69 : decode cX3_read 69 = .ok (.iconst 2, 1) := by decide +kernel
theorem dX3_read_70 : decode cX3_read 70 = .ok (.if_icmp .ne 7, 3) := by decide +kernel
theorem dX3_read_73 : decode cX3_read 73 = .ok (.iconst 1, 1) := by decide +kernel
theorem dX3_read_74 : decode cX3_read 74 = .ok (.goto 18, 3) := by decide +kernel
theorem dX3_read_77 : decode cX3_read 77 = .ok (.iconst 0, 1) := by decide +kernel
theorem dX3_read_78 : decode cX3_read 78 = .ok (.goto 14, 3) := by decide +kernel
theorem dX3_read_81 : decode cX3_read 81 = .ok (.aload_n 0, 1) := by decide +kernel
theorem dX3_read_82 : decode cX3_read 82 = .ok (.iload_n 2, 1) := by decide +kernel
theorem dX3_read_83 : decode cX3_read 83 = .ok (.aload_n 0, 1) := by decide +kernel
theorem dX3_read_84 : decode cX3_read 84 = .ok (.getfield 30, 3) := by decide +kernel
theorem dX3_read_87 : decode cX3_read 87 = .ok (.iload_n 1, 1) := by decide +kernel
theorem dX3_read_88 : decode cX3_read 88 = .ok (.iaload, 1) := by decide +kernel
theorem dX3_read_89 : decode cX3_read 89 = .ok (.invokevirtual 103, 3) := by decide +kernel
theorem dX3_read_92 : decode cX3_read 92 = .ok (.ireturn, 1) := by decide +kernel
theorem dX3_canWrite_0 : decode cX3_canWrite 0 = .ok (.aload_n 0, 1) := by decide +kernel
theorem dX3_canWrite_1 : decode cX3_canWrite 1 = .ok (.getfield 33, 3) := by decide +kernel
theorem dX3_canWrite_4 : decode cX3_canWrite 4 = .ok (.iload_n 1, 1) := by decide +kernel
theorem dX3_canWrite_5 : decode cX3_canWrite 5 = .ok (.iaload, 1) := by decide +kernel
theorem dX3_canWrite_6 : decode cX3_canWrite 6 = .ok (.ifCond .ne 16, 3) := by decide +kernel
theorem dX3_canWrite_9 : decode cX3_canWrite 9 = .ok (.aload_n 0, 1) := by decide +kernel
theorem dX3_canWrite_10 : decode cX3_canWrite 10 = .ok (.getfield 27, 3) := by decide +kernel
theorem dX3_canWrite_13 : decode cX3_canWrite 13 = .ok (.iload_n 1, 1) := by decide +kernel
theorem dX3_canWrite_14 : decode cX3_canWrite 14 = .ok (.baload, 1) := by decide +kernel
theorem dX3_canWrite_15 : decode cX3_canWrite 15 = .ok (.ifCond .eq 7, 3) := by decide +kernel
theorem dX3_canWrite_18 : decode cX3_canWrite 18 = .ok (.iconst 1, 1) := by decide +kernel
theorem dX3_canWrite_19 : decode cX3_canWrite 19 = .ok (.goto 4, 3) := by decide +kernel
theorem dX3_canWrite_22 : decode cX3_canWrite 22 = .ok (.iconst 0, 1) := by decide +kernel
theorem dX3_canWrite_23 : decode cX3_canWrite 23 = .ok (.ireturn, 1) := by decide +kernel
set_option maxRecDepth 20000 in
theorem ggX3_note_X3_isTransaction : GoodIn wsX3_note wsX3_isTransaction := goodIn_r _ [6, 7, 19, 20, 21, 22, 23, 24, 25, 26, 27, 28, 29, 30, 31, 32, 33, 34, 35, 36, 37, 38, 39, 40, 41, 42, 43, 44, 45] (by decide +kernel) (by decide +kernel)
set_option maxRecDepth 20000 in
theorem gX3_note_X3_isTransaction : GoodIn wsX3_note (wsV RX3 111 RX3 yX3_isTransaction wsX3_isTransaction) := goodIn_app (goodIn_of _ (by decide +kernel)) ggX3_note_X3_isTransaction
set_option maxRecDepth 20000 in
theorem ggX3_note_X3_canWrite : GoodIn wsX3_note wsX3_canWrite := goodIn_r _ [11, 12, 13, 19, 20, 21, 22, 23, 24, 25, 26, 27, 28, 29, 30, 31, 32, 33, 34, 35, 36, 37, 38, 39, 40, 41, 42, 43, 44, 45] (by decide +kernel) (by decide +kernel)
set_option maxRecDepth 20000 in
theorem gX3_note_X3_canWrite : GoodIn wsX3_note (wsV RX3 114 RX3 yX3_canWrite wsX3_canWrite) := goodIn_app (goodIn_of _ (by decide +kernel)) ggX3_note_X3_canWrite
set_option maxRecDepth 20000 in
theorem ggX3_note_X3_fails : GoodIn wsX3_note wsX3_fails := goodIn_r _ [17, 18, 19, 20, 21, 22, 23, 24, 25, 26, 27, 28, 29, 30, 31, 32, 33, 34, 35, 36, 37, 38, 39, 40, 41, 42, 43, 44, 45] (by decide +kernel) (by decide +kernel)
set_option maxRecDepth 20000 in
theorem gX3_note_X3_fails : GoodIn wsX3_note (wsV RX3 99 RX3 yX3_fails wsX3_fails) := goodIn_app (goodIn_of _ (by decide +kernel)) ggX3_note_X3_fails
theorem dX3_note_0 : decode cX3_note 0 = .ok (.aload_n 0, 1) := by decide +kernel
theorem dX3_note_1 : decode cX3_note 1 = .ok (.iload_n 1, 1) := by decide +kernel
theorem dX3_note_2 : decode cX3_note 2 = .ok (.invokevirtual 111, 3) := by decide +kernel
theorem dX3_note_5 : decode cX3_note 5 = .ok (.ifCond .eq 16, 3) := by decide +kernel
theorem dX3_note_8 : decode cX3_note 8 = .ok (.iload_n 2, 1) := by decide +kernel
theorem dX3_note_9 : decode cX3_note 9 = .ok (.ifCond .lt 12, 3) := by decide +kernel
theorem dX3_note_12 : decode cX3_note 12 = .ok (.iload_n 2, 1) := by decide +kernel
theorem dX3_note_13 : decode cX3_note 13 = .ok (.iconst 4, 1) := by decide +kernel
theorem dX3_note_14 : decode cX3_note 14 = .ok (.if_icmp .ge 7, 3) := by decide +kernel
theorem dX3_note_17 : decode cX3_note 17 = .ok (.iconst 1, 1) := by decide +kernel
theorem dX3_note_18 : decode cX3_note 18 = .ok (.goto 4, 3) := by decide +kernel
theorem dX3_note_21 : decode cX3_note 21 = .ok (.iconst 0, 1) := by decide +kernel
theorem dX3_note_22 : decode cX3_note 22 = .ok (.istore_n 3, 1) := by decide +kernel
theorem dX3_note_23 : decode cX3_note 23 = .ok (.aload_n 0, 1) := by decide +kernel
theorem dX3_note_24 : decode cX3_note 24 = .ok (.iload_n 3, 1) := by decide +kernel
theorem dX3_note_25 : decode cX3_note 25 = .ok (.iload_n 3, 1) := by decide +kernel
theorem dX3_note_26 : decode cX3_note 26 = .ok (.ifCond .eq 15, 3) := by decide +kernel
theorem dX3_note_29 : decode cX3_note 29 = .ok (.aload_n 0, 1) := by decide +kernel
theorem dX3_note_30 : decode cX3_note 30 = .ok (.iload_n 1, 1) := by decide +kernel
theorem dX3_note_31 : decode cX3_note 31 = .ok (.invokevirtual 114, 3) := by decide +kernel
theorem dX3_note_34 : decode cX3_note 34 = .ok (.ifCond .eq 7, 3) := by decide +kernel
theorem dX3_note_37 : decode cX3_note 37 = .ok (.iconst 1, 1) := by decide +kernel
theorem dX3_note_38 : decode cX3_note 38 = .ok (.goto 4, 3) := by decide +kernel
theorem dX3_note_41 : decode cX3_note 41 = .ok (.iconst 0, 1) := by decide +kernel
theorem dX3_note_42 : decode cX3_note 42 = .ok (.invokevirtual 99, 3) := by decide +kernel
theorem dX3_note_45 : decode cX3_note 45 = .ok (.ifCond .eq 5, 3) := by decide +kernel
theorem dX3_note_48 : decode cX3_note 48 = .ok (.iconst 0, 1) := by decide +kernel
theorem dX3_note_49 : decode cX3_note 49 = .ok (.ireturn, 1) := by decide +kernel
theorem dX3_note_50 : decode cX3_note 50 = .ok (.aload_n 0, 1) := by decide +kernel
theorem dX3_note_51 : decode cX3_note 51 = .ok (.getfield 36, 3) := by decide +kernel
theorem dX3_note_54 : decode cX3_note 54 = .ok (.iload_n 1, 1) := by decide +kernel
theorem dX3_note_55 : decode cX3_note 55 = .ok (.dup2, 1) := by decide +kernel
theorem dX3_note_56 : decode cX3_note 56 = .ok (.iaload, 1) := by decide +kernel
theorem dX3_note_57 : decode cX3_note 57 = .ok (.iconst 1, 1) := by decide +kernel
theorem dX3_note_58 : decode cX3_note 58 = .ok (.iload_n 2, 1) := by decide +kernel
theorem dX3_note_59 : decode cX3_note 59 = .ok (.ishl, 1) := by decide +kernel
theorem dX3_note_60 : decode cX3_note 60 = .ok (.ior, 1) := by decide +kernel
theorem dX3_note_61 : decode cX3_note 61 = .ok (.iastore, 1) := by decide +kernel
theorem dX3_note_62 : decode cX3_note 62 = .ok (.iconst 0, 1) := by decide +kernel
theorem dX3_note_63 : decode cX3_note 63 = .ok (.istore 4, 2) := by decide +kernel
theorem dX3_note_65 : decode cX3_note 65 = .ok (.iconst 0, 1) := by decide +kernel
theorem dX3_note_66 : decode cX3_note 66 = .ok (.istore 5, 2) := by decide +kernel
theorem dX3_note_68 : decode cX3_note 68 = .ok (.iload 5, 2) := by decide +kernel
theorem dX3_note_70 : decode cX3_note 70 = .ok (.iconst 4, 1) := by decide +kernel
theorem dX3_note_71 : decode cX3_note 71 = .ok (.if_icmp .ge 25, 3) := by decide +kernel
theorem dX3_note_74 : decode cX3_note 74 = .ok (.iload 4, 2) := by decide +kernel
theorem dX3_note_76 : decode cX3_note 76 = .ok (.aload_n 0, 1) := by decide +kernel
theorem dX3_note_77 : decode cX3_note 77 = .ok (.getfield 36, 3) := by decide +kernel
theorem dX3_note_80 : decode cX3_note 80 = .ok (.iload_n 1, 1) := by decide +kernel
theorem dX3_note_81 : decode cX3_note 81 = .ok (.iaload, 1) := by decide +kernel
theorem dX3_note_82 : decode cX3_note 82 = .ok (.iload 5, 2) := by decide +kernel
theorem dX3_note_84 : decode cX3_note 84 = .ok (.ishr, 1) := by decide +kernel
theorem dX3_note_85 : decode cX3_note 85 = .ok (.iconst 1, 1) := by decide +kernel
theorem dX3_note_86 : decode cX3_note 86 = .ok (.iand, 1) := by decide +kernel
theorem dX3_note_87 : decode cX3_note 87 = .ok (.iadd, 1) := by decide +kernel
theorem dX3_note_88 : decode cX3_note 88 = .ok (.istore 4, 2) := by decide +kernel
theorem dX3_note_90 : decode cX3_note 90 = .ok (.iinc 5 1, 3) := by decide +kernel
theorem dX3_note_93 : decode cX3_note 93 = .ok (.goto (-25), 3) := by decide +kernel
theorem dX3_note_96 : decode cX3_note 96 = .ok (.iload 4, 2) := by decide +kernel
theorem dX3_note_98 : decode cX3_note 98 = .ok (.ireturn, 1) := by decide +kernel
set_option maxRecDepth 20000 in
theorem ggX3_put_X3_isTransaction : GoodIn wsX3_put wsX3_isTransaction := goodIn_r _ [6, 7, 62, 63, 64, 65, 66, 67, 68, 69, 70, 71, 72, 73, 74, 75, 76, 77, 78, 79, 80, 81, 82, 83, 84, 85, 86, 87, 88] (by decide +kernel) (by decide +kernel)
set_option maxRecDepth 20000 in
theorem gX3_put_X3_isTransaction : GoodIn wsX3_put (wsV RX3 111 RX3 yX3_isTransaction wsX3_isTransaction) := goodIn_app (goodIn_of _ (by decide +kernel)) ggX3_put_X3_isTransaction
set_option maxRecDepth 20000 in
theorem ggX3_put_X3_isTriple : GoodIn wsX3_put wsX3_isTriple := goodIn_r _ [10] (by decide +kernel) (by decide +kernel)
set_option maxRecDepth 20000 in
theorem gX3_put_X3_isTriple : GoodIn wsX3_put (va_wsS RX3 96 yX3_isTriple wsX3_isTriple) := goodIn_app (goodIn_of _ (by decide +kernel)) ggX3_put_X3_isTriple
set_option maxRecDepth 20000 in
theorem ggX3_put_X3_canWrite : GoodIn wsX3_put wsX3_canWrite := goodIn_r _ [14, 1, 15, 62, 63, 64, 65, 66, 67, 68, 69, 70, 71, 72, 73, 74, 75, 76, 77, 78, 79, 80, 81, 82, 83, 84, 85, 86, 87, 88] (by decide +kernel) (by decide +kernel)
set_option maxRecDepth 20000 in
theorem gX3_put_X3_canWrite : GoodIn wsX3_put (wsV RX3 114 RX3 yX3_canWrite wsX3_canWrite) := goodIn_app (goodIn_of _ (by decide +kernel)) ggX3_put_X3_canWrite
set_option maxRecDepth 20000 in
theorem ggX3_put_X3_fails : GoodIn wsX3_put wsX3_fails := goodIn_r _ [19, 20, 62, 63, 64, 65, 66, 67, 68, 69, 70, 71, 72, 73, 74, 75, 76, 77, 78, 79, 80, 81, 82, 83, 84, 85, 86, 87, 88] (by decide +kernel) (by decide +kernel)
set_option maxRecDepth 20000 in
theorem gX3_put_X3_fails : GoodIn wsX3_put (wsV RX3 99 RX3 yX3_fails wsX3_fails) := goodIn_app (goodIn_of _ (by decide +kernel)) ggX3_put_X3_fails
set_option maxRecDepth 20000 in
theorem ggX3_put_X3_write : GoodIn wsX3_put wsX3_write := goodIn_r _ [24, 25, 1, 26, 27, 28, 29, 30, 31, 32, 33, 34, 35, 36, 5, 37, 38, 39, 40, 41, 42, 43, 44, 45, 46, 47, 48, 49, 50, 51, 52, 53, 54, 7, 55, 56, 62, 63, 64, 65, 66, 67, 68, 69, 70, 71, 72, 73, 74, 75, 76, 77, 78, 79, 80, 81, 82, 83, 84, 85, 86, 87, 88] (by decide +kernel) (by decide +kernel)
set_option maxRecDepth 20000 in
theorem gX3_put_X3_write : GoodIn wsX3_put (wsV RX3 117 RX3 yX3_write wsX3_write) := goodIn_app (goodIn_of _ (by decide +kernel)) ggX3_put_X3_write
set_option maxRecDepth 20000 in
theorem ggX3_put_X3_goOn : GoodIn wsX3_put wsX3_goOn := goodIn_r _ [60, 61, 56, 55, 1, 29, 30, 21, 22, 23, 5, 24, 25, 26, 27, 28, 31, 32, 33, 34, 35, 36, 37, 38, 39, 40, 41, 42, 43, 44, 45, 46, 47, 48, 49, 50, 51, 52, 53, 54, 7, 62, 63, 64, 65, 66, 67, 68, 69, 70, 71, 72, 73, 74, 75, 76, 77, 78, 79, 80, 81, 82, 83, 84, 85, 86, 87, 88] (by decide +kernel) (by decide +kernel)
set_option maxRecDepth 20000 in
theorem gX3_put_X3_goOn : GoodIn wsX3_put (wsV RX3 121 RX3 yX3_goOn wsX3_goOn) := goodIn_app (goodIn_of _ (by decide +kernel)) ggX3_put_X3_goOn
theorem dX3_put_0 : decode cX3_put 0 = .ok (.aload_n 0, 1) := by decide +kernel
theorem dX3_put_1 : decode cX3_put 1 = .ok (.iload_n 1, 1) := by decide +kernel
theorem dX3_put_2 : decode cX3_put 2 = .ok (.invokevirtual 111, 3) := by decide +kernel
theorem dX3_put_5 : decode cX3_put 5 = .ok (.ifCond .eq 14, 3) := by decide +kernel
theorem dX3_put_8 : decode cX3_put 8 = .ok (.iload_n 2, 1) := by decide +kernel
theorem dX3_put_9 : decode cX3_put 9 = .ok (.invokestatic 96, 3) := by decide +kernel
theorem dX3_put_12 : decode cX3_put 12 = .ok (.ifCond .eq 7, 3) := by decide +kernel
theorem dX3_put_15 : decode cX3_put 15 = .ok (.iconst 1, 1) := by decide +kernel
theorem dX3_put_16 : decode cX3_put 16 = .ok (.goto 4, 3) := by decide +kernel
theorem dX3_put_19 : decode cX3_put 19 = .ok (.iconst 0, 1) := by decide +kernel
theorem dX3_put_20 : decode cX3_put 20 = .ok (.istore 4, 2) := by decide +kernel
theorem dX3_put_22 : decode cX3_put 22 = .ok (.aload_n 0, 1) := by decide +kernel
theorem dX3_put_23 : decode cX3_put 23 = .ok (.iload 4, 2) := by decide +kernel
theorem dX3_put_25 : decode cX3_put 25 = .ok (.iload 4, 2) := by decide +kernel
theorem dX3_put_27 : decode cX3_put 27 = .ok (.ifCond .eq 15, 3) := by decide +kernel
theorem dX3_put_30 : decode cX3_put 30 = .ok (.aload_n 0, 1) := by decide +kernel
theorem dX3_put_31 : decode cX3_put 31 = .ok (.iload_n 1, 1) := by decide +kernel
theorem dX3_put_32 : decode cX3_put 32 = .ok (.invokevirtual 114, 3) := by decide +kernel
theorem dX3_put_35 : decode cX3_put 35 = .ok (.ifCond .eq 7, 3) := by decide +kernel
theorem dX3_put_38 : decode cX3_put 38 = .ok (.iconst 1, 1) := by decide +kernel
theorem dX3_put_39 : decode cX3_put 39 = .ok (.goto 4, 3) := by decide +kernel
theorem dX3_put_42 : decode cX3_put 42 = .ok (.iconst 0, 1) := by decide +kernel
theorem dX3_put_43 : decode cX3_put 43 = .ok (.invokevirtual 99, 3) := by decide +kernel
theorem dX3_put_46 : decode cX3_put 46 = .ok (.ifCond .eq 5, 3) := by decide +kernel
theorem dX3_put_49 : decode cX3_put 49 = .ok (.iconst 0, 1) := by decide +kernel
theorem dX3_put_50 : decode cX3_put 50 = .ok (.ireturn, 1) := by decide +kernel
theorem dX3_put_51 : decode cX3_put 51 = .ok (.aload_n 0, 1) := by decide +kernel
theorem dX3_put_52 : decode cX3_put 52 = .ok (.iload_n 1, 1) := by decide +kernel
theorem dX3_put_53 : decode cX3_put 53 = .ok (.iload_n 2, 1) := by decide +kernel
theorem dX3_put_54 : decode cX3_put 54 = .ok (.iload_n 3, 1) := by decide +kernel
theorem dX3_put_55 : decode cX3_put 55 = .ok (.invokevirtual 117, 3) := by decide +kernel
theorem dX3_put_58 : decode cX3_put 58 = .ok (.aload_n 0, 1) := by decide +kernel
theorem dX3_put_59 : decode cX3_put 59 = .ok (.invokevirtual 121, 3) := by decide +kernel
theorem dX3_put_62 : decode cX3_put 62 = .ok (.aload_n 0, 1) := by decide +kernel
theorem dX3_put_63 : decode cX3_put 63 = .ok (.getfield 33, 3) := by decide +kernel
theorem dX3_put_66 : decode cX3_put 66 = .ok (.iload_n 1, 1) := by decide +kernel
theorem dX3_put_67 : decode cX3_put 67 = .ok (.iaload, 1) := by decide +kernel
theorem dX3_put_68 : decode cX3_put 68 = .ok (.istore 5, 2) := by decide +kernel
theorem dX3_put_70 : decode cX3_put 70 = .ok (.iload 5, 2) := by decide +kernel
theorem dX3_put_72 : decode cX3_put 72 = .ok (.ifCond .ne 7, 3) := by decide +kernel
theorem dX3_put_75 : decode cX3_put 75 = .ok (.iconst 1, 1) := by decide +kernel
theorem dX3_put_76 : decode cX3_put 76 = .ok (.goto 25, 3) := by decide +kernel
theorem dX3_put_79 : decode cX3_put 79 = .ok (.iload 5, 2) := by decide +kernel
theorem dX3_put_81 : decode cX3_put 81 = .ok (.iconst 1, 1) := by decide +kernel
theorem dX3_put_82 : decode cX3_put 82 = .ok (.if_icmp .ne 7, 3) := by decide +kernel
theorem dX3_put_85 : decode cX3_put 85 = .ok (.iconst 0, 1) := by decide +kernel
theorem dX3_put_86 : decode cX3_put 86 = .ok (.goto 15, 3) := by decide +kernel
theorem dX3_put_89 : decode cX3_put 89 = .ok (.iload 5, 2) := by decide +kernel
theorem dX3_put_91 : decode cX3_put 91 = .ok (.iconst 2, 1) := by decide +kernel
theorem dX3_put_92 : decode cX3_put 92 = .ok (.if_icmp .ne 7, 3) := by decide +kernel
theorem dX3_put_95 : decode cX3_put 95 = .ok (.iconst (-1), 1) := by decide +kernel
theorem dX3_put_96 : decode cX3_put 96 = .ok (.goto 5, 3) := by decide +kernel
theorem dX3_put_99 : decode cX3_put 99 = .ok (.bipush (-2), 2) := by decide +kernel
theorem dX3_put_101 : decode cX3_put 101 = .ok (.ireturn, 1) := by decide +kernel
set_option maxRecDepth 20000 in
theorem ggX3_write_X3_hasAbove : GoodIn wsX3_write wsX3_hasAbove := goodIn_r _ [15, 16, 17, 18, 36, 37, 38, 39, 40, 41, 42, 43, 44, 45, 46, 47, 48, 49, 50, 51, 52, 53, 54, 55, 56, 57, 58, 59, 60, 61, 62] (by decide +kernel) (by decide +kernel)
set_option maxRecDepth 20000 in
theorem gX3_write_X3_hasAbove : GoodIn wsX3_write (wsV RX3 124 RX3 yX3_hasAbove wsX3_hasAbove) := goodIn_app (goodIn_of _ (by decide +kernel)) ggX3_write_X3_hasAbove
set_option maxRecDepth 20000 in
theorem ggX3_write_X3_lookForRing : GoodIn wsX3_write wsX3_lookForRing := goodIn_r _ [22, 2, 1, 23, 24, 25, 14, 26, 27, 28, 29, 30, 31, 32, 5, 33, 8, 34, 35, 36, 37, 38, 39, 40, 41, 42, 43, 44, 45, 46, 47, 48, 49, 50, 51, 52, 53, 54, 55, 56, 57, 58, 59, 60, 61, 62] (by decide +kernel) (by decide +kernel)
set_option maxRecDepth 20000 in
theorem gX3_write_X3_lookForRing : GoodIn wsX3_write (wsV RX3 130 RX3 yX3_lookForRing wsX3_lookForRing) := goodIn_app (goodIn_of _ (by decide +kernel)) ggX3_write_X3_lookForRing
theorem dX3_write_0 : decode cX3_write 0 = .ok (.aload_n 0, 1) := by decide +kernel
theorem dX3_write_1 : decode cX3_write 1 = .ok (.getfield 42, 3) := by decide +kernel
theorem dX3_write_4 : decode cX3_write 4 = .ok (.iload_n 1, 1) := by decide +kernel
theorem dX3_write_5 : decode cX3_write 5 = .ok (.iconst (-1), 1) := by decide +kernel
theorem dX3_write_6 : decode cX3_write 6 = .ok (.iastore, 1) := by decide +kernel
theorem dX3_write_7 : decode cX3_write 7 = .ok (.aload_n 0, 1) := by decide +kernel
theorem dX3_write_8 : decode cX3_write 8 = .ok (.getfield 33, 3) := by decide +kernel
theorem dX3_write_11 : decode cX3_write 11 = .ok (.iload_n 1, 1) := by decide +kernel
theorem dX3_write_12 : decode cX3_write 12 = .ok (.iconst 0, 1) := by decide +kernel
theorem dX3_write_13 : decode cX3_write 13 = .ok (.iastore, 1) := by decide +kernel
theorem dX3_write_14 : decode cX3_write 14 = .ok (.aload_n 0, 1) := by decide +kernel
theorem dX3_write_15 : decode cX3_write 15 = .ok (.iload_n 2, 1) := by decide +kernel
theorem dX3_write_16 : decode cX3_write 16 = .ok (.aload_n 0, 1) := by decide +kernel
theorem dX3_write_17 : decode cX3_write 17 = .ok (.getfield 30, 3) := by decide +kernel
theorem dX3_write_20 : decode cX3_write 20 = .ok (.iload_n 1, 1) := by decide +kernel
theorem dX3_write_21 : decode cX3_write 21 = .ok (.iaload, 1) := by decide +kernel
theorem dX3_write_22 : decode cX3_write 22 = .ok (.invokevirtual 124, 3) := by decide +kernel
theorem dX3_write_25 : decode cX3_write 25 = .ok (.ifCond .eq 21, 3) := by decide +kernel
theorem dX3_write_28 : decode cX3_write 28 = .ok (.aload_n 0, 1) := by decide +kernel
theorem dX3_write_29 : decode cX3_write 29 = .ok (.getfield 33, 3) := by decide +kernel
theorem dX3_write_32 : decode cX3_write 32 = .ok (.iload_n 1, 1) := by decide +kernel
theorem dX3_write_33 : decode cX3_write 33 = .ok (.iconst 2, 1) := by decide +kernel
theorem dX3_write_34 : decode cX3_write 34 = .ok (.iastore, 1) := by decide +kernel
theorem dX3_write_35 : decode cX3_write 35 = .ok (.aload_n 0, 1) := by decide +kernel
theorem dX3_write_36 : decode cX3_write 36 = .ok (.getfield 63, 3) := by decide +kernel
theorem dX3_write_39 : decode cX3_write 39 = .ok (.iload_n 2, 1) := by decide +kernel
theorem dX3_write_40 : decode cX3_write 40 = .ok (.dup2, 1) := by decide +kernel
theorem dX3_write_41 : decode cX3_write 41 = .ok (.iaload, 1) := by decide +kernel
theorem dX3_write_42 : decode cX3_write 42 = .ok (.iconst 1, 1) := by decide +kernel
theorem dX3_write_43 : decode cX3_write 43 = .ok (.iadd, 1) := by decide +kernel
theorem dX3_write_44 : decode cX3_write 44 = .ok (.iastore, 1) := by decide +kernel
theorem dX3_write_45 : decode cX3_write 45 = .ok (.return_, 1) := by decide +kernel
theorem dX3_write_46 : decode cX3_write 46 = .ok (.aload_n 0, 1) := by decide +kernel
theorem dX3_write_47 : decode cX3_write 47 = .ok (.getfield 54, 3) := by decide +kernel
theorem dX3_write_50 : decode cX3_write 50 = .ok (.iload_n 2, 1) := by decide +kernel
theorem dX3_write_51 : decode cX3_write 51 = .ok (.iaload, 1) := by decide +kernel
theorem dX3_write_52 : decode cX3_write 52 = .ok (.ifCond .lt 72, 3) := by decide +kernel
theorem dX3_write_55 : decode cX3_write 55 = .ok (.aload_n 0, 1) := by decide +kernel
theorem dX3_write_56 : decode cX3_write 56 = .ok (.getfield 54, 3) := by decide +kernel
theorem dX3_write_59 : decode cX3_write 59 = .ok (.iload_n 2, 1) := by decide +kernel
theorem dX3_write_60 : decode cX3_write 60 = .ok (.iaload, 1) := by decide +kernel
theorem dX3_write_61 : decode cX3_write 61 = .ok (.iload_n 1, 1) := by decide +kernel
theorem dX3_write_62 : decode cX3_write 62 = .ok (.if_icmp .eq 62, 3) := by decide +kernel
theorem dX3_write_65 : decode cX3_write 65 = .ok (.aload_n 0, 1) := by decide +kernel
theorem dX3_write_66 : decode cX3_write 66 = .ok (.getfield 33, 3) := by decide +kernel
theorem dX3_write_69 : decode cX3_write 69 = .ok (.iload_n 1, 1) := by decide +kernel
theorem dX3_write_70 : decode cX3_write 70 = .ok (.iconst 1, 1) := by decide +kernel
theorem dX3_write_71 : decode cX3_write 71 = .ok (.iastore, 1) := by decide +kernel
theorem dX3_write_72 : decode cX3_write 72 = .ok (.aload_n 0, 1) := by decide +kernel
theorem dX3_write_73 : decode cX3_write 73 = .ok (.getfield 42, 3) := by decide +kernel
theorem dX3_write_76 : decode cX3_write 76 = .ok (.iload_n 1, 1) := by decide +kernel
theorem dX3_write_77 : decode cX3_write 77 = .ok (.aload_n 0, 1) := by decide +kernel
theorem dX3_write_78 : decode cX3_write 78 = .ok (.getfield 54, 3) := by decide +kernel
theorem dX3_write_81 : decode cX3_write 81 = .ok (.iload_n 2, 1) := by decide +kernel
theorem dX3_write_82 : decode cX3_write 82 = .ok (.iaload, 1) := by decide +kernel
theorem dX3_write_83 : decode cX3_write 83 = .ok (.iastore, 1) := by decide +kernel
theorem dX3_write_84 : decode cX3_write 84 = .ok (.aload_n 0, 1) := by decide +kernel
theorem dX3_write_85 : decode cX3_write 85 = .ok (.getfield 45, 3) := by decide +kernel
theorem dX3_write_88 : decode cX3_write 88 = .ok (.iload_n 1, 1) := by decide +kernel
theorem dX3_write_89 : decode cX3_write 89 = .ok (.iload_n 2, 1) := by decide +kernel
theorem dX3_write_90 : decode cX3_write 90 = .ok (.iastore, 1) := by decide +kernel
theorem dX3_write_91 : decode cX3_write 91 = .ok (.aload_n 0, 1) := by decide +kernel
theorem dX3_write_92 : decode cX3_write 92 = .ok (.getfield 48, 3) := by decide +kernel
theorem dX3_write_95 : decode cX3_write 95 = .ok (.iload_n 1, 1) := by decide +kernel
theorem dX3_write_96 : decode cX3_write 96 = .ok (.iload_n 3, 1) := by decide +kernel
theorem dX3_write_97 : decode cX3_write 97 = .ok (.bastore, 1) := by decide +kernel
theorem dX3_write_98 : decode cX3_write 98 = .ok (.aload_n 0, 1) := by decide +kernel
theorem dX3_write_99 : decode cX3_write 99 = .ok (.getfield 51, 3) := by decide +kernel
theorem dX3_write_102 : decode cX3_write 102 = .ok (.iload_n 1, 1) := by decide +kernel
theorem dX3_write_103 : decode cX3_write 103 = .ok (.aload_n 0, 1) := by decide +kernel
theorem dX3_write_104 : decode cX3_write 104 = .ok (.getfield 127, 3) := by decide +kernel
theorem dX3_write_107 : decode cX3_write 107 = .ok (.iastore, 1) := by decide +kernel
theorem dX3_write_108 : decode cX3_write 108 = .ok (.aload_n 0, 1) := by decide +kernel
theorem dX3_write_109 : decode cX3_write 109 = .ok (.dup, 1) := by decide +kernel
theorem dX3_write_110 : decode cX3_write 110 = .ok (.getfield 127, 3) := by decide +kernel
theorem dX3_write_113 : decode cX3_write 113 = .ok (.iconst 1, 1) := by decide +kernel
theorem dX3_write_114 : decode cX3_write 114 = .ok (.iadd, 1) := by decide +kernel
theorem dX3_write_115 : decode cX3_write 115 = .ok (.putfield 127, 3) := by decide +kernel
theorem dX3_write_118 : decode cX3_write 118 = .ok (.aload_n 0, 1) := by decide +kernel
theorem dX3_write_119 : decode cX3_write 119 = .ok (.iload_n 1, 1) := by decide +kernel
theorem dX3_write_120 : decode cX3_write 120 = .ok (.invokevirtual 130, 3) := by decide +kernel
theorem dX3_write_123 : decode cX3_write 123 = .ok (.return_, 1) := by decide +kernel
theorem dX3_write_124 : decode cX3_write 124 = .ok (.aload_n 0, 1) := by decide +kernel
theorem dX3_write_125 : decode cX3_write 125 = .ok (.getfield 54, 3) := by decide +kernel
theorem dX3_write_128 : decode cX3_write 128 = .ok (.iload_n 2, 1) := by decide +kernel
theorem dX3_write_129 : decode cX3_write 129 = .ok (.iload_n 1, 1) := by decide +kernel
theorem dX3_write_130 : decode cX3_write 130 = .ok (.iastore, 1) := by decide +kernel
theorem dX3_write_131 : decode cX3_write 131 = .ok (.aload_n 0, 1) := by decide +kernel
theorem dX3_write_132 : decode cX3_write 132 = .ok (.getfield 39, 3) := by decide +kernel
theorem dX3_write_135 : decode cX3_write 135 = .ok (.sipush 200, 3) := by decide +kernel
theorem dX3_write_138 : decode cX3_write 138 = .ok (.iload_n 1, 1) := by decide +kernel
theorem dX3_write_139 : decode cX3_write 139 = .ok (.imul, 1) := by decide +kernel
theorem dX3_write_140 : decode cX3_write 140 = .ok (.iload_n 2, 1) := by decide +kernel
theorem dX3_write_141 : decode cX3_write 141 = .ok (.iadd, 1) := by decide +kernel
theorem dX3_write_142 : decode cX3_write 142 = .ok (.iload_n 3, 1) := by decide +kernel
theorem dX3_write_143 : decode cX3_write 143 = .ok (.ifCond .eq 7, 3) := by decide +kernel
theorem dX3_write_146 : decode cX3_write 146 = .ok (.iconst 2, 1) := by decide +kernel
theorem dX3_write_147 : decode cX3_write 147 = .ok (.goto 4, 3) := by decide +kernel
theorem dX3_write_150 : decode cX3_write 150 = .ok (.iconst 1, 1) := by decide +kernel
theorem dX3_write_151 : decode cX3_write 151 = .ok (.iastore, 1) := by decide +kernel
theorem dX3_write_152 : decode cX3_write 152 = .ok (.return_, 1) := by decide +kernel
set_option maxRecDepth 20000 in
theorem ggX3_lookForRing_X3_takeRing : GoodIn wsX3_lookForRing wsX3_takeRing := goodIn_r _ [7, 8, 9, 2, 10, 11, 12, 6, 13, 1, 14, 15, 16, 17, 18, 19, 20, 21, 22, 23, 24, 25, 26, 27, 28, 29, 30, 31, 32, 33, 34, 35, 36, 37, 38, 39, 40, 41, 42, 43, 44, 45] (by decide +kernel) (by decide +kernel)
set_option maxRecDepth 20000 in
theorem gX3_lookForRing_X3_takeRing : GoodIn wsX3_lookForRing (wsV RX3 134 RX3 yX3_takeRing wsX3_takeRing) := goodIn_app (goodIn_of _ (by decide +kernel)) ggX3_lookForRing_X3_takeRing
theorem dX3_lookForRing_0 : decode cX3_lookForRing 0 = .ok (.iconst 0, 1) := by decide +kernel
theorem dX3_lookForRing_1 : decode cX3_lookForRing 1 = .ok (.istore_n 2, 1) := by decide +kernel
theorem dX3_lookForRing_2 : decode cX3_lookForRing 2 = .ok (.iload_n 1, 1) := by decide +kernel
theorem dX3_lookForRing_3 : decode cX3_lookForRing 3 = .ok (.istore_n 3, 1) := by decide +kernel
theorem dX3_lookForRing_4 : decode cX3_lookForRing 4 = .ok (.aload_n 0, 1) := by decide +kernel
theorem dX3_lookForRing_5 : decode cX3_lookForRing 5 = .ok (.getfield 33, 3) := by decide +kernel
theorem dX3_lookForRing_8 : decode cX3_lookForRing 8 = .ok (.iload_n 3, 1) := by decide +kernel
theorem dX3_lookForRing_9 : decode cX3_lookForRing 9 = .ok (.iaload, 1) := by decide +kernel
theorem dX3_lookForRing_10 : decode cX3_lookForRing 10 = .ok (.iconst 1, 1) := by decide +kernel
theorem dX3_lookForRing_11 : decode cX3_lookForRing 11 = .ok (.if_icmp .ne 31, 3) := by decide +kernel
theorem dX3_lookForRing_14 : decode cX3_lookForRing 14 = .ok (.iload_n 2, 1) := by decide +kernel
theorem dX3_lookForRing_15 : decode cX3_lookForRing 15 = .ok (.bipush 60, 2) := by decide +kernel
theorem dX3_lookForRing_17 : decode cX3_lookForRing 17 = .ok (.if_icmp .ge 25, 3) := by decide +kernel
theorem dX3_lookForRing_20 : decode cX3_lookForRing 20 = .ok (.aload_n 0, 1) := by decide +kernel
theorem dX3_lookForRing_21 : decode cX3_lookForRing 21 = .ok (.getfield 42, 3) := by decide +kernel
theorem dX3_lookForRing_24 : decode cX3_lookForRing 24 = .ok (.iload_n 3, 1) := by decide +kernel
theorem dX3_lookForRing_25 : decode cX3_lookForRing 25 = .ok (.iaload, 1) := by decide +kernel
theorem dX3_lookForRing_26 : decode cX3_lookForRing 26 = .ok (.istore_n 3, 1) := by decide +kernel
theorem dX3_lookForRing_27 : decode cX3_lookForRing 27 = .ok (.iinc 2 1, 3) := by decide +kernel
theorem dX3_lookForRing_30 : decode cX3_lookForRing 30 = .ok (.iload_n 3, 1) := by decide +kernel
theorem dX3_lookForRing_31 : decode cX3_lookForRing 31 = .ok (.iload_n 1, 1) := by decide +kernel
theorem dX3_lookForRing_32 : decode cX3_lookForRing 32 = .ok (.if_icmp .ne (-28), 3) := by decide +kernel
theorem dX3_lookForRing_35 : decode cX3_lookForRing 35 = .ok (.aload_n 0, 1) := by decide +kernel
theorem dX3_lookForRing_36 : decode cX3_lookForRing 36 = .ok (.iload_n 1, 1) := by decide +kernel
theorem dX3_lookForRing_37 : decode cX3_lookForRing 37 = .ok (.iload_n 2, 1) := by decide +kernel
theorem dX3_lookForRing_38 : decode cX3_lookForRing 38 = .ok (.invokevirtual 134, 3) := by decide +kernel
theorem dX3_lookForRing_41 : decode cX3_lookForRing 41 = .ok (.return_, 1) := by decide +kernel
theorem dX3_lookForRing_42 : decode cX3_lookForRing 42 = .ok (.return_, 1) := by decide +kernel
set_option maxRecDepth 20000 in
theorem ggX3_takeRing_X3_end : GoodIn wsX3_takeRing wsX3_end := goodIn_r _ [8, 9, 10, 11, 3, 12, 13, 14, 15, 16, 17, 18, 19, 20, 21, 22, 23, 24, 25, 26, 27, 28, 29, 30, 31, 32, 33, 34, 35, 36, 37, 38, 39, 40, 41] (by decide +kernel) (by decide +kernel)
set_option maxRecDepth 20000 in
theorem gX3_takeRing_X3_end : GoodIn wsX3_takeRing (wsV RX3 141 RX3 yX3_end wsX3_end) := goodIn_app (goodIn_of _ (by decide +kernel)) ggX3_takeRing_X3_end
theorem dX3_takeRing_0 : decode cX3_takeRing 0 = .ok (.aload_n 0, 1) := by decide +kernel
theorem dX3_takeRing_1 : decode cX3_takeRing 1 = .ok (.iconst 0, 1) := by decide +kernel
theorem dX3_takeRing_2 : decode cX3_takeRing 2 = .ok (.putfield 138, 3) := by decide +kernel
theorem dX3_takeRing_5 : decode cX3_takeRing 5 = .ok (.iload_n 1, 1) := by decide +kernel
theorem dX3_takeRing_6 : decode cX3_takeRing 6 = .ok (.istore_n 3, 1) := by decide +kernel
theorem dX3_takeRing_7 : decode cX3_takeRing 7 = .ok (.iconst 0, 1) := by decide +kernel
theorem dX3_takeRing_8 : decode cX3_takeRing 8 = .ok (.istore 4, 2) := by decide +kernel
theorem dX3_takeRing_10 : decode cX3_takeRing 10 = .ok (.iload 4, 2) := by decide +kernel
theorem dX3_takeRing_12 : decode cX3_takeRing 12 = .ok (.iload_n 2, 1) := by decide +kernel
theorem dX3_takeRing_13 : decode cX3_takeRing 13 = .ok (.if_icmp .ge 80, 3) := by decide +kernel
theorem dX3_takeRing_16 : decode cX3_takeRing 16 = .ok (.aload_n 0, 1) := by decide +kernel
theorem dX3_takeRing_17 : decode cX3_takeRing 17 = .ok (.getfield 138, 3) := by decide +kernel
theorem dX3_takeRing_20 : decode cX3_takeRing 20 = .ok (.istore 5, 2) := by decide +kernel
theorem dX3_takeRing_22 : decode cX3_takeRing 22 = .ok (.iload 5, 2) := by decide +kernel
theorem dX3_takeRing_24 : decode cX3_takeRing 24 = .ok (.ifCond .le 38, 3) := by decide +kernel
theorem dX3_takeRing_27 : decode cX3_takeRing 27 = .ok (.aload_n 0, 1) := by decide +kernel
theorem dX3_takeRing_28 : decode cX3_takeRing 28 = .ok (.getfield 60, 3) := by decide +kernel
theorem dX3_takeRing_31 : decode cX3_takeRing 31 = .ok (.iload 5, 2) := by decide +kernel
theorem dX3_takeRing_33 : decode cX3_takeRing 33 = .ok (.iconst 1, 1) := by decide +kernel
theorem dX3_takeRing_34 : decode cX3_takeRing 34 = .ok (.isub, 1) := by decide +kernel
theorem dX3_takeRing_35 : decode cX3_takeRing 35 = .ok (.iaload, 1) := by decide +kernel
theorem dX3_takeRing_36 : decode cX3_takeRing 36 = .ok (.iload_n 3, 1) := by decide +kernel
theorem dX3_takeRing_37 : decode cX3_takeRing 37 = .ok (.if_icmp .le 25, 3) := by decide +kernel
theorem dX3_takeRing_40 : decode cX3_takeRing 40 = .ok (.aload_n 0, 1) := by decide +kernel
theorem dX3_takeRing_41 : decode cX3_takeRing 41 = .ok (.getfield 60, 3) := by decide +kernel
theorem dX3_takeRing_44 : decode cX3_takeRing 44 = .ok (.iload 5, 2) := by decide +kernel
theorem dX3_takeRing_46 : decode cX3_takeRing 46 = .ok (.aload_n 0, 1) := by decide +kernel
theorem dX3_takeRing_47 : decode cX3_takeRing 47 = .ok (.getfield 60, 3) := by decide +kernel
theorem dX3_takeRing_50 : decode cX3_takeRing 50 = .ok (.iload 5, 2) := by decide +kernel
theorem dX3_takeRing_52 : decode cX3_takeRing 52 = .ok (.iconst 1, 1) := by decide +kernel
theorem dX3_takeRing_53 : decode cX3_takeRing 53 = .ok (.isub, 1) := by decide +kernel
theorem dX3_takeRing_54 : decode cX3_takeRing 54 = .ok (.iaload, 1) := by decide +kernel
theorem dX3_takeRing_55 : decode cX3_takeRing 55 = .ok (.iastore, 1) := by decide +kernel
theorem dX3_takeRing_56 : decode cX3_takeRing 56 = .ok (.iinc 5 (-1), 3) := by decide +kernel
theorem dX3_takeRing_59 : decode cX3_takeRing 59 = .ok (.goto (-37), 3) := by decide +kernel
theorem dX3_takeRing_62 : decode cX3_takeRing 62 = .ok (.aload_n 0, 1) := by decide +kernel
theorem dX3_takeRing_63 : decode cX3_takeRing 63 = .ok (.getfield 60, 3) := by decide +kernel
theorem dX3_takeRing_66 : decode cX3_takeRing 66 = .ok (.iload 5, 2) := by decide +kernel
theorem dX3_takeRing_68 : decode cX3_takeRing 68 = .ok (.iload_n 3, 1) := by decide +kernel
theorem dX3_takeRing_69 : decode cX3_takeRing 69 = .ok (.iastore, 1) := by decide +kernel
theorem dX3_takeRing_70 : decode cX3_takeRing 70 = .ok (.aload_n 0, 1) := by decide +kernel
theorem dX3_takeRing_71 : decode cX3_takeRing 71 = .ok (.dup, 1) := by decide +kernel
theorem dX3_takeRing_72 : decode cX3_takeRing 72 = .ok (.getfield 138, 3) := by decide +kernel
theorem dX3_takeRing_75 : decode cX3_takeRing 75 = .ok (.iconst 1, 1) := by decide +kernel
theorem dX3_takeRing_76 : decode cX3_takeRing 76 = .ok (.iadd, 1) := by decide +kernel
theorem dX3_takeRing_77 : decode cX3_takeRing 77 = .ok (.putfield 138, 3) := by decide +kernel
theorem dX3_takeRing_80 : decode cX3_takeRing 80 = .ok (.aload_n 0, 1) := by decide +kernel
theorem dX3_takeRing_81 : decode cX3_takeRing 81 = .ok (.getfield 42, 3) := by decide +kernel
theorem dX3_takeRing_84 : decode cX3_takeRing 84 = .ok (.iload_n 3, 1) := by decide +kernel
theorem dX3_takeRing_85 : decode cX3_takeRing 85 = .ok (.iaload, 1) := by decide +kernel
theorem dX3_takeRing_86 : decode cX3_takeRing 86 = .ok (.istore_n 3, 1) := by decide +kernel
theorem dX3_takeRing_87 : decode cX3_takeRing 87 = .ok (.iinc 4 1, 3) := by decide +kernel
theorem dX3_takeRing_90 : decode cX3_takeRing 90 = .ok (.goto (-80), 3) := by decide +kernel
theorem dX3_takeRing_93 : decode cX3_takeRing 93 = .ok (.aload_n 0, 1) := by decide +kernel
theorem dX3_takeRing_94 : decode cX3_takeRing 94 = .ok (.aload_n 0, 1) := by decide +kernel
theorem dX3_takeRing_95 : decode cX3_takeRing 95 = .ok (.getfield 60, 3) := by decide +kernel
theorem dX3_takeRing_98 : decode cX3_takeRing 98 = .ok (.iload_n 2, 1) := by decide +kernel
theorem dX3_takeRing_99 : decode cX3_takeRing 99 = .ok (.iconst 1, 1) := by decide +kernel
theorem dX3_takeRing_100 : decode cX3_takeRing 100 = .ok (.isub, 1) := by decide +kernel
theorem dX3_takeRing_101 : decode cX3_takeRing 101 = .ok (.iaload, 1) := by decide +kernel
theorem dX3_takeRing_102 : decode cX3_takeRing 102 = .ok (.iconst 4, 1) := by decide +kernel
theorem dX3_takeRing_103 : decode cX3_takeRing 103 = .ok (.invokevirtual 141, 3) := by decide +kernel
theorem dX3_takeRing_106 : decode cX3_takeRing 106 = .ok (.return_, 1) := by decide +kernel
theorem dX3_end_0 : decode cX3_end 0 = .ok (.aload_n 0, 1) := by decide +kernel
theorem dX3_end_1 : decode cX3_end 1 = .ok (.getfield 33, 3) := by decide +kernel
theorem dX3_end_4 : decode cX3_end 4 = .ok (.iload_n 1, 1) := by decide +kernel
theorem dX3_end_5 : decode cX3_end 5 = .ok (.iload_n 2, 1) := by decide +kernel
theorem dX3_end_6 : decode cX3_end 6 = .ok (.iastore, 1) := by decide +kernel
theorem dX3_end_7 : decode cX3_end 7 = .ok (.iconst 0, 1) := by decide +kernel
theorem dX3_end_8 : decode cX3_end 8 = .ok (.istore_n 3, 1) := by decide +kernel
theorem dX3_end_9 : decode cX3_end 9 = .ok (.iload_n 3, 1) := by decide +kernel
theorem dX3_end_10 : decode cX3_end 10 = .ok (.sipush 200, 3) := by decide +kernel
theorem dX3_end_13 : decode cX3_end 13 = .ok (.if_icmp .ge 26, 3) := by decide +kernel
theorem dX3_end_16 : decode cX3_end 16 = .ok (.aload_n 0, 1) := by decide +kernel
theorem dX3_end_17 : decode cX3_end 17 = .ok (.getfield 54, 3) := by decide +kernel
theorem dX3_end_20 : decode cX3_end 20 = .ok (.iload_n 3, 1) := by decide +kernel
theorem dX3_end_21 : decode cX3_end 21 = .ok (.iaload, 1) := by decide +kernel
theorem dX3_end_22 : decode cX3_end 22 = .ok (.iload_n 1, 1) := by decide +kernel
theorem dX3_end_23 : decode cX3_end 23 = .ok (.if_icmp .ne 10, 3) := by decide +kernel
theorem dX3_end_26 : decode cX3_end 26 = .ok (.aload_n 0, 1) := by decide +kernel
theorem dX3_end_27 : decode cX3_end 27 = .ok (.getfield 54, 3) := by decide +kernel
theorem dX3_end_30 : decode cX3_end 30 = .ok (.iload_n 3, 1) := by decide +kernel
theorem dX3_end_31 : decode cX3_end 31 = .ok (.iconst (-1), 1) := by decide +kernel
theorem dX3_end_32 : decode cX3_end 32 = .ok (.iastore, 1) := by decide +kernel
theorem dX3_end_33 : decode cX3_end 33 = .ok (.iinc 3 1, 3) := by decide +kernel
theorem dX3_end_36 : decode cX3_end 36 = .ok (.goto (-27), 3) := by decide +kernel
theorem dX3_end_39 : decode cX3_end 39 = .ok (.iconst (-1), 1) := by decide +kernel
theorem dX3_end_40 : decode cX3_end 40 = .ok (.istore_n 3, 1) := by decide +kernel
theorem dX3_end_41 : decode cX3_end 41 = .ok (.iconst 1, 1) := by decide +kernel
theorem dX3_end_42 : decode cX3_end 42 = .ok (.istore 4, 2) := by decide +kernel
theorem dX3_end_44 : decode cX3_end 44 = .ok (.iload 4, 2) := by decide +kernel
theorem dX3_end_46 : decode cX3_end 46 = .ok (.ifCond .eq 135, 3) := by decide +kernel
theorem dX3_end_49 : decode cX3_end 49 = .ok (.iconst (-1), 1) := by decide +kernel
theorem dX3_end_50 : decode cX3_end 50 = .ok (.istore 5, 2) := by decide +kernel
theorem dX3_end_52 : decode cX3_end 52 = .ok (.iconst 0, 1) := by decide +kernel
theorem dX3_end_53 : decode cX3_end 53 = .ok (.istore 6, 2) := by decide +kernel
theorem dX3_end_55 : decode cX3_end 55 = .ok (.iload 6, 2) := by decide +kernel
theorem dX3_end_57 : decode cX3_end 57 = .ok (.aload_n 0, 1) := by decide +kernel
theorem dX3_end_58 : decode cX3_end 58 = .ok (.getfield 72, 3) := by decide +kernel
theorem dX3_end_61 : decode cX3_end 61 = .ok (.if_icmp .ge 68, 3) := by decide +kernel
theorem dX3_end_64 : decode cX3_end 64 = .ok (.aload_n 0, 1) := by decide +kernel
theorem dX3_end_65 : decode cX3_end 65 = .ok (.getfield 33, 3) := by decide +kernel
theorem dX3_end_68 : decode cX3_end 68 = .ok (.iload 6, 2) := by decide +kernel
theorem dX3_end_70 : decode cX3_end 70 = .ok (.iaload, 1) := by decide +kernel
theorem dX3_end_71 : decode cX3_end 71 = .ok (.iconst 1, 1) := by decide +kernel
theorem dX3_end_72 : decode cX3_end 72 = .ok (.if_icmp .ne 51, 3) := by decide +kernel
theorem dX3_end_75 : decode cX3_end 75 = .ok (.aload_n 0, 1) := by decide +kernel
theorem dX3_end_76 : decode cX3_end 76 = .ok (.getfield 42, 3) := by decide +kernel
theorem dX3_end_79 : decode cX3_end 79 = .ok (.iload 6, 2) := by decide +kernel
theorem dX3_end_81 : decode cX3_end 81 = .ok (.iaload, 1) := by decide +kernel
theorem dX3_end_82 : decode cX3_end 82 = .ok (.iload_n 1, 1) := by decide +kernel
theorem dX3_end_83 : decode cX3_end 83 = .ok (.if_icmp .ne 40, 3) := by decide +kernel
theorem dX3_end_86 : decode cX3_end 86 = .ok (.aload_n 0, 1) := by decide +kernel
theorem dX3_end_87 : decode cX3_end 87 = .ok (.getfield 51, 3) := by decide +kernel
theorem dX3_end_90 : decode cX3_end 90 = .ok (.iload 6, 2) := by decide +kernel
theorem dX3_end_92 : decode cX3_end 92 = .ok (.iaload, 1) := by decide +kernel
theorem dX3_end_93 : decode cX3_end 93 = .ok (.iload_n 3, 1) := by decide +kernel
theorem dX3_end_94 : decode cX3_end 94 = .ok (.if_icmp .le 29, 3) := by decide +kernel
theorem dX3_end_97 : decode cX3_end 97 = .ok (.iload 5, 2) := by decide +kernel
theorem dX3_end_99 : decode cX3_end 99 = .ok (.ifCond .lt 20, 3) := by decide +kernel
theorem dX3_end_102 : decode cX3_end 102 = .ok (.aload_n 0, 1) := by decide +kernel
theorem dX3_end_103 : decode cX3_end 103 = .ok (.getfield 51, 3) := by decide +kernel
theorem dX3_end_106 : decode cX3_end 106 = .ok (.iload 6, 2) := by decide +kernel
theorem dX3_end_108 : decode cX3_end 108 = .ok (.iaload, 1) := by decide +kernel
theorem dX3_end_109 : decode cX3_end 109 = .ok (.aload_n 0, 1) := by decide +kernel
theorem dX3_end_110 : decode cX3_end 110 = .ok (.getfield 51, 3) := by decide +kernel
theorem dX3_end_113 : decode cX3_end 113 = .ok (.iload 5, 2) := by decide +kernel
theorem dX3_end_115 : decode cX3_end 115 = .ok (.iaload, 1) := by decide +kernel
theorem dX3_end_116 : decode cX3_end 116 = .ok (.if_icmp .ge 7, 3) := by decide +kernel
theorem dX3_end_119 : decode cX3_end 119 = .ok (.iload 6, 2) := by decide +kernel
theorem dX3_end_121 : decode cX3_end 121 = .ok (.istore 5, 2) := by decide +kernel
theorem dX3_end_123 : decode cX3_end 123 = .ok (.iinc 6 1, 3) := by decide +kernel
theorem dX3_end_126 : decode cX3_end 126 = .ok (.goto (-71), 3) := by decide +kernel
theorem dX3_end_129 : decode cX3_end 129 = .ok (.iload 5, 2) := by decide +kernel
theorem dX3_end_131 : decode cX3_end 131 = .ok (.ifCond .lt 7, 3) := by decide +kernel
theorem dX3_end_134 : decode cX3_end 134 = .ok (.iconst 1, 1) := by decide +kernel
theorem dX3_end_135 : decode cX3_end 135 = .ok (.goto 4, 3) := by decide +kernel
theorem dX3_end_138 : decode cX3_end 138 = .ok (.iconst 0, 1) := by decide +kernel
theorem dX3_end_139 : decode cX3_end 139 = .ok (.istore 4, 2) := by decide +kernel
theorem dX3_end_141 : decode cX3_end 141 = .ok (.iload 4, 2) := by decide +kernel
theorem dX3_end_143 : decode cX3_end 143 = .ok (.ifCond .ne 6, 3) := by decide +kernel
theorem dX3_end_146 : decode cX3_end 146 = .ok (.goto (-102), 3) := by decide +kernel
theorem dX3_end_149 : decode cX3_end 149 = .ok (.aload_n 0, 1) := by decide +kernel
theorem dX3_end_150 : decode cX3_end 150 = .ok (.getfield 51, 3) := by decide +kernel
theorem dX3_end_153 : decode cX3_end 153 = .ok (.iload 5, 2) := by decide +kernel
theorem dX3_end_155 : decode cX3_end 155 = .ok (.iaload, 1) := by decide +kernel
theorem dX3_end_156 : decode cX3_end 156 = .ok (.istore_n 3, 1) := by decide +kernel
theorem dX3_end_157 : decode cX3_end 157 = .ok (.aload_n 0, 1) := by decide +kernel
theorem dX3_end_158 : decode cX3_end 158 = .ok (.getfield 57, 3) := by decide +kernel
theorem dX3_end_161 : decode cX3_end 161 = .ok (.aload_n 0, 1) := by decide +kernel
theorem dX3_end_162 : decode cX3_end 162 = .ok (.getfield 144, 3) := by decide +kernel
theorem dX3_end_165 : decode cX3_end 165 = .ok (.iload 5, 2) := by decide +kernel
theorem dX3_end_167 : decode cX3_end 167 = .ok (.iastore, 1) := by decide +kernel
theorem dX3_end_168 : decode cX3_end 168 = .ok (.aload_n 0, 1) := by decide +kernel
theorem dX3_end_169 : decode cX3_end 169 = .ok (.dup, 1) := by decide +kernel
theorem dX3_end_170 : decode cX3_end 170 = .ok (.getfield 144, 3) := by decide +kernel
theorem dX3_end_173 : decode cX3_end 173 = .ok (.iconst 1, 1) := by decide +kernel
theorem dX3_end_174 : decode cX3_end 174 = .ok (.iadd, 1) := by decide +kernel
theorem dX3_end_175 : decode cX3_end 175 = .ok (.putfield 144, 3) := by decide +kernel
theorem dX3_end_178 : decode cX3_end 178 = .ok (.goto (-134), 3) := by decide +kernel
theorem dX3_end_181 : decode cX3_end 181 = .ok (.return_, 1) := by decide +kernel
set_option maxRecDepth 20000 in
theorem ggX3_goOn_X3_write : GoodIn wsX3_goOn wsX3_write := goodIn_r _ [11, 12, 4, 13, 14, 15, 5, 6, 16, 17, 18, 19, 20, 21, 10, 22, 23, 24, 25, 26, 27, 28, 29, 30, 31, 32, 33, 34, 35, 36, 37, 38, 39, 40, 3, 2, 41, 42, 43, 44, 45, 46, 47, 48, 49, 50, 51, 52, 53, 54, 55, 56, 57, 58, 59, 60, 61, 62, 63, 64, 65, 66, 67] (by decide +kernel) (by decide +kernel)
set_option maxRecDepth 20000 in
theorem gX3_goOn_X3_write : GoodIn wsX3_goOn (wsV RX3 117 RX3 yX3_write wsX3_write) := goodIn_app (goodIn_of _ (by decide +kernel)) ggX3_goOn_X3_write
theorem dX3_goOn_0 : decode cX3_goOn 0 = .ok (.aload_n 0, 1) := by decide +kernel
theorem dX3_goOn_1 : decode cX3_goOn 1 = .ok (.getfield 147, 3) := by decide +kernel
theorem dX3_goOn_4 : decode cX3_goOn 4 = .ok (.aload_n 0, 1) := by decide +kernel
theorem dX3_goOn_5 : decode cX3_goOn 5 = .ok (.getfield 144, 3) := by decide +kernel
theorem dX3_goOn_8 : decode cX3_goOn 8 = .ok (.if_icmp .ge 53, 3) := by decide +kernel
theorem dX3_goOn_11 : decode cX3_goOn 11 = .ok (.aload_n 0, 1) := by decide +kernel
theorem dX3_goOn_12 : decode cX3_goOn 12 = .ok (.getfield 57, 3) := by decide +kernel
theorem dX3_goOn_15 : decode cX3_goOn 15 = .ok (.aload_n 0, 1) := by decide +kernel
theorem dX3_goOn_16 : decode cX3_goOn 16 = .ok (.getfield 147, 3) := by decide +kernel
theorem dX3_goOn_19 : decode cX3_goOn 19 = .ok (.iaload, 1) := by decide +kernel
theorem dX3_goOn_20 : decode cX3_goOn 20 = .ok (.istore_n 1, 1) := by decide +kernel
theorem dX3_goOn_21 : decode cX3_goOn 21 = .ok (.aload_n 0, 1) := by decide +kernel
theorem dX3_goOn_22 : decode cX3_goOn 22 = .ok (.dup, 1) := by decide +kernel
theorem dX3_goOn_23 : decode cX3_goOn 23 = .ok (.getfield 147, 3) := by decide +kernel
theorem dX3_goOn_26 : decode cX3_goOn 26 = .ok (.iconst 1, 1) := by decide +kernel
theorem dX3_goOn_27 : decode cX3_goOn 27 = .ok (.iadd, 1) := by decide +kernel
theorem dX3_goOn_28 : decode cX3_goOn 28 = .ok (.putfield 147, 3) := by decide +kernel
theorem dX3_goOn_31 : decode cX3_goOn 31 = .ok (.aload_n 0, 1) := by decide +kernel
theorem dX3_goOn_32 : decode cX3_goOn 32 = .ok (.getfield 33, 3) := by decide +kernel
theorem dX3_goOn_35 : decode cX3_goOn 35 = .ok (.iload_n 1, 1) := by decide +kernel
theorem dX3_goOn_36 : decode cX3_goOn 36 = .ok (.iaload, 1) := by decide +kernel
theorem dX3_goOn_37 : decode cX3_goOn 37 = .ok (.iconst 1, 1) := by decide +kernel
theorem dX3_goOn_38 : decode cX3_goOn 38 = .ok (.if_icmp .ne 20, 3) := by decide +kernel
theorem dX3_goOn_41 : decode cX3_goOn 41 = .ok (.aload_n 0, 1) := by decide +kernel
theorem dX3_goOn_42 : decode cX3_goOn 42 = .ok (.iload_n 1, 1) := by decide +kernel
theorem dX3_goOn_43 : decode cX3_goOn 43 = .ok (.aload_n 0, 1) := by decide +kernel
theorem dX3_goOn_44 : decode cX3_goOn 44 = .ok (.getfield 45, 3) := by decide +kernel
theorem dX3_goOn_47 : decode cX3_goOn 47 = .ok (.iload_n 1, 1) := by decide +kernel
theorem dX3_goOn_48 : decode cX3_goOn 48 = .ok (.iaload, 1) := by decide +kernel
theorem dX3_goOn_49 : decode cX3_goOn 49 = .ok (.aload_n 0, 1) := by decide +kernel
theorem dX3_goOn_50 : decode cX3_goOn 50 = .ok (.getfield 48, 3) := by decide +kernel
theorem dX3_goOn_53 : decode cX3_goOn 53 = .ok (.iload_n 1, 1) := by decide +kernel
theorem dX3_goOn_54 : decode cX3_goOn 54 = .ok (.baload, 1) := by decide +kernel
theorem dX3_goOn_55 : decode cX3_goOn 55 = .ok (.invokevirtual 117, 3) := by decide +kernel
theorem dX3_goOn_58 : decode cX3_goOn 58 = .ok (.goto (-58), 3) := by decide +kernel
theorem dX3_goOn_61 : decode cX3_goOn 61 = .ok (.aload_n 0, 1) := by decide +kernel
theorem dX3_goOn_62 : decode cX3_goOn 62 = .ok (.iconst 0, 1) := by decide +kernel
theorem dX3_goOn_63 : decode cX3_goOn 63 = .ok (.putfield 147, 3) := by decide +kernel
theorem dX3_goOn_66 : decode cX3_goOn 66 = .ok (.aload_n 0, 1) := by decide +kernel
theorem dX3_goOn_67 : decode cX3_goOn 67 = .ok (.iconst 0, 1) := by decide +kernel
theorem dX3_goOn_68 : decode cX3_goOn 68 = .ok (.putfield 144, 3) := by decide +kernel
theorem dX3_goOn_71 : decode cX3_goOn 71 = .ok (.return_, 1) := by decide +kernel
theorem dX3_writes_0 : decode cX3_writes 0 = .ok (.iconst 0, 1) := by decide +kernel
theorem dX3_writes_1 : decode cX3_writes 1 = .ok (.istore_n 2, 1) := by decide +kernel
theorem dX3_writes_2 : decode cX3_writes 2 = .ok (.iconst 0, 1) := by decide +kernel
theorem dX3_writes_3 : decode cX3_writes 3 = .ok (.istore_n 3, 1) := by decide +kernel
theorem dX3_writes_4 : decode cX3_writes 4 = .ok (.iload_n 3, 1) := by decide +kernel
theorem dX3_writes_5 : decode cX3_writes 5 = .ok (.sipush 200, 3) := by decide +kernel
theorem dX3_writes_8 : decode cX3_writes 8 = .ok (.if_icmp .ge 32, 3) := by decide +kernel
theorem dX3_writes_11 : decode cX3_writes 11 = .ok (.iload_n 2, 1) := by decide +kernel
theorem dX3_writes_12 : decode cX3_writes 12 = .ok (.aload_n 0, 1) := by decide +kernel
theorem dX3_writes_13 : decode cX3_writes 13 = .ok (.getfield 39, 3) := by decide +kernel
theorem dX3_writes_16 : decode cX3_writes 16 = .ok (.sipush 200, 3) := by decide +kernel
theorem dX3_writes_19 : decode cX3_writes 19 = .ok (.iload_n 1, 1) := by decide +kernel
theorem dX3_writes_20 : decode cX3_writes 20 = .ok (.imul, 1) := by decide +kernel
theorem dX3_writes_21 : decode cX3_writes 21 = .ok (.iload_n 3, 1) := by decide +kernel
theorem dX3_writes_22 : decode cX3_writes 22 = .ok (.iadd, 1) := by decide +kernel
theorem dX3_writes_23 : decode cX3_writes 23 = .ok (.iaload, 1) := by decide +kernel
theorem dX3_writes_24 : decode cX3_writes 24 = .ok (.ifCond .le 7, 3) := by decide +kernel
theorem dX3_writes_27 : decode cX3_writes 27 = .ok (.iconst 1, 1) := by decide +kernel
theorem dX3_writes_28 : decode cX3_writes 28 = .ok (.goto 4, 3) := by decide +kernel
theorem dX3_writes_31 : decode cX3_writes 31 = .ok (.iconst 0, 1) := by decide +kernel
theorem dX3_writes_32 : decode cX3_writes 32 = .ok (.iadd, 1) := by decide +kernel
theorem dX3_writes_33 : decode cX3_writes 33 = .ok (.istore_n 2, 1) := by decide +kernel
theorem dX3_writes_34 : decode cX3_writes 34 = .ok (.iinc 3 1, 3) := by decide +kernel
theorem dX3_writes_37 : decode cX3_writes 37 = .ok (.goto (-33), 3) := by decide +kernel
theorem dX3_writes_40 : decode cX3_writes 40 = .ok (.iload_n 2, 1) := by decide +kernel
theorem dX3_writes_41 : decode cX3_writes 41 = .ok (.ireturn, 1) := by decide +kernel
set_option maxRecDepth 20000 in
theorem ggX3_abort_X3_isTransaction : GoodIn wsX3_abort wsX3_isTransaction := goodIn_r _ [5, 6, 62, 63, 64, 65, 66, 67, 68, 69, 70, 71, 72, 73, 74, 75, 76, 77, 78, 79, 80, 81, 82, 83, 84, 85, 86, 87, 88] (by decide +kernel) (by decide +kernel)
set_option maxRecDepth 20000 in
theorem gX3_abort_X3_isTransaction : GoodIn wsX3_abort (wsV RX3 111 RX3 yX3_isTransaction wsX3_isTransaction) := goodIn_app (goodIn_of _ (by decide +kernel)) ggX3_abort_X3_isTransaction
set_option maxRecDepth 20000 in
theorem ggX3_abort_X3_isLive : GoodIn wsX3_abort wsX3_isLive := goodIn_r _ [10, 11, 62, 63, 64, 65, 66, 67, 68, 69, 70, 71, 72, 73, 74, 75, 76, 77, 78, 79, 80, 81, 82, 83, 84, 85, 86, 87, 88] (by decide +kernel) (by decide +kernel)
set_option maxRecDepth 20000 in
theorem gX3_abort_X3_isLive : GoodIn wsX3_abort (wsV RX3 89 RX3 yX3_isLive wsX3_isLive) := goodIn_app (goodIn_of _ (by decide +kernel)) ggX3_abort_X3_isLive
set_option maxRecDepth 20000 in
theorem ggX3_abort_X3_fails : GoodIn wsX3_abort wsX3_fails := goodIn_r _ [15, 16, 62, 63, 64, 65, 66, 67, 68, 69, 70, 71, 72, 73, 74, 75, 76, 77, 78, 79, 80, 81, 82, 83, 84, 85, 86, 87, 88] (by decide +kernel) (by decide +kernel)
set_option maxRecDepth 20000 in
theorem gX3_abort_X3_fails : GoodIn wsX3_abort (wsV RX3 99 RX3 yX3_fails wsX3_fails) := goodIn_app (goodIn_of _ (by decide +kernel)) ggX3_abort_X3_fails
set_option maxRecDepth 20000 in
theorem ggX3_abort_X3_end : GoodIn wsX3_abort wsX3_end := goodIn_r _ [20, 11, 21, 6, 22, 23, 24, 25, 62, 63, 64, 65, 66, 67, 68, 69, 70, 71, 72, 73, 74, 75, 76, 77, 78, 79, 80, 81, 82, 83, 84, 85, 86, 87, 88] (by decide +kernel) (by decide +kernel)
set_option maxRecDepth 20000 in
theorem gX3_abort_X3_end : GoodIn wsX3_abort (wsV RX3 141 RX3 yX3_end wsX3_end) := goodIn_app (goodIn_of _ (by decide +kernel)) ggX3_abort_X3_end
set_option maxRecDepth 20000 in
theorem ggX3_abort_X3_goOn : GoodIn wsX3_abort wsX3_goOn := goodIn_r _ [29, 30, 25, 24, 11, 31, 32, 33, 34, 35, 4, 36, 22, 37, 38, 21, 23, 39, 40, 41, 42, 43, 44, 45, 46, 47, 48, 49, 50, 51, 52, 53, 54, 55, 56, 57, 17, 18, 19, 20, 6, 62, 63, 64, 65, 66, 67, 68, 69, 70, 71, 72, 73, 74, 75, 76, 77, 78, 79, 80, 81, 82, 83, 84, 85, 86, 87, 88] (by decide +kernel) (by decide +kernel)
set_option maxRecDepth 20000 in
theorem gX3_abort_X3_goOn : GoodIn wsX3_abort (wsV RX3 121 RX3 yX3_goOn wsX3_goOn) := goodIn_app (goodIn_of _ (by decide +kernel)) ggX3_abort_X3_goOn
set_option maxRecDepth 20000 in
theorem ggX3_abort_X3_writes : GoodIn wsX3_abort wsX3_writes := goodIn_r _ [61, 40, 62, 63, 64, 65, 66, 67, 68, 69, 70, 71, 72, 73, 74, 75, 76, 77, 78, 79, 80, 81, 82, 83, 84, 85, 86, 87, 88] (by decide +kernel) (by decide +kernel)
set_option maxRecDepth 20000 in
theorem gX3_abort_X3_writes : GoodIn wsX3_abort (wsV RX3 150 RX3 yX3_writes wsX3_writes) := goodIn_app (goodIn_of _ (by decide +kernel)) ggX3_abort_X3_writes
theorem dX3_abort_0 : decode cX3_abort 0 = .ok (.aload_n 0, 1) := by decide +kernel
theorem dX3_abort_1 : decode cX3_abort 1 = .ok (.iload_n 1, 1) := by decide +kernel
theorem dX3_abort_2 : decode cX3_abort 2 = .ok (.invokevirtual 111, 3) := by decide +kernel
theorem dX3_abort_5 : decode cX3_abort 5 = .ok (.istore_n 2, 1) := by decide +kernel
theorem dX3_abort_6 : decode cX3_abort 6 = .ok (.aload_n 0, 1) := by decide +kernel
theorem dX3_abort_7 : decode cX3_abort 7 = .ok (.iload_n 2, 1) := by decide +kernel
theorem dX3_abort_8 : decode cX3_abort 8 = .ok (.iload_n 2, 1) := by decide +kernel
theorem dX3_abort_9 : decode cX3_abort 9 = .ok (.ifCond .eq 15, 3) := by decide +kernel
theorem dX3_abort_12 : decode cX3_abort 12 = .ok (.aload_n 0, 1) := by decide +kernel
theorem dX3_abort_13 : decode cX3_abort 13 = .ok (.iload_n 1, 1) := by decide +kernel
theorem dX3_abort_14 : decode cX3_abort 14 = .ok (.invokevirtual 89, 3) := by decide +kernel
theorem dX3_abort_17 : decode cX3_abort 17 = .ok (.ifCond .eq 7, 3) := by decide +kernel
theorem dX3_abort_20 : decode cX3_abort 20 = .ok (.iconst 1, 1) := by decide +kernel
theorem dX3_abort_21 : decode cX3_abort 21 = .ok (.goto 4, 3) := by decide +kernel
theorem dX3_abort_24 : decode cX3_abort 24 = .ok (.iconst 0, 1) := by decide +kernel
theorem dX3_abort_25 : decode cX3_abort 25 = .ok (.invokevirtual 99, 3) := by decide +kernel
theorem dX3_abort_28 : decode cX3_abort 28 = .ok (.ifCond .eq 5, 3) := by decide +kernel
theorem dX3_abort_31 : decode cX3_abort 31 = .ok (.iconst 0, 1) := by decide +kernel
theorem dX3_abort_32 : decode cX3_abort 32 = .ok (.ireturn, 1) := by decide +kernel
theorem dX3_abort_33 : decode cX3_abort 33 = .ok (.aload_n 0, 1) := by decide +kernel
theorem dX3_abort_34 : decode cX3_abort 34 = .ok (.iload_n 1, 1) := by decide +kernel
theorem dX3_abort_35 : decode cX3_abort 35 = .ok (.iconst 4, 1) := by decide +kernel
theorem dX3_abort_36 : decode cX3_abort 36 = .ok (.invokevirtual 141, 3) := by decide +kernel
theorem dX3_abort_39 : decode cX3_abort 39 = .ok (.aload_n 0, 1) := by decide +kernel
theorem dX3_abort_40 : decode cX3_abort 40 = .ok (.invokevirtual 121, 3) := by decide +kernel
theorem dX3_abort_43 : decode cX3_abort 43 = .ok (.aload_n 0, 1) := by decide +kernel
theorem dX3_abort_44 : decode cX3_abort 44 = .ok (.iload_n 1, 1) := by decide +kernel
theorem dX3_abort_45 : decode cX3_abort 45 = .ok (.invokevirtual 150, 3) := by decide +kernel
theorem dX3_abort_48 : decode cX3_abort 48 = .ok (.ireturn, 1) := by decide +kernel
set_option maxRecDepth 20000 in
theorem ggX3_changed_X3_hasAbove : GoodIn wsX3_changed wsX3_hasAbove := goodIn_r _ [7, 8, 9, 10, 11, 12, 13, 14, 15, 16, 17, 18, 19, 20, 21, 22, 23, 24, 25, 26, 27, 28, 29, 30, 31, 32, 33, 34, 35, 36, 37] (by decide +kernel) (by decide +kernel)
set_option maxRecDepth 20000 in
theorem gX3_changed_X3_hasAbove : GoodIn wsX3_changed (wsV RX3 124 RX3 yX3_hasAbove wsX3_hasAbove) := goodIn_app (goodIn_of _ (by decide +kernel)) ggX3_changed_X3_hasAbove
theorem dX3_changed_0 : decode cX3_changed 0 = .ok (.iconst 0, 1) := by decide +kernel
theorem dX3_changed_1 : decode cX3_changed 1 = .ok (.istore_n 2, 1) := by decide +kernel
theorem dX3_changed_2 : decode cX3_changed 2 = .ok (.iload_n 2, 1) := by decide +kernel
theorem dX3_changed_3 : decode cX3_changed 3 = .ok (.iconst 4, 1) := by decide +kernel
theorem dX3_changed_4 : decode cX3_changed 4 = .ok (.if_icmp .ge 63, 3) := by decide +kernel
theorem dX3_changed_7 : decode cX3_changed 7 = .ok (.aload_n 0, 1) := by decide +kernel
theorem dX3_changed_8 : decode cX3_changed 8 = .ok (.getfield 36, 3) := by decide +kernel
theorem dX3_changed_11 : decode cX3_changed 11 = .ok (.iload_n 1, 1) := by decide +kernel
theorem dX3_changed_12 : decode cX3_changed 12 = .ok (.iaload, 1) := by decide +kernel
theorem dX3_changed_13 : decode cX3_changed 13 = .ok (.iload_n 2, 1) := by decide +kernel
theorem dX3_changed_14 : decode cX3_changed 14 = .ok (.ishr, 1) := by decide +kernel
theorem dX3_changed_15 : decode cX3_changed 15 = .ok (.iconst 1, 1) := by decide +kernel
theorem dX3_changed_16 : decode cX3_changed 16 = .ok (.iand, 1) := by decide +kernel
theorem dX3_changed_17 : decode cX3_changed 17 = .ok (.ifCond .ne 6, 3) := by decide +kernel
theorem dX3_changed_20 : decode cX3_changed 20 = .ok (.goto 41, 3) := by decide +kernel
theorem dX3_changed_23 : decode cX3_changed 23 = .ok (.bipush 50, 2) := by decide +kernel
theorem dX3_changed_25 : decode cX3_changed 25 = .ok (.iload_n 2, 1) := by decide +kernel
theorem dX3_changed_26 : decode cX3_changed 26 = .ok (.imul, 1) := by decide +kernel
theorem dX3_changed_27 : decode cX3_changed 27 = .ok (.istore_n 3, 1) := by decide +kernel
theorem dX3_changed_28 : decode cX3_changed 28 = .ok (.iload_n 3, 1) := by decide +kernel
theorem dX3_changed_29 : decode cX3_changed 29 = .ok (.bipush 50, 2) := by decide +kernel
theorem dX3_changed_31 : decode cX3_changed 31 = .ok (.iload_n 2, 1) := by decide +kernel
theorem dX3_changed_32 : decode cX3_changed 32 = .ok (.imul, 1) := by decide +kernel
theorem dX3_changed_33 : decode cX3_changed 33 = .ok (.bipush 50, 2) := by decide +kernel
theorem dX3_changed_35 : decode cX3_changed 35 = .ok (.iadd, 1) := by decide +kernel
theorem dX3_changed_36 : decode cX3_changed 36 = .ok (.if_icmp .ge 25, 3) := by decide +kernel
theorem dX3_changed_39 : decode cX3_changed 39 = .ok (.aload_n 0, 1) := by decide +kernel
theorem dX3_changed_40 : decode cX3_changed 40 = .ok (.iload_n 3, 1) := by decide +kernel
theorem dX3_changed_41 : decode cX3_changed 41 = .ok (.aload_n 0, 1) := by decide +kernel
theorem dX3_changed_42 : decode cX3_changed 42 = .ok (.getfield 30, 3) := by decide +kernel
theorem dX3_changed_45 : decode cX3_changed 45 = .ok (.iload_n 1, 1) := by decide +kernel
theorem dX3_changed_46 : decode cX3_changed 46 = .ok (.iaload, 1) := by decide +kernel
theorem dX3_changed_47 : decode cX3_changed 47 = .ok (.invokevirtual 124, 3) := by decide +kernel
theorem dX3_changed_50 : decode cX3_changed 50 = .ok (.ifCond .eq 5, 3) := by decide +kernel
theorem dX3_changed_53 : decode cX3_changed 53 = .ok (.iload_n 2, 1) := by decide +kernel
theorem dX3_changed_54 : decode cX3_changed 54 = .ok (.ireturn, 1) := by decide +kernel
theorem dX3_changed_55 : decode cX3_changed 55 = .ok (.iinc 3 1, 3) := by decide +kernel
theorem dX3_changed_58 : decode cX3_changed 58 = .ok (.goto (-30), 3) := by decide +kernel
theorem dX3_changed_61 : decode cX3_changed 61 = .ok (.iinc 2 1, 3) := by decide +kernel
theorem dX3_changed_64 : decode cX3_changed 64 = .ok (.goto (-62), 3) := by decide +kernel
theorem dX3_changed_67 : decode cX3_changed 67 = .ok (.iconst (-1), 1) := by decide +kernel
theorem dX3_changed_68 : decode cX3_changed 68 = .ok (.ireturn, 1) := by decide +kernel
set_option maxRecDepth 20000 in
theorem ggX3_commit_X3_isTransaction : GoodIn wsX3_commit wsX3_isTransaction := goodIn_r _ [14, 15, 74, 75, 76, 77, 78, 79, 80, 81, 82, 83, 84, 85, 86, 87, 88, 89, 90, 91, 92, 93, 94, 95, 96, 97, 98, 99, 100] (by decide +kernel) (by decide +kernel)
set_option maxRecDepth 20000 in
theorem gX3_commit_X3_isTransaction : GoodIn wsX3_commit (wsV RX3 111 RX3 yX3_isTransaction wsX3_isTransaction) := goodIn_app (goodIn_of _ (by decide +kernel)) ggX3_commit_X3_isTransaction
set_option maxRecDepth 20000 in
theorem ggX3_commit_X3_isLive : GoodIn wsX3_commit wsX3_isLive := goodIn_r _ [19, 1, 74, 75, 76, 77, 78, 79, 80, 81, 82, 83, 84, 85, 86, 87, 88, 89, 90, 91, 92, 93, 94, 95, 96, 97, 98, 99, 100] (by decide +kernel) (by decide +kernel)
set_option maxRecDepth 20000 in
theorem gX3_commit_X3_isLive : GoodIn wsX3_commit (wsV RX3 89 RX3 yX3_isLive wsX3_isLive) := goodIn_app (goodIn_of _ (by decide +kernel)) ggX3_commit_X3_isLive
set_option maxRecDepth 20000 in
theorem ggX3_commit_X3_fails : GoodIn wsX3_commit wsX3_fails := goodIn_r _ [23, 24, 74, 75, 76, 77, 78, 79, 80, 81, 82, 83, 84, 85, 86, 87, 88, 89, 90, 91, 92, 93, 94, 95, 96, 97, 98, 99, 100] (by decide +kernel) (by decide +kernel)
set_option maxRecDepth 20000 in
theorem gX3_commit_X3_fails : GoodIn wsX3_commit (wsV RX3 99 RX3 yX3_fails wsX3_fails) := goodIn_app (goodIn_of _ (by decide +kernel)) ggX3_commit_X3_fails
set_option maxRecDepth 20000 in
theorem ggX3_commit_X3_changed : GoodIn wsX3_commit wsX3_changed := goodIn_r _ [28, 29, 3, 30, 31, 32, 13, 33, 7, 6, 8, 74, 75, 76, 77, 78, 79, 80, 81, 82, 83, 84, 85, 86, 87, 88, 89, 90, 91, 92, 93, 94, 95, 96, 97, 98, 99, 100] (by decide +kernel) (by decide +kernel)
set_option maxRecDepth 20000 in
theorem gX3_commit_X3_changed : GoodIn wsX3_commit (wsV RX3 154 RX3 yX3_changed wsX3_changed) := goodIn_app (goodIn_of _ (by decide +kernel)) ggX3_commit_X3_changed
set_option maxRecDepth 20000 in
theorem ggX3_commit_X3_end : GoodIn wsX3_commit wsX3_end := goodIn_r _ [37, 1, 38, 15, 39, 40, 41, 42, 74, 75, 76, 77, 78, 79, 80, 81, 82, 83, 84, 85, 86, 87, 88, 89, 90, 91, 92, 93, 94, 95, 96, 97, 98, 99, 100] (by decide +kernel) (by decide +kernel)
set_option maxRecDepth 20000 in
theorem gX3_commit_X3_end : GoodIn wsX3_commit (wsV RX3 141 RX3 yX3_end wsX3_end) := goodIn_app (goodIn_of _ (by decide +kernel)) ggX3_commit_X3_end
set_option maxRecDepth 20000 in
theorem ggX3_commit_X3_goOn : GoodIn wsX3_commit wsX3_goOn := goodIn_r _ [46, 47, 42, 41, 1, 48, 49, 50, 51, 52, 13, 53, 39, 3, 54, 38, 40, 55, 5, 30, 31, 32, 33, 7, 6, 8, 56, 57, 58, 59, 60, 61, 62, 63, 64, 65, 34, 35, 36, 37, 15, 74, 75, 76, 77, 78, 79, 80, 81, 82, 83, 84, 85, 86, 87, 88, 89, 90, 91, 92, 93, 94, 95, 96, 97, 98, 99, 100] (by decide +kernel) (by decide +kernel)
set_option maxRecDepth 20000 in
theorem gX3_commit_X3_goOn : GoodIn wsX3_commit (wsV RX3 121 RX3 yX3_goOn wsX3_goOn) := goodIn_app (goodIn_of _ (by decide +kernel)) ggX3_commit_X3_goOn
set_option maxRecDepth 20000 in
theorem ggX3_commit_X3_isThere : GoodIn wsX3_commit wsX3_isThere := goodIn_r _ [69, 9, 70, 71, 72, 13, 73, 7, 6, 8, 74, 75, 76, 77, 78, 79, 80, 81, 82, 83, 84, 85, 86, 87, 88, 89, 90, 91, 92, 93, 94, 95, 96, 97, 98, 99, 100] (by decide +kernel) (by decide +kernel)
set_option maxRecDepth 20000 in
theorem gX3_commit_X3_isThere : GoodIn wsX3_commit (wsV RX3 103 RX3 yX3_isThere wsX3_isThere) := goodIn_app (goodIn_of _ (by decide +kernel)) ggX3_commit_X3_isThere
theorem dX3_commit_0 : decode cX3_commit 0 = .ok (.aload_n 0, 1) := by decide +kernel
theorem dX3_commit_1 : decode cX3_commit 1 = .ok (.iload_n 1, 1) := by decide +kernel
theorem dX3_commit_2 : decode cX3_commit 2 = .ok (.invokevirtual 111, 3) := by decide +kernel
theorem dX3_commit_5 : decode cX3_commit 5 = .ok (.istore_n 2, 1) := by decide +kernel
theorem dX3_commit_6 : decode cX3_commit 6 = .ok (.aload_n 0, 1) := by decide +kernel
theorem dX3_commit_7 : decode cX3_commit 7 = .ok (.iload_n 2, 1) := by decide +kernel
theorem dX3_commit_8 : decode cX3_commit 8 = .ok (.iload_n 2, 1) := by decide +kernel
theorem dX3_commit_9 : decode cX3_commit 9 = .ok (.ifCond .eq 25, 3) := by decide +kernel
theorem dX3_commit_12 : decode cX3_commit 12 = .ok (.aload_n 0, 1) := by decide +kernel
theorem dX3_commit_13 : decode cX3_commit 13 = .ok (.iload_n 1, 1) := by decide +kernel
theorem dX3_commit_14 : decode cX3_commit 14 = .ok (.invokevirtual 89, 3) := by decide +kernel
theorem dX3_commit_17 : decode cX3_commit 17 = .ok (.ifCond .eq 17, 3) := by decide +kernel
theorem dX3_commit_20 : decode cX3_commit 20 = .ok (.aload_n 0, 1) := by decide +kernel
theorem dX3_commit_21 : decode cX3_commit 21 = .ok (.getfield 33, 3) := by decide +kernel
theorem dX3_commit_24 : decode cX3_commit 24 = .ok (.iload_n 1, 1) := by decide +kernel
theorem dX3_commit_25 : decode cX3_commit 25 = .ok (.iaload, 1) := by decide +kernel
theorem dX3_commit_26 : decode cX3_commit 26 = .ok (.iconst 1, 1) := by decide +kernel
theorem dX3_commit_27 : decode cX3_commit 27 = .ok (.if_icmp .eq 7, 3) := by decide +kernel
theorem dX3_commit_30 : decode cX3_commit 30 = .ok (.iconst 1, 1) := by decide +kernel
theorem dX3_commit_31 : decode cX3_commit 31 = .ok (.goto 4, 3) := by decide +kernel
theorem dX3_commit_34 : decode cX3_commit 34 = .ok (.iconst 0, 1) := by decide +kernel
theorem dX3_commit_35 : decode cX3_commit 35 = .ok (.invokevirtual 99, 3) := by decide +kernel
theorem dX3_commit_38 : decode cX3_commit 38 = .ok (.ifCond .eq 5, 3) := by decide +kernel
theorem dX3_commit_41 : decode cX3_commit 41 = .ok (.iconst 0, 1) := by decide +kernel
theorem dX3_commit_42 : decode cX3_commit 42 = .ok (.ireturn, 1) := by decide +kernel
theorem dX3_commit_43 : decode cX3_commit 43 = .ok (.aload_n 0, 1) := by decide +kernel
theorem dX3_commit_44 : decode cX3_commit 44 = .ok (.iload_n 1, 1) := by decide +kernel
theorem dX3_commit_45 : decode cX3_commit 45 = .ok (.invokevirtual 154, 3) := by decide +kernel
theorem dX3_commit_48 : decode cX3_commit 48 = .ok (.istore_n 3, 1) := by decide +kernel
theorem dX3_commit_49 : decode cX3_commit 49 = .ok (.aload_n 0, 1) := by decide +kernel
theorem dX3_commit_50 : decode cX3_commit 50 = .ok (.getfield 33, 3) := by decide +kernel
theorem dX3_commit_53 : decode cX3_commit 53 = .ok (.iload_n 1, 1) := by decide +kernel
theorem dX3_commit_54 : decode cX3_commit 54 = .ok (.iaload, 1) := by decide +kernel
theorem dX3_commit_55 : decode cX3_commit 55 = .ok (.iconst 2, 1) := by decide +kernel
theorem dX3_commit_56 : decode cX3_commit 56 = .ok (.if_icmp .eq 7, 3) := by decide +kernel
theorem dX3_commit_59 : decode cX3_commit 59 = .ok (.iload_n 3, 1) := by decide +kernel
theorem dX3_commit_60 : decode cX3_commit 60 = .ok (.ifCond .lt 35, 3) := by decide +kernel
theorem dX3_commit_63 : decode cX3_commit 63 = .ok (.aload_n 0, 1) := by decide +kernel
theorem dX3_commit_64 : decode cX3_commit 64 = .ok (.getfield 33, 3) := by decide +kernel
theorem dX3_commit_67 : decode cX3_commit 67 = .ok (.iload_n 1, 1) := by decide +kernel
theorem dX3_commit_68 : decode cX3_commit 68 = .ok (.iaload, 1) := by decide +kernel
theorem dX3_commit_69 : decode cX3_commit 69 = .ok (.iconst 2, 1) := by decide +kernel
theorem dX3_commit_70 : decode cX3_commit 70 = .ok (.if_icmp .eq 13, 3) := by decide +kernel
theorem dX3_commit_73 : decode cX3_commit 73 = .ok (.aload_n 0, 1) := by decide +kernel
theorem dX3_commit_74 : decode cX3_commit 74 = .ok (.getfield 66, 3) := by decide +kernel
theorem dX3_commit_77 : decode cX3_commit 77 = .ok (.iload_n 3, 1) := by decide +kernel
theorem dX3_commit_78 : decode cX3_commit 78 = .ok (.dup2, 1) := by decide +kernel
theorem dX3_commit_79 : decode cX3_commit 79 = .ok (.iaload, 1) := by decide +kernel
theorem dX3_commit_80 : decode cX3_commit 80 = .ok (.iconst 1, 1) := by decide +kernel
theorem dX3_commit_81 : decode cX3_commit 81 = .ok (.iadd, 1) := by decide +kernel
theorem dX3_commit_82 : decode cX3_commit 82 = .ok (.iastore, 1) := by decide +kernel
theorem dX3_commit_83 : decode cX3_commit 83 = .ok (.aload_n 0, 1) := by decide +kernel
theorem dX3_commit_84 : decode cX3_commit 84 = .ok (.iload_n 1, 1) := by decide +kernel
theorem dX3_commit_85 : decode cX3_commit 85 = .ok (.iconst 4, 1) := by decide +kernel
theorem dX3_commit_86 : decode cX3_commit 86 = .ok (.invokevirtual 141, 3) := by decide +kernel
theorem dX3_commit_89 : decode cX3_commit 89 = .ok (.aload_n 0, 1) := by decide +kernel
theorem dX3_commit_90 : decode cX3_commit 90 = .ok (.invokevirtual 121, 3) := by decide +kernel
theorem dX3_commit_93 : decode cX3_commit 93 = .ok (.iconst 0, 1) := by decide +kernel
theorem dX3_commit_94 : decode cX3_commit 94 = .ok (.ireturn, 1) := by decide +kernel
theorem dX3_commit_95 : decode cX3_commit 95 = .ok (.aload_n 0, 1) := by decide +kernel
theorem dX3_commit_96 : decode cX3_commit 96 = .ok (.getfield 30, 3) := by decide +kernel
theorem dX3_commit_99 : decode cX3_commit 99 = .ok (.iload_n 1, 1) := by decide +kernel
theorem dX3_commit_100 : decode cX3_commit 100 = .ok (.iaload, 1) := by decide +kernel
theorem dX3_commit_101 : decode cX3_commit 101 = .ok (.istore 4, 2) := by decide +kernel
theorem dX3_commit_103 : decode cX3_commit 103 = .ok (.aload_n 0, 1) := by decide +kernel
theorem dX3_commit_104 : decode cX3_commit 104 = .ok (.getfield 79, 3) := by decide +kernel
theorem dX3_commit_107 : decode cX3_commit 107 = .ok (.iconst 1, 1) := by decide +kernel
theorem dX3_commit_108 : decode cX3_commit 108 = .ok (.iadd, 1) := by decide +kernel
theorem dX3_commit_109 : decode cX3_commit 109 = .ok (.istore 5, 2) := by decide +kernel
theorem dX3_commit_111 : decode cX3_commit 111 = .ok (.iconst 0, 1) := by decide +kernel
theorem dX3_commit_112 : decode cX3_commit 112 = .ok (.istore 6, 2) := by decide +kernel
theorem dX3_commit_114 : decode cX3_commit 114 = .ok (.iload 6, 2) := by decide +kernel
theorem dX3_commit_116 : decode cX3_commit 116 = .ok (.sipush 200, 3) := by decide +kernel
theorem dX3_commit_119 : decode cX3_commit 119 = .ok (.if_icmp .ge 114, 3) := by decide +kernel
theorem dX3_commit_122 : decode cX3_commit 122 = .ok (.aload_n 0, 1) := by decide +kernel
theorem dX3_commit_123 : decode cX3_commit 123 = .ok (.getfield 39, 3) := by decide +kernel
theorem dX3_commit_126 : decode cX3_commit 126 = .ok (.sipush 200, 3) := by decide +kernel
theorem dX3_commit_129 : decode cX3_commit 129 = .ok (.iload_n 1, 1) := by decide +kernel
theorem dX3_commit_130 : decode cX3_commit 130 = .ok (.imul, 1) := by decide +kernel
theorem dX3_commit_131 : decode cX3_commit 131 = .ok (.iload 6, 2) := by decide +kernel
theorem dX3_commit_133 : decode cX3_commit 133 = .ok (.iadd, 1) := by decide +kernel
theorem dX3_commit_134 : decode cX3_commit 134 = .ok (.iaload, 1) := by decide +kernel
theorem dX3_commit_135 : decode cX3_commit 135 = .ok (.istore 7, 2) := by decide +kernel
theorem dX3_commit_137 : decode cX3_commit 137 = .ok (.iload 7, 2) := by decide +kernel
theorem dX3_commit_139 : decode cX3_commit 139 = .ok (.ifCond .eq 88, 3) := by decide +kernel
theorem dX3_commit_142 : decode cX3_commit 142 = .ok (.iload 7, 2) := by decide +kernel
theorem dX3_commit_144 : decode cX3_commit 144 = .ok (.iconst 2, 1) := by decide +kernel
theorem dX3_commit_145 : decode cX3_commit 145 = .ok (.if_icmp .ne 7, 3) := by decide +kernel
theorem dX3_commit_148 : decode cX3_commit 148 = .ok (.iconst 1, 1) := by decide +kernel
theorem dX3_commit_149 : decode cX3_commit 149 = .ok (.goto 4, 3) := by decide +kernel
theorem dX3_commit_152 : decode cX3_commit 152 = .ok (.iconst 0, 1) := by decide +kernel
theorem dX3_commit_153 : decode cX3_commit 153 = .ok (.aload_n 0, 1) := by decide +kernel
theorem dX3_commit_154 : decode cX3_commit 154 = .ok (.iload 6, 2) := by decide +kernel
theorem dX3_commit_156 : decode cX3_commit 156 = .ok (.aload_n 0, 1) := by decide +kernel
theorem dX3_commit_157 : decode cX3_commit 157 = .ok (.getfield 30, 3) := by decide +kernel
theorem dX3_commit_160 : decode cX3_commit 160 = .ok (.iload_n 1, 1) := by decide +kernel
theorem dX3_commit_161 : decode cX3_commit 161 = .ok (.iaload, 1) := by decide +kernel
theorem dX3_commit_162 : decode cX3_commit 162 = .ok (.invokevirtual 103, 3) := by decide +kernel
theorem dX3_commit_165 : decode cX3_commit 165 = .ok (.if_icmp .ne 6, 3) := by decide +kernel
theorem dX3_commit_168 : decode cX3_commit 168 = .ok (.goto 59, 3) := by decide +kernel
theorem dX3_commit_171 : decode cX3_commit 171 = .ok (.aload_n 0, 1) := by decide +kernel
theorem dX3_commit_172 : decode cX3_commit 172 = .ok (.getfield 13, 3) := by decide +kernel
theorem dX3_commit_175 : decode cX3_commit 175 = .ok (.aload_n 0, 1) := by decide +kernel
theorem dX3_commit_176 : decode cX3_commit 176 = .ok (.getfield 82, 3) := by decide +kernel
theorem dX3_commit_179 : decode cX3_commit 179 = .ok (.iload 6, 2) := by decide +kernel
theorem dX3_commit_181 : decode cX3_commit 181 = .ok (.iastore, 1) := by decide +kernel
theorem dX3_commit_182 : decode cX3_commit 182 = .ok (.aload_n 0, 1) := by decide +kernel
theorem dX3_commit_183 : decode cX3_commit 183 = .ok (.getfield 17, 3) := by decide +kernel
theorem dX3_commit_186 : decode cX3_commit 186 = .ok (.aload_n 0, 1) := by decide +kernel
theorem dX3_commit_187 : decode cX3_commit 187 = .ok (.getfield 82, 3) := by decide +kernel
theorem dX3_commit_190 : decode cX3_commit 190 = .ok (.iload 5, 2) := by decide +kernel
theorem dX3_commit_192 : decode cX3_commit 192 = .ok (.iastore, 1) := by decide +kernel
theorem dX3_commit_193 : decode cX3_commit 193 = .ok (.aload_n 0, 1) := by decide +kernel
theorem dX3_commit_194 : decode cX3_commit 194 = .ok (.getfield 20, 3) := by decide +kernel
theorem dX3_commit_197 : decode cX3_commit 197 = .ok (.aload_n 0, 1) := by decide +kernel
theorem dX3_commit_198 : decode cX3_commit 198 = .ok (.getfield 82, 3) := by decide +kernel
theorem dX3_commit_201 : decode cX3_commit 201 = .ok (.iload 7, 2) := by decide +kernel
theorem dX3_commit_203 : decode cX3_commit 203 = .ok (.iconst 2, 1) := by decide +kernel
theorem dX3_commit_204 : decode cX3_commit 204 = .ok (.if_icmp .ne 7, 3) := by decide +kernel
theorem dX3_commit_207 : decode cX3_commit 207 = .ok (.iconst 1, 1) := by decide +kernel
theorem dX3_commit_208 : decode cX3_commit 208 = .ok (.goto 4, 3) := by decide +kernel
theorem dX3_commit_211 : decode cX3_commit 211 = .ok (.iconst 0, 1) := by decide +kernel
theorem dX3_commit_212 : decode cX3_commit 212 = .ok (.bastore, 1) := by decide +kernel
theorem dX3_commit_213 : decode cX3_commit 213 = .ok (.aload_n 0, 1) := by decide +kernel
theorem dX3_commit_214 : decode cX3_commit 214 = .ok (.dup, 1) := by decide +kernel
theorem dX3_commit_215 : decode cX3_commit 215 = .ok (.getfield 82, 3) := by decide +kernel
theorem dX3_commit_218 : decode cX3_commit 218 = .ok (.iconst 1, 1) := by decide +kernel
theorem dX3_commit_219 : decode cX3_commit 219 = .ok (.iadd, 1) := by decide +kernel
theorem dX3_commit_220 : decode cX3_commit 220 = .ok (.putfield 82, 3) := by decide +kernel
theorem dX3_commit_223 : decode cX3_commit 223 = .ok (.iload 5, 2) := by decide +kernel
theorem dX3_commit_225 : decode cX3_commit 225 = .ok (.istore 4, 2) := by decide +kernel
theorem dX3_commit_227 : decode cX3_commit 227 = .ok (.iinc 6 1, 3) := by decide +kernel
theorem dX3_commit_230 : decode cX3_commit 230 = .ok (.goto (-116), 3) := by decide +kernel
theorem dX3_commit_233 : decode cX3_commit 233 = .ok (.iload 4, 2) := by decide +kernel
theorem dX3_commit_235 : decode cX3_commit 235 = .ok (.iload 5, 2) := by decide +kernel
theorem dX3_commit_237 : decode cX3_commit 237 = .ok (.if_icmp .ne 9, 3) := by decide +kernel
theorem dX3_commit_240 : decode cX3_commit 240 = .ok (.aload_n 0, 1) := by decide +kernel
theorem dX3_commit_241 : decode cX3_commit 241 = .ok (.iload 5, 2) := by decide +kernel
theorem dX3_commit_243 : decode cX3_commit 243 = .ok (.putfield 79, 3) := by decide +kernel
theorem dX3_commit_246 : decode cX3_commit 246 = .ok (.aload_n 0, 1) := by decide +kernel
theorem dX3_commit_247 : decode cX3_commit 247 = .ok (.iload_n 1, 1) := by decide +kernel
theorem dX3_commit_248 : decode cX3_commit 248 = .ok (.iconst 3, 1) := by decide +kernel
theorem dX3_commit_249 : decode cX3_commit 249 = .ok (.invokevirtual 141, 3) := by decide +kernel
theorem dX3_commit_252 : decode cX3_commit 252 = .ok (.aload_n 0, 1) := by decide +kernel
theorem dX3_commit_253 : decode cX3_commit 253 = .ok (.invokevirtual 121, 3) := by decide +kernel
theorem dX3_commit_256 : decode cX3_commit 256 = .ok (.iload 4, 2) := by decide +kernel
theorem dX3_commit_258 : decode cX3_commit 258 = .ok (.ireturn, 1) := by decide +kernel
theorem dX3_ring_0 : decode cX3_ring 0 = .ok (.aload_n 0, 1) := by decide +kernel
theorem dX3_ring_1 : decode cX3_ring 1 = .ok (.iconst 0, 1) := by decide +kernel
theorem dX3_ring_2 : decode cX3_ring 2 = .ok (.putfield 1, 3) := by decide +kernel
theorem dX3_ring_5 : decode cX3_ring 5 = .ok (.iload_n 1, 1) := by decide +kernel
theorem dX3_ring_6 : decode cX3_ring 6 = .ok (.ifCond .lt 20, 3) := by decide +kernel
theorem dX3_ring_9 : decode cX3_ring 9 = .ok (.iload_n 1, 1) := by decide +kernel
theorem dX3_ring_10 : decode cX3_ring 10 = .ok (.aload_n 0, 1) := by decide +kernel
theorem dX3_ring_11 : decode cX3_ring 11 = .ok (.getfield 138, 3) := by decide +kernel
theorem dX3_ring_14 : decode cX3_ring 14 = .ok (.if_icmp .ge 12, 3) := by decide +kernel
theorem dX3_ring_17 : decode cX3_ring 17 = .ok (.aload_n 0, 1) := by decide +kernel
theorem dX3_ring_18 : decode cX3_ring 18 = .ok (.getfield 60, 3) := by decide +kernel
theorem dX3_ring_21 : decode cX3_ring 21 = .ok (.iload_n 1, 1) := by decide +kernel
theorem dX3_ring_22 : decode cX3_ring 22 = .ok (.iaload, 1) := by decide +kernel
theorem dX3_ring_23 : decode cX3_ring 23 = .ok (.goto 4, 3) := by decide +kernel
theorem dX3_ring_26 : decode cX3_ring 26 = .ok (.iconst (-1), 1) := by decide +kernel
theorem dX3_ring_27 : decode cX3_ring 27 = .ok (.ireturn, 1) := by decide +kernel
set_option maxRecDepth 20000 in
theorem ggX3_conflicts_X3_fails : GoodIn wsX3_conflicts wsX3_fails := goodIn_r _ [7, 8, 9, 10, 11, 12, 13, 14, 15, 16, 17, 18, 19, 20, 21, 22, 23, 24, 25, 26, 27, 28, 29, 30, 31, 32, 33, 34, 35] (by decide +kernel) (by decide +kernel)
set_option maxRecDepth 20000 in
theorem gX3_conflicts_X3_fails : GoodIn wsX3_conflicts (wsV RX3 99 RX3 yX3_fails wsX3_fails) := goodIn_app (goodIn_of _ (by decide +kernel)) ggX3_conflicts_X3_fails
theorem dX3_conflicts_0 : decode cX3_conflicts 0 = .ok (.aload_n 0, 1) := by decide +kernel
theorem dX3_conflicts_1 : decode cX3_conflicts 1 = .ok (.iload_n 1, 1) := by decide +kernel
theorem dX3_conflicts_2 : decode cX3_conflicts 2 = .ok (.ifCond .eq 8, 3) := by decide +kernel
theorem dX3_conflicts_5 : decode cX3_conflicts 5 = .ok (.iload_n 1, 1) := by decide +kernel
theorem dX3_conflicts_6 : decode cX3_conflicts 6 = .ok (.iconst 1, 1) := by decide +kernel
theorem dX3_conflicts_7 : decode cX3_conflicts 7 = .ok (.if_icmp .ne 26, 3) := by decide +kernel
theorem dX3_conflicts_10 : decode cX3_conflicts 10 = .ok (.iload_n 2, 1) := by decide +kernel
theorem dX3_conflicts_11 : decode cX3_conflicts 11 = .ok (.ifCond .lt 22, 3) := by decide +kernel
theorem dX3_conflicts_14 : decode cX3_conflicts 14 = .ok (.iload_n 2, 1) := by decide +kernel
theorem dX3_conflicts_15 : decode cX3_conflicts 15 = .ok (.iload_n 1, 1) := by decide +kernel
theorem dX3_conflicts_16 : decode cX3_conflicts 16 = .ok (.ifCond .ne 9, 3) := by decide +kernel
theorem dX3_conflicts_19 : decode cX3_conflicts 19 = .ok (.sipush 200, 3) := by decide +kernel
theorem dX3_conflicts_22 : decode cX3_conflicts 22 = .ok (.goto 4, 3) := by decide +kernel
theorem dX3_conflicts_25 : decode cX3_conflicts 25 = .ok (.iconst 4, 1) := by decide +kernel
theorem dX3_conflicts_26 : decode cX3_conflicts 26 = .ok (.if_icmp .ge 7, 3) := by decide +kernel
theorem dX3_conflicts_29 : decode cX3_conflicts 29 = .ok (.iconst 1, 1) := by decide +kernel
theorem dX3_conflicts_30 : decode cX3_conflicts 30 = .ok (.goto 4, 3) := by decide +kernel
theorem dX3_conflicts_33 : decode cX3_conflicts 33 = .ok (.iconst 0, 1) := by decide +kernel
theorem dX3_conflicts_34 : decode cX3_conflicts 34 = .ok (.iconst 1, 1) := by decide +kernel
theorem dX3_conflicts_35 : decode cX3_conflicts 35 = .ok (.invokevirtual 99, 3) := by decide +kernel
theorem dX3_conflicts_38 : decode cX3_conflicts 38 = .ok (.ifCond .eq 5, 3) := by decide +kernel
theorem dX3_conflicts_41 : decode cX3_conflicts 41 = .ok (.iconst 0, 1) := by decide +kernel
theorem dX3_conflicts_42 : decode cX3_conflicts 42 = .ok (.ireturn, 1) := by decide +kernel
theorem dX3_conflicts_43 : decode cX3_conflicts 43 = .ok (.iload_n 1, 1) := by decide +kernel
theorem dX3_conflicts_44 : decode cX3_conflicts 44 = .ok (.ifCond .ne 12, 3) := by decide +kernel
theorem dX3_conflicts_47 : decode cX3_conflicts 47 = .ok (.aload_n 0, 1) := by decide +kernel
theorem dX3_conflicts_48 : decode cX3_conflicts 48 = .ok (.getfield 63, 3) := by decide +kernel
theorem dX3_conflicts_51 : decode cX3_conflicts 51 = .ok (.iload_n 2, 1) := by decide +kernel
theorem dX3_conflicts_52 : decode cX3_conflicts 52 = .ok (.iaload, 1) := by decide +kernel
theorem dX3_conflicts_53 : decode cX3_conflicts 53 = .ok (.goto 9, 3) := by decide +kernel
theorem dX3_conflicts_56 : decode cX3_conflicts 56 = .ok (.aload_n 0, 1) := by decide +kernel
theorem dX3_conflicts_57 : decode cX3_conflicts 57 = .ok (.getfield 66, 3) := by decide +kernel
theorem dX3_conflicts_60 : decode cX3_conflicts 60 = .ok (.iload_n 2, 1) := by decide +kernel
theorem dX3_conflicts_61 : decode cX3_conflicts 61 = .ok (.iaload, 1) := by decide +kernel
theorem dX3_conflicts_62 : decode cX3_conflicts 62 = .ok (.ireturn, 1) := by decide +kernel
theorem dJ9_min_7cf53_0 : decode cJ9_min_7cf53 0 = .ok (.iload_n 0, 1) := by decide +kernel
theorem dJ9_min_7cf53_1 : decode cJ9_min_7cf53 1 = .ok (.iload_n 1, 1) := by decide +kernel
theorem dJ9_min_7cf53_2 : decode cJ9_min_7cf53 2 = .ok (.if_icmp .gt 7, 3) := by decide +kernel
theorem dJ9_min_7cf53_5 : decode cJ9_min_7cf53 5 = .ok (.iload_n 0, 1) := by decide +kernel
theorem dJ9_min_7cf53_6 : decode cJ9_min_7cf53 6 = .ok (.goto 4, 3) := by decide +kernel
theorem dJ9_min_7cf53_9 : decode cJ9_min_7cf53 9 = .ok (.iload_n 1, 1) := by decide +kernel
theorem dJ9_min_7cf53_10 : decode cJ9_min_7cf53 10 = .ok (.ireturn, 1) := by decide +kernel
