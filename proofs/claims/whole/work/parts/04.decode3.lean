theorem dX4_rate_17 : decode cX4_rate 17 = .ok (.if_icmp .le 5, 3) := by decide +kernel
theorem dX4_rate_20 : decode cX4_rate 20 = .ok (.iconst 0, 1) := by decide +kernel
theorem dX4_rate_21 : decode cX4_rate 21 = .ok (.ireturn, 1) := by decide +kernel
theorem dX4_rate_22 : decode cX4_rate 22 = .ok (.aload_n 0, 1) := by decide +kernel
theorem dX4_rate_23 : decode cX4_rate 23 = .ok (.getfield 17, 3) := by decide +kernel
theorem dX4_rate_26 : decode cX4_rate 26 = .ok (.iload_n 1, 1) := by decide +kernel
theorem dX4_rate_27 : decode cX4_rate 27 = .ok (.iload_n 2, 1) := by decide +kernel
theorem dX4_rate_28 : decode cX4_rate 28 = .ok (.iastore, 1) := by decide +kernel
theorem dX4_rate_29 : decode cX4_rate 29 = .ok (.iconst 1, 1) := by decide +kernel
theorem dX4_rate_30 : decode cX4_rate 30 = .ok (.ireturn, 1) := by decide +kernel
set_option maxRecDepth 20000 in
theorem ggX4_tick_X4_gone : GoodIn wsX4_tick wsX4_gone := goodIn_r _ [12, 13, 6, 2, 14, 15, 16, 11, 17, 18, 19, 20, 21, 22, 23, 24, 25, 26, 27, 7, 1, 28, 29, 3, 30, 31, 32, 33, 34, 35, 36, 37, 38, 39, 40, 41, 42, 43, 44, 45] (by decide +kernel) (by decide +kernel)
set_option maxRecDepth 20000 in
theorem gX4_tick_X4_gone : GoodIn wsX4_tick (wsV RX4 73 RX4 yX4_gone wsX4_gone) := goodIn_app (goodIn_of _ (by decide +kernel)) ggX4_tick_X4_gone
set_option maxRecDepth 20000 in
theorem ggX4_tick_X4_over : GoodIn wsX4_tick wsX4_over := goodIn_r _ [17, 6, 18, 19, 20, 21, 11, 22, 13, 23, 24, 25, 26, 27, 7, 1, 28, 29, 3, 30, 31, 32, 33, 34, 35, 36, 37, 38, 39, 40, 41, 42, 43, 44, 45] (by decide +kernel) (by decide +kernel)
set_option maxRecDepth 20000 in
theorem gX4_tick_X4_over : GoodIn wsX4_tick (wsV RX4 65 RX4 yX4_over wsX4_over) := goodIn_app (goodIn_of _ (by decide +kernel)) ggX4_tick_X4_over
theorem dX4_tick_0 : decode cX4_tick 0 = .ok (.iload_n 1, 1) := by decide +kernel
theorem dX4_tick_1 : decode cX4_tick 1 = .ok (.ifCond .lt 9, 3) := by decide +kernel
theorem dX4_tick_4 : decode cX4_tick 4 = .ok (.iload_n 1, 1) := by decide +kernel
theorem dX4_tick_5 : decode cX4_tick 5 = .ok (.bipush 100, 2) := by decide +kernel
theorem dX4_tick_7 : decode cX4_tick 7 = .ok (.if_icmp .le 5, 3) := by decide +kernel
theorem dX4_tick_10 : decode cX4_tick 10 = .ok (.iconst (-1), 1) := by decide +kernel
theorem dX4_tick_11 : decode cX4_tick 11 = .ok (.ireturn, 1) := by decide +kernel
theorem dX4_tick_12 : decode cX4_tick 12 = .ok (.aload_n 0, 1) := by decide +kernel
theorem dX4_tick_13 : decode cX4_tick 13 = .ok (.aload_n 0, 1) := by decide +kernel
theorem dX4_tick_14 : decode cX4_tick 14 = .ok (.getfield 54, 3) := by decide +kernel
theorem dX4_tick_17 : decode cX4_tick 17 = .ok (.iload_n 1, 1) := by decide +kernel
theorem dX4_tick_18 : decode cX4_tick 18 = .ok (.iadd, 1) := by decide +kernel
theorem dX4_tick_19 : decode cX4_tick 19 = .ok (.putfield 54, 3) := by decide +kernel
theorem dX4_tick_22 : decode cX4_tick 22 = .ok (.iconst 0, 1) := by decide +kernel
theorem dX4_tick_23 : decode cX4_tick 23 = .ok (.istore_n 2, 1) := by decide +kernel
theorem dX4_tick_24 : decode cX4_tick 24 = .ok (.iconst 0, 1) := by decide +kernel
theorem dX4_tick_25 : decode cX4_tick 25 = .ok (.istore_n 3, 1) := by decide +kernel
theorem dX4_tick_26 : decode cX4_tick 26 = .ok (.iload_n 3, 1) := by decide +kernel
theorem dX4_tick_27 : decode cX4_tick 27 = .ok (.bipush 6, 2) := by decide +kernel
theorem dX4_tick_29 : decode cX4_tick 29 = .ok (.if_icmp .ge 39, 3) := by decide +kernel
theorem dX4_tick_32 : decode cX4_tick 32 = .ok (.aload_n 0, 1) := by decide +kernel
theorem dX4_tick_33 : decode cX4_tick 33 = .ok (.getfield 9, 3) := by decide +kernel
theorem dX4_tick_36 : decode cX4_tick 36 = .ok (.iload_n 3, 1) := by decide +kernel
theorem dX4_tick_37 : decode cX4_tick 37 = .ok (.baload, 1) := by decide +kernel
theorem dX4_tick_38 : decode cX4_tick 38 = .ok (.ifCond .eq 24, 3) := by decide +kernel
theorem dX4_tick_41 : decode cX4_tick 41 = .ok (.aload_n 0, 1) := by decide +kernel
theorem dX4_tick_42 : decode cX4_tick 42 = .ok (.getfield 20, 3) := by decide +kernel
theorem dX4_tick_45 : decode cX4_tick 45 = .ok (.iload_n 3, 1) := by decide +kernel
theorem dX4_tick_46 : decode cX4_tick 46 = .ok (.aload_n 0, 1) := by decide +kernel
theorem dX4_tick_47 : decode cX4_tick 47 = .ok (.getfield 20, 3) := by decide +kernel
theorem dX4_tick_50 : decode cX4_tick 50 = .ok (.iload_n 3, 1) := by decide +kernel
theorem dX4_tick_51 : decode cX4_tick 51 = .ok (.iaload, 1) := by decide +kernel
theorem dX4_tick_52 : decode cX4_tick 52 = .ok (.aload_n 0, 1) := by decide +kernel
theorem dX4_tick_53 : decode cX4_tick 53 = .ok (.getfield 17, 3) := by decide +kernel
theorem dX4_tick_56 : decode cX4_tick 56 = .ok (.iload_n 3, 1) := by decide +kernel
theorem dX4_tick_57 : decode cX4_tick 57 = .ok (.iaload, 1) := by decide +kernel
theorem dX4_tick_58 : decode cX4_tick 58 = .ok (.iload_n 1, 1) := by decide +kernel
theorem dX4_tick_59 : decode cX4_tick 59 = .ok (.imul, 1) := by decide +kernel
theorem dX4_tick_60 : decode cX4_tick 60 = .ok (.iadd, 1) := by decide +kernel
theorem dX4_tick_61 : decode cX4_tick 61 = .ok (.iastore, 1) := by decide +kernel
theorem dX4_tick_62 : decode cX4_tick 62 = .ok (.iinc 3 1, 3) := by decide +kernel
theorem dX4_tick_65 : decode cX4_tick 65 = .ok (.goto (-39), 3) := by decide +kernel
theorem dX4_tick_68 : decode cX4_tick 68 = .ok (.iconst 0, 1) := by decide +kernel
theorem dX4_tick_69 : decode cX4_tick 69 = .ok (.istore_n 3, 1) := by decide +kernel
theorem dX4_tick_70 : decode cX4_tick 70 = .ok (.iload_n 3, 1) := by decide +kernel
theorem dX4_tick_71 : decode cX4_tick 71 = .ok (.bipush 6, 2) := by decide +kernel
theorem dX4_tick_73 : decode cX4_tick 73 = .ok (.if_icmp .ge 42, 3) := by decide +kernel
theorem dX4_tick_76 : decode cX4_tick 76 = .ok (.aload_n 0, 1) := by decide +kernel
theorem dX4_tick_77 : decode cX4_tick 77 = .ok (.getfield 9, 3) := by decide +kernel
theorem dX4_tick_80 : decode cX4_tick 80 = .ok (.iload_n 3, 1) := by decide +kernel
theorem dX4_tick_81 : decode cX4_tick 81 = .ok (.baload, 1) := by decide +kernel
theorem dX4_tick_82 : decode cX4_tick 82 = .ok (.ifCond .eq 27, 3) := by decide +kernel
theorem dX4_tick_85 : decode cX4_tick 85 = .ok (.aload_n 0, 1) := by decide +kernel
theorem dX4_tick_86 : decode cX4_tick 86 = .ok (.getfield 54, 3) := by decide +kernel
theorem dX4_tick_89 : decode cX4_tick 89 = .ok (.aload_n 0, 1) := by decide +kernel
theorem dX4_tick_90 : decode cX4_tick 90 = .ok (.getfield 13, 3) := by decide +kernel
theorem dX4_tick_93 : decode cX4_tick 93 = .ok (.iload_n 3, 1) := by decide +kernel
theorem dX4_tick_94 : decode cX4_tick 94 = .ok (.iaload, 1) := by decide +kernel
theorem dX4_tick_95 : decode cX4_tick 95 = .ok (.isub, 1) := by decide +kernel
theorem dX4_tick_96 : decode cX4_tick 96 = .ok (.bipush 50, 2) := by decide +kernel
theorem dX4_tick_98 : decode cX4_tick 98 = .ok (.if_icmp .le 11, 3) := by decide +kernel
theorem dX4_tick_101 : decode cX4_tick 101 = .ok (.iload_n 2, 1) := by decide +kernel
theorem dX4_tick_102 : decode cX4_tick 102 = .ok (.aload_n 0, 1) := by decide +kernel
theorem dX4_tick_103 : decode cX4_tick 103 = .ok (.iload_n 3, 1) := by decide +kernel
theorem dX4_tick_104 : decode cX4_tick 104 = .ok (.invokevirtual 73, 3) := by decide +kernel
theorem dX4_tick_107 : decode cX4_tick 107 = .ok (.iadd, 1) := by decide +kernel
theorem dX4_tick_108 : decode cX4_tick 108 = .ok (.istore_n 2, 1) := by decide +kernel
theorem dX4_tick_109 : decode cX4_tick 109 = .ok (.iinc 3 1, 3) := by decide +kernel
theorem dX4_tick_112 : decode cX4_tick 112 = .ok (.goto (-42), 3) := by decide +kernel
theorem dX4_tick_115 : decode cX4_tick 115 = .ok (.iconst 0, 1) := by decide +kernel
theorem dX4_tick_116 : decode cX4_tick 116 = .ok (.istore_n 3, 1) := by decide +kernel
theorem dX4_tick_117 : decode cX4_tick 117 = .ok (.iload_n 3, 1) := by decide +kernel
theorem dX4_tick_118 : decode cX4_tick 118 = .ok (.iconst 4, 1) := by decide +kernel
theorem dX4_tick_119 : decode cX4_tick 119 = .ok (.if_icmp .ge 43, 3) := by decide +kernel
theorem dX4_tick_122 : decode cX4_tick 122 = .ok (.aload_n 0, 1) := by decide +kernel
theorem dX4_tick_123 : decode cX4_tick 123 = .ok (.getfield 23, 3) := by decide +kernel
theorem dX4_tick_126 : decode cX4_tick 126 = .ok (.iload_n 3, 1) := by decide +kernel
theorem dX4_tick_127 : decode cX4_tick 127 = .ok (.iaload, 1) := by decide +kernel
theorem dX4_tick_128 : decode cX4_tick 128 = .ok (.ifCond .eq 28, 3) := by decide +kernel
theorem dX4_tick_131 : decode cX4_tick 131 = .ok (.aload_n 0, 1) := by decide +kernel
theorem dX4_tick_132 : decode cX4_tick 132 = .ok (.getfield 29, 3) := by decide +kernel
theorem dX4_tick_135 : decode cX4_tick 135 = .ok (.iload_n 3, 1) := by decide +kernel
theorem dX4_tick_136 : decode cX4_tick 136 = .ok (.iaload, 1) := by decide +kernel
theorem dX4_tick_137 : decode cX4_tick 137 = .ok (.aload_n 0, 1) := by decide +kernel
theorem dX4_tick_138 : decode cX4_tick 138 = .ok (.getfield 54, 3) := by decide +kernel
theorem dX4_tick_141 : decode cX4_tick 141 = .ok (.if_icmp .le 6, 3) := by decide +kernel
theorem dX4_tick_144 : decode cX4_tick 144 = .ok (.goto 12, 3) := by decide +kernel
theorem dX4_tick_147 : decode cX4_tick 147 = .ok (.iload_n 2, 1) := by decide +kernel
theorem dX4_tick_148 : decode cX4_tick 148 = .ok (.iconst 1, 1) := by decide +kernel
theorem dX4_tick_149 : decode cX4_tick 149 = .ok (.iadd, 1) := by decide +kernel
theorem dX4_tick_150 : decode cX4_tick 150 = .ok (.istore_n 2, 1) := by decide +kernel
theorem dX4_tick_151 : decode cX4_tick 151 = .ok (.aload_n 0, 1) := by decide +kernel
theorem dX4_tick_152 : decode cX4_tick 152 = .ok (.iload_n 3, 1) := by decide +kernel
theorem dX4_tick_153 : decode cX4_tick 153 = .ok (.invokevirtual 65, 3) := by decide +kernel
theorem dX4_tick_156 : decode cX4_tick 156 = .ok (.iinc 3 1, 3) := by decide +kernel
theorem dX4_tick_159 : decode cX4_tick 159 = .ok (.goto (-42), 3) := by decide +kernel
theorem dX4_tick_162 : decode cX4_tick 162 = .ok (.iload_n 2, 1) := by decide +kernel
theorem dX4_tick_163 : decode cX4_tick 163 = .ok (.ireturn, 1) := by decide +kernel
set_option maxRecDepth 20000 in
theorem ggX4_acquire_X4_isOpen : GoodIn wsX4_acquire wsX4_isOpen := goodIn_r _ [17, 18, 26, 27, 28, 29, 30, 31, 32, 33, 34, 35, 36, 37, 38, 39, 40, 41] (by decide +kernel) (by decide +kernel)
set_option maxRecDepth 20000 in
theorem gX4_acquire_X4_isOpen : GoodIn wsX4_acquire (wsV RX4 69 RX4 yX4_isOpen wsX4_isOpen) := goodIn_app (goodIn_of _ (by decide +kernel)) ggX4_acquire_X4_isOpen
set_option maxRecDepth 20000 in
theorem ggX4_acquire_X4_isLock : GoodIn wsX4_acquire wsX4_isLock := goodIn_r _ [21] (by decide +kernel) (by decide +kernel)
set_option maxRecDepth 20000 in
theorem gX4_acquire_X4_isLock : GoodIn wsX4_acquire (va_wsS RX4 77 yX4_isLock wsX4_isLock) := goodIn_app (goodIn_of _ (by decide +kernel)) ggX4_acquire_X4_isLock
set_option maxRecDepth 20000 in
theorem ggX4_acquire_X4_lend : GoodIn wsX4_acquire wsX4_lend := goodIn_r _ [25, 4, 9, 5, 3, 6, 7, 8, 10, 26, 27, 28, 29, 30, 31, 32, 33, 34, 35, 36, 37, 38, 39, 40, 41] (by decide +kernel) (by decide +kernel)
set_option maxRecDepth 20000 in
theorem gX4_acquire_X4_lend : GoodIn wsX4_acquire (wsV RX4 61 RX4 yX4_lend wsX4_lend) := goodIn_app (goodIn_of _ (by decide +kernel)) ggX4_acquire_X4_lend
theorem dX4_acquire_0 : decode cX4_acquire 0 = .ok (.aload_n 0, 1) := by decide +kernel
theorem dX4_acquire_1 : decode cX4_acquire 1 = .ok (.aload_n 0, 1) := by decide +kernel
theorem dX4_acquire_2 : decode cX4_acquire 2 = .ok (.iload_n 1, 1) := by decide +kernel
theorem dX4_acquire_3 : decode cX4_acquire 3 = .ok (.invokevirtual 69, 3) := by decide +kernel
theorem dX4_acquire_6 : decode cX4_acquire 6 = .ok (.ifCond .ne 7, 3) := by decide +kernel
theorem dX4_acquire_9 : decode cX4_acquire 9 = .ok (.iconst 1, 1) := by decide +kernel
theorem dX4_acquire_10 : decode cX4_acquire 10 = .ok (.goto 26, 3) := by decide +kernel
theorem dX4_acquire_13 : decode cX4_acquire 13 = .ok (.iload_n 2, 1) := by decide +kernel
theorem dX4_acquire_14 : decode cX4_acquire 14 = .ok (.invokestatic 77, 3) := by decide +kernel
theorem dX4_acquire_17 : decode cX4_acquire 17 = .ok (.ifCond .eq 14, 3) := by decide +kernel
theorem dX4_acquire_20 : decode cX4_acquire 20 = .ok (.iload_n 3, 1) := by decide +kernel
theorem dX4_acquire_21 : decode cX4_acquire 21 = .ok (.iconst 1, 1) := by decide +kernel
theorem dX4_acquire_22 : decode cX4_acquire 22 = .ok (.if_icmp .lt 9, 3) := by decide +kernel
theorem dX4_acquire_25 : decode cX4_acquire 25 = .ok (.iload_n 3, 1) := by decide +kernel
theorem dX4_acquire_26 : decode cX4_acquire 26 = .ok (.bipush 100, 2) := by decide +kernel
theorem dX4_acquire_28 : decode cX4_acquire 28 = .ok (.if_icmp .le 7, 3) := by decide +kernel
theorem dX4_acquire_31 : decode cX4_acquire 31 = .ok (.iconst 2, 1) := by decide +kernel
theorem dX4_acquire_32 : decode cX4_acquire 32 = .ok (.goto 4, 3) := by decide +kernel
theorem dX4_acquire_35 : decode cX4_acquire 35 = .ok (.iconst 0, 1) := by decide +kernel
theorem dX4_acquire_36 : decode cX4_acquire 36 = .ok (.putfield 50, 3) := by decide +kernel
theorem dX4_acquire_39 : decode cX4_acquire 39 = .ok (.aload_n 0, 1) := by decide +kernel
theorem dX4_acquire_40 : decode cX4_acquire 40 = .ok (.getfield 50, 3) := by decide +kernel
theorem dX4_acquire_43 : decode cX4_acquire 43 = .ok (.ifCond .le 5, 3) := by decide +kernel
theorem dX4_acquire_46 : decode cX4_acquire 46 = .ok (.iconst 0, 1) := by decide +kernel
theorem dX4_acquire_47 : decode cX4_acquire 47 = .ok (.ireturn, 1) := by decide +kernel
theorem dX4_acquire_48 : decode cX4_acquire 48 = .ok (.aload_n 0, 1) := by decide +kernel
theorem dX4_acquire_49 : decode cX4_acquire 49 = .ok (.getfield 13, 3) := by decide +kernel
theorem dX4_acquire_52 : decode cX4_acquire 52 = .ok (.iload_n 1, 1) := by decide +kernel
theorem dX4_acquire_53 : decode cX4_acquire 53 = .ok (.aload_n 0, 1) := by decide +kernel
theorem dX4_acquire_54 : decode cX4_acquire 54 = .ok (.getfield 54, 3) := by decide +kernel
theorem dX4_acquire_57 : decode cX4_acquire 57 = .ok (.iastore, 1) := by decide +kernel
theorem dX4_acquire_58 : decode cX4_acquire 58 = .ok (.aload_n 0, 1) := by decide +kernel
theorem dX4_acquire_59 : decode cX4_acquire 59 = .ok (.getfield 23, 3) := by decide +kernel
theorem dX4_acquire_62 : decode cX4_acquire 62 = .ok (.iload_n 2, 1) := by decide +kernel
theorem dX4_acquire_63 : decode cX4_acquire 63 = .ok (.iaload, 1) := by decide +kernel
theorem dX4_acquire_64 : decode cX4_acquire 64 = .ok (.iload_n 1, 1) := by decide +kernel
theorem dX4_acquire_65 : decode cX4_acquire 65 = .ok (.iconst 1, 1) := by decide +kernel
theorem dX4_acquire_66 : decode cX4_acquire 66 = .ok (.iadd, 1) := by decide +kernel
theorem dX4_acquire_67 : decode cX4_acquire 67 = .ok (.if_icmp .ne 56, 3) := by decide +kernel
theorem dX4_acquire_70 : decode cX4_acquire 70 = .ok (.aload_n 0, 1) := by decide +kernel
theorem dX4_acquire_71 : decode cX4_acquire 71 = .ok (.getfield 54, 3) := by decide +kernel
theorem dX4_acquire_74 : decode cX4_acquire 74 = .ok (.iload_n 3, 1) := by decide +kernel
theorem dX4_acquire_75 : decode cX4_acquire 75 = .ok (.iadd, 1) := by decide +kernel
theorem dX4_acquire_76 : decode cX4_acquire 76 = .ok (.aload_n 0, 1) := by decide +kernel
theorem dX4_acquire_77 : decode cX4_acquire 77 = .ok (.getfield 29, 3) := by decide +kernel
theorem dX4_acquire_80 : decode cX4_acquire 80 = .ok (.iload_n 2, 1) := by decide +kernel
theorem dX4_acquire_81 : decode cX4_acquire 81 = .ok (.iaload, 1) := by decide +kernel
theorem dX4_acquire_82 : decode cX4_acquire 82 = .ok (.if_icmp .le 34, 3) := by decide +kernel
theorem dX4_acquire_85 : decode cX4_acquire 85 = .ok (.aload_n 0, 1) := by decide +kernel
theorem dX4_acquire_86 : decode cX4_acquire 86 = .ok (.getfield 29, 3) := by decide +kernel
theorem dX4_acquire_89 : decode cX4_acquire 89 = .ok (.iload_n 2, 1) := by decide +kernel
theorem dX4_acquire_90 : decode cX4_acquire 90 = .ok (.aload_n 0, 1) := by decide +kernel
theorem dX4_acquire_91 : decode cX4_acquire 91 = .ok (.getfield 54, 3) := by decide +kernel
theorem dX4_acquire_94 : decode cX4_acquire 94 = .ok (.iload_n 3, 1) := by decide +kernel
theorem dX4_acquire_95 : decode cX4_acquire 95 = .ok (.iadd, 1) := by decide +kernel
theorem dX4_acquire_96 : decode cX4_acquire 96 = .ok (.iastore, 1) := by decide +kernel
theorem dX4_acquire_97 : decode cX4_acquire 97 = .ok (.aload_n 0, 1) := by decide +kernel
theorem dX4_acquire_98 : decode cX4_acquire 98 = .ok (.getfield 32, 3) := by decide +kernel
theorem dX4_acquire_101 : decode cX4_acquire 101 = .ok (.iload_n 2, 1) := by decide +kernel
theorem dX4_acquire_102 : decode cX4_acquire 102 = .ok (.iload_n 3, 1) := by decide +kernel
theorem dX4_acquire_103 : decode cX4_acquire 103 = .ok (.iastore, 1) := by decide +kernel
theorem dX4_acquire_104 : decode cX4_acquire 104 = .ok (.aload_n 0, 1) := by decide +kernel
theorem dX4_acquire_105 : decode cX4_acquire 105 = .ok (.getfield 35, 3) := by decide +kernel
theorem dX4_acquire_108 : decode cX4_acquire 108 = .ok (.iload_n 2, 1) := by decide +kernel
theorem dX4_acquire_109 : decode cX4_acquire 109 = .ok (.aload_n 0, 1) := by decide +kernel
theorem dX4_acquire_110 : decode cX4_acquire 110 = .ok (.getfield 20, 3) := by decide +kernel
theorem dX4_acquire_113 : decode cX4_acquire 113 = .ok (.iload_n 1, 1) := by decide +kernel
theorem dX4_acquire_114 : decode cX4_acquire 114 = .ok (.iaload, 1) := by decide +kernel
theorem dX4_acquire_115 : decode cX4_acquire 115 = .ok (.iastore, 1) := by decide +kernel
theorem dX4_acquire_116 : decode cX4_acquire 116 = .ok (.aload_n 0, 1) := by decide +kernel
theorem dX4_acquire_117 : decode cX4_acquire 117 = .ok (.getfield 26, 3) := by decide +kernel
theorem dX4_acquire_120 : decode cX4_acquire 120 = .ok (.iload_n 2, 1) := by decide +kernel
theorem dX4_acquire_121 : decode cX4_acquire 121 = .ok (.iaload, 1) := by decide +kernel
theorem dX4_acquire_122 : decode cX4_acquire 122 = .ok (.ireturn, 1) := by decide +kernel
theorem dX4_acquire_123 : decode cX4_acquire 123 = .ok (.aload_n 0, 1) := by decide +kernel
theorem dX4_acquire_124 : decode cX4_acquire 124 = .ok (.getfield 23, 3) := by decide +kernel
theorem dX4_acquire_127 : decode cX4_acquire 127 = .ok (.iload_n 2, 1) := by decide +kernel
theorem dX4_acquire_128 : decode cX4_acquire 128 = .ok (.iaload, 1) := by decide +kernel
theorem dX4_acquire_129 : decode cX4_acquire 129 = .ok (.ifCond .ne 17, 3) := by decide +kernel
theorem dX4_acquire_132 : decode cX4_acquire 132 = .ok (.aload_n 0, 1) := by decide +kernel
theorem dX4_acquire_133 : decode cX4_acquire 133 = .ok (.iload_n 2, 1) := by decide +kernel
theorem dX4_acquire_134 : decode cX4_acquire 134 = .ok (.iload_n 1, 1) := by decide +kernel
theorem dX4_acquire_135 : decode cX4_acquire 135 = .ok (.iload_n 3, 1) := by decide +kernel
theorem dX4_acquire_136 : decode cX4_acquire 136 = .ok (.invokevirtual 61, 3) := by decide +kernel
theorem dX4_acquire_139 : decode cX4_acquire 139 = .ok (.aload_n 0, 1) := by decide +kernel
theorem dX4_acquire_140 : decode cX4_acquire 140 = .ok (.getfield 26, 3) := by decide +kernel
theorem dX4_acquire_143 : decode cX4_acquire 143 = .ok (.iload_n 2, 1) := by decide +kernel
theorem dX4_acquire_144 : decode cX4_acquire 144 = .ok (.iaload, 1) := by decide +kernel
theorem dX4_acquire_145 : decode cX4_acquire 145 = .ok (.ireturn, 1) := by decide +kernel
theorem dX4_acquire_146 : decode cX4_acquire 146 = .ok (.iload_n 2, 1) := by decide +kernel
theorem dX4_acquire_147 : decode cX4_acquire 147 = .ok (.bipush 6, 2) := by decide +kernel
theorem dX4_acquire_149 : decode cX4_acquire 149 = .ok (.imul, 1) := by decide +kernel
theorem dX4_acquire_150 : decode cX4_acquire 150 = .ok (.iload_n 1, 1) := by decide +kernel
theorem dX4_acquire_151 : decode cX4_acquire 151 = .ok (.iadd, 1) := by decide +kernel
theorem dX4_acquire_152 : decode cX4_acquire 152 = .ok (.istore 4, 2) := by decide +kernel
theorem dX4_acquire_154 : decode cX4_acquire 154 = .ok (.aload_n 0, 1) := by decide +kernel
theorem dX4_acquire_155 : decode cX4_acquire 155 = .ok (.getfield 38, 3) := by decide +kernel
theorem dX4_acquire_158 : decode cX4_acquire 158 = .ok (.iload 4, 2) := by decide +kernel
theorem dX4_acquire_160 : decode cX4_acquire 160 = .ok (.iaload, 1) := by decide +kernel
theorem dX4_acquire_161 : decode cX4_acquire 161 = .ok (.ifCond .ne 24, 3) := by decide +kernel
theorem dX4_acquire_164 : decode cX4_acquire 164 = .ok (.aload_n 0, 1) := by decide +kernel
theorem dX4_acquire_165 : decode cX4_acquire 165 = .ok (.aload_n 0, 1) := by decide +kernel
theorem dX4_acquire_166 : decode cX4_acquire 166 = .ok (.getfield 80, 3) := by decide +kernel
theorem dX4_acquire_169 : decode cX4_acquire 169 = .ok (.iconst 1, 1) := by decide +kernel
theorem dX4_acquire_170 : decode cX4_acquire 170 = .ok (.iadd, 1) := by decide +kernel
theorem dX4_acquire_171 : decode cX4_acquire 171 = .ok (.putfield 80, 3) := by decide +kernel
theorem dX4_acquire_174 : decode cX4_acquire 174 = .ok (.aload_n 0, 1) := by decide +kernel
theorem dX4_acquire_175 : decode cX4_acquire 175 = .ok (.getfield 38, 3) := by decide +kernel
theorem dX4_acquire_178 : decode cX4_acquire 178 = .ok (.iload 4, 2) := by decide +kernel
theorem dX4_acquire_180 : decode cX4_acquire 180 = .ok (.aload_n 0, 1) := by decide +kernel
theorem dX4_acquire_181 : decode cX4_acquire 181 = .ok (.getfield 80, 3) := by decide +kernel
theorem dX4_acquire_184 : decode cX4_acquire 184 = .ok (.iastore, 1) := by decide +kernel
theorem dX4_acquire_185 : decode cX4_acquire 185 = .ok (.aload_n 0, 1) := by decide +kernel
theorem dX4_acquire_186 : decode cX4_acquire 186 = .ok (.getfield 41, 3) := by decide +kernel
theorem dX4_acquire_189 : decode cX4_acquire 189 = .ok (.iload 4, 2) := by decide +kernel
theorem dX4_acquire_191 : decode cX4_acquire 191 = .ok (.iload_n 3, 1) := by decide +kernel
theorem dX4_acquire_192 : decode cX4_acquire 192 = .ok (.iastore, 1) := by decide +kernel
theorem dX4_acquire_193 : decode cX4_acquire 193 = .ok (.iconst 0, 1) := by decide +kernel
theorem dX4_acquire_194 : decode cX4_acquire 194 = .ok (.ireturn, 1) := by decide +kernel
set_option maxRecDepth 20000 in
theorem ggX4_release_X4_isOpen : GoodIn wsX4_release wsX4_isOpen := goodIn_r _ [7, 8, 32, 33, 34, 35, 36, 37, 38, 39, 40, 41, 42, 43, 44, 45, 46, 47] (by decide +kernel) (by decide +kernel)
set_option maxRecDepth 20000 in
theorem gX4_release_X4_isOpen : GoodIn wsX4_release (wsV RX4 69 RX4 yX4_isOpen wsX4_isOpen) := goodIn_app (goodIn_of _ (by decide +kernel)) ggX4_release_X4_isOpen
set_option maxRecDepth 20000 in
theorem ggX4_release_X4_isLock : GoodIn wsX4_release wsX4_isLock := goodIn_r _ [11] (by decide +kernel) (by decide +kernel)
set_option maxRecDepth 20000 in
theorem gX4_release_X4_isLock : GoodIn wsX4_release (va_wsS RX4 77 yX4_isLock wsX4_isLock) := goodIn_app (goodIn_of _ (by decide +kernel)) ggX4_release_X4_isLock
set_option maxRecDepth 20000 in
theorem ggX4_release_X4_over : GoodIn wsX4_release wsX4_over := goodIn_r _ [15, 1, 16, 17, 18, 19, 6, 20, 21, 22, 23, 24, 25, 26, 27, 28, 29, 30, 31, 32, 33, 34, 35, 36, 37, 38, 39, 40, 41, 42, 43, 44, 45, 46, 47] (by decide +kernel) (by decide +kernel)
set_option maxRecDepth 20000 in
theorem gX4_release_X4_over : GoodIn wsX4_release (wsV RX4 65 RX4 yX4_over wsX4_over) := goodIn_app (goodIn_of _ (by decide +kernel)) ggX4_release_X4_over
theorem dX4_release_0 : decode cX4_release 0 = .ok (.aload_n 0, 1) := by decide +kernel
theorem dX4_release_1 : decode cX4_release 1 = .ok (.aload_n 0, 1) := by decide +kernel
theorem dX4_release_2 : decode cX4_release 2 = .ok (.iload_n 1, 1) := by decide +kernel
theorem dX4_release_3 : decode cX4_release 3 = .ok (.invokevirtual 69, 3) := by decide +kernel
theorem dX4_release_6 : decode cX4_release 6 = .ok (.ifCond .ne 7, 3) := by decide +kernel
theorem dX4_release_9 : decode cX4_release 9 = .ok (.iconst 1, 1) := by decide +kernel
theorem dX4_release_10 : decode cX4_release 10 = .ok (.goto 31, 3) := by decide +kernel
theorem dX4_release_13 : decode cX4_release 13 = .ok (.iload_n 2, 1) := by decide +kernel
theorem dX4_release_14 : decode cX4_release 14 = .ok (.invokestatic 77, 3) := by decide +kernel
theorem dX4_release_17 : decode cX4_release 17 = .ok (.ifCond .ne 7, 3) := by decide +kernel
theorem dX4_release_20 : decode cX4_release 20 = .ok (.iconst 2, 1) := by decide +kernel
theorem dX4_release_21 : decode cX4_release 21 = .ok (.goto 20, 3) := by decide +kernel
theorem dX4_release_24 : decode cX4_release 24 = .ok (.aload_n 0, 1) := by decide +kernel
theorem dX4_release_25 : decode cX4_release 25 = .ok (.getfield 23, 3) := by decide +kernel
theorem dX4_release_28 : decode cX4_release 28 = .ok (.iload_n 2, 1) := by decide +kernel
theorem dX4_release_29 : decode cX4_release 29 = .ok (.iaload, 1) := by decide +kernel
theorem dX4_release_30 : decode cX4_release 30 = .ok (.iload_n 1, 1) := by decide +kernel
theorem dX4_release_31 : decode cX4_release 31 = .ok (.iconst 1, 1) := by decide +kernel
theorem dX4_release_32 : decode cX4_release 32 = .ok (.iadd, 1) := by decide +kernel
theorem dX4_release_33 : decode cX4_release 33 = .ok (.if_icmp .eq 7, 3) := by decide +kernel
theorem dX4_release_36 : decode cX4_release 36 = .ok (.iconst 3, 1) := by decide +kernel
theorem dX4_release_37 : decode cX4_release 37 = .ok (.goto 4, 3) := by decide +kernel
theorem dX4_release_40 : decode cX4_release 40 = .ok (.iconst 0, 1) := by decide +kernel
theorem dX4_release_41 : decode cX4_release 41 = .ok (.putfield 50, 3) := by decide +kernel
theorem dX4_release_44 : decode cX4_release 44 = .ok (.aload_n 0, 1) := by decide +kernel
theorem dX4_release_45 : decode cX4_release 45 = .ok (.getfield 50, 3) := by decide +kernel
theorem dX4_release_48 : decode cX4_release 48 = .ok (.ifCond .ne 8, 3) := by decide +kernel
theorem dX4_release_51 : decode cX4_release 51 = .ok (.aload_n 0, 1) := by decide +kernel
theorem dX4_release_52 : decode cX4_release 52 = .ok (.iload_n 2, 1) := by decide +kernel
theorem dX4_release_53 : decode cX4_release 53 = .ok (.invokevirtual 65, 3) := by decide +kernel
theorem dX4_release_56 : decode cX4_release 56 = .ok (.return_, 1) := by decide +kernel
set_option maxRecDepth 20000 in
theorem ggX4_cancel_X4_isOpen : GoodIn wsX4_cancel wsX4_isOpen := goodIn_r _ [6, 7, 11, 12, 13, 14, 15, 16, 17, 18, 19, 20, 21, 22, 23, 24, 25, 26] (by decide +kernel) (by decide +kernel)
set_option maxRecDepth 20000 in
theorem gX4_cancel_X4_isOpen : GoodIn wsX4_cancel (wsV RX4 69 RX4 yX4_isOpen wsX4_isOpen) := goodIn_app (goodIn_of _ (by decide +kernel)) ggX4_cancel_X4_isOpen
set_option maxRecDepth 20000 in
theorem ggX4_cancel_X4_isLock : GoodIn wsX4_cancel wsX4_isLock := goodIn_r _ [10] (by decide +kernel) (by decide +kernel)
set_option maxRecDepth 20000 in
theorem gX4_cancel_X4_isLock : GoodIn wsX4_cancel (va_wsS RX4 77 yX4_isLock wsX4_isLock) := goodIn_app (goodIn_of _ (by decide +kernel)) ggX4_cancel_X4_isLock
theorem dX4_cancel_0 : decode cX4_cancel 0 = .ok (.aload_n 0, 1) := by decide +kernel
theorem dX4_cancel_1 : decode cX4_cancel 1 = .ok (.iload_n 1, 1) := by decide +kernel
theorem dX4_cancel_2 : decode cX4_cancel 2 = .ok (.invokevirtual 69, 3) := by decide +kernel
theorem dX4_cancel_5 : decode cX4_cancel 5 = .ok (.ifCond .eq 24, 3) := by decide +kernel
theorem dX4_cancel_8 : decode cX4_cancel 8 = .ok (.iload_n 2, 1) := by decide +kernel
theorem dX4_cancel_9 : decode cX4_cancel 9 = .ok (.invokestatic 77, 3) := by decide +kernel
theorem dX4_cancel_12 : decode cX4_cancel 12 = .ok (.ifCond .eq 17, 3) := by decide +kernel
theorem dX4_cancel_15 : decode cX4_cancel 15 = .ok (.aload_n 0, 1) := by decide +kernel
theorem dX4_cancel_16 : decode cX4_cancel 16 = .ok (.getfield 38, 3) := by decide +kernel
theorem dX4_cancel_19 : decode cX4_cancel 19 = .ok (.iload_n 2, 1) := by decide +kernel
theorem dX4_cancel_20 : decode cX4_cancel 20 = .ok (.bipush 6, 2) := by decide +kernel
theorem dX4_cancel_22 : decode cX4_cancel 22 = .ok (.imul, 1) := by decide +kernel
theorem dX4_cancel_23 : decode cX4_cancel 23 = .ok (.iload_n 1, 1) := by decide +kernel
theorem dX4_cancel_24 : decode cX4_cancel 24 = .ok (.iadd, 1) := by decide +kernel
theorem dX4_cancel_25 : decode cX4_cancel 25 = .ok (.iaload, 1) := by decide +kernel
theorem dX4_cancel_26 : decode cX4_cancel 26 = .ok (.ifCond .ne 5, 3) := by decide +kernel
theorem dX4_cancel_29 : decode cX4_cancel 29 = .ok (.iconst 0, 1) := by decide +kernel
theorem dX4_cancel_30 : decode cX4_cancel 30 = .ok (.ireturn, 1) := by decide +kernel
theorem dX4_cancel_31 : decode cX4_cancel 31 = .ok (.aload_n 0, 1) := by decide +kernel
theorem dX4_cancel_32 : decode cX4_cancel 32 = .ok (.getfield 38, 3) := by decide +kernel
theorem dX4_cancel_35 : decode cX4_cancel 35 = .ok (.iload_n 2, 1) := by decide +kernel
theorem dX4_cancel_36 : decode cX4_cancel 36 = .ok (.bipush 6, 2) := by decide +kernel
theorem dX4_cancel_38 : decode cX4_cancel 38 = .ok (.imul, 1) := by decide +kernel
theorem dX4_cancel_39 : decode cX4_cancel 39 = .ok (.iload_n 1, 1) := by decide +kernel
theorem dX4_cancel_40 : decode cX4_cancel 40 = .ok (.iadd, 1) := by decide +kernel
theorem dX4_cancel_41 : decode cX4_cancel 41 = .ok (.iconst 0, 1) := by decide +kernel
theorem dX4_cancel_42 : decode cX4_cancel 42 = .ok (.iastore, 1) := by decide +kernel
theorem dX4_cancel_43 : decode cX4_cancel 43 = .ok (.iconst 1, 1) := by decide +kernel
theorem dX4_cancel_44 : decode cX4_cancel 44 = .ok (.ireturn, 1) := by decide +kernel
set_option maxRecDepth 20000 in
theorem ggX4_holder_X4_isLock : GoodIn wsX4_holder wsX4_isLock := goodIn_r _ [5] (by decide +kernel) (by decide +kernel)
set_option maxRecDepth 20000 in
theorem gX4_holder_X4_isLock : GoodIn wsX4_holder (va_wsS RX4 77 yX4_isLock wsX4_isLock) := goodIn_app (goodIn_of _ (by decide +kernel)) ggX4_holder_X4_isLock
theorem dX4_holder_0 : decode cX4_holder 0 = .ok (.iload_n 1, 1) := by decide +kernel
theorem dX4_holder_1 : decode cX4_holder 1 = .ok (.invokestatic 77, 3) := by decide +kernel
theorem dX4_holder_4 : decode cX4_holder 4 = .ok (.ifCond .eq 14, 3) := by decide +kernel
theorem dX4_holder_7 : decode cX4_holder 7 = .ok (.aload_n 0, 1) := by decide +kernel
theorem dX4_holder_8 : decode cX4_holder 8 = .ok (.getfield 23, 3) := by decide +kernel
theorem dX4_holder_11 : decode cX4_holder 11 = .ok (.iload_n 1, 1) := by decide +kernel
theorem dX4_holder_12 : decode cX4_holder 12 = .ok (.iaload, 1) := by decide +kernel
theorem dX4_holder_13 : decode cX4_holder 13 = .ok (.iconst 1, 1) := by decide +kernel
theorem dX4_holder_14 : decode cX4_holder 14 = .ok (.isub, 1) := by decide +kernel
theorem dX4_holder_15 : decode cX4_holder 15 = .ok (.goto 4, 3) := by decide +kernel
theorem dX4_holder_18 : decode cX4_holder 18 = .ok (.iconst (-1), 1) := by decide +kernel
theorem dX4_holder_19 : decode cX4_holder 19 = .ok (.ireturn, 1) := by decide +kernel
set_option maxRecDepth 20000 in
theorem ggX4_token_X4_isLock : GoodIn wsX4_token wsX4_isLock := goodIn_r _ [5] (by decide +kernel) (by decide +kernel)
set_option maxRecDepth 20000 in
theorem gX4_token_X4_isLock : GoodIn wsX4_token (va_wsS RX4 77 yX4_isLock wsX4_isLock) := goodIn_app (goodIn_of _ (by decide +kernel)) ggX4_token_X4_isLock
theorem dX4_token_0 : decode cX4_token 0 = .ok (.iload_n 1, 1) := by decide +kernel
theorem dX4_token_1 : decode cX4_token 1 = .ok (.invokestatic 77, 3) := by decide +kernel
theorem dX4_token_4 : decode cX4_token 4 = .ok (.ifCond .eq 12, 3) := by decide +kernel
theorem dX4_token_7 : decode cX4_token 7 = .ok (.aload_n 0, 1) := by decide +kernel
theorem dX4_token_8 : decode cX4_token 8 = .ok (.getfield 26, 3) := by decide +kernel
theorem dX4_token_11 : decode cX4_token 11 = .ok (.iload_n 1, 1) := by decide +kernel
theorem dX4_token_12 : decode cX4_token 12 = .ok (.iaload, 1) := by decide +kernel
theorem dX4_token_13 : decode cX4_token 13 = .ok (.goto 4, 3) := by decide +kernel
theorem dX4_token_16 : decode cX4_token 16 = .ok (.iconst (-1), 1) := by decide +kernel
theorem dX4_token_17 : decode cX4_token 17 = .ok (.ireturn, 1) := by decide +kernel
set_option maxRecDepth 20000 in
theorem ggX4_until_X4_isLock : GoodIn wsX4_until wsX4_isLock := goodIn_r _ [6] (by decide +kernel) (by decide +kernel)
set_option maxRecDepth 20000 in
theorem gX4_until_X4_isLock : GoodIn wsX4_until (va_wsS RX4 77 yX4_isLock wsX4_isLock) := goodIn_app (goodIn_of _ (by decide +kernel)) ggX4_until_X4_isLock
theorem dX4_until_0 : decode cX4_until 0 = .ok (.iload_n 1, 1) := by decide +kernel
theorem dX4_until_1 : decode cX4_until 1 = .ok (.invokestatic 77, 3) := by decide +kernel
theorem dX4_until_4 : decode cX4_until 4 = .ok (.ifCond .eq 21, 3) := by decide +kernel
theorem dX4_until_7 : decode cX4_until 7 = .ok (.aload_n 0, 1) := by decide +kernel
theorem dX4_until_8 : decode cX4_until 8 = .ok (.getfield 23, 3) := by decide +kernel
theorem dX4_until_11 : decode cX4_until 11 = .ok (.iload_n 1, 1) := by decide +kernel
theorem dX4_until_12 : decode cX4_until 12 = .ok (.iaload, 1) := by decide +kernel
theorem dX4_until_13 : decode cX4_until 13 = .ok (.ifCond .le 12, 3) := by decide +kernel
theorem dX4_until_16 : decode cX4_until 16 = .ok (.aload_n 0, 1) := by decide +kernel
theorem dX4_until_17 : decode cX4_until 17 = .ok (.getfield 29, 3) := by decide +kernel
theorem dX4_until_20 : decode cX4_until 20 = .ok (.iload_n 1, 1) := by decide +kernel
theorem dX4_until_21 : decode cX4_until 21 = .ok (.iaload, 1) := by decide +kernel
theorem dX4_until_22 : decode cX4_until 22 = .ok (.goto 4, 3) := by decide +kernel
theorem dX4_until_25 : decode cX4_until 25 = .ok (.iconst (-1), 1) := by decide +kernel
theorem dX4_until_26 : decode cX4_until 26 = .ok (.ireturn, 1) := by decide +kernel
set_option maxRecDepth 20000 in
theorem ggX4_waiter_X4_isLock : GoodIn wsX4_waiter wsX4_isLock := goodIn_r _ [4] (by decide +kernel) (by decide +kernel)
set_option maxRecDepth 20000 in
theorem gX4_waiter_X4_isLock : GoodIn wsX4_waiter (va_wsS RX4 77 yX4_isLock wsX4_isLock) := goodIn_app (goodIn_of _ (by decide +kernel)) ggX4_waiter_X4_isLock
set_option maxRecDepth 20000 in
theorem ggX4_waiter_X4_inRow : GoodIn wsX4_waiter wsX4_inRow := goodIn_r _ [8, 9, 10, 11, 12, 13, 14, 15, 16, 17, 18, 19, 20, 21, 22, 23, 24, 25] (by decide +kernel) (by decide +kernel)
set_option maxRecDepth 20000 in
theorem gX4_waiter_X4_inRow : GoodIn wsX4_waiter (wsV RX4 57 RX4 yX4_inRow wsX4_inRow) := goodIn_app (goodIn_of _ (by decide +kernel)) ggX4_waiter_X4_inRow
theorem dX4_waiter_0 : decode cX4_waiter 0 = .ok (.iload_n 1, 1) := by decide +kernel
theorem dX4_waiter_1 : decode cX4_waiter 1 = .ok (.invokestatic 77, 3) := by decide +kernel
theorem dX4_waiter_4 : decode cX4_waiter 4 = .ok (.ifCond .eq 12, 3) := by decide +kernel
theorem dX4_waiter_7 : decode cX4_waiter 7 = .ok (.aload_n 0, 1) := by decide +kernel
theorem dX4_waiter_8 : decode cX4_waiter 8 = .ok (.iload_n 1, 1) := by decide +kernel
theorem dX4_waiter_9 : decode cX4_waiter 9 = .ok (.iload_n 2, 1) := by decide +kernel
theorem dX4_waiter_10 : decode cX4_waiter 10 = .ok (.invokevirtual 57, 3) := by decide +kernel
theorem dX4_waiter_13 : decode cX4_waiter 13 = .ok (.goto 4, 3) := by decide +kernel
theorem dX4_waiter_16 : decode cX4_waiter 16 = .ok (.iconst (-1), 1) := by decide +kernel
theorem dX4_waiter_17 : decode cX4_waiter 17 = .ok (.ireturn, 1) := by decide +kernel
theorem dX4_time_0 : decode cX4_time 0 = .ok (.aload_n 0, 1) := by decide +kernel
theorem dX4_time_1 : decode cX4_time 1 = .ok (.getfield 54, 3) := by decide +kernel
theorem dX4_time_4 : decode cX4_time 4 = .ok (.ireturn, 1) := by decide +kernel
set_option maxRecDepth 20000 in
theorem ggX4_clock_X4_isOpen : GoodIn wsX4_clock wsX4_isOpen := goodIn_r _ [6, 7, 8, 9, 10, 11, 12, 13, 14, 15, 16, 17, 18, 19, 20, 21, 22, 23] (by decide +kernel) (by decide +kernel)
set_option maxRecDepth 20000 in
theorem gX4_clock_X4_isOpen : GoodIn wsX4_clock (wsV RX4 69 RX4 yX4_isOpen wsX4_isOpen) := goodIn_app (goodIn_of _ (by decide +kernel)) ggX4_clock_X4_isOpen
theorem dX4_clock_0 : decode cX4_clock 0 = .ok (.aload_n 0, 1) := by decide +kernel
theorem dX4_clock_1 : decode cX4_clock 1 = .ok (.iload_n 1, 1) := by decide +kernel
theorem dX4_clock_2 : decode cX4_clock 2 = .ok (.invokevirtual 69, 3) := by decide +kernel
theorem dX4_clock_5 : decode cX4_clock 5 = .ok (.ifCond .eq 12, 3) := by decide +kernel
theorem dX4_clock_8 : decode cX4_clock 8 = .ok (.aload_n 0, 1) := by decide +kernel
theorem dX4_clock_9 : decode cX4_clock 9 = .ok (.getfield 20, 3) := by decide +kernel
theorem dX4_clock_12 : decode cX4_clock 12 = .ok (.iload_n 1, 1) := by decide +kernel
theorem dX4_clock_13 : decode cX4_clock 13 = .ok (.iaload, 1) := by decide +kernel
theorem dX4_clock_14 : decode cX4_clock 14 = .ok (.goto 4, 3) := by decide +kernel
theorem dX4_clock_17 : decode cX4_clock 17 = .ok (.iconst (-1), 1) := by decide +kernel
theorem dX4_clock_18 : decode cX4_clock 18 = .ok (.ireturn, 1) := by decide +kernel
set_option maxRecDepth 20000 in
theorem ggX4_believes_X4_isOpen : GoodIn wsX4_believes wsX4_isOpen := goodIn_r _ [9, 10, 14, 15, 16, 17, 18, 19, 20, 21, 22, 23, 24, 25, 26, 27, 28, 29] (by decide +kernel) (by decide +kernel)
set_option maxRecDepth 20000 in
theorem gX4_believes_X4_isOpen : GoodIn wsX4_believes (wsV RX4 69 RX4 yX4_isOpen wsX4_isOpen) := goodIn_app (goodIn_of _ (by decide +kernel)) ggX4_believes_X4_isOpen
set_option maxRecDepth 20000 in
theorem ggX4_believes_X4_isLock : GoodIn wsX4_believes wsX4_isLock := goodIn_r _ [13] (by decide +kernel) (by decide +kernel)
set_option maxRecDepth 20000 in
theorem gX4_believes_X4_isLock : GoodIn wsX4_believes (va_wsS RX4 77 yX4_isLock wsX4_isLock) := goodIn_app (goodIn_of _ (by decide +kernel)) ggX4_believes_X4_isLock
theorem dX4_believes_0 : decode cX4_believes 0 = .ok (.aload_n 0, 1) := by decide +kernel
theorem dX4_believes_1 : decode cX4_believes 1 = .ok (.iload_n 1, 1) := by decide +kernel
theorem dX4_believes_2 : decode cX4_believes 2 = .ok (.invokevirtual 69, 3) := by decide +kernel
theorem dX4_believes_5 : decode cX4_believes 5 = .ok (.ifCond .eq 51, 3) := by decide +kernel
theorem dX4_believes_8 : decode cX4_believes 8 = .ok (.iload_n 2, 1) := by decide +kernel
theorem dX4_believes_9 : decode cX4_believes 9 = .ok (.invokestatic 77, 3) := by decide +kernel
theorem dX4_believes_12 : decode cX4_believes 12 = .ok (.ifCond .eq 44, 3) := by decide +kernel
theorem dX4_believes_15 : decode cX4_believes 15 = .ok (.aload_n 0, 1) := by decide +kernel
theorem dX4_believes_16 : decode cX4_believes 16 = .ok (.getfield 23, 3) := by decide +kernel
theorem dX4_believes_19 : decode cX4_believes 19 = .ok (.iload_n 2, 1) := by decide +kernel
theorem dX4_believes_20 : decode cX4_believes 20 = .ok (.iaload, 1) := by decide +kernel
theorem dX4_believes_21 : decode cX4_believes 21 = .ok (.iload_n 1, 1) := by decide +kernel
theorem dX4_believes_22 : decode cX4_believes 22 = .ok (.iconst 1, 1) := by decide +kernel
theorem dX4_believes_23 : decode cX4_believes 23 = .ok (.iadd, 1) := by decide +kernel
theorem dX4_believes_24 : decode cX4_believes 24 = .ok (.if_icmp .ne 32, 3) := by decide +kernel
theorem dX4_believes_27 : decode cX4_believes 27 = .ok (.aload_n 0, 1) := by decide +kernel
theorem dX4_believes_28 : decode cX4_believes 28 = .ok (.getfield 20, 3) := by decide +kernel
theorem dX4_believes_31 : decode cX4_believes 31 = .ok (.iload_n 1, 1) := by decide +kernel
theorem dX4_believes_32 : decode cX4_believes 32 = .ok (.iaload, 1) := by decide +kernel
theorem dX4_believes_33 : decode cX4_believes 33 = .ok (.aload_n 0, 1) := by decide +kernel
theorem dX4_believes_34 : decode cX4_believes 34 = .ok (.getfield 35, 3) := by decide +kernel
theorem dX4_believes_37 : decode cX4_believes 37 = .ok (.iload_n 2, 1) := by decide +kernel
theorem dX4_believes_38 : decode cX4_believes 38 = .ok (.iaload, 1) := by decide +kernel
theorem dX4_believes_39 : decode cX4_believes 39 = .ok (.isub, 1) := by decide +kernel
theorem dX4_believes_40 : decode cX4_believes 40 = .ok (.bipush 9, 2) := by decide +kernel
theorem dX4_believes_42 : decode cX4_believes 42 = .ok (.aload_n 0, 1) := by decide +kernel
theorem dX4_believes_43 : decode cX4_believes 43 = .ok (.getfield 32, 3) := by decide +kernel
theorem dX4_believes_46 : decode cX4_believes 46 = .ok (.iload_n 2, 1) := by decide +kernel
theorem dX4_believes_47 : decode cX4_believes 47 = .ok (.iaload, 1) := by decide +kernel
theorem dX4_believes_48 : decode cX4_believes 48 = .ok (.imul, 1) := by decide +kernel
theorem dX4_believes_49 : decode cX4_believes 49 = .ok (.if_icmp .ge 7, 3) := by decide +kernel
theorem dX4_believes_52 : decode cX4_believes 52 = .ok (.iconst 1, 1) := by decide +kernel
theorem dX4_believes_53 : decode cX4_believes 53 = .ok (.goto 4, 3) := by decide +kernel
theorem dX4_believes_56 : decode cX4_believes 56 = .ok (.iconst 0, 1) := by decide +kernel
theorem dX4_believes_57 : decode cX4_believes 57 = .ok (.ireturn, 1) := by decide +kernel
set_option maxRecDepth 20000 in
theorem ggX4_write_X4_isLock : GoodIn wsX4_write wsX4_isLock := goodIn_r _ [6] (by decide +kernel) (by decide +kernel)
set_option maxRecDepth 20000 in
theorem gX4_write_X4_isLock : GoodIn wsX4_write (va_wsS RX4 77 yX4_isLock wsX4_isLock) := goodIn_app (goodIn_of _ (by decide +kernel)) ggX4_write_X4_isLock
theorem dX4_write_0 : decode cX4_write 0 = .ok (.iload_n 1, 1) := by decide +kernel
theorem dX4_write_1 : decode cX4_write 1 = .ok (.invokestatic 77, 3) := by decide +kernel
theorem dX4_write_4 : decode cX4_write 4 = .ok (.ifCond .eq 18, 3) := by decide +kernel
theorem dX4_write_7 : decode cX4_write 7 = .ok (.iload_n 2, 1) := by decide +kernel
theorem dX4_write_8 : decode cX4_write 8 = .ok (.iconst 1, 1) := by decide +kernel
theorem dX4_write_9 : decode cX4_write 9 = .ok (.if_icmp .lt 13, 3) := by decide +kernel
theorem dX4_write_12 : decode cX4_write 12 = .ok (.iload_n 2, 1) := by decide +kernel
theorem dX4_write_13 : decode cX4_write 13 = .ok (.aload_n 0, 1) := by decide +kernel
theorem dX4_write_14 : decode cX4_write 14 = .ok (.getfield 44, 3) := by decide +kernel
theorem dX4_write_17 : decode cX4_write 17 = .ok (.iload_n 1, 1) := by decide +kernel
theorem dX4_write_18 : decode cX4_write 18 = .ok (.iaload, 1) := by decide +kernel
theorem dX4_write_19 : decode cX4_write 19 = .ok (.if_icmp .ge 5, 3) := by decide +kernel
theorem dX4_write_22 : decode cX4_write 22 = .ok (.iconst 0, 1) := by decide +kernel
theorem dX4_write_23 : decode cX4_write 23 = .ok (.ireturn, 1) := by decide +kernel
theorem dX4_write_24 : decode cX4_write 24 = .ok (.aload_n 0, 1) := by decide +kernel
theorem dX4_write_25 : decode cX4_write 25 = .ok (.getfield 44, 3) := by decide +kernel
theorem dX4_write_28 : decode cX4_write 28 = .ok (.iload_n 1, 1) := by decide +kernel
theorem dX4_write_29 : decode cX4_write 29 = .ok (.iload_n 2, 1) := by decide +kernel
theorem dX4_write_30 : decode cX4_write 30 = .ok (.iastore, 1) := by decide +kernel
theorem dX4_write_31 : decode cX4_write 31 = .ok (.aload_n 0, 1) := by decide +kernel
theorem dX4_write_32 : decode cX4_write 32 = .ok (.getfield 47, 3) := by decide +kernel
theorem dX4_write_35 : decode cX4_write 35 = .ok (.iload_n 1, 1) := by decide +kernel
theorem dX4_write_36 : decode cX4_write 36 = .ok (.iload_n 3, 1) := by decide +kernel
theorem dX4_write_37 : decode cX4_write 37 = .ok (.iastore, 1) := by decide +kernel
theorem dX4_write_38 : decode cX4_write 38 = .ok (.iconst 1, 1) := by decide +kernel
theorem dX4_write_39 : decode cX4_write 39 = .ok (.ireturn, 1) := by decide +kernel
set_option maxRecDepth 20000 in
theorem ggX4_stored_X4_isLock : GoodIn wsX4_stored wsX4_isLock := goodIn_r _ [5] (by decide +kernel) (by decide +kernel)
set_option maxRecDepth 20000 in
theorem gX4_stored_X4_isLock : GoodIn wsX4_stored (va_wsS RX4 77 yX4_isLock wsX4_isLock) := goodIn_app (goodIn_of _ (by decide +kernel)) ggX4_stored_X4_isLock
theorem dX4_stored_0 : decode cX4_stored 0 = .ok (.iload_n 1, 1) := by decide +kernel
theorem dX4_stored_1 : decode cX4_stored 1 = .ok (.invokestatic 77, 3) := by decide +kernel
theorem dX4_stored_4 : decode cX4_stored 4 = .ok (.ifCond .eq 12, 3) := by decide +kernel
theorem dX4_stored_7 : decode cX4_stored 7 = .ok (.aload_n 0, 1) := by decide +kernel
theorem dX4_stored_8 : decode cX4_stored 8 = .ok (.getfield 47, 3) := by decide +kernel
theorem dX4_stored_11 : decode cX4_stored 11 = .ok (.iload_n 1, 1) := by decide +kernel
theorem dX4_stored_12 : decode cX4_stored 12 = .ok (.iaload, 1) := by decide +kernel
theorem dX4_stored_13 : decode cX4_stored 13 = .ok (.goto 4, 3) := by decide +kernel
theorem dX4_stored_16 : decode cX4_stored 16 = .ok (.iconst 0, 1) := by decide +kernel
theorem dX4_stored_17 : decode cX4_stored 17 = .ok (.ireturn, 1) := by decide +kernel
set_option maxRecDepth 20000 in
theorem ggX4_seen_X4_isLock : GoodIn wsX4_seen wsX4_isLock := goodIn_r _ [5] (by decide +kernel) (by decide +kernel)
set_option maxRecDepth 20000 in
theorem gX4_seen_X4_isLock : GoodIn wsX4_seen (va_wsS RX4 77 yX4_isLock wsX4_isLock) := goodIn_app (goodIn_of _ (by decide +kernel)) ggX4_seen_X4_isLock
theorem dX4_seen_0 : decode cX4_seen 0 = .ok (.iload_n 1, 1) := by decide +kernel
theorem dX4_seen_1 : decode cX4_seen 1 = .ok (.invokestatic 77, 3) := by decide +kernel
theorem dX4_seen_4 : decode cX4_seen 4 = .ok (.ifCond .eq 12, 3) := by decide +kernel
theorem dX4_seen_7 : decode cX4_seen 7 = .ok (.aload_n 0, 1) := by decide +kernel
theorem dX4_seen_8 : decode cX4_seen 8 = .ok (.getfield 44, 3) := by decide +kernel
theorem dX4_seen_11 : decode cX4_seen 11 = .ok (.iload_n 1, 1) := by decide +kernel
theorem dX4_seen_12 : decode cX4_seen 12 = .ok (.iaload, 1) := by decide +kernel
theorem dX4_seen_13 : decode cX4_seen 13 = .ok (.goto 4, 3) := by decide +kernel
theorem dX4_seen_16 : decode cX4_seen 16 = .ok (.iconst (-1), 1) := by decide +kernel
theorem dX4_seen_17 : decode cX4_seen 17 = .ok (.ireturn, 1) := by decide +kernel
set_option maxRecDepth 20000 in
theorem ggL_open_X3_open : GoodIn wsL_open wsX3_open := goodIn_ca (goodIn_r _ [6, 7, 8, 9, 10, 11, 12, 13, 14, 15, 16, 17, 18, 19, 20, 21, 22, 23, 24, 25, 26, 27] (by decide +kernel) (by decide +kernel)) (goodIn_sub (fun _ h => List.mem_cons_of_mem _ (List.mem_append_right _ h)) (by decide +kernel))
set_option maxRecDepth 20000 in
theorem gL_open_X3_open : GoodIn wsL_open (wsV RL 7 RX3 yX3_open wsX3_open) := goodIn_app (goodIn_of _ (by decide +kernel)) ggL_open_X3_open
theorem dL_open_0 : decode cL_open 0 = .ok (.aload_n 1, 1) := by decide +kernel
theorem dL_open_1 : decode cL_open 1 = .ok (.iconst 0, 1) := by decide +kernel
theorem dL_open_2 : decode cL_open 2 = .ok (.aload_n 0, 1) := by decide +kernel
theorem dL_open_3 : decode cL_open 3 = .ok (.invokevirtual 7, 3) := by decide +kernel
theorem dL_open_6 : decode cL_open 6 = .ok (.i2l, 1) := by decide +kernel
theorem dL_open_7 : decode cL_open 7 = .ok (.lastore, 1) := by decide +kernel
theorem dL_open_8 : decode cL_open 8 = .ok (.goto 6, 3) := by decide +kernel
theorem dL_open_11 : decode cL_open 11 = .ok (.astore_n 2, 1) := by decide +kernel
theorem dL_open_12 : decode cL_open 12 = .ok (.iconst 1, 1) := by decide +kernel
theorem dL_open_13 : decode cL_open 13 = .ok (.ireturn, 1) := by decide +kernel
theorem dL_open_14 : decode cL_open 14 = .ok (.iconst 0, 1) := by decide +kernel
theorem dL_open_15 : decode cL_open 15 = .ok (.ireturn, 1) := by decide +kernel
set_option maxRecDepth 20000 in
theorem ggL_close_X3_close : GoodIn wsL_close wsX3_close := goodIn_ca (goodIn_r _ [6, 7, 8, 9, 5, 10, 11, 12, 13, 14, 15, 16, 17, 18, 19, 20, 21, 22, 23, 24, 25, 26, 27, 28, 29, 30, 31, 32, 33, 34, 35, 36, 37, 38, 39, 40, 41, 42, 43, 44, 45, 46, 47, 48, 49, 50, 51, 52, 53, 54, 55, 56, 57, 58, 59, 60, 61, 62, 63, 64, 65, 66, 67, 68, 69, 70, 71, 72, 73, 74, 75, 76, 77, 78, 79, 80, 81, 82, 83, 84, 85, 86, 87, 88, 89, 90, 91] (by decide +kernel) (by decide +kernel)) (goodIn_sub (fun _ h => List.mem_cons_of_mem _ (List.mem_append_right _ h)) (by decide +kernel))
set_option maxRecDepth 20000 in
theorem gL_close_X3_close : GoodIn wsL_close (wsV RL 15 RX3 yX3_close wsX3_close) := goodIn_app (goodIn_of _ (by decide +kernel)) ggL_close_X3_close
theorem dL_close_0 : decode cL_close 0 = .ok (.aload_n 2, 1) := by decide +kernel
theorem dL_close_1 : decode cL_close 1 = .ok (.iconst 0, 1) := by decide +kernel
theorem dL_close_2 : decode cL_close 2 = .ok (.aload_n 0, 1) := by decide +kernel
theorem dL_close_3 : decode cL_close 3 = .ok (.iload_n 1, 1) := by decide +kernel
theorem dL_close_4 : decode cL_close 4 = .ok (.invokevirtual 15, 3) := by decide +kernel
theorem dL_close_7 : decode cL_close 7 = .ok (.i2l, 1) := by decide +kernel
theorem dL_close_8 : decode cL_close 8 = .ok (.lastore, 1) := by decide +kernel
theorem dL_close_9 : decode cL_close 9 = .ok (.goto 6, 3) := by decide +kernel
theorem dL_close_12 : decode cL_close 12 = .ok (.astore_n 3, 1) := by decide +kernel
theorem dL_close_13 : decode cL_close 13 = .ok (.iconst 1, 1) := by decide +kernel
theorem dL_close_14 : decode cL_close 14 = .ok (.ireturn, 1) := by decide +kernel
theorem dL_close_15 : decode cL_close 15 = .ok (.iconst 0, 1) := by decide +kernel
theorem dL_close_16 : decode cL_close 16 = .ok (.ireturn, 1) := by decide +kernel
set_option maxRecDepth 20000 in
theorem ggL_keep_X3_keep : GoodIn wsL_keep wsX3_keep := goodIn_ca (goodIn_r _ [6, 7, 8, 9, 10, 11, 5, 12, 13, 14, 15, 16, 17, 18, 19, 20, 21, 22, 23, 24, 25, 26, 27] (by decide +kernel) (by decide +kernel)) (goodIn_sub (fun _ h => List.mem_cons_of_mem _ (List.mem_append_right _ h)) (by decide +kernel))
set_option maxRecDepth 20000 in
theorem gL_keep_X3_keep : GoodIn wsL_keep (wsV RL 21 RX3 yX3_keep wsX3_keep) := goodIn_app (goodIn_of _ (by decide +kernel)) ggL_keep_X3_keep
theorem dL_keep_0 : decode cL_keep 0 = .ok (.aload_n 0, 1) := by decide +kernel
theorem dL_keep_1 : decode cL_keep 1 = .ok (.iload_n 1, 1) := by decide +kernel
theorem dL_keep_2 : decode cL_keep 2 = .ok (.invokevirtual 21, 3) := by decide +kernel
theorem dL_keep_5 : decode cL_keep 5 = .ok (.goto 6, 3) := by decide +kernel
theorem dL_keep_8 : decode cL_keep 8 = .ok (.astore_n 2, 1) := by decide +kernel
theorem dL_keep_9 : decode cL_keep 9 = .ok (.iconst 1, 1) := by decide +kernel
theorem dL_keep_10 : decode cL_keep 10 = .ok (.ireturn, 1) := by decide +kernel
theorem dL_keep_11 : decode cL_keep 11 = .ok (.iconst 0, 1) := by decide +kernel
theorem dL_keep_12 : decode cL_keep 12 = .ok (.ireturn, 1) := by decide +kernel
set_option maxRecDepth 20000 in
theorem ggL_acquire_X3_acquire : GoodIn wsL_acquire wsX3_acquire := goodIn_ca (goodIn_ca (goodIn_r _ [7, 8, 9, 10, 11, 12, 13, 14, 15, 16, 17, 18, 6, 19, 20, 21, 22, 23, 24, 25, 26, 27, 28, 29, 30, 31, 32, 33, 34, 35, 36, 37, 38, 39, 40, 41, 42, 43, 44, 45, 46, 47, 48, 49, 50, 51, 52, 53, 54, 55, 56, 57, 58, 59, 60, 61, 62, 63, 64, 65, 66, 67, 68, 69, 70, 71, 72, 73, 74, 75, 76, 77, 78, 79, 80, 81, 82, 83, 84, 85, 86, 87, 88] (by decide +kernel) (by decide +kernel)) (goodIn_sub (fun _ h => List.mem_cons_of_mem _ (List.mem_append_left _ (List.mem_append_right _ h))) (by decide +kernel))) (goodIn_sub (fun _ h => List.mem_cons_of_mem _ (List.mem_append_right _ h)) (by decide +kernel))
set_option maxRecDepth 20000 in
theorem gL_acquire_X3_acquire : GoodIn wsL_acquire (wsV RL 25 RX3 yX3_acquire wsX3_acquire) := goodIn_app (goodIn_of _ (by decide +kernel)) ggL_acquire_X3_acquire
theorem dL_acquire_0 : decode cL_acquire 0 = .ok (.aload 4, 2) := by decide +kernel
theorem dL_acquire_2 : decode cL_acquire 2 = .ok (.iconst 0, 1) := by decide +kernel
theorem dL_acquire_3 : decode cL_acquire 3 = .ok (.aload_n 0, 1) := by decide +kernel
theorem dL_acquire_4 : decode cL_acquire 4 = .ok (.iload_n 1, 1) := by decide +kernel
theorem dL_acquire_5 : decode cL_acquire 5 = .ok (.iload_n 2, 1) := by decide +kernel
theorem dL_acquire_6 : decode cL_acquire 6 = .ok (.iload_n 3, 1) := by decide +kernel
theorem dL_acquire_7 : decode cL_acquire 7 = .ok (.invokevirtual 25, 3) := by decide +kernel
theorem dL_acquire_10 : decode cL_acquire 10 = .ok (.i2l, 1) := by decide +kernel
theorem dL_acquire_11 : decode cL_acquire 11 = .ok (.lastore, 1) := by decide +kernel
theorem dL_acquire_12 : decode cL_acquire 12 = .ok (.goto 11, 3) := by decide +kernel
theorem dL_acquire_15 : decode cL_acquire 15 = .ok (.astore 5, 2) := by decide +kernel
theorem dL_acquire_17 : decode cL_acquire 17 = .ok (.iconst 1, 1) := by decide +kernel
theorem dL_acquire_18 : decode cL_acquire 18 = .ok (.ireturn, 1) := by decide +kernel
theorem dL_acquire_19 : decode cL_acquire 19 = .ok (.astore 5, 2) := by decide +kernel
theorem dL_acquire_21 : decode cL_acquire 21 = .ok (.iconst 2, 1) := by decide +kernel
theorem dL_acquire_22 : decode cL_acquire 22 = .ok (.ireturn, 1) := by decide +kernel
theorem dL_acquire_23 : decode cL_acquire 23 = .ok (.iconst 0, 1) := by decide +kernel
theorem dL_acquire_24 : decode cL_acquire 24 = .ok (.ireturn, 1) := by decide +kernel
set_option maxRecDepth 20000 in
theorem ggL_release_X3_release : GoodIn wsL_release wsX3_release := goodIn_ca (goodIn_ca (goodIn_ca (goodIn_r _ [8, 9, 10, 11, 12, 13, 14, 7, 15, 16, 17, 18, 19, 20, 21, 22, 23, 24, 25, 26, 27, 28, 29, 30, 31, 32, 33, 34, 35, 36, 37, 38, 39, 40, 41, 42, 43, 44, 45, 46, 47, 48, 49, 50, 51, 52, 53, 54, 55, 56, 57, 58, 59, 60, 61, 62, 63, 64, 65, 66, 67, 68, 69, 70, 71, 72, 73, 74, 75, 76, 77, 78, 79, 80, 81, 82, 83, 84, 85, 86, 87, 88, 89, 90, 91, 92, 93, 94, 95, 96, 97, 98, 99, 100, 101] (by decide +kernel) (by decide +kernel)) (goodIn_sub (fun _ h => List.mem_cons_of_mem _ (List.mem_append_left _ (List.mem_append_left _ (List.mem_append_right _ h)))) (by decide +kernel))) (goodIn_sub (fun _ h => List.mem_cons_of_mem _ (List.mem_append_left _ (List.mem_append_right _ h))) (by decide +kernel))) (goodIn_sub (fun _ h => List.mem_cons_of_mem _ (List.mem_append_right _ h)) (by decide +kernel))
set_option maxRecDepth 20000 in
theorem gL_release_X3_release : GoodIn wsL_release (wsV RL 31 RX3 yX3_release wsX3_release) := goodIn_app (goodIn_of _ (by decide +kernel)) ggL_release_X3_release
theorem dL_release_0 : decode cL_release 0 = .ok (.aload_n 0, 1) := by decide +kernel
theorem dL_release_1 : decode cL_release 1 = .ok (.iload_n 1, 1) := by decide +kernel
theorem dL_release_2 : decode cL_release 2 = .ok (.iload_n 2, 1) := by decide +kernel
theorem dL_release_3 : decode cL_release 3 = .ok (.invokevirtual 31, 3) := by decide +kernel
theorem dL_release_6 : decode cL_release 6 = .ok (.goto 12, 3) := by decide +kernel
theorem dL_release_9 : decode cL_release 9 = .ok (.astore_n 3, 1) := by decide +kernel
theorem dL_release_10 : decode cL_release 10 = .ok (.iconst 1, 1) := by decide +kernel
theorem dL_release_11 : decode cL_release 11 = .ok (.ireturn, 1) := by decide +kernel
theorem dL_release_12 : decode cL_release 12 = .ok (.astore_n 3, 1) := by decide +kernel
theorem dL_release_13 : decode cL_release 13 = .ok (.iconst 2, 1) := by decide +kernel
theorem dL_release_14 : decode cL_release 14 = .ok (.ireturn, 1) := by decide +kernel
theorem dL_release_15 : decode cL_release 15 = .ok (.astore_n 3, 1) := by decide +kernel
theorem dL_release_16 : decode cL_release 16 = .ok (.iconst 3, 1) := by decide +kernel
theorem dL_release_17 : decode cL_release 17 = .ok (.ireturn, 1) := by decide +kernel
theorem dL_release_18 : decode cL_release 18 = .ok (.iconst 0, 1) := by decide +kernel
theorem dL_release_19 : decode cL_release 19 = .ok (.ireturn, 1) := by decide +kernel
set_option maxRecDepth 20000 in
theorem ggL_law_X3_init : GoodIn wsL_law wsX3_init := goodIn_r _ [9, 10, 11, 12, 13, 14, 15, 16, 17, 18, 19, 20, 21, 22, 23, 24, 25, 26, 27, 28, 29, 30, 31, 32, 33, 34, 35, 36, 37, 38, 358, 359, 360, 377, 378, 379, 380, 381, 382, 383, 384, 385, 386, 387, 388, 389, 390, 391] (by decide +kernel) (by decide +kernel)
set_option maxRecDepth 20000 in
theorem gL_law_X3_init : GoodIn wsL_law (wsX3_init) := ggL_law_X3_init
set_option maxRecDepth 20000 in
theorem ggL_law_X4_init : GoodIn wsL_law wsX4_init := goodIn_r _ [41, 42, 11, 12, 43, 44, 36, 45, 46, 47, 48, 49, 50, 51, 52, 53, 54, 55, 56, 361, 362, 363, 364, 365, 366, 367, 368, 369, 370, 371, 372, 373, 374, 375, 376] (by decide +kernel) (by decide +kernel)
set_option maxRecDepth 20000 in
theorem gL_law_X4_init : GoodIn wsL_law (wsX4_init) := ggL_law_X4_init
set_option maxRecDepth 20000 in
theorem ggL_law_L_open : GoodIn wsL_law wsL_open := goodIn_ca (goodIn_r _ [60, 61, 62, 63, 64, 2, 65, 66, 67, 14, 68, 21, 69, 70, 71, 16, 72, 73, 74, 75, 76, 358, 359, 360, 377, 378, 379, 380] (by decide +kernel) (by decide +kernel)) (goodIn_sub (fun _ h => List.mem_append_left _ (List.mem_append_left _ (List.mem_append_right _ h))) (by decide +kernel))
set_option maxRecDepth 20000 in
theorem gL_law_L_open : GoodIn wsL_law (va_wsS RL 39 yL_open wsL_open) := goodIn_app (goodIn_of _ (by decide +kernel)) ggL_law_L_open
set_option maxRecDepth 20000 in
theorem ggL_law_X4_open : GoodIn wsL_law wsX4_open := goodIn_r _ [80, 44, 45, 81, 46, 47, 82, 361, 362, 363, 364, 365, 366, 367, 368, 369, 370, 371, 372, 373, 374, 375, 376] (by decide +kernel) (by decide +kernel)
set_option maxRecDepth 20000 in
theorem gL_law_X4_open : GoodIn wsL_law (wsV RL 44 RX4 yX4_open wsX4_open) := goodIn_app (goodIn_of _ (by decide +kernel)) ggL_law_X4_open
set_option maxRecDepth 20000 in
theorem ggL_law_X4_thrown : GoodIn wsL_law wsX4_thrown := goodIn_r _ [86, 82, 361, 362, 363, 364, 365, 366, 367, 368, 369, 370, 371, 372, 373, 374, 375, 376] (by decide +kernel) (by decide +kernel)
set_option maxRecDepth 20000 in
theorem gL_law_X4_thrown : GoodIn wsL_law (wsV RL 45 RX4 yX4_thrown wsX4_thrown) := goodIn_app (goodIn_of _ (by decide +kernel)) ggL_law_X4_thrown
set_option maxRecDepth 20000 in
theorem ggL_law_L_close : GoodIn wsL_law wsL_close := goodIn_ca (goodIn_r _ [89, 90, 91, 92, 93, 2, 94, 95, 96, 97, 98, 99, 100, 101, 102, 103, 104, 14, 68, 105, 106, 107, 108, 18, 109, 110, 111, 112, 113, 30, 114, 115, 37, 38, 116, 117, 118, 119, 120, 121, 122, 123, 21, 124, 125, 126, 127, 128, 129, 130, 131, 132, 133, 134, 135, 136, 137, 138, 139, 140, 141, 142, 143, 20, 144, 32, 145, 146, 147, 148, 149, 150, 151, 152, 358, 359, 360, 377, 378, 379, 380, 381, 382, 383, 384, 385, 386, 387, 388, 389, 390, 391] (by decide +kernel) (by decide +kernel)) (goodIn_sub (fun _ h => List.mem_append_left _ (List.mem_append_right _ h)) (by decide +kernel))
set_option maxRecDepth 20000 in
theorem gL_law_L_close : GoodIn wsL_law (va_wsS RL 48 yL_close wsL_close) := goodIn_app (goodIn_of _ (by decide +kernel)) ggL_law_L_close
set_option maxRecDepth 20000 in
theorem ggL_law_X4_close : GoodIn wsL_law wsX4_close := goodIn_r _ [156, 82, 157, 158, 159, 5, 160, 44, 161, 162, 163, 164, 53, 48, 165, 166, 167, 168, 54, 169, 170, 171, 172, 173, 174, 175, 176, 49, 50, 81, 51, 52, 47, 361, 362, 363, 364, 365, 366, 367, 368, 369, 370, 371, 372, 373, 374, 375, 376] (by decide +kernel) (by decide +kernel)
set_option maxRecDepth 20000 in
theorem gL_law_X4_close : GoodIn wsL_law (wsV RL 51 RX4 yX4_close wsX4_close) := goodIn_app (goodIn_of _ (by decide +kernel)) ggL_law_X4_close
set_option maxRecDepth 20000 in
theorem ggL_law_L_keep : GoodIn wsL_law wsL_keep := goodIn_ca (goodIn_r _ [179, 90, 180, 181, 182, 2, 183, 21, 184, 95, 96, 97, 98, 99, 100, 101, 102, 103, 104, 14, 68, 358, 359, 360, 377, 378, 379, 380] (by decide +kernel) (by decide +kernel)) (goodIn_sub (fun _ h => List.mem_append_left _ (List.mem_append_right _ h)) (by decide +kernel))
set_option maxRecDepth 20000 in
theorem gL_law_L_keep : GoodIn wsL_law (va_wsS RL 52 yL_keep wsL_keep) := goodIn_app (goodIn_of _ (by decide +kernel)) ggL_law_L_keep
set_option maxRecDepth 20000 in
theorem ggL_law_X4_keep : GoodIn wsL_law wsX4_keep := goodIn_r _ [188, 82, 45, 81, 157, 158, 159, 5, 160, 44, 361, 362, 363, 364, 365, 366, 367, 368, 369, 370, 371, 372, 373, 374, 375, 376] (by decide +kernel) (by decide +kernel)
set_option maxRecDepth 20000 in
theorem gL_law_X4_keep : GoodIn wsL_law (wsV RL 55 RX4 yX4_keep wsX4_keep) := goodIn_app (goodIn_of _ (by decide +kernel)) ggL_law_X4_keep
set_option maxRecDepth 20000 in
theorem ggL_law_X3_rate : GoodIn wsL_law wsX3_rate := goodIn_r _ [192, 193, 101, 102, 103, 2, 104, 14, 68, 377, 378, 379, 380, 358, 359, 360] (by decide +kernel) (by decide +kernel)
set_option maxRecDepth 20000 in
theorem gL_law_X3_rate : GoodIn wsL_law (wsV RL 56 RX3 yX3_rate wsX3_rate) := goodIn_app (goodIn_of _ (by decide +kernel)) ggL_law_X3_rate
set_option maxRecDepth 20000 in
theorem ggL_law_X4_rate : GoodIn wsL_law wsX4_rate := goodIn_r _ [197, 46, 157, 158, 159, 5, 160, 44, 361, 362, 363, 364, 365, 366, 367, 368, 369, 370, 371, 372, 373, 374, 375, 376] (by decide +kernel) (by decide +kernel)
set_option maxRecDepth 20000 in
theorem gL_law_X4_rate : GoodIn wsL_law (wsV RL 60 RX4 yX4_rate wsX4_rate) := goodIn_app (goodIn_of _ (by decide +kernel)) ggL_law_X4_rate
set_option maxRecDepth 20000 in
theorem ggL_law_X3_tick : GoodIn wsL_law wsX3_tick := goodIn_r _ [201, 21, 202, 203, 204, 2, 205, 14, 68, 140, 193, 206, 207, 208, 209, 184, 105, 106, 107, 108, 18, 109, 110, 111, 112, 113, 30, 114, 115, 37, 38, 116, 117, 118, 119, 120, 121, 122, 123, 124, 125, 126, 127, 128, 129, 130, 131, 132, 133, 134, 135, 136, 137, 138, 139, 101, 102, 103, 104, 141, 142, 143, 20, 144, 32, 145, 146, 147, 148, 149, 150, 151, 152, 210, 211, 212, 213, 214, 215, 216, 217, 218, 358, 359, 360, 377, 378, 379, 380, 381, 382, 383, 384, 385, 386, 387, 388, 389, 390, 391] (by decide +kernel) (by decide +kernel)
set_option maxRecDepth 20000 in
theorem gL_law_X3_tick : GoodIn wsL_law (wsV RL 61 RX3 yX3_tick wsX3_tick) := goodIn_app (goodIn_of _ (by decide +kernel)) ggL_law_X3_tick
set_option maxRecDepth 20000 in
theorem ggL_law_X4_tick : GoodIn wsL_law wsX4_tick := goodIn_r _ [222, 81, 44, 47, 46, 45, 48, 50, 161, 162, 163, 5, 164, 53, 165, 166, 167, 168, 54, 169, 170, 171, 172, 173, 174, 175, 176, 49, 51, 52, 361, 362, 363, 364, 365, 366, 367, 368, 369, 370, 371, 372, 373, 374, 375, 376] (by decide +kernel) (by decide +kernel)
set_option maxRecDepth 20000 in
theorem gL_law_X4_tick : GoodIn wsL_law (wsV RL 64 RX4 yX4_tick wsX4_tick) := goodIn_app (goodIn_of _ (by decide +kernel)) ggL_law_X4_tick
set_option maxRecDepth 20000 in
theorem ggL_law_L_acquire : GoodIn wsL_law wsL_acquire := goodIn_ca (goodIn_ca (goodIn_r _ [225, 90, 226, 227, 228, 229, 2, 230, 231, 232, 21, 184, 110, 140, 233, 109, 95, 96, 97, 98, 99, 100, 101, 102, 103, 104, 14, 68, 234, 235, 236, 237, 238, 239, 240, 241, 18, 242, 243, 244, 20, 245, 150, 146, 147, 148, 149, 151, 152, 215, 216, 217, 218, 32, 141, 142, 143, 144, 145, 246, 247, 248, 30, 249, 38, 115, 37, 116, 117, 118, 119, 358, 359, 360, 377, 378, 379, 380, 381, 382, 383, 384, 385, 386, 387, 388, 389, 390, 391] (by decide +kernel) (by decide +kernel)) (goodIn_sub (fun _ h => List.mem_append_right _ h) (by decide +kernel))) (goodIn_sub (fun _ h => List.mem_append_left _ (List.mem_append_right _ h)) (by decide +kernel))
set_option maxRecDepth 20000 in
theorem gL_law_L_acquire : GoodIn wsL_law (va_wsS RL 65 yL_acquire wsL_acquire) := goodIn_app (goodIn_of _ (by decide +kernel)) ggL_law_L_acquire
set_option maxRecDepth 20000 in
theorem ggL_law_X4_acquire : GoodIn wsL_law wsX4_acquire := goodIn_r _ [253, 82, 45, 81, 48, 50, 51, 52, 47, 49, 53, 254, 54, 157, 158, 159, 5, 160, 44, 255, 256, 257, 173, 174, 175, 176, 361, 362, 363, 364, 365, 366, 367, 368, 369, 370, 371, 372, 373, 374, 375, 376] (by decide +kernel) (by decide +kernel)
set_option maxRecDepth 20000 in
theorem gL_law_X4_acquire : GoodIn wsL_law (wsV RL 68 RX4 yX4_acquire wsX4_acquire) := goodIn_app (goodIn_of _ (by decide +kernel)) ggL_law_X4_acquire
set_option maxRecDepth 20000 in
theorem ggL_law_L_release : GoodIn wsL_law wsL_release := goodIn_ca (goodIn_ca (goodIn_ca (goodIn_r _ [260, 90, 226, 61, 261, 262, 263, 2, 264, 66, 67, 110, 95, 96, 97, 98, 99, 100, 101, 102, 103, 104, 14, 68, 234, 235, 236, 237, 231, 232, 238, 239, 240, 241, 18, 120, 121, 122, 123, 109, 21, 124, 125, 126, 30, 127, 37, 128, 129, 130, 131, 115, 132, 133, 134, 135, 38, 111, 112, 113, 114, 116, 117, 118, 119, 136, 137, 138, 139, 140, 141, 142, 143, 20, 144, 32, 145, 146, 147, 148, 149, 150, 151, 152, 381, 382, 383, 384, 385, 386, 387, 388, 358, 359, 360, 377, 378, 379, 380, 389, 390, 391] (by decide +kernel) (by decide +kernel)) (goodIn_sub (fun _ h => List.mem_append_left _ (List.mem_append_left _ (List.mem_append_right _ h))) (by decide +kernel))) (goodIn_sub (fun _ h => List.mem_append_left _ (List.mem_append_right _ h)) (by decide +kernel))) (goodIn_sub (fun _ h => List.mem_append_right _ h) (by decide +kernel))
set_option maxRecDepth 20000 in
theorem gL_law_L_release : GoodIn wsL_law (va_wsS RL 69 yL_release wsL_release) := goodIn_app (goodIn_of _ (by decide +kernel)) ggL_law_L_release
set_option maxRecDepth 20000 in
theorem ggL_law_X4_release : GoodIn wsL_law wsX4_release := goodIn_r _ [268, 48, 82, 157, 158, 159, 5, 160, 44, 255, 256, 257, 165, 166, 167, 168, 54, 169, 170, 171, 172, 53, 173, 174, 175, 176, 49, 50, 81, 51, 52, 47, 361, 362, 363, 364, 365, 366, 367, 368, 369, 370, 371, 372, 373, 374, 375, 376] (by decide +kernel) (by decide +kernel)
set_option maxRecDepth 20000 in
theorem gL_law_X4_release : GoodIn wsL_law (wsV RL 72 RX4 yX4_release wsX4_release) := goodIn_app (goodIn_of _ (by decide +kernel)) ggL_law_X4_release
set_option maxRecDepth 20000 in
theorem ggL_law_X3_cancel : GoodIn wsL_law wsX3_cancel := goodIn_r _ [272, 109, 238, 239, 240, 2, 241, 18, 111, 112, 113, 30, 114, 115, 37, 38, 116, 117, 118, 119, 381, 382, 383, 384, 385, 386, 387, 388, 358, 359, 360, 389, 390, 391] (by decide +kernel) (by decide +kernel)
set_option maxRecDepth 20000 in
theorem gL_law_X3_cancel : GoodIn wsL_law (wsV RL 73 RX3 yX3_cancel wsX3_cancel) := goodIn_app (goodIn_of _ (by decide +kernel)) ggL_law_X3_cancel
set_option maxRecDepth 20000 in
theorem ggL_law_X4_cancel : GoodIn wsL_law wsX4_cancel := goodIn_r _ [276, 53, 157, 158, 159, 5, 160, 44, 255, 256, 257, 361, 362, 363, 364, 365, 366, 367, 368, 369, 370, 371, 372, 373, 374, 375, 376] (by decide +kernel) (by decide +kernel)
set_option maxRecDepth 20000 in
theorem gL_law_X4_cancel : GoodIn wsL_law (wsV RL 76 RX4 yX4_cancel wsX4_cancel) := goodIn_app (goodIn_of _ (by decide +kernel)) ggL_law_X4_cancel
set_option maxRecDepth 20000 in
theorem ggL_law_X3_holder : GoodIn wsL_law wsX3_holder := goodIn_r _ [280, 110, 238, 239, 240, 2, 241, 18, 381, 382, 383, 384, 385, 386, 387, 388, 358, 359, 360] (by decide +kernel) (by decide +kernel)
set_option maxRecDepth 20000 in
theorem gL_law_X3_holder : GoodIn wsL_law (wsV RL 77 RX3 yX3_holder wsX3_holder) := goodIn_app (goodIn_of _ (by decide +kernel)) ggL_law_X3_holder
set_option maxRecDepth 20000 in
theorem ggL_law_X4_holder : GoodIn wsL_law wsX4_holder := goodIn_r _ [284, 48, 255, 256, 5, 257, 361, 362, 363, 364, 365, 366, 367, 368, 369, 370, 371, 372, 373, 374, 375, 376] (by decide +kernel) (by decide +kernel)
set_option maxRecDepth 20000 in
theorem gL_law_X4_holder : GoodIn wsL_law (wsV RL 80 RX4 yX4_holder wsX4_holder) := goodIn_app (goodIn_of _ (by decide +kernel)) ggL_law_X4_holder
set_option maxRecDepth 20000 in
theorem ggL_law_X3_token : GoodIn wsL_law wsX3_token := goodIn_r _ [288, 233, 238, 239, 240, 2, 241, 18, 381, 382, 383, 384, 385, 386, 387, 388, 358, 359, 360] (by decide +kernel) (by decide +kernel)
set_option maxRecDepth 20000 in
theorem gL_law_X3_token : GoodIn wsL_law (wsV RL 81 RX3 yX3_token wsX3_token) := goodIn_app (goodIn_of _ (by decide +kernel)) ggL_law_X3_token
set_option maxRecDepth 20000 in
theorem ggL_law_X4_token : GoodIn wsL_law wsX4_token := goodIn_r _ [292, 49, 255, 256, 5, 257, 361, 362, 363, 364, 365, 366, 367, 368, 369, 370, 371, 372, 373, 374, 375, 376] (by decide +kernel) (by decide +kernel)
set_option maxRecDepth 20000 in
theorem gL_law_X4_token : GoodIn wsL_law (wsV RL 84 RX4 yX4_token wsX4_token) := goodIn_app (goodIn_of _ (by decide +kernel)) ggL_law_X4_token
set_option maxRecDepth 20000 in
theorem ggL_law_X3_until : GoodIn wsL_law wsX3_until := goodIn_r _ [296, 214, 238, 239, 240, 2, 241, 18, 215, 216, 217, 20, 218, 32, 381, 382, 383, 384, 385, 386, 387, 388, 358, 359, 360] (by decide +kernel) (by decide +kernel)
set_option maxRecDepth 20000 in
theorem gL_law_X3_until : GoodIn wsL_law (wsV RL 85 RX3 yX3_until wsX3_until) := goodIn_app (goodIn_of _ (by decide +kernel)) ggL_law_X3_until
set_option maxRecDepth 20000 in
theorem ggL_law_X4_until : GoodIn wsL_law wsX4_until := goodIn_r _ [300, 48, 50, 255, 256, 5, 257, 361, 362, 363, 364, 365, 366, 367, 368, 369, 370, 371, 372, 373, 374, 375, 376] (by decide +kernel) (by decide +kernel)
set_option maxRecDepth 20000 in
theorem gL_law_X4_until : GoodIn wsL_law (wsV RL 88 RX4 yX4_until wsX4_until) := goodIn_app (goodIn_of _ (by decide +kernel)) ggL_law_X4_until
