theorem dX9_init_124 : decode cX9_init 124 = .ok (.putfield 59, 3) := by decide +kernel
theorem dX9_init_127 : decode cX9_init 127 = .ok (.aload_n 0, 1) := by decide +kernel
theorem dX9_init_128 : decode cX9_init 128 = .ok (.new 63, 3) := by decide +kernel
theorem dX9_init_131 : decode cX9_init 131 = .ok (.dup, 1) := by decide +kernel
theorem dX9_init_132 : decode cX9_init 132 = .ok (.aload_n 0, 1) := by decide +kernel
theorem dX9_init_133 : decode cX9_init 133 = .ok (.getfield 59, 3) := by decide +kernel
theorem dX9_init_136 : decode cX9_init 136 = .ok (.invokespecial 65, 3) := by decide +kernel
theorem dX9_init_139 : decode cX9_init 139 = .ok (.putfield 68, 3) := by decide +kernel
theorem dX9_init_142 : decode cX9_init 142 = .ok (.aload_n 0, 1) := by decide +kernel
theorem dX9_init_143 : decode cX9_init 143 = .ok (.new 72, 3) := by decide +kernel
theorem dX9_init_146 : decode cX9_init 146 = .ok (.dup, 1) := by decide +kernel
theorem dX9_init_147 : decode cX9_init 147 = .ok (.aload_n 0, 1) := by decide +kernel
theorem dX9_init_148 : decode cX9_init 148 = .ok (.getfield 19, 3) := by decide +kernel
theorem dX9_init_151 : decode cX9_init 151 = .ok (.invokespecial 74, 3) := by decide +kernel
theorem dX9_init_154 : decode cX9_init 154 = .ok (.putfield 75, 3) := by decide +kernel
theorem dX9_init_157 : decode cX9_init 157 = .ok (.aload_n 0, 1) := by decide +kernel
theorem dX9_init_158 : decode cX9_init 158 = .ok (.new 79, 3) := by decide +kernel
theorem dX9_init_161 : decode cX9_init 161 = .ok (.dup, 1) := by decide +kernel
theorem dX9_init_162 : decode cX9_init 162 = .ok (.aload_n 0, 1) := by decide +kernel
theorem dX9_init_163 : decode cX9_init 163 = .ok (.getfield 19, 3) := by decide +kernel
theorem dX9_init_166 : decode cX9_init 166 = .ok (.invokespecial 81, 3) := by decide +kernel
theorem dX9_init_169 : decode cX9_init 169 = .ok (.putfield 82, 3) := by decide +kernel
theorem dX9_init_172 : decode cX9_init 172 = .ok (.aload_n 0, 1) := by decide +kernel
theorem dX9_init_173 : decode cX9_init 173 = .ok (.iconst (-1), 1) := by decide +kernel
theorem dX9_init_174 : decode cX9_init 174 = .ok (.putfield 86, 3) := by decide +kernel
theorem dX9_init_177 : decode cX9_init 177 = .ok (.return_, 1) := by decide +kernel
theorem dX9_feed_0 : decode cX9_feed 0 = .ok (.iload_n 1, 1) := by decide +kernel
theorem dX9_feed_1 : decode cX9_feed 1 = .ok (.iconst 1, 1) := by decide +kernel
theorem dX9_feed_2 : decode cX9_feed 2 = .ok (.bipush 8, 2) := by decide +kernel
theorem dX9_feed_4 : decode cX9_feed 4 = .ok (.invokestatic 90, 3) := by decide +kernel
theorem dX9_feed_7 : decode cX9_feed 7 = .ok (.ifCond .ne 6, 3) := by decide +kernel
theorem dX9_feed_10 : decode cX9_feed 10 = .ok (.ldc 94, 2) := by decide +kernel
theorem dX9_feed_12 : decode cX9_feed 12 = .ok (.ireturn, 1) := by decide +kernel
theorem dX9_feed_13 : decode cX9_feed 13 = .ok (.aload_n 0, 1) := by decide +kernel
theorem dX9_feed_14 : decode cX9_feed 14 = .ok (.getfield 10, 3) := by decide +kernel
theorem dX9_feed_17 : decode cX9_feed 17 = .ok (.getfield 95, 3) := by decide +kernel
theorem dX9_feed_20 : decode cX9_feed 20 = .ok (.iload_n 1, 1) := by decide +kernel
theorem dX9_feed_21 : decode cX9_feed 21 = .ok (.iadd, 1) := by decide +kernel
theorem dX9_feed_22 : decode cX9_feed 22 = .ok (.sipush 500, 3) := by decide +kernel
theorem dX9_feed_25 : decode cX9_feed 25 = .ok (.if_icmp .le 6, 3) := by decide +kernel
theorem dX9_feed_28 : decode cX9_feed 28 = .ok (.ldc 98, 2) := by decide +kernel
theorem dX9_feed_30 : decode cX9_feed 30 = .ok (.ireturn, 1) := by decide +kernel
theorem dX9_feed_31 : decode cX9_feed 31 = .ok (.aload_n 0, 1) := by decide +kernel
theorem dX9_feed_32 : decode cX9_feed 32 = .ok (.getfield 10, 3) := by decide +kernel
theorem dX9_feed_35 : decode cX9_feed 35 = .ok (.iload_n 1, 1) := by decide +kernel
theorem dX9_feed_36 : decode cX9_feed 36 = .ok (.lload_n 2, 1) := by decide +kernel
theorem dX9_feed_37 : decode cX9_feed 37 = .ok (.invokevirtual 99, 3) := by decide +kernel
theorem dX9_feed_40 : decode cX9_feed 40 = .ok (.aload_n 0, 1) := by decide +kernel
theorem dX9_feed_41 : decode cX9_feed 41 = .ok (.getfield 10, 3) := by decide +kernel
theorem dX9_feed_44 : decode cX9_feed 44 = .ok (.getfield 95, 3) := by decide +kernel
theorem dX9_feed_47 : decode cX9_feed 47 = .ok (.ireturn, 1) := by decide +kernel
theorem dX9_market_0 : decode cX9_market 0 = .ok (.aload_n 0, 1) := by decide +kernel
theorem dX9_market_1 : decode cX9_market 1 = .ok (.getfield 28, 3) := by decide +kernel
theorem dX9_market_4 : decode cX9_market 4 = .ok (.invokevirtual 103, 3) := by decide +kernel
theorem dX9_market_7 : decode cX9_market 7 = .ok (.istore_n 1, 1) := by decide +kernel
theorem dX9_market_8 : decode cX9_market 8 = .ok (.aload_n 0, 1) := by decide +kernel
theorem dX9_market_9 : decode cX9_market 9 = .ok (.getfield 10, 3) := by decide +kernel
theorem dX9_market_12 : decode cX9_market 12 = .ok (.iconst 0, 1) := by decide +kernel
theorem dX9_market_13 : decode cX9_market 13 = .ok (.putfield 95, 3) := by decide +kernel
theorem dX9_market_16 : decode cX9_market 16 = .ok (.iload_n 1, 1) := by decide +kernel
theorem dX9_market_17 : decode cX9_market 17 = .ok (.ifCond .eq 19, 3) := by decide +kernel
theorem dX9_market_20 : decode cX9_market 20 = .ok (.aload_n 0, 1) := by decide +kernel
theorem dX9_market_21 : decode cX9_market 21 = .ok (.aload_n 0, 1) := by decide +kernel
theorem dX9_market_22 : decode cX9_market 22 = .ok (.getfield 28, 3) := by decide +kernel
theorem dX9_market_25 : decode cX9_market 25 = .ok (.getfield 107, 3) := by decide +kernel
theorem dX9_market_28 : decode cX9_market 28 = .ok (.putfield 86, 3) := by decide +kernel
theorem dX9_market_31 : decode cX9_market 31 = .ok (.bipush (-10), 2) := by decide +kernel
theorem dX9_market_33 : decode cX9_market 33 = .ok (.iload_n 1, 1) := by decide +kernel
theorem dX9_market_34 : decode cX9_market 34 = .ok (.isub, 1) := by decide +kernel
theorem dX9_market_35 : decode cX9_market 35 = .ok (.ireturn, 1) := by decide +kernel
theorem dX9_market_36 : decode cX9_market 36 = .ok (.aload_n 0, 1) := by decide +kernel
theorem dX9_market_37 : decode cX9_market 37 = .ok (.iconst (-1), 1) := by decide +kernel
theorem dX9_market_38 : decode cX9_market 38 = .ok (.putfield 86, 3) := by decide +kernel
theorem dX9_market_41 : decode cX9_market 41 = .ok (.aload_n 0, 1) := by decide +kernel
theorem dX9_market_42 : decode cX9_market 42 = .ok (.getfield 19, 3) := by decide +kernel
theorem dX9_market_45 : decode cX9_market 45 = .ok (.aload_n 0, 1) := by decide +kernel
theorem dX9_market_46 : decode cX9_market 46 = .ok (.getfield 28, 3) := by decide +kernel
theorem dX9_market_49 : decode cX9_market 49 = .ok (.getfield 110, 3) := by decide +kernel
theorem dX9_market_52 : decode cX9_market 52 = .ok (.invokevirtual 113, 3) := by decide +kernel
theorem dX9_market_55 : decode cX9_market 55 = .ok (.aload_n 0, 1) := by decide +kernel
theorem dX9_market_56 : decode cX9_market 56 = .ok (.getfield 37, 3) := by decide +kernel
theorem dX9_market_59 : decode cX9_market 59 = .ok (.invokevirtual 116, 3) := by decide +kernel
theorem dX9_market_62 : decode cX9_market 62 = .ok (.aload_n 0, 1) := by decide +kernel
theorem dX9_market_63 : decode cX9_market 63 = .ok (.getfield 45, 3) := by decide +kernel
theorem dX9_market_66 : decode cX9_market 66 = .ok (.iconst 0, 1) := by decide +kernel
theorem dX9_market_67 : decode cX9_market 67 = .ok (.iconst 0, 1) := by decide +kernel
theorem dX9_market_68 : decode cX9_market 68 = .ok (.bastore, 1) := by decide +kernel
theorem dX9_market_69 : decode cX9_market 69 = .ok (.aload_n 0, 1) := by decide +kernel
theorem dX9_market_70 : decode cX9_market 70 = .ok (.getfield 45, 3) := by decide +kernel
theorem dX9_market_73 : decode cX9_market 73 = .ok (.iconst 1, 1) := by decide +kernel
theorem dX9_market_74 : decode cX9_market 74 = .ok (.iconst 0, 1) := by decide +kernel
theorem dX9_market_75 : decode cX9_market 75 = .ok (.bastore, 1) := by decide +kernel
theorem dX9_market_76 : decode cX9_market 76 = .ok (.aload_n 0, 1) := by decide +kernel
theorem dX9_market_77 : decode cX9_market 77 = .ok (.getfield 59, 3) := by decide +kernel
theorem dX9_market_80 : decode cX9_market 80 = .ok (.iconst 0, 1) := by decide +kernel
theorem dX9_market_81 : decode cX9_market 81 = .ok (.putfield 119, 3) := by decide +kernel
theorem dX9_market_84 : decode cX9_market 84 = .ok (.aload_n 0, 1) := by decide +kernel
theorem dX9_market_85 : decode cX9_market 85 = .ok (.getfield 68, 3) := by decide +kernel
theorem dX9_market_88 : decode cX9_market 88 = .ok (.iconst 1, 1) := by decide +kernel
theorem dX9_market_89 : decode cX9_market 89 = .ok (.putfield 122, 3) := by decide +kernel
theorem dX9_market_92 : decode cX9_market 92 = .ok (.aload_n 0, 1) := by decide +kernel
theorem dX9_market_93 : decode cX9_market 93 = .ok (.getfield 82, 3) := by decide +kernel
theorem dX9_market_96 : decode cX9_market 96 = .ok (.iconst 0, 1) := by decide +kernel
theorem dX9_market_97 : decode cX9_market 97 = .ok (.putfield 126, 3) := by decide +kernel
theorem dX9_market_100 : decode cX9_market 100 = .ok (.aload_n 0, 1) := by decide +kernel
theorem dX9_market_101 : decode cX9_market 101 = .ok (.getfield 19, 3) := by decide +kernel
theorem dX9_market_104 : decode cX9_market 104 = .ok (.invokevirtual 127, 3) := by decide +kernel
theorem dX9_market_107 : decode cX9_market 107 = .ok (.ireturn, 1) := by decide +kernel
theorem dX9_fault_0 : decode cX9_fault 0 = .ok (.aload_n 0, 1) := by decide +kernel
theorem dX9_fault_1 : decode cX9_fault 1 = .ok (.getfield 86, 3) := by decide +kernel
theorem dX9_fault_4 : decode cX9_fault 4 = .ok (.ireturn, 1) := by decide +kernel
theorem dX9_told_0 : decode cX9_told 0 = .ok (.iload_n 1, 1) := by decide +kernel
theorem dX9_told_1 : decode cX9_told 1 = .ok (.tableswitch 135 0 9 #[55, 63, 71, 79, 87, 95, 103, 111, 119, 127], 55) := by decide +kernel
theorem dX9_told_56 : decode cX9_told 56 = .ok (.aload_n 0, 1) := by decide +kernel
theorem dX9_told_57 : decode cX9_told 57 = .ok (.getfield 19, 3) := by decide +kernel
theorem dX9_told_60 : decode cX9_told 60 = .ok (.getfield 130, 3) := by decide +kernel
theorem dX9_told_63 : decode cX9_told 63 = .ok (.ireturn, 1) := by decide +kernel
theorem dX9_told_64 : decode cX9_told 64 = .ok (.aload_n 0, 1) := by decide +kernel
theorem dX9_told_65 : decode cX9_told 65 = .ok (.getfield 19, 3) := by decide +kernel
theorem dX9_told_68 : decode cX9_told 68 = .ok (.getfield 133, 3) := by decide +kernel
theorem dX9_told_71 : decode cX9_told 71 = .ok (.ireturn, 1) := by decide +kernel
theorem dX9_told_72 : decode cX9_told 72 = .ok (.aload_n 0, 1) := by decide +kernel
theorem dX9_told_73 : decode cX9_told 73 = .ok (.getfield 19, 3) := by decide +kernel
theorem dX9_told_76 : decode cX9_told 76 = .ok (.getfield 136, 3) := by decide +kernel
theorem dX9_told_79 : decode cX9_told 79 = .ok (.ireturn, 1) := by decide +kernel
theorem dX9_told_80 : decode cX9_told 80 = .ok (.aload_n 0, 1) := by decide +kernel
theorem dX9_told_81 : decode cX9_told 81 = .ok (.getfield 10, 3) := by decide +kernel
theorem dX9_told_84 : decode cX9_told 84 = .ok (.getfield 95, 3) := by decide +kernel
theorem dX9_told_87 : decode cX9_told 87 = .ok (.ireturn, 1) := by decide +kernel
theorem dX9_told_88 : decode cX9_told 88 = .ok (.aload_n 0, 1) := by decide +kernel
theorem dX9_told_89 : decode cX9_told 89 = .ok (.getfield 37, 3) := by decide +kernel
theorem dX9_told_92 : decode cX9_told 92 = .ok (.getfield 139, 3) := by decide +kernel
theorem dX9_told_95 : decode cX9_told 95 = .ok (.ireturn, 1) := by decide +kernel
theorem dX9_told_96 : decode cX9_told 96 = .ok (.aload_n 0, 1) := by decide +kernel
theorem dX9_told_97 : decode cX9_told 97 = .ok (.getfield 19, 3) := by decide +kernel
theorem dX9_told_100 : decode cX9_told 100 = .ok (.getfield 142, 3) := by decide +kernel
theorem dX9_told_103 : decode cX9_told 103 = .ok (.ireturn, 1) := by decide +kernel
theorem dX9_told_104 : decode cX9_told 104 = .ok (.aload_n 0, 1) := by decide +kernel
theorem dX9_told_105 : decode cX9_told 105 = .ok (.getfield 19, 3) := by decide +kernel
theorem dX9_told_108 : decode cX9_told 108 = .ok (.getfield 145, 3) := by decide +kernel
theorem dX9_told_111 : decode cX9_told 111 = .ok (.ireturn, 1) := by decide +kernel
theorem dX9_told_112 : decode cX9_told 112 = .ok (.aload_n 0, 1) := by decide +kernel
theorem dX9_told_113 : decode cX9_told 113 = .ok (.getfield 37, 3) := by decide +kernel
theorem dX9_told_116 : decode cX9_told 116 = .ok (.invokevirtual 148, 3) := by decide +kernel
theorem dX9_told_119 : decode cX9_told 119 = .ok (.ireturn, 1) := by decide +kernel
theorem dX9_told_120 : decode cX9_told 120 = .ok (.aload_n 0, 1) := by decide +kernel
theorem dX9_told_121 : decode cX9_told 121 = .ok (.getfield 82, 3) := by decide +kernel
theorem dX9_told_124 : decode cX9_told 124 = .ok (.getfield 126, 3) := by decide +kernel
theorem dX9_told_127 : decode cX9_told 127 = .ok (.ireturn, 1) := by decide +kernel
theorem dX9_told_128 : decode cX9_told 128 = .ok (.aload_n 0, 1) := by decide +kernel
theorem dX9_told_129 : decode cX9_told 129 = .ok (.getfield 59, 3) := by decide +kernel
theorem dX9_told_132 : decode cX9_told 132 = .ok (.getfield 119, 3) := by decide +kernel
theorem dX9_told_135 : decode cX9_told 135 = .ok (.ireturn, 1) := by decide +kernel
theorem dX9_told_136 : decode cX9_told 136 = .ok (.ldc 94, 2) := by decide +kernel
theorem dX9_told_138 : decode cX9_told 138 = .ok (.ireturn, 1) := by decide +kernel
theorem dX9_person_0 : decode cX9_person 0 = .ok (.aload_n 0, 1) := by decide +kernel
theorem dX9_person_1 : decode cX9_person 1 = .ok (.getfield 19, 3) := by decide +kernel
theorem dX9_person_4 : decode cX9_person 4 = .ok (.iload_n 1, 1) := by decide +kernel
theorem dX9_person_5 : decode cX9_person 5 = .ok (.invokevirtual 151, 3) := by decide +kernel
theorem dX9_person_8 : decode cX9_person 8 = .ok (.ifCond .ne 6, 3) := by decide +kernel
theorem dX9_person_11 : decode cX9_person 11 = .ok (.ldc 155, 2) := by decide +kernel
theorem dX9_person_13 : decode cX9_person 13 = .ok (.ireturn, 1) := by decide +kernel
theorem dX9_person_14 : decode cX9_person 14 = .ok (.iload_n 2, 1) := by decide +kernel
theorem dX9_person_15 : decode cX9_person 15 = .ok (.tableswitch 82 0 4 #[33, 43, 52, 62, 72], 33) := by decide +kernel
theorem dX9_person_48 : decode cX9_person 48 = .ok (.aload_n 0, 1) := by decide +kernel
theorem dX9_person_49 : decode cX9_person 49 = .ok (.getfield 19, 3) := by decide +kernel
theorem dX9_person_52 : decode cX9_person 52 = .ok (.getfield 156, 3) := by decide +kernel
theorem dX9_person_55 : decode cX9_person 55 = .ok (.iload_n 1, 1) := by decide +kernel
theorem dX9_person_56 : decode cX9_person 56 = .ok (.iaload, 1) := by decide +kernel
theorem dX9_person_57 : decode cX9_person 57 = .ok (.ireturn, 1) := by decide +kernel
theorem dX9_person_58 : decode cX9_person 58 = .ok (.aload_n 0, 1) := by decide +kernel
theorem dX9_person_59 : decode cX9_person 59 = .ok (.getfield 37, 3) := by decide +kernel
theorem dX9_person_62 : decode cX9_person 62 = .ok (.iload_n 1, 1) := by decide +kernel
theorem dX9_person_63 : decode cX9_person 63 = .ok (.invokevirtual 160, 3) := by decide +kernel
theorem dX9_person_66 : decode cX9_person 66 = .ok (.ireturn, 1) := by decide +kernel
theorem dX9_person_67 : decode cX9_person 67 = .ok (.aload_n 0, 1) := by decide +kernel
theorem dX9_person_68 : decode cX9_person 68 = .ok (.getfield 37, 3) := by decide +kernel
theorem dX9_person_71 : decode cX9_person 71 = .ok (.getfield 164, 3) := by decide +kernel
theorem dX9_person_74 : decode cX9_person 74 = .ok (.iload_n 1, 1) := by decide +kernel
theorem dX9_person_75 : decode cX9_person 75 = .ok (.iaload, 1) := by decide +kernel
theorem dX9_person_76 : decode cX9_person 76 = .ok (.ireturn, 1) := by decide +kernel
theorem dX9_person_77 : decode cX9_person 77 = .ok (.aload_n 0, 1) := by decide +kernel
theorem dX9_person_78 : decode cX9_person 78 = .ok (.getfield 19, 3) := by decide +kernel
theorem dX9_person_81 : decode cX9_person 81 = .ok (.getfield 167, 3) := by decide +kernel
theorem dX9_person_84 : decode cX9_person 84 = .ok (.iload_n 1, 1) := by decide +kernel
theorem dX9_person_85 : decode cX9_person 85 = .ok (.iaload, 1) := by decide +kernel
theorem dX9_person_86 : decode cX9_person 86 = .ok (.ireturn, 1) := by decide +kernel
theorem dX9_person_87 : decode cX9_person 87 = .ok (.aload_n 0, 1) := by decide +kernel
theorem dX9_person_88 : decode cX9_person 88 = .ok (.getfield 37, 3) := by decide +kernel
theorem dX9_person_91 : decode cX9_person 91 = .ok (.getfield 170, 3) := by decide +kernel
theorem dX9_person_94 : decode cX9_person 94 = .ok (.iload_n 1, 1) := by decide +kernel
theorem dX9_person_95 : decode cX9_person 95 = .ok (.iaload, 1) := by decide +kernel
theorem dX9_person_96 : decode cX9_person 96 = .ok (.ireturn, 1) := by decide +kernel
theorem dX9_person_97 : decode cX9_person 97 = .ok (.ldc 94, 2) := by decide +kernel
theorem dX9_person_99 : decode cX9_person 99 = .ok (.ireturn, 1) := by decide +kernel
theorem dX9_worth_0 : decode cX9_worth 0 = .ok (.aload_n 0, 1) := by decide +kernel
theorem dX9_worth_1 : decode cX9_worth 1 = .ok (.getfield 19, 3) := by decide +kernel
theorem dX9_worth_4 : decode cX9_worth 4 = .ok (.iload_n 1, 1) := by decide +kernel
theorem dX9_worth_5 : decode cX9_worth 5 = .ok (.invokevirtual 173, 3) := by decide +kernel
theorem dX9_worth_8 : decode cX9_worth 8 = .ok (.ifCond .eq 14, 3) := by decide +kernel
theorem dX9_worth_11 : decode cX9_worth 11 = .ok (.aload_n 0, 1) := by decide +kernel
theorem dX9_worth_12 : decode cX9_worth 12 = .ok (.getfield 19, 3) := by decide +kernel
theorem dX9_worth_15 : decode cX9_worth 15 = .ok (.iload_n 2, 1) := by decide +kernel
theorem dX9_worth_16 : decode cX9_worth 16 = .ok (.invokevirtual 176, 3) := by decide +kernel
theorem dX9_worth_19 : decode cX9_worth 19 = .ok (.ifCond .ne 6, 3) := by decide +kernel
theorem dX9_worth_22 : decode cX9_worth 22 = .ok (.ldc 155, 2) := by decide +kernel
theorem dX9_worth_24 : decode cX9_worth 24 = .ok (.ireturn, 1) := by decide +kernel
theorem dX9_worth_25 : decode cX9_worth 25 = .ok (.aload_n 0, 1) := by decide +kernel
theorem dX9_worth_26 : decode cX9_worth 26 = .ok (.getfield 19, 3) := by decide +kernel
theorem dX9_worth_29 : decode cX9_worth 29 = .ok (.getfield 179, 3) := by decide +kernel
theorem dX9_worth_32 : decode cX9_worth 32 = .ok (.iload_n 1, 1) := by decide +kernel
theorem dX9_worth_33 : decode cX9_worth 33 = .ok (.bipush 6, 2) := by decide +kernel
theorem dX9_worth_35 : decode cX9_worth 35 = .ok (.imul, 1) := by decide +kernel
theorem dX9_worth_36 : decode cX9_worth 36 = .ok (.iload_n 2, 1) := by decide +kernel
theorem dX9_worth_37 : decode cX9_worth 37 = .ok (.iadd, 1) := by decide +kernel
theorem dX9_worth_38 : decode cX9_worth 38 = .ok (.iaload, 1) := by decide +kernel
theorem dX9_worth_39 : decode cX9_worth 39 = .ok (.ireturn, 1) := by decide +kernel
theorem dX9_bound_0 : decode cX9_bound 0 = .ok (.aload_n 0, 1) := by decide +kernel
theorem dX9_bound_1 : decode cX9_bound 1 = .ok (.getfield 19, 3) := by decide +kernel
theorem dX9_bound_4 : decode cX9_bound 4 = .ok (.iload_n 1, 1) := by decide +kernel
theorem dX9_bound_5 : decode cX9_bound 5 = .ok (.iload_n 2, 1) := by decide +kernel
theorem dX9_bound_6 : decode cX9_bound 6 = .ok (.invokevirtual 182, 3) := by decide +kernel
theorem dX9_bound_9 : decode cX9_bound 9 = .ok (.ifCond .ne 6, 3) := by decide +kernel
theorem dX9_bound_12 : decode cX9_bound 12 = .ok (.ldc 155, 2) := by decide +kernel
theorem dX9_bound_14 : decode cX9_bound 14 = .ok (.ireturn, 1) := by decide +kernel
theorem dX9_bound_15 : decode cX9_bound 15 = .ok (.iload_n 3, 1) := by decide +kernel
theorem dX9_bound_16 : decode cX9_bound 16 = .ok (.iconst 0, 1) := by decide +kernel
theorem dX9_bound_17 : decode cX9_bound 17 = .ok (.iconst 1, 1) := by decide +kernel
theorem dX9_bound_18 : decode cX9_bound 18 = .ok (.invokestatic 90, 3) := by decide +kernel
theorem dX9_bound_21 : decode cX9_bound 21 = .ok (.ifCond .ne 6, 3) := by decide +kernel
theorem dX9_bound_24 : decode cX9_bound 24 = .ok (.ldc 94, 2) := by decide +kernel
theorem dX9_bound_26 : decode cX9_bound 26 = .ok (.ireturn, 1) := by decide +kernel
theorem dX9_bound_27 : decode cX9_bound 27 = .ok (.aload_n 0, 1) := by decide +kernel
theorem dX9_bound_28 : decode cX9_bound 28 = .ok (.getfield 37, 3) := by decide +kernel
theorem dX9_bound_31 : decode cX9_bound 31 = .ok (.iload_n 1, 1) := by decide +kernel
theorem dX9_bound_32 : decode cX9_bound 32 = .ok (.iload_n 2, 1) := by decide +kernel
theorem dX9_bound_33 : decode cX9_bound 33 = .ok (.invokevirtual 186, 3) := by decide +kernel
theorem dX9_bound_36 : decode cX9_bound 36 = .ok (.ifCond .ne 5, 3) := by decide +kernel
theorem dX9_bound_39 : decode cX9_bound 39 = .ok (.iconst (-1), 1) := by decide +kernel
theorem dX9_bound_40 : decode cX9_bound 40 = .ok (.ireturn, 1) := by decide +kernel
theorem dX9_bound_41 : decode cX9_bound 41 = .ok (.iload_n 1, 1) := by decide +kernel
theorem dX9_bound_42 : decode cX9_bound 42 = .ok (.bipush 6, 2) := by decide +kernel
theorem dX9_bound_44 : decode cX9_bound 44 = .ok (.imul, 1) := by decide +kernel
theorem dX9_bound_45 : decode cX9_bound 45 = .ok (.iload_n 2, 1) := by decide +kernel
theorem dX9_bound_46 : decode cX9_bound 46 = .ok (.iadd, 1) := by decide +kernel
theorem dX9_bound_47 : decode cX9_bound 47 = .ok (.istore 4, 2) := by decide +kernel
theorem dX9_bound_49 : decode cX9_bound 49 = .ok (.iload_n 3, 1) := by decide +kernel
theorem dX9_bound_50 : decode cX9_bound 50 = .ok (.ifCond .ne 16, 3) := by decide +kernel
theorem dX9_bound_53 : decode cX9_bound 53 = .ok (.aload_n 0, 1) := by decide +kernel
theorem dX9_bound_54 : decode cX9_bound 54 = .ok (.getfield 37, 3) := by decide +kernel
theorem dX9_bound_57 : decode cX9_bound 57 = .ok (.getfield 189, 3) := by decide +kernel
theorem dX9_bound_60 : decode cX9_bound 60 = .ok (.iload 4, 2) := by decide +kernel
theorem dX9_bound_62 : decode cX9_bound 62 = .ok (.iaload, 1) := by decide +kernel
theorem dX9_bound_63 : decode cX9_bound 63 = .ok (.goto 13, 3) := by decide +kernel
theorem dX9_bound_66 : decode cX9_bound 66 = .ok (.aload_n 0, 1) := by decide +kernel
theorem dX9_bound_67 : decode cX9_bound 67 = .ok (.getfield 37, 3) := by decide +kernel
theorem dX9_bound_70 : decode cX9_bound 70 = .ok (.getfield 192, 3) := by decide +kernel
theorem dX9_bound_73 : decode cX9_bound 73 = .ok (.iload 4, 2) := by decide +kernel
theorem dX9_bound_75 : decode cX9_bound 75 = .ok (.iaload, 1) := by decide +kernel
theorem dX9_bound_76 : decode cX9_bound 76 = .ok (.ireturn, 1) := by decide +kernel
theorem dX9_lot_0 : decode cX9_lot 0 = .ok (.aload_n 0, 1) := by decide +kernel
theorem dX9_lot_1 : decode cX9_lot 1 = .ok (.getfield 19, 3) := by decide +kernel
theorem dX9_lot_4 : decode cX9_lot 4 = .ok (.iload_n 1, 1) := by decide +kernel
theorem dX9_lot_5 : decode cX9_lot 5 = .ok (.invokevirtual 176, 3) := by decide +kernel
theorem dX9_lot_8 : decode cX9_lot 8 = .ok (.ifCond .ne 6, 3) := by decide +kernel
theorem dX9_lot_11 : decode cX9_lot 11 = .ok (.ldc 155, 2) := by decide +kernel
theorem dX9_lot_13 : decode cX9_lot 13 = .ok (.ireturn, 1) := by decide +kernel
theorem dX9_lot_14 : decode cX9_lot 14 = .ok (.iload_n 2, 1) := by decide +kernel
theorem dX9_lot_15 : decode cX9_lot 15 = .ok (.lookupswitch 45 #[(0, 25), (1, 35)], 25) := by decide +kernel
theorem dX9_lot_40 : decode cX9_lot 40 = .ok (.aload_n 0, 1) := by decide +kernel
theorem dX9_lot_41 : decode cX9_lot 41 = .ok (.getfield 37, 3) := by decide +kernel
theorem dX9_lot_44 : decode cX9_lot 44 = .ok (.getfield 195, 3) := by decide +kernel
theorem dX9_lot_47 : decode cX9_lot 47 = .ok (.iload_n 1, 1) := by decide +kernel
theorem dX9_lot_48 : decode cX9_lot 48 = .ok (.iaload, 1) := by decide +kernel
theorem dX9_lot_49 : decode cX9_lot 49 = .ok (.ireturn, 1) := by decide +kernel
theorem dX9_lot_50 : decode cX9_lot 50 = .ok (.aload_n 0, 1) := by decide +kernel
theorem dX9_lot_51 : decode cX9_lot 51 = .ok (.getfield 37, 3) := by decide +kernel
theorem dX9_lot_54 : decode cX9_lot 54 = .ok (.getfield 198, 3) := by decide +kernel
theorem dX9_lot_57 : decode cX9_lot 57 = .ok (.iload_n 1, 1) := by decide +kernel
theorem dX9_lot_58 : decode cX9_lot 58 = .ok (.iaload, 1) := by decide +kernel
theorem dX9_lot_59 : decode cX9_lot 59 = .ok (.ireturn, 1) := by decide +kernel
theorem dX9_lot_60 : decode cX9_lot 60 = .ok (.ldc 94, 2) := by decide +kernel
theorem dX9_lot_62 : decode cX9_lot 62 = .ok (.ireturn, 1) := by decide +kernel
theorem dX9_hold_0 : decode cX9_hold 0 = .ok (.aload_n 0, 1) := by decide +kernel
theorem dX9_hold_1 : decode cX9_hold 1 = .ok (.iload_n 1, 1) := by decide +kernel
theorem dX9_hold_2 : decode cX9_hold 2 = .ok (.iload_n 2, 1) := by decide +kernel
theorem dX9_hold_3 : decode cX9_hold 3 = .ok (.invokevirtual 201, 3) := by decide +kernel
theorem dX9_hold_6 : decode cX9_hold 6 = .ok (.ifCond .ne 6, 3) := by decide +kernel
theorem dX9_hold_9 : decode cX9_hold 9 = .ok (.ldc 155, 2) := by decide +kernel
theorem dX9_hold_11 : decode cX9_hold 11 = .ok (.ireturn, 1) := by decide +kernel
theorem dX9_hold_12 : decode cX9_hold 12 = .ok (.aload_n 0, 1) := by decide +kernel
theorem dX9_hold_13 : decode cX9_hold 13 = .ok (.getfield 37, 3) := by decide +kernel
theorem dX9_hold_16 : decode cX9_hold 16 = .ok (.iload_n 1, 1) := by decide +kernel
theorem dX9_hold_17 : decode cX9_hold 17 = .ok (.iload_n 2, 1) := by decide +kernel
theorem dX9_hold_18 : decode cX9_hold 18 = .ok (.invokevirtual 204, 3) := by decide +kernel
theorem dX9_hold_21 : decode cX9_hold 21 = .ok (.ifCond .ne 6, 3) := by decide +kernel
theorem dX9_hold_24 : decode cX9_hold 24 = .ok (.ldc 207, 2) := by decide +kernel
theorem dX9_hold_26 : decode cX9_hold 26 = .ok (.ireturn, 1) := by decide +kernel
theorem dX9_hold_27 : decode cX9_hold 27 = .ok (.aload_n 0, 1) := by decide +kernel
theorem dX9_hold_28 : decode cX9_hold 28 = .ok (.getfield 37, 3) := by decide +kernel
theorem dX9_hold_31 : decode cX9_hold 31 = .ok (.iload_n 1, 1) := by decide +kernel
theorem dX9_hold_32 : decode cX9_hold 32 = .ok (.iload_n 2, 1) := by decide +kernel
theorem dX9_hold_33 : decode cX9_hold 33 = .ok (.invokevirtual 208, 3) := by decide +kernel
theorem dX9_hold_36 : decode cX9_hold 36 = .ok (.iconst 1, 1) := by decide +kernel
theorem dX9_hold_37 : decode cX9_hold 37 = .ok (.ireturn, 1) := by decide +kernel
theorem dX9_loose_0 : decode cX9_loose 0 = .ok (.aload_n 0, 1) := by decide +kernel
theorem dX9_loose_1 : decode cX9_loose 1 = .ok (.iload_n 1, 1) := by decide +kernel
theorem dX9_loose_2 : decode cX9_loose 2 = .ok (.iload_n 2, 1) := by decide +kernel
theorem dX9_loose_3 : decode cX9_loose 3 = .ok (.invokevirtual 201, 3) := by decide +kernel
theorem dX9_loose_6 : decode cX9_loose 6 = .ok (.ifCond .ne 6, 3) := by decide +kernel
theorem dX9_loose_9 : decode cX9_loose 9 = .ok (.ldc 155, 2) := by decide +kernel
theorem dX9_loose_11 : decode cX9_loose 11 = .ok (.ireturn, 1) := by decide +kernel
theorem dX9_loose_12 : decode cX9_loose 12 = .ok (.aload_n 0, 1) := by decide +kernel
theorem dX9_loose_13 : decode cX9_loose 13 = .ok (.getfield 37, 3) := by decide +kernel
theorem dX9_loose_16 : decode cX9_loose 16 = .ok (.iload_n 1, 1) := by decide +kernel
theorem dX9_loose_17 : decode cX9_loose 17 = .ok (.iload_n 2, 1) := by decide +kernel
theorem dX9_loose_18 : decode cX9_loose 18 = .ok (.invokevirtual 212, 3) := by decide +kernel
theorem dX9_loose_21 : decode cX9_loose 21 = .ok (.ifCond .ne 6, 3) := by decide +kernel
theorem dX9_loose_24 : decode cX9_loose 24 = .ok (.ldc 207, 2) := by decide +kernel
theorem dX9_loose_26 : decode cX9_loose 26 = .ok (.ireturn, 1) := by decide +kernel
theorem dX9_loose_27 : decode cX9_loose 27 = .ok (.aload_n 0, 1) := by decide +kernel
theorem dX9_loose_28 : decode cX9_loose 28 = .ok (.getfield 37, 3) := by decide +kernel
theorem dX9_loose_31 : decode cX9_loose 31 = .ok (.iload_n 1, 1) := by decide +kernel
theorem dX9_loose_32 : decode cX9_loose 32 = .ok (.iload_n 2, 1) := by decide +kernel
theorem dX9_loose_33 : decode cX9_loose 33 = .ok (.invokevirtual 215, 3) := by decide +kernel
theorem dX9_loose_36 : decode cX9_loose 36 = .ok (.iconst 1, 1) := by decide +kernel
theorem dX9_loose_37 : decode cX9_loose 37 = .ok (.ireturn, 1) := by decide +kernel
theorem dX9_press_0 : decode cX9_press 0 = .ok (.aload_n 0, 1) := by decide +kernel
theorem dX9_press_1 : decode cX9_press 1 = .ok (.iload_n 1, 1) := by decide +kernel
theorem dX9_press_2 : decode cX9_press 2 = .ok (.iload_n 2, 1) := by decide +kernel
theorem dX9_press_3 : decode cX9_press 3 = .ok (.invokevirtual 201, 3) := by decide +kernel
theorem dX9_press_6 : decode cX9_press 6 = .ok (.ifCond .eq 25, 3) := by decide +kernel
theorem dX9_press_9 : decode cX9_press 9 = .ok (.aload_n 0, 1) := by decide +kernel
theorem dX9_press_10 : decode cX9_press 10 = .ok (.getfield 19, 3) := by decide +kernel
theorem dX9_press_13 : decode cX9_press 13 = .ok (.iload_n 3, 1) := by decide +kernel
theorem dX9_press_14 : decode cX9_press 14 = .ok (.invokevirtual 176, 3) := by decide +kernel
theorem dX9_press_17 : decode cX9_press 17 = .ok (.ifCond .eq 14, 3) := by decide +kernel
theorem dX9_press_20 : decode cX9_press 20 = .ok (.aload_n 0, 1) := by decide +kernel
theorem dX9_press_21 : decode cX9_press 21 = .ok (.iload_n 1, 1) := by decide +kernel
theorem dX9_press_22 : decode cX9_press 22 = .ok (.iload_n 2, 1) := by decide +kernel
theorem dX9_press_23 : decode cX9_press 23 = .ok (.iload 5, 2) := by decide +kernel
theorem dX9_press_25 : decode cX9_press 25 = .ok (.invokevirtual 218, 3) := by decide +kernel
theorem dX9_press_28 : decode cX9_press 28 = .ok (.ifCond .ne 6, 3) := by decide +kernel
theorem dX9_press_31 : decode cX9_press 31 = .ok (.ldc 155, 2) := by decide +kernel
theorem dX9_press_33 : decode cX9_press 33 = .ok (.ireturn, 1) := by decide +kernel
theorem dX9_press_34 : decode cX9_press 34 = .ok (.iload 4, 2) := by decide +kernel
theorem dX9_press_36 : decode cX9_press 36 = .ok (.iconst 0, 1) := by decide +kernel
theorem dX9_press_37 : decode cX9_press 37 = .ok (.iconst 2, 1) := by decide +kernel
theorem dX9_press_38 : decode cX9_press 38 = .ok (.invokestatic 90, 3) := by decide +kernel
theorem dX9_press_41 : decode cX9_press 41 = .ok (.ifCond .ne 6, 3) := by decide +kernel
theorem dX9_press_44 : decode cX9_press 44 = .ok (.ldc 94, 2) := by decide +kernel
theorem dX9_press_46 : decode cX9_press 46 = .ok (.ireturn, 1) := by decide +kernel
theorem dX9_press_47 : decode cX9_press 47 = .ok (.aload_n 0, 1) := by decide +kernel
theorem dX9_press_48 : decode cX9_press 48 = .ok (.getfield 10, 3) := by decide +kernel
theorem dX9_press_51 : decode cX9_press 51 = .ok (.invokevirtual 221, 3) := by decide +kernel
theorem dX9_press_54 : decode cX9_press 54 = .ok (.istore 6, 2) := by decide +kernel
theorem dX9_press_56 : decode cX9_press 56 = .ok (.aload_n 0, 1) := by decide +kernel
theorem dX9_press_57 : decode cX9_press 57 = .ok (.getfield 10, 3) := by decide +kernel
theorem dX9_press_60 : decode cX9_press 60 = .ok (.iconst 0, 1) := by decide +kernel
theorem dX9_press_61 : decode cX9_press 61 = .ok (.putfield 95, 3) := by decide +kernel
theorem dX9_press_64 : decode cX9_press 64 = .ok (.iload 4, 2) := by decide +kernel
theorem dX9_press_66 : decode cX9_press 66 = .ok (.iconst 2, 1) := by decide +kernel
theorem dX9_press_67 : decode cX9_press 67 = .ok (.if_icmp .ne 29, 3) := by decide +kernel
theorem dX9_press_70 : decode cX9_press 70 = .ok (.iload 6, 2) := by decide +kernel
theorem dX9_press_72 : decode cX9_press 72 = .ok (.iconst (-1), 1) := by decide +kernel
theorem dX9_press_73 : decode cX9_press 73 = .ok (.if_icmp .eq 23, 3) := by decide +kernel
theorem dX9_press_76 : decode cX9_press 76 = .ok (.iload 6, 2) := by decide +kernel
theorem dX9_press_78 : decode cX9_press 78 = .ok (.iconst 2, 1) := by decide +kernel
theorem dX9_press_79 : decode cX9_press 79 = .ok (.imul, 1) := by decide +kernel
theorem dX9_press_80 : decode cX9_press 80 = .ok (.sipush 999, 3) := by decide +kernel
theorem dX9_press_83 : decode cX9_press 83 = .ok (.if_icmp .gt 10, 3) := by decide +kernel
theorem dX9_press_86 : decode cX9_press 86 = .ok (.iload 6, 2) := by decide +kernel
theorem dX9_press_88 : decode cX9_press 88 = .ok (.iconst 2, 1) := by decide +kernel
theorem dX9_press_89 : decode cX9_press 89 = .ok (.imul, 1) := by decide +kernel
theorem dX9_press_90 : decode cX9_press 90 = .ok (.goto 4, 3) := by decide +kernel
theorem dX9_press_93 : decode cX9_press 93 = .ok (.iconst (-1), 1) := by decide +kernel
theorem dX9_press_94 : decode cX9_press 94 = .ok (.istore 6, 2) := by decide +kernel
theorem dX9_press_96 : decode cX9_press 96 = .ok (.iload 5, 2) := by decide +kernel
theorem dX9_press_98 : decode cX9_press 98 = .ok (.iconst (-1), 1) := by decide +kernel
theorem dX9_press_99 : decode cX9_press 99 = .ok (.if_icmp .ne 7, 3) := by decide +kernel
theorem dX9_press_102 : decode cX9_press 102 = .ok (.iload_n 1, 1) := by decide +kernel
theorem dX9_press_103 : decode cX9_press 103 = .ok (.goto 5, 3) := by decide +kernel
theorem dX9_press_106 : decode cX9_press 106 = .ok (.iload 5, 2) := by decide +kernel
theorem dX9_press_108 : decode cX9_press 108 = .ok (.istore 7, 2) := by decide +kernel
theorem dX9_press_110 : decode cX9_press 110 = .ok (.iload 6, 2) := by decide +kernel
theorem dX9_press_112 : decode cX9_press 112 = .ok (.iconst (-1), 1) := by decide +kernel
theorem dX9_press_113 : decode cX9_press 113 = .ok (.if_icmp .eq 18, 3) := by decide +kernel
theorem dX9_press_116 : decode cX9_press 116 = .ok (.aload_n 0, 1) := by decide +kernel
theorem dX9_press_117 : decode cX9_press 117 = .ok (.getfield 37, 3) := by decide +kernel
theorem dX9_press_120 : decode cX9_press 120 = .ok (.iload_n 1, 1) := by decide +kernel
theorem dX9_press_121 : decode cX9_press 121 = .ok (.iload_n 2, 1) := by decide +kernel
theorem dX9_press_122 : decode cX9_press 122 = .ok (.iload_n 3, 1) := by decide +kernel
theorem dX9_press_123 : decode cX9_press 123 = .ok (.iload 7, 2) := by decide +kernel
theorem dX9_press_125 : decode cX9_press 125 = .ok (.invokevirtual 224, 3) := by decide +kernel
theorem dX9_press_128 : decode cX9_press 128 = .ok (.ifCond .ne 6, 3) := by decide +kernel
theorem dX9_press_131 : decode cX9_press 131 = .ok (.ldc 207, 2) := by decide +kernel
theorem dX9_press_133 : decode cX9_press 133 = .ok (.ireturn, 1) := by decide +kernel
theorem dX9_press_134 : decode cX9_press 134 = .ok (.iload 4, 2) := by decide +kernel
theorem dX9_press_136 : decode cX9_press 136 = .ok (.iconst 1, 1) := by decide +kernel
theorem dX9_press_137 : decode cX9_press 137 = .ok (.if_icmp .ne 6, 3) := by decide +kernel
theorem dX9_press_140 : decode cX9_press 140 = .ok (.iload 6, 2) := by decide +kernel
theorem dX9_press_142 : decode cX9_press 142 = .ok (.ireturn, 1) := by decide +kernel
theorem dX9_press_143 : decode cX9_press 143 = .ok (.aload_n 0, 1) := by decide +kernel
theorem dX9_press_144 : decode cX9_press 144 = .ok (.getfield 37, 3) := by decide +kernel
theorem dX9_press_147 : decode cX9_press 147 = .ok (.iload 7, 2) := by decide +kernel
theorem dX9_press_149 : decode cX9_press 149 = .ok (.iload_n 3, 1) := by decide +kernel
theorem dX9_press_150 : decode cX9_press 150 = .ok (.iload 6, 2) := by decide +kernel
theorem dX9_press_152 : decode cX9_press 152 = .ok (.invokevirtual 228, 3) := by decide +kernel
theorem dX9_press_155 : decode cX9_press 155 = .ok (.ifCond .ne 6, 3) := by decide +kernel
theorem dX9_press_158 : decode cX9_press 158 = .ok (.ldc 207, 2) := by decide +kernel
theorem dX9_press_160 : decode cX9_press 160 = .ok (.ireturn, 1) := by decide +kernel
theorem dX9_press_161 : decode cX9_press 161 = .ok (.aload_n 0, 1) := by decide +kernel
theorem dX9_press_162 : decode cX9_press 162 = .ok (.getfield 37, 3) := by decide +kernel
theorem dX9_press_165 : decode cX9_press 165 = .ok (.iload 7, 2) := by decide +kernel
theorem dX9_press_167 : decode cX9_press 167 = .ok (.iload_n 3, 1) := by decide +kernel
theorem dX9_press_168 : decode cX9_press 168 = .ok (.iload 6, 2) := by decide +kernel
theorem dX9_press_170 : decode cX9_press 170 = .ok (.invokevirtual 231, 3) := by decide +kernel
theorem dX9_press_173 : decode cX9_press 173 = .ok (.iload 6, 2) := by decide +kernel
theorem dX9_press_175 : decode cX9_press 175 = .ok (.ireturn, 1) := by decide +kernel
theorem dX9_price_0 : decode cX9_price 0 = .ok (.aload_n 0, 1) := by decide +kernel
theorem dX9_price_1 : decode cX9_price 1 = .ok (.getfield 10, 3) := by decide +kernel
theorem dX9_price_4 : decode cX9_price 4 = .ok (.invokevirtual 221, 3) := by decide +kernel
theorem dX9_price_7 : decode cX9_price 7 = .ok (.ireturn, 1) := by decide +kernel
theorem dX9_twitches_0 : decode cX9_twitches 0 = .ok (.iload_n 1, 1) := by decide +kernel
theorem dX9_twitches_1 : decode cX9_twitches 1 = .ok (.iconst 1, 1) := by decide +kernel
theorem dX9_twitches_2 : decode cX9_twitches 2 = .ok (.sipush 999, 3) := by decide +kernel
theorem dX9_twitches_5 : decode cX9_twitches 5 = .ok (.invokestatic 90, 3) := by decide +kernel
theorem dX9_twitches_8 : decode cX9_twitches 8 = .ok (.ifCond .eq 10, 3) := by decide +kernel
theorem dX9_twitches_11 : decode cX9_twitches 11 = .ok (.iload_n 1, 1) := by decide +kernel
theorem dX9_twitches_12 : decode cX9_twitches 12 = .ok (.invokestatic 235, 3) := by decide +kernel
theorem dX9_twitches_15 : decode cX9_twitches 15 = .ok (.goto 5, 3) := by decide +kernel
theorem dX9_twitches_18 : decode cX9_twitches 18 = .ok (.ldc 94, 2) := by decide +kernel
theorem dX9_twitches_20 : decode cX9_twitches 20 = .ok (.ireturn, 1) := by decide +kernel
theorem dX9_beat_0 : decode cX9_beat 0 = .ok (.iload_n 1, 1) := by decide +kernel
theorem dX9_beat_1 : decode cX9_beat 1 = .ok (.iconst 1, 1) := by decide +kernel
theorem dX9_beat_2 : decode cX9_beat 2 = .ok (.bipush 99, 2) := by decide +kernel
theorem dX9_beat_4 : decode cX9_beat 4 = .ok (.invokestatic 90, 3) := by decide +kernel
theorem dX9_beat_7 : decode cX9_beat 7 = .ok (.ifCond .ne 6, 3) := by decide +kernel
theorem dX9_beat_10 : decode cX9_beat 10 = .ok (.ldc 94, 2) := by decide +kernel
theorem dX9_beat_12 : decode cX9_beat 12 = .ok (.ireturn, 1) := by decide +kernel
theorem dX9_beat_13 : decode cX9_beat 13 = .ok (.aload_n 0, 1) := by decide +kernel
theorem dX9_beat_14 : decode cX9_beat 14 = .ok (.getfield 37, 3) := by decide +kernel
theorem dX9_beat_17 : decode cX9_beat 17 = .ok (.dup, 1) := by decide +kernel
theorem dX9_beat_18 : decode cX9_beat 18 = .ok (.getfield 139, 3) := by decide +kernel
theorem dX9_beat_21 : decode cX9_beat 21 = .ok (.iload_n 1, 1) := by decide +kernel
theorem dX9_beat_22 : decode cX9_beat 22 = .ok (.iadd, 1) := by decide +kernel
theorem dX9_beat_23 : decode cX9_beat 23 = .ok (.putfield 139, 3) := by decide +kernel
theorem dX9_beat_26 : decode cX9_beat 26 = .ok (.aload_n 0, 1) := by decide +kernel
theorem dX9_beat_27 : decode cX9_beat 27 = .ok (.getfield 37, 3) := by decide +kernel
theorem dX9_beat_30 : decode cX9_beat 30 = .ok (.getfield 139, 3) := by decide +kernel
theorem dX9_beat_33 : decode cX9_beat 33 = .ok (.ireturn, 1) := by decide +kernel
theorem dX9_drift_0 : decode cX9_drift 0 = .ok (.iload_n 1, 1) := by decide +kernel
theorem dX9_drift_1 : decode cX9_drift 1 = .ok (.iconst 1, 1) := by decide +kernel
theorem dX9_drift_2 : decode cX9_drift 2 = .ok (.bipush 60, 2) := by decide +kernel
theorem dX9_drift_4 : decode cX9_drift 4 = .ok (.invokestatic 90, 3) := by decide +kernel
theorem dX9_drift_7 : decode cX9_drift 7 = .ok (.ifCond .ne 6, 3) := by decide +kernel
theorem dX9_drift_10 : decode cX9_drift 10 = .ok (.ldc 94, 2) := by decide +kernel
theorem dX9_drift_12 : decode cX9_drift 12 = .ok (.ireturn, 1) := by decide +kernel
theorem dX9_drift_13 : decode cX9_drift 13 = .ok (.iconst 0, 1) := by decide +kernel
theorem dX9_drift_14 : decode cX9_drift 14 = .ok (.istore_n 2, 1) := by decide +kernel
theorem dX9_drift_15 : decode cX9_drift 15 = .ok (.iload_n 2, 1) := by decide +kernel
theorem dX9_drift_16 : decode cX9_drift 16 = .ok (.iload_n 1, 1) := by decide +kernel
theorem dX9_drift_17 : decode cX9_drift 17 = .ok (.if_icmp .ge 16, 3) := by decide +kernel
theorem dX9_drift_20 : decode cX9_drift 20 = .ok (.aload_n 0, 1) := by decide +kernel
theorem dX9_drift_21 : decode cX9_drift 21 = .ok (.getfield 37, 3) := by decide +kernel
theorem dX9_drift_24 : decode cX9_drift 24 = .ok (.invokevirtual 238, 3) := by decide +kernel
theorem dX9_drift_27 : decode cX9_drift 27 = .ok (.iinc 2 1, 3) := by decide +kernel
theorem dX9_drift_30 : decode cX9_drift 30 = .ok (.goto (-15), 3) := by decide +kernel
theorem dX9_drift_33 : decode cX9_drift 33 = .ok (.aload_n 0, 1) := by decide +kernel
theorem dX9_drift_34 : decode cX9_drift 34 = .ok (.getfield 37, 3) := by decide +kernel
theorem dX9_drift_37 : decode cX9_drift 37 = .ok (.invokevirtual 148, 3) := by decide +kernel
theorem dX9_drift_40 : decode cX9_drift 40 = .ok (.invokestatic 241, 3) := by decide +kernel
theorem dX9_drift_43 : decode cX9_drift 43 = .ok (.ireturn, 1) := by decide +kernel
theorem dX9_bargain_0 : decode cX9_bargain 0 = .ok (.aload_n 0, 1) := by decide +kernel
theorem dX9_bargain_1 : decode cX9_bargain 1 = .ok (.getfield 19, 3) := by decide +kernel
theorem dX9_bargain_4 : decode cX9_bargain 4 = .ok (.iload_n 1, 1) := by decide +kernel
theorem dX9_bargain_5 : decode cX9_bargain 5 = .ok (.invokevirtual 176, 3) := by decide +kernel
theorem dX9_bargain_8 : decode cX9_bargain 8 = .ok (.ifCond .eq 14, 3) := by decide +kernel
theorem dX9_bargain_11 : decode cX9_bargain 11 = .ok (.aload_n 0, 1) := by decide +kernel
theorem dX9_bargain_12 : decode cX9_bargain 12 = .ok (.getfield 19, 3) := by decide +kernel
theorem dX9_bargain_15 : decode cX9_bargain 15 = .ok (.iload_n 2, 1) := by decide +kernel
theorem dX9_bargain_16 : decode cX9_bargain 16 = .ok (.invokevirtual 173, 3) := by decide +kernel
theorem dX9_bargain_19 : decode cX9_bargain 19 = .ok (.ifCond .ne 6, 3) := by decide +kernel
theorem dX9_bargain_22 : decode cX9_bargain 22 = .ok (.ldc 155, 2) := by decide +kernel
theorem dX9_bargain_24 : decode cX9_bargain 24 = .ok (.ireturn, 1) := by decide +kernel
theorem dX9_bargain_25 : decode cX9_bargain 25 = .ok (.iload_n 3, 1) := by decide +kernel
theorem dX9_bargain_26 : decode cX9_bargain 26 = .ok (.iconst 1, 1) := by decide +kernel
theorem dX9_bargain_27 : decode cX9_bargain 27 = .ok (.bipush 40, 2) := by decide +kernel
theorem dX9_bargain_29 : decode cX9_bargain 29 = .ok (.invokestatic 90, 3) := by decide +kernel
theorem dX9_bargain_32 : decode cX9_bargain 32 = .ok (.ifCond .ne 6, 3) := by decide +kernel
theorem dX9_bargain_35 : decode cX9_bargain 35 = .ok (.ldc 94, 2) := by decide +kernel
theorem dX9_bargain_37 : decode cX9_bargain 37 = .ok (.ireturn, 1) := by decide +kernel
theorem dX9_bargain_38 : decode cX9_bargain 38 = .ok (.aload_n 0, 1) := by decide +kernel
theorem dX9_bargain_39 : decode cX9_bargain 39 = .ok (.getfield 19, 3) := by decide +kernel
theorem dX9_bargain_42 : decode cX9_bargain 42 = .ok (.iload_n 1, 1) := by decide +kernel
theorem dX9_bargain_43 : decode cX9_bargain 43 = .ok (.iload_n 2, 1) := by decide +kernel
theorem dX9_bargain_44 : decode cX9_bargain 44 = .ok (.iload_n 3, 1) := by decide +kernel
theorem dX9_bargain_45 : decode cX9_bargain 45 = .ok (.invokevirtual 246, 3) := by decide +kernel
theorem dX9_bargain_48 : decode cX9_bargain 48 = .ok (.ireturn, 1) := by decide +kernel
theorem dX9_best_0 : decode cX9_best 0 = .ok (.iload_n 1, 1) := by decide +kernel
theorem dX9_best_1 : decode cX9_best 1 = .ok (.iconst 0, 1) := by decide +kernel
theorem dX9_best_2 : decode cX9_best 2 = .ok (.iconst 1, 1) := by decide +kernel
theorem dX9_best_3 : decode cX9_best 3 = .ok (.aload_n 0, 1) := by decide +kernel
theorem dX9_best_4 : decode cX9_best 4 = .ok (.getfield 19, 3) := by decide +kernel
theorem dX9_best_7 : decode cX9_best 7 = .ok (.getfield 130, 3) := by decide +kernel
theorem dX9_best_10 : decode cX9_best 10 = .ok (.iadd, 1) := by decide +kernel
theorem dX9_best_11 : decode cX9_best 11 = .ok (.invokestatic 90, 3) := by decide +kernel
theorem dX9_best_14 : decode cX9_best 14 = .ok (.ifCond .ne 6, 3) := by decide +kernel
theorem dX9_best_17 : decode cX9_best 17 = .ok (.ldc 94, 2) := by decide +kernel
theorem dX9_best_19 : decode cX9_best 19 = .ok (.ireturn, 1) := by decide +kernel
theorem dX9_best_20 : decode cX9_best 20 = .ok (.aload_n 0, 1) := by decide +kernel
theorem dX9_best_21 : decode cX9_best 21 = .ok (.getfield 52, 3) := by decide +kernel
theorem dX9_best_24 : decode cX9_best 24 = .ok (.invokevirtual 250, 3) := by decide +kernel
theorem dX9_best_27 : decode cX9_best 27 = .ok (.lstore_n 2, 1) := by decide +kernel
theorem dX9_best_28 : decode cX9_best 28 = .ok (.iload_n 1, 1) := by decide +kernel
theorem dX9_best_29 : decode cX9_best 29 = .ok (.lookupswitch 37 #[(0, 27), (1, 32)], 27) := by decide +kernel
theorem dX9_best_56 : decode cX9_best 56 = .ok (.lload_n 2, 1) := by decide +kernel
theorem dX9_best_57 : decode cX9_best 57 = .ok (.invokestatic 254, 3) := by decide +kernel
theorem dX9_best_60 : decode cX9_best 60 = .ok (.ireturn, 1) := by decide +kernel
theorem dX9_best_61 : decode cX9_best 61 = .ok (.lload_n 2, 1) := by decide +kernel
theorem dX9_best_62 : decode cX9_best 62 = .ok (.invokestatic 258, 3) := by decide +kernel
theorem dX9_best_65 : decode cX9_best 65 = .ok (.ireturn, 1) := by decide +kernel
theorem dX9_best_66 : decode cX9_best 66 = .ok (.lload_n 2, 1) := by decide +kernel
theorem dX9_best_67 : decode cX9_best 67 = .ok (.iload_n 1, 1) := by decide +kernel
theorem dX9_best_68 : decode cX9_best 68 = .ok (.iconst 2, 1) := by decide +kernel
theorem dX9_best_69 : decode cX9_best 69 = .ok (.isub, 1) := by decide +kernel
theorem dX9_best_70 : decode cX9_best 70 = .ok (.invokestatic 261, 3) := by decide +kernel
theorem dX9_best_73 : decode cX9_best 73 = .ok (.ireturn, 1) := by decide +kernel
theorem dX9_span_0 : decode cX9_span 0 = .ok (.aload_n 0, 1) := by decide +kernel
theorem dX9_span_1 : decode cX9_span 1 = .ok (.getfield 19, 3) := by decide +kernel
theorem dX9_span_4 : decode cX9_span 4 = .ok (.iload_n 1, 1) := by decide +kernel
theorem dX9_span_5 : decode cX9_span 5 = .ok (.invokevirtual 176, 3) := by decide +kernel
theorem dX9_span_8 : decode cX9_span 8 = .ok (.ifCond .ne 6, 3) := by decide +kernel
theorem dX9_span_11 : decode cX9_span 11 = .ok (.ldc 155, 2) := by decide +kernel
theorem dX9_span_13 : decode cX9_span 13 = .ok (.ireturn, 1) := by decide +kernel
theorem dX9_span_14 : decode cX9_span 14 = .ok (.iload_n 2, 1) := by decide +kernel
theorem dX9_span_15 : decode cX9_span 15 = .ok (.iconst 0, 1) := by decide +kernel
theorem dX9_span_16 : decode cX9_span 16 = .ok (.iconst 1, 1) := by decide +kernel
theorem dX9_span_17 : decode cX9_span 17 = .ok (.invokestatic 90, 3) := by decide +kernel
theorem dX9_span_20 : decode cX9_span 20 = .ok (.ifCond .ne 6, 3) := by decide +kernel
theorem dX9_span_23 : decode cX9_span 23 = .ok (.ldc 94, 2) := by decide +kernel
theorem dX9_span_25 : decode cX9_span 25 = .ok (.ireturn, 1) := by decide +kernel
theorem dX9_span_26 : decode cX9_span 26 = .ok (.aload_n 0, 1) := by decide +kernel
theorem dX9_span_27 : decode cX9_span 27 = .ok (.getfield 52, 3) := by decide +kernel
theorem dX9_span_30 : decode cX9_span 30 = .ok (.iload_n 1, 1) := by decide +kernel
theorem dX9_span_31 : decode cX9_span 31 = .ok (.iload_n 2, 1) := by decide +kernel
theorem dX9_span_32 : decode cX9_span 32 = .ok (.ifCond .ne 7, 3) := by decide +kernel
theorem dX9_span_35 : decode cX9_span 35 = .ok (.iconst 1, 1) := by decide +kernel
theorem dX9_span_36 : decode cX9_span 36 = .ok (.goto 4, 3) := by decide +kernel
theorem dX9_span_39 : decode cX9_span 39 = .ok (.iconst 2, 1) := by decide +kernel
theorem dX9_span_40 : decode cX9_span 40 = .ok (.invokevirtual 265, 3) := by decide +kernel
theorem dX9_span_43 : decode cX9_span 43 = .ok (.ireturn, 1) := by decide +kernel
theorem dX9_lie_0 : decode cX9_lie 0 = .ok (.aload_n 0, 1) := by decide +kernel
theorem dX9_lie_1 : decode cX9_lie 1 = .ok (.getfield 19, 3) := by decide +kernel
theorem dX9_lie_4 : decode cX9_lie 4 = .ok (.iload_n 2, 1) := by decide +kernel
theorem dX9_lie_5 : decode cX9_lie 5 = .ok (.iload_n 3, 1) := by decide +kernel
theorem dX9_lie_6 : decode cX9_lie 6 = .ok (.invokevirtual 182, 3) := by decide +kernel
theorem dX9_lie_9 : decode cX9_lie 9 = .ok (.ifCond .ne 6, 3) := by decide +kernel
theorem dX9_lie_12 : decode cX9_lie 12 = .ok (.ldc 155, 2) := by decide +kernel
theorem dX9_lie_14 : decode cX9_lie 14 = .ok (.ireturn, 1) := by decide +kernel
theorem dX9_lie_15 : decode cX9_lie 15 = .ok (.iload_n 1, 1) := by decide +kernel
theorem dX9_lie_16 : decode cX9_lie 16 = .ok (.iconst 0, 1) := by decide +kernel
theorem dX9_lie_17 : decode cX9_lie 17 = .ok (.iconst 2, 1) := by decide +kernel
theorem dX9_lie_18 : decode cX9_lie 18 = .ok (.invokestatic 90, 3) := by decide +kernel
theorem dX9_lie_21 : decode cX9_lie 21 = .ok (.ifCond .eq 15, 3) := by decide +kernel
theorem dX9_lie_24 : decode cX9_lie 24 = .ok (.iload 4, 2) := by decide +kernel
theorem dX9_lie_26 : decode cX9_lie 26 = .ok (.iconst 0, 1) := by decide +kernel
theorem dX9_lie_27 : decode cX9_lie 27 = .ok (.sipush 999, 3) := by decide +kernel
theorem dX9_lie_30 : decode cX9_lie 30 = .ok (.invokestatic 90, 3) := by decide +kernel
theorem dX9_lie_33 : decode cX9_lie 33 = .ok (.ifCond .ne 6, 3) := by decide +kernel
theorem dX9_lie_36 : decode cX9_lie 36 = .ok (.ldc 94, 2) := by decide +kernel
theorem dX9_lie_38 : decode cX9_lie 38 = .ok (.ireturn, 1) := by decide +kernel
theorem dX9_lie_39 : decode cX9_lie 39 = .ok (.aload_n 0, 1) := by decide +kernel
theorem dX9_lie_40 : decode cX9_lie 40 = .ok (.getfield 52, 3) := by decide +kernel
theorem dX9_lie_43 : decode cX9_lie 43 = .ok (.iload_n 1, 1) := by decide +kernel
theorem dX9_lie_44 : decode cX9_lie 44 = .ok (.iload_n 2, 1) := by decide +kernel
theorem dX9_lie_45 : decode cX9_lie 45 = .ok (.iload_n 3, 1) := by decide +kernel
theorem dX9_lie_46 : decode cX9_lie 46 = .ok (.invokevirtual 269, 3) := by decide +kernel
theorem dX9_lie_49 : decode cX9_lie 49 = .ok (.aload_n 0, 1) := by decide +kernel
theorem dX9_lie_50 : decode cX9_lie 50 = .ok (.getfield 52, 3) := by decide +kernel
theorem dX9_lie_53 : decode cX9_lie 53 = .ok (.iload 4, 2) := by decide +kernel
theorem dX9_lie_55 : decode cX9_lie 55 = .ok (.invokevirtual 272, 3) := by decide +kernel
theorem dX9_lie_58 : decode cX9_lie 58 = .ok (.aload_n 0, 1) := by decide +kernel
theorem dX9_lie_59 : decode cX9_lie 59 = .ok (.getfield 52, 3) := by decide +kernel
theorem dX9_lie_62 : decode cX9_lie 62 = .ok (.aload_n 0, 1) := by decide +kernel
theorem dX9_lie_63 : decode cX9_lie 63 = .ok (.getfield 52, 3) := by decide +kernel
theorem dX9_lie_66 : decode cX9_lie 66 = .ok (.invokevirtual 275, 3) := by decide +kernel
theorem dX9_lie_69 : decode cX9_lie 69 = .ok (.invokevirtual 272, 3) := by decide +kernel
theorem dX9_lie_72 : decode cX9_lie 72 = .ok (.isub, 1) := by decide +kernel
theorem dX9_lie_73 : decode cX9_lie 73 = .ok (.ireturn, 1) := by decide +kernel
theorem dX9_bestLie_0 : decode cX9_bestLie 0 = .ok (.aload_n 0, 1) := by decide +kernel
theorem dX9_bestLie_1 : decode cX9_bestLie 1 = .ok (.getfield 19, 3) := by decide +kernel
theorem dX9_bestLie_4 : decode cX9_bestLie 4 = .ok (.iload_n 2, 1) := by decide +kernel
theorem dX9_bestLie_5 : decode cX9_bestLie 5 = .ok (.iload_n 3, 1) := by decide +kernel
theorem dX9_bestLie_6 : decode cX9_bestLie 6 = .ok (.invokevirtual 182, 3) := by decide +kernel
theorem dX9_bestLie_9 : decode cX9_bestLie 9 = .ok (.ifCond .ne 6, 3) := by decide +kernel
theorem dX9_bestLie_12 : decode cX9_bestLie 12 = .ok (.ldc 155, 2) := by decide +kernel
theorem dX9_bestLie_14 : decode cX9_bestLie 14 = .ok (.ireturn, 1) := by decide +kernel
theorem dX9_bestLie_15 : decode cX9_bestLie 15 = .ok (.iload_n 1, 1) := by decide +kernel
theorem dX9_bestLie_16 : decode cX9_bestLie 16 = .ok (.iconst 0, 1) := by decide +kernel
theorem dX9_bestLie_17 : decode cX9_bestLie 17 = .ok (.iconst 2, 1) := by decide +kernel
theorem dX9_bestLie_18 : decode cX9_bestLie 18 = .ok (.invokestatic 90, 3) := by decide +kernel
theorem dX9_bestLie_21 : decode cX9_bestLie 21 = .ok (.ifCond .eq 13, 3) := by decide +kernel
theorem dX9_bestLie_24 : decode cX9_bestLie 24 = .ok (.iload 4, 2) := by decide +kernel
theorem dX9_bestLie_26 : decode cX9_bestLie 26 = .ok (.iconst 0, 1) := by decide +kernel
theorem dX9_bestLie_27 : decode cX9_bestLie 27 = .ok (.iconst 1, 1) := by decide +kernel
theorem dX9_bestLie_28 : decode cX9_bestLie 28 = .ok (.invokestatic 90, 3) := by decide +kernel
theorem dX9_bestLie_31 : decode cX9_bestLie 31 = .ok (.ifCond .ne 6, 3) := by decide +kernel
theorem dX9_bestLie_34 : decode cX9_bestLie 34 = .ok (.ldc 94, 2) := by decide +kernel
theorem dX9_bestLie_36 : decode cX9_bestLie 36 = .ok (.ireturn, 1) := by decide +kernel
theorem dX9_bestLie_37 : decode cX9_bestLie 37 = .ok (.aload_n 0, 1) := by decide +kernel
theorem dX9_bestLie_38 : decode cX9_bestLie 38 = .ok (.getfield 52, 3) := by decide +kernel
theorem dX9_bestLie_41 : decode cX9_bestLie 41 = .ok (.iload_n 1, 1) := by decide +kernel
theorem dX9_bestLie_42 : decode cX9_bestLie 42 = .ok (.iload_n 2, 1) := by decide +kernel
theorem dX9_bestLie_43 : decode cX9_bestLie 43 = .ok (.iload_n 3, 1) := by decide +kernel
theorem dX9_bestLie_44 : decode cX9_bestLie 44 = .ok (.invokevirtual 269, 3) := by decide +kernel
theorem dX9_bestLie_47 : decode cX9_bestLie 47 = .ok (.iconst 0, 1) := by decide +kernel
theorem dX9_bestLie_48 : decode cX9_bestLie 48 = .ok (.istore 5, 2) := by decide +kernel
theorem dX9_bestLie_50 : decode cX9_bestLie 50 = .ok (.aload_n 0, 1) := by decide +kernel
theorem dX9_bestLie_51 : decode cX9_bestLie 51 = .ok (.getfield 52, 3) := by decide +kernel
theorem dX9_bestLie_54 : decode cX9_bestLie 54 = .ok (.iconst 0, 1) := by decide +kernel
theorem dX9_bestLie_55 : decode cX9_bestLie 55 = .ok (.invokevirtual 272, 3) := by decide +kernel
theorem dX9_bestLie_58 : decode cX9_bestLie 58 = .ok (.istore 6, 2) := by decide +kernel
theorem dX9_bestLie_60 : decode cX9_bestLie 60 = .ok (.iconst 1, 1) := by decide +kernel
theorem dX9_bestLie_61 : decode cX9_bestLie 61 = .ok (.istore 7, 2) := by decide +kernel
theorem dX9_bestLie_63 : decode cX9_bestLie 63 = .ok (.iload 7, 2) := by decide +kernel
theorem dX9_bestLie_65 : decode cX9_bestLie 65 = .ok (.sipush 999, 3) := by decide +kernel
theorem dX9_bestLie_68 : decode cX9_bestLie 68 = .ok (.if_icmp .gt 35, 3) := by decide +kernel
theorem dX9_bestLie_71 : decode cX9_bestLie 71 = .ok (.aload_n 0, 1) := by decide +kernel
theorem dX9_bestLie_72 : decode cX9_bestLie 72 = .ok (.getfield 52, 3) := by decide +kernel
theorem dX9_bestLie_75 : decode cX9_bestLie 75 = .ok (.iload 7, 2) := by decide +kernel
theorem dX9_bestLie_77 : decode cX9_bestLie 77 = .ok (.invokevirtual 272, 3) := by decide +kernel
theorem dX9_bestLie_80 : decode cX9_bestLie 80 = .ok (.istore 8, 2) := by decide +kernel
theorem dX9_bestLie_82 : decode cX9_bestLie 82 = .ok (.iload 8, 2) := by decide +kernel
theorem dX9_bestLie_84 : decode cX9_bestLie 84 = .ok (.iload 6, 2) := by decide +kernel
theorem dX9_bestLie_86 : decode cX9_bestLie 86 = .ok (.if_icmp .le 11, 3) := by decide +kernel
theorem dX9_bestLie_89 : decode cX9_bestLie 89 = .ok (.iload 8, 2) := by decide +kernel
theorem dX9_bestLie_91 : decode cX9_bestLie 91 = .ok (.istore 6, 2) := by decide +kernel
theorem dX9_bestLie_93 : decode cX9_bestLie 93 = .ok (.iload 7, 2) := by decide +kernel
theorem dX9_bestLie_95 : decode cX9_bestLie 95 = .ok (.istore 5, 2) := by decide +kernel
theorem dX9_bestLie_97 : decode cX9_bestLie 97 = .ok (.iinc 7 1, 3) := by decide +kernel
theorem dX9_bestLie_100 : decode cX9_bestLie 100 = .ok (.goto (-37), 3) := by decide +kernel
theorem dX9_bestLie_103 : decode cX9_bestLie 103 = .ok (.iload 4, 2) := by decide +kernel
theorem dX9_bestLie_105 : decode cX9_bestLie 105 = .ok (.ifCond .ne 8, 3) := by decide +kernel
theorem dX9_bestLie_108 : decode cX9_bestLie 108 = .ok (.iload 5, 2) := by decide +kernel
theorem dX9_bestLie_110 : decode cX9_bestLie 110 = .ok (.goto 20, 3) := by decide +kernel
theorem dX9_bestLie_113 : decode cX9_bestLie 113 = .ok (.iload 6, 2) := by decide +kernel
theorem dX9_bestLie_115 : decode cX9_bestLie 115 = .ok (.aload_n 0, 1) := by decide +kernel
theorem dX9_bestLie_116 : decode cX9_bestLie 116 = .ok (.getfield 52, 3) := by decide +kernel
theorem dX9_bestLie_119 : decode cX9_bestLie 119 = .ok (.aload_n 0, 1) := by decide +kernel
theorem dX9_bestLie_120 : decode cX9_bestLie 120 = .ok (.getfield 52, 3) := by decide +kernel
theorem dX9_bestLie_123 : decode cX9_bestLie 123 = .ok (.invokevirtual 275, 3) := by decide +kernel
theorem dX9_bestLie_126 : decode cX9_bestLie 126 = .ok (.invokevirtual 272, 3) := by decide +kernel
theorem dX9_bestLie_129 : decode cX9_bestLie 129 = .ok (.isub, 1) := by decide +kernel
theorem dX9_bestLie_130 : decode cX9_bestLie 130 = .ok (.ireturn, 1) := by decide +kernel
theorem dX9_seen_0 : decode cX9_seen 0 = .ok (.aload_n 0, 1) := by decide +kernel
theorem dX9_seen_1 : decode cX9_seen 1 = .ok (.getfield 19, 3) := by decide +kernel
theorem dX9_seen_4 : decode cX9_seen 4 = .ok (.iload_n 1, 1) := by decide +kernel
theorem dX9_seen_5 : decode cX9_seen 5 = .ok (.invokevirtual 176, 3) := by decide +kernel
theorem dX9_seen_8 : decode cX9_seen 8 = .ok (.ifCond .ne 6, 3) := by decide +kernel
theorem dX9_seen_11 : decode cX9_seen 11 = .ok (.ldc 155, 2) := by decide +kernel
theorem dX9_seen_13 : decode cX9_seen 13 = .ok (.ireturn, 1) := by decide +kernel
theorem dX9_seen_14 : decode cX9_seen 14 = .ok (.iload_n 2, 1) := by decide +kernel
theorem dX9_seen_15 : decode cX9_seen 15 = .ok (.iconst 0, 1) := by decide +kernel
theorem dX9_seen_16 : decode cX9_seen 16 = .ok (.bipush 60, 2) := by decide +kernel
theorem dX9_seen_18 : decode cX9_seen 18 = .ok (.invokestatic 90, 3) := by decide +kernel
theorem dX9_seen_21 : decode cX9_seen 21 = .ok (.ifCond .eq 13, 3) := by decide +kernel
theorem dX9_seen_24 : decode cX9_seen 24 = .ok (.iload_n 3, 1) := by decide +kernel
theorem dX9_seen_25 : decode cX9_seen 25 = .ok (.iconst 0, 1) := by decide +kernel
theorem dX9_seen_26 : decode cX9_seen 26 = .ok (.bipush 9, 2) := by decide +kernel
theorem dX9_seen_28 : decode cX9_seen 28 = .ok (.invokestatic 90, 3) := by decide +kernel
theorem dX9_seen_31 : decode cX9_seen 31 = .ok (.ifCond .ne 6, 3) := by decide +kernel
theorem dX9_seen_34 : decode cX9_seen 34 = .ok (.ldc 94, 2) := by decide +kernel
theorem dX9_seen_36 : decode cX9_seen 36 = .ok (.ireturn, 1) := by decide +kernel
theorem dX9_seen_37 : decode cX9_seen 37 = .ok (.aload_n 0, 1) := by decide +kernel
theorem dX9_seen_38 : decode cX9_seen 38 = .ok (.getfield 59, 3) := by decide +kernel
theorem dX9_seen_41 : decode cX9_seen 41 = .ok (.getfield 119, 3) := by decide +kernel
theorem dX9_seen_44 : decode cX9_seen 44 = .ok (.bipush 10, 2) := by decide +kernel
theorem dX9_seen_46 : decode cX9_seen 46 = .ok (.if_icmp .lt 6, 3) := by decide +kernel
theorem dX9_seen_49 : decode cX9_seen 49 = .ok (.ldc 98, 2) := by decide +kernel
theorem dX9_seen_51 : decode cX9_seen 51 = .ok (.ireturn, 1) := by decide +kernel
theorem dX9_seen_52 : decode cX9_seen 52 = .ok (.aload_n 0, 1) := by decide +kernel
theorem dX9_seen_53 : decode cX9_seen 53 = .ok (.getfield 59, 3) := by decide +kernel
theorem dX9_seen_56 : decode cX9_seen 56 = .ok (.iload_n 1, 1) := by decide +kernel
theorem dX9_seen_57 : decode cX9_seen 57 = .ok (.iload_n 2, 1) := by decide +kernel
theorem dX9_seen_58 : decode cX9_seen 58 = .ok (.iload_n 3, 1) := by decide +kernel
theorem dX9_seen_59 : decode cX9_seen 59 = .ok (.iload 4, 2) := by decide +kernel
theorem dX9_seen_61 : decode cX9_seen 61 = .ok (.invokevirtual 278, 3) := by decide +kernel
theorem dX9_seen_64 : decode cX9_seen 64 = .ok (.aload_n 0, 1) := by decide +kernel
theorem dX9_seen_65 : decode cX9_seen 65 = .ok (.getfield 68, 3) := by decide +kernel
theorem dX9_seen_68 : decode cX9_seen 68 = .ok (.iconst 1, 1) := by decide +kernel
theorem dX9_seen_69 : decode cX9_seen 69 = .ok (.putfield 122, 3) := by decide +kernel
theorem dX9_seen_72 : decode cX9_seen 72 = .ok (.aload_n 0, 1) := by decide +kernel
theorem dX9_seen_73 : decode cX9_seen 73 = .ok (.getfield 59, 3) := by decide +kernel
theorem dX9_seen_76 : decode cX9_seen 76 = .ok (.getfield 119, 3) := by decide +kernel
theorem dX9_seen_79 : decode cX9_seen 79 = .ok (.ireturn, 1) := by decide +kernel
theorem dX9_forget_0 : decode cX9_forget 0 = .ok (.aload_n 0, 1) := by decide +kernel
theorem dX9_forget_1 : decode cX9_forget 1 = .ok (.getfield 59, 3) := by decide +kernel
theorem dX9_forget_4 : decode cX9_forget 4 = .ok (.getfield 119, 3) := by decide +kernel
theorem dX9_forget_7 : decode cX9_forget 7 = .ok (.istore_n 1, 1) := by decide +kernel
theorem dX9_forget_8 : decode cX9_forget 8 = .ok (.aload_n 0, 1) := by decide +kernel
theorem dX9_forget_9 : decode cX9_forget 9 = .ok (.getfield 59, 3) := by decide +kernel
theorem dX9_forget_12 : decode cX9_forget 12 = .ok (.iconst 0, 1) := by decide +kernel
theorem dX9_forget_13 : decode cX9_forget 13 = .ok (.putfield 119, 3) := by decide +kernel
theorem dX9_forget_16 : decode cX9_forget 16 = .ok (.aload_n 0, 1) := by decide +kernel
theorem dX9_forget_17 : decode cX9_forget 17 = .ok (.getfield 68, 3) := by decide +kernel
theorem dX9_forget_20 : decode cX9_forget 20 = .ok (.iconst 1, 1) := by decide +kernel
theorem dX9_forget_21 : decode cX9_forget 21 = .ok (.putfield 122, 3) := by decide +kernel
theorem dX9_forget_24 : decode cX9_forget 24 = .ok (.iload_n 1, 1) := by decide +kernel
theorem dX9_forget_25 : decode cX9_forget 25 = .ok (.ireturn, 1) := by decide +kernel
theorem dX9_fits_0 : decode cX9_fits 0 = .ok (.aload_n 0, 1) := by decide +kernel
theorem dX9_fits_1 : decode cX9_fits 1 = .ok (.getfield 19, 3) := by decide +kernel
theorem dX9_fits_4 : decode cX9_fits 4 = .ok (.iload_n 1, 1) := by decide +kernel
theorem dX9_fits_5 : decode cX9_fits 5 = .ok (.invokevirtual 176, 3) := by decide +kernel
theorem dX9_fits_8 : decode cX9_fits 8 = .ok (.ifCond .ne 6, 3) := by decide +kernel
theorem dX9_fits_11 : decode cX9_fits 11 = .ok (.ldc 155, 2) := by decide +kernel
theorem dX9_fits_13 : decode cX9_fits 13 = .ok (.ireturn, 1) := by decide +kernel
theorem dX9_fits_14 : decode cX9_fits 14 = .ok (.iload_n 2, 1) := by decide +kernel
theorem dX9_fits_15 : decode cX9_fits 15 = .ok (.tableswitch 52 0 2 #[25, 34, 43], 25) := by decide +kernel
theorem dX9_fits_40 : decode cX9_fits 40 = .ok (.aload_n 0, 1) := by decide +kernel
theorem dX9_fits_41 : decode cX9_fits 41 = .ok (.getfield 59, 3) := by decide +kernel
theorem dX9_fits_44 : decode cX9_fits 44 = .ok (.iload_n 1, 1) := by decide +kernel
theorem dX9_fits_45 : decode cX9_fits 45 = .ok (.invokevirtual 282, 3) := by decide +kernel
theorem dX9_fits_48 : decode cX9_fits 48 = .ok (.ireturn, 1) := by decide +kernel
theorem dX9_fits_49 : decode cX9_fits 49 = .ok (.aload_n 0, 1) := by decide +kernel
theorem dX9_fits_50 : decode cX9_fits 50 = .ok (.getfield 59, 3) := by decide +kernel
theorem dX9_fits_53 : decode cX9_fits 53 = .ok (.iload_n 1, 1) := by decide +kernel
theorem dX9_fits_54 : decode cX9_fits 54 = .ok (.invokevirtual 285, 3) := by decide +kernel
theorem dX9_fits_57 : decode cX9_fits 57 = .ok (.ireturn, 1) := by decide +kernel
theorem dX9_fits_58 : decode cX9_fits 58 = .ok (.aload_n 0, 1) := by decide +kernel
theorem dX9_fits_59 : decode cX9_fits 59 = .ok (.getfield 59, 3) := by decide +kernel
theorem dX9_fits_62 : decode cX9_fits 62 = .ok (.iload_n 1, 1) := by decide +kernel
theorem dX9_fits_63 : decode cX9_fits 63 = .ok (.invokevirtual 288, 3) := by decide +kernel
theorem dX9_fits_66 : decode cX9_fits 66 = .ok (.ireturn, 1) := by decide +kernel
theorem dX9_fits_67 : decode cX9_fits 67 = .ok (.ldc 94, 2) := by decide +kernel
theorem dX9_fits_69 : decode cX9_fits 69 = .ok (.ireturn, 1) := by decide +kernel
theorem dX9_wentFor_0 : decode cX9_wentFor 0 = .ok (.iload_n 1, 1) := by decide +kernel
theorem dX9_wentFor_1 : decode cX9_wentFor 1 = .ok (.iconst 0, 1) := by decide +kernel
theorem dX9_wentFor_2 : decode cX9_wentFor 2 = .ok (.sipush 9999, 3) := by decide +kernel
theorem dX9_wentFor_5 : decode cX9_wentFor 5 = .ok (.invokestatic 90, 3) := by decide +kernel
theorem dX9_wentFor_8 : decode cX9_wentFor 8 = .ok (.ifCond .eq 12, 3) := by decide +kernel
theorem dX9_wentFor_11 : decode cX9_wentFor 11 = .ok (.iload_n 2, 1) := by decide +kernel
theorem dX9_wentFor_12 : decode cX9_wentFor 12 = .ok (.iconst 0, 1) := by decide +kernel
theorem dX9_wentFor_13 : decode cX9_wentFor 13 = .ok (.iconst 1, 1) := by decide +kernel
theorem dX9_wentFor_14 : decode cX9_wentFor 14 = .ok (.invokestatic 90, 3) := by decide +kernel
theorem dX9_wentFor_17 : decode cX9_wentFor 17 = .ok (.ifCond .ne 6, 3) := by decide +kernel
theorem dX9_wentFor_20 : decode cX9_wentFor 20 = .ok (.ldc 94, 2) := by decide +kernel
theorem dX9_wentFor_22 : decode cX9_wentFor 22 = .ok (.ireturn, 1) := by decide +kernel
theorem dX9_wentFor_23 : decode cX9_wentFor 23 = .ok (.aload_n 0, 1) := by decide +kernel
theorem dX9_wentFor_24 : decode cX9_wentFor 24 = .ok (.getfield 68, 3) := by decide +kernel
theorem dX9_wentFor_27 : decode cX9_wentFor 27 = .ok (.aload_n 0, 1) := by decide +kernel
theorem dX9_wentFor_28 : decode cX9_wentFor 28 = .ok (.getfield 19, 3) := by decide +kernel
theorem dX9_wentFor_31 : decode cX9_wentFor 31 = .ok (.getfield 130, 3) := by decide +kernel
theorem dX9_wentFor_34 : decode cX9_wentFor 34 = .ok (.invokevirtual 291, 3) := by decide +kernel
theorem dX9_wentFor_37 : decode cX9_wentFor 37 = .ok (.iload_n 2, 1) := by decide +kernel
theorem dX9_wentFor_38 : decode cX9_wentFor 38 = .ok (.ifCond .ne 21, 3) := by decide +kernel
theorem dX9_wentFor_41 : decode cX9_wentFor 41 = .ok (.aload_n 0, 1) := by decide +kernel
theorem dX9_wentFor_42 : decode cX9_wentFor 42 = .ok (.getfield 68, 3) := by decide +kernel
theorem dX9_wentFor_45 : decode cX9_wentFor 45 = .ok (.iload_n 1, 1) := by decide +kernel
theorem dX9_wentFor_46 : decode cX9_wentFor 46 = .ok (.aload_n 0, 1) := by decide +kernel
theorem dX9_wentFor_47 : decode cX9_wentFor 47 = .ok (.getfield 19, 3) := by decide +kernel
theorem dX9_wentFor_50 : decode cX9_wentFor 50 = .ok (.getfield 130, 3) := by decide +kernel
theorem dX9_wentFor_53 : decode cX9_wentFor 53 = .ok (.invokevirtual 295, 3) := by decide +kernel
theorem dX9_wentFor_56 : decode cX9_wentFor 56 = .ok (.goto 18, 3) := by decide +kernel
theorem dX9_wentFor_59 : decode cX9_wentFor 59 = .ok (.aload_n 0, 1) := by decide +kernel
theorem dX9_wentFor_60 : decode cX9_wentFor 60 = .ok (.getfield 68, 3) := by decide +kernel
theorem dX9_wentFor_63 : decode cX9_wentFor 63 = .ok (.iload_n 1, 1) := by decide +kernel
theorem dX9_wentFor_64 : decode cX9_wentFor 64 = .ok (.aload_n 0, 1) := by decide +kernel
theorem dX9_wentFor_65 : decode cX9_wentFor 65 = .ok (.getfield 19, 3) := by decide +kernel
theorem dX9_wentFor_68 : decode cX9_wentFor 68 = .ok (.getfield 130, 3) := by decide +kernel
theorem dX9_wentFor_71 : decode cX9_wentFor 71 = .ok (.invokevirtual 298, 3) := by decide +kernel
theorem dX9_wentFor_74 : decode cX9_wentFor 74 = .ok (.ireturn, 1) := by decide +kernel
theorem dX9_meetings_0 : decode cX9_meetings 0 = .ok (.iload_n 1, 1) := by decide +kernel
theorem dX9_meetings_1 : decode cX9_meetings 1 = .ok (.lookupswitch 43 #[(0, 27), (1, 35)], 27) := by decide +kernel
theorem dX9_meetings_28 : decode cX9_meetings 28 = .ok (.aload_n 0, 1) := by decide +kernel
theorem dX9_meetings_29 : decode cX9_meetings 29 = .ok (.getfield 75, 3) := by decide +kernel
theorem dX9_meetings_32 : decode cX9_meetings 32 = .ok (.invokevirtual 301, 3) := by decide +kernel
theorem dX9_meetings_35 : decode cX9_meetings 35 = .ok (.ireturn, 1) := by decide +kernel
theorem dX9_meetings_36 : decode cX9_meetings 36 = .ok (.aload_n 0, 1) := by decide +kernel
theorem dX9_meetings_37 : decode cX9_meetings 37 = .ok (.getfield 75, 3) := by decide +kernel
theorem dX9_meetings_40 : decode cX9_meetings 40 = .ok (.invokevirtual 304, 3) := by decide +kernel
theorem dX9_meetings_43 : decode cX9_meetings 43 = .ok (.ireturn, 1) := by decide +kernel
theorem dX9_meetings_44 : decode cX9_meetings 44 = .ok (.ldc 94, 2) := by decide +kernel
theorem dX9_meetings_46 : decode cX9_meetings 46 = .ok (.ireturn, 1) := by decide +kernel
theorem dX9_write_0 : decode cX9_write 0 = .ok (.aload_n 0, 1) := by decide +kernel
theorem dX9_write_1 : decode cX9_write 1 = .ok (.getfield 19, 3) := by decide +kernel
theorem dX9_write_4 : decode cX9_write 4 = .ok (.iload_n 2, 1) := by decide +kernel
theorem dX9_write_5 : decode cX9_write 5 = .ok (.iload_n 3, 1) := by decide +kernel
theorem dX9_write_6 : decode cX9_write 6 = .ok (.invokevirtual 182, 3) := by decide +kernel
theorem dX9_write_9 : decode cX9_write 9 = .ok (.ifCond .ne 6, 3) := by decide +kernel
theorem dX9_write_12 : decode cX9_write 12 = .ok (.ldc 155, 2) := by decide +kernel
theorem dX9_write_14 : decode cX9_write 14 = .ok (.ireturn, 1) := by decide +kernel
theorem dX9_write_15 : decode cX9_write 15 = .ok (.iload_n 1, 1) := by decide +kernel
theorem dX9_write_16 : decode cX9_write 16 = .ok (.iconst 0, 1) := by decide +kernel
theorem dX9_write_17 : decode cX9_write 17 = .ok (.sipush 9999, 3) := by decide +kernel
theorem dX9_write_20 : decode cX9_write 20 = .ok (.invokestatic 90, 3) := by decide +kernel
theorem dX9_write_23 : decode cX9_write 23 = .ok (.ifCond .eq 15, 3) := by decide +kernel
theorem dX9_write_26 : decode cX9_write 26 = .ok (.iload 4, 2) := by decide +kernel
theorem dX9_write_28 : decode cX9_write 28 = .ok (.iconst 1, 1) := by decide +kernel
theorem dX9_write_29 : decode cX9_write 29 = .ok (.sipush 999, 3) := by decide +kernel
theorem dX9_write_32 : decode cX9_write 32 = .ok (.invokestatic 90, 3) := by decide +kernel
theorem dX9_write_35 : decode cX9_write 35 = .ok (.ifCond .ne 6, 3) := by decide +kernel
theorem dX9_write_38 : decode cX9_write 38 = .ok (.ldc 94, 2) := by decide +kernel
theorem dX9_write_40 : decode cX9_write 40 = .ok (.ireturn, 1) := by decide +kernel
theorem dX9_write_41 : decode cX9_write 41 = .ok (.aload_n 0, 1) := by decide +kernel
theorem dX9_write_42 : decode cX9_write 42 = .ok (.getfield 82, 3) := by decide +kernel
theorem dX9_write_45 : decode cX9_write 45 = .ok (.getfield 126, 3) := by decide +kernel
theorem dX9_write_48 : decode cX9_write 48 = .ok (.bipush 30, 2) := by decide +kernel
theorem dX9_write_50 : decode cX9_write 50 = .ok (.if_icmp .lt 6, 3) := by decide +kernel
theorem dX9_write_53 : decode cX9_write 53 = .ok (.ldc 98, 2) := by decide +kernel
theorem dX9_write_55 : decode cX9_write 55 = .ok (.ireturn, 1) := by decide +kernel
theorem dX9_write_56 : decode cX9_write 56 = .ok (.aload_n 0, 1) := by decide +kernel
theorem dX9_write_57 : decode cX9_write 57 = .ok (.getfield 82, 3) := by decide +kernel
theorem dX9_write_60 : decode cX9_write 60 = .ok (.iload_n 1, 1) := by decide +kernel
theorem dX9_write_61 : decode cX9_write 61 = .ok (.iload_n 2, 1) := by decide +kernel
theorem dX9_write_62 : decode cX9_write 62 = .ok (.iload_n 3, 1) := by decide +kernel
theorem dX9_write_63 : decode cX9_write 63 = .ok (.iload 4, 2) := by decide +kernel
theorem dX9_write_65 : decode cX9_write 65 = .ok (.invokevirtual 307, 3) := by decide +kernel
theorem dX9_write_68 : decode cX9_write 68 = .ok (.aload_n 0, 1) := by decide +kernel
theorem dX9_write_69 : decode cX9_write 69 = .ok (.getfield 82, 3) := by decide +kernel
theorem dX9_write_72 : decode cX9_write 72 = .ok (.getfield 126, 3) := by decide +kernel
theorem dX9_write_75 : decode cX9_write 75 = .ok (.ireturn, 1) := by decide +kernel
theorem dX9_tear_0 : decode cX9_tear 0 = .ok (.aload_n 0, 1) := by decide +kernel
theorem dX9_tear_1 : decode cX9_tear 1 = .ok (.getfield 82, 3) := by decide +kernel
theorem dX9_tear_4 : decode cX9_tear 4 = .ok (.getfield 126, 3) := by decide +kernel
theorem dX9_tear_7 : decode cX9_tear 7 = .ok (.istore_n 1, 1) := by decide +kernel
theorem dX9_tear_8 : decode cX9_tear 8 = .ok (.aload_n 0, 1) := by decide +kernel
theorem dX9_tear_9 : decode cX9_tear 9 = .ok (.getfield 82, 3) := by decide +kernel
theorem dX9_tear_12 : decode cX9_tear 12 = .ok (.iconst 0, 1) := by decide +kernel
theorem dX9_tear_13 : decode cX9_tear 13 = .ok (.putfield 126, 3) := by decide +kernel
theorem dX9_tear_16 : decode cX9_tear 16 = .ok (.iload_n 1, 1) := by decide +kernel
theorem dX9_tear_17 : decode cX9_tear 17 = .ok (.ireturn, 1) := by decide +kernel
theorem dX9_judge_0 : decode cX9_judge 0 = .ok (.aload_n 0, 1) := by decide +kernel
theorem dX9_judge_1 : decode cX9_judge 1 = .ok (.getfield 82, 3) := by decide +kernel
theorem dX9_judge_4 : decode cX9_judge 4 = .ok (.invokevirtual 310, 3) := by decide +kernel
theorem dX9_judge_7 : decode cX9_judge 7 = .ok (.ireturn, 1) := by decide +kernel
theorem dX9_seed_0 : decode cX9_seed 0 = .ok (.iload_n 1, 1) := by decide +kernel
theorem dX9_seed_1 : decode cX9_seed 1 = .ok (.ifCond .ge 6, 3) := by decide +kernel
theorem dX9_seed_4 : decode cX9_seed 4 = .ok (.ldc 94, 2) := by decide +kernel
theorem dX9_seed_6 : decode cX9_seed 6 = .ok (.ireturn, 1) := by decide +kernel
theorem dX9_seed_7 : decode cX9_seed 7 = .ok (.aload_n 0, 1) := by decide +kernel
theorem dX9_seed_8 : decode cX9_seed 8 = .ok (.getfield 37, 3) := by decide +kernel
theorem dX9_seed_11 : decode cX9_seed 11 = .ok (.getfield 313, 3) := by decide +kernel
theorem dX9_seed_14 : decode cX9_seed 14 = .ok (.istore_n 2, 1) := by decide +kernel
theorem dX9_seed_15 : decode cX9_seed 15 = .ok (.aload_n 0, 1) := by decide +kernel
theorem dX9_seed_16 : decode cX9_seed 16 = .ok (.getfield 37, 3) := by decide +kernel
theorem dX9_seed_19 : decode cX9_seed 19 = .ok (.iload_n 1, 1) := by decide +kernel
theorem dX9_seed_20 : decode cX9_seed 20 = .ok (.putfield 313, 3) := by decide +kernel
theorem dX9_seed_23 : decode cX9_seed 23 = .ok (.iload_n 2, 1) := by decide +kernel
theorem dX9_seed_24 : decode cX9_seed 24 = .ok (.ireturn, 1) := by decide +kernel
theorem dX9_keep_0 : decode cX9_keep 0 = .ok (.iload_n 1, 1) := by decide +kernel
theorem dX9_keep_1 : decode cX9_keep 1 = .ok (.iconst 0, 1) := by decide +kernel
theorem dX9_keep_2 : decode cX9_keep 2 = .ok (.iconst 1, 1) := by decide +kernel
theorem dX9_keep_3 : decode cX9_keep 3 = .ok (.invokestatic 90, 3) := by decide +kernel
theorem dX9_keep_6 : decode cX9_keep 6 = .ok (.ifCond .ne 6, 3) := by decide +kernel
theorem dX9_keep_9 : decode cX9_keep 9 = .ok (.ldc 155, 2) := by decide +kernel
theorem dX9_keep_11 : decode cX9_keep 11 = .ok (.ireturn, 1) := by decide +kernel
theorem dX9_keep_12 : decode cX9_keep 12 = .ok (.aload_n 0, 1) := by decide +kernel
theorem dX9_keep_13 : decode cX9_keep 13 = .ok (.getfield 41, 3) := by decide +kernel
theorem dX9_keep_16 : decode cX9_keep 16 = .ok (.iload_n 1, 1) := by decide +kernel
theorem dX9_keep_17 : decode cX9_keep 17 = .ok (.aaload, 1) := by decide +kernel
theorem dX9_keep_18 : decode cX9_keep 18 = .ok (.aload_n 0, 1) := by decide +kernel
theorem dX9_keep_19 : decode cX9_keep 19 = .ok (.getfield 37, 3) := by decide +kernel
theorem dX9_keep_22 : decode cX9_keep 22 = .ok (.invokevirtual 316, 3) := by decide +kernel
theorem dX9_keep_25 : decode cX9_keep 25 = .ok (.aload_n 0, 1) := by decide +kernel
theorem dX9_keep_26 : decode cX9_keep 26 = .ok (.getfield 45, 3) := by decide +kernel
theorem dX9_keep_29 : decode cX9_keep 29 = .ok (.iload_n 1, 1) := by decide +kernel
theorem dX9_keep_30 : decode cX9_keep 30 = .ok (.iconst 1, 1) := by decide +kernel
theorem dX9_keep_31 : decode cX9_keep 31 = .ok (.bastore, 1) := by decide +kernel
theorem dX9_keep_32 : decode cX9_keep 32 = .ok (.iconst 1, 1) := by decide +kernel
theorem dX9_keep_33 : decode cX9_keep 33 = .ok (.ireturn, 1) := by decide +kernel
theorem dX9_goBack_0 : decode cX9_goBack 0 = .ok (.iload_n 1, 1) := by decide +kernel
theorem dX9_goBack_1 : decode cX9_goBack 1 = .ok (.iconst 0, 1) := by decide +kernel
theorem dX9_goBack_2 : decode cX9_goBack 2 = .ok (.iconst 1, 1) := by decide +kernel
theorem dX9_goBack_3 : decode cX9_goBack 3 = .ok (.invokestatic 90, 3) := by decide +kernel
theorem dX9_goBack_6 : decode cX9_goBack 6 = .ok (.ifCond .ne 6, 3) := by decide +kernel
theorem dX9_goBack_9 : decode cX9_goBack 9 = .ok (.ldc 155, 2) := by decide +kernel
theorem dX9_goBack_11 : decode cX9_goBack 11 = .ok (.ireturn, 1) := by decide +kernel
theorem dX9_goBack_12 : decode cX9_goBack 12 = .ok (.aload_n 0, 1) := by decide +kernel
theorem dX9_goBack_13 : decode cX9_goBack 13 = .ok (.getfield 45, 3) := by decide +kernel
theorem dX9_goBack_16 : decode cX9_goBack 16 = .ok (.iload_n 1, 1) := by decide +kernel
theorem dX9_goBack_17 : decode cX9_goBack 17 = .ok (.baload, 1) := by decide +kernel
theorem dX9_goBack_18 : decode cX9_goBack 18 = .ok (.ifCond .ne 6, 3) := by decide +kernel
theorem dX9_goBack_21 : decode cX9_goBack 21 = .ok (.ldc 207, 2) := by decide +kernel
theorem dX9_goBack_23 : decode cX9_goBack 23 = .ok (.ireturn, 1) := by decide +kernel
theorem dX9_goBack_24 : decode cX9_goBack 24 = .ok (.aload_n 0, 1) := by decide +kernel
theorem dX9_goBack_25 : decode cX9_goBack 25 = .ok (.getfield 37, 3) := by decide +kernel
theorem dX9_goBack_28 : decode cX9_goBack 28 = .ok (.aload_n 0, 1) := by decide +kernel
theorem dX9_goBack_29 : decode cX9_goBack 29 = .ok (.getfield 41, 3) := by decide +kernel
theorem dX9_goBack_32 : decode cX9_goBack 32 = .ok (.iload_n 1, 1) := by decide +kernel
theorem dX9_goBack_33 : decode cX9_goBack 33 = .ok (.aaload, 1) := by decide +kernel
theorem dX9_goBack_34 : decode cX9_goBack 34 = .ok (.invokevirtual 316, 3) := by decide +kernel
theorem dX9_goBack_37 : decode cX9_goBack 37 = .ok (.iconst 1, 1) := by decide +kernel
theorem dX9_goBack_38 : decode cX9_goBack 38 = .ok (.ireturn, 1) := by decide +kernel
theorem dX9_areTwoPersons_0 : decode cX9_areTwoPersons 0 = .ok (.aload_n 0, 1) := by decide +kernel
theorem dX9_areTwoPersons_1 : decode cX9_areTwoPersons 1 = .ok (.getfield 19, 3) := by decide +kernel
theorem dX9_areTwoPersons_4 : decode cX9_areTwoPersons 4 = .ok (.iload_n 1, 1) := by decide +kernel
theorem dX9_areTwoPersons_5 : decode cX9_areTwoPersons 5 = .ok (.invokevirtual 151, 3) := by decide +kernel
theorem dX9_areTwoPersons_8 : decode cX9_areTwoPersons 8 = .ok (.ifCond .eq 23, 3) := by decide +kernel
theorem dX9_areTwoPersons_11 : decode cX9_areTwoPersons 11 = .ok (.aload_n 0, 1) := by decide +kernel
theorem dX9_areTwoPersons_12 : decode cX9_areTwoPersons 12 = .ok (.getfield 19, 3) := by decide +kernel
theorem dX9_areTwoPersons_15 : decode cX9_areTwoPersons 15 = .ok (.iload_n 2, 1) := by decide +kernel
theorem dX9_areTwoPersons_16 : decode cX9_areTwoPersons 16 = .ok (.invokevirtual 151, 3) := by decide +kernel
theorem dX9_areTwoPersons_19 : decode cX9_areTwoPersons 19 = .ok (.ifCond .eq 12, 3) := by decide +kernel
theorem dX9_areTwoPersons_22 : decode cX9_areTwoPersons 22 = .ok (.iload_n 1, 1) := by decide +kernel
theorem dX9_areTwoPersons_23 : decode cX9_areTwoPersons 23 = .ok (.iload_n 2, 1) := by decide +kernel
theorem dX9_areTwoPersons_24 : decode cX9_areTwoPersons 24 = .ok (.if_icmp .eq 7, 3) := by decide +kernel
theorem dX9_areTwoPersons_27 : decode cX9_areTwoPersons 27 = .ok (.iconst 1, 1) := by decide +kernel
theorem dX9_areTwoPersons_28 : decode cX9_areTwoPersons 28 = .ok (.goto 4, 3) := by decide +kernel
theorem dX9_areTwoPersons_31 : decode cX9_areTwoPersons 31 = .ok (.iconst 0, 1) := by decide +kernel
theorem dX9_areTwoPersons_32 : decode cX9_areTwoPersons 32 = .ok (.ireturn, 1) := by decide +kernel
theorem dX9_canBeFor_0 : decode cX9_canBeFor 0 = .ok (.iload_n 3, 1) := by decide +kernel
theorem dX9_canBeFor_1 : decode cX9_canBeFor 1 = .ok (.iconst (-1), 1) := by decide +kernel
theorem dX9_canBeFor_2 : decode cX9_canBeFor 2 = .ok (.if_icmp .ne 5, 3) := by decide +kernel
theorem dX9_canBeFor_5 : decode cX9_canBeFor 5 = .ok (.iconst 1, 1) := by decide +kernel
theorem dX9_canBeFor_6 : decode cX9_canBeFor 6 = .ok (.ireturn, 1) := by decide +kernel
theorem dX9_canBeFor_7 : decode cX9_canBeFor 7 = .ok (.aload_n 0, 1) := by decide +kernel
theorem dX9_canBeFor_8 : decode cX9_canBeFor 8 = .ok (.getfield 19, 3) := by decide +kernel
theorem dX9_canBeFor_11 : decode cX9_canBeFor 11 = .ok (.iload_n 3, 1) := by decide +kernel
theorem dX9_canBeFor_12 : decode cX9_canBeFor 12 = .ok (.invokevirtual 151, 3) := by decide +kernel
theorem dX9_canBeFor_15 : decode cX9_canBeFor 15 = .ok (.ifCond .eq 29, 3) := by decide +kernel
theorem dX9_canBeFor_18 : decode cX9_canBeFor 18 = .ok (.iload_n 3, 1) := by decide +kernel
theorem dX9_canBeFor_19 : decode cX9_canBeFor 19 = .ok (.iload_n 1, 1) := by decide +kernel
theorem dX9_canBeFor_20 : decode cX9_canBeFor 20 = .ok (.if_icmp .eq 24, 3) := by decide +kernel
theorem dX9_canBeFor_23 : decode cX9_canBeFor 23 = .ok (.iload_n 3, 1) := by decide +kernel
theorem dX9_canBeFor_24 : decode cX9_canBeFor 24 = .ok (.iload_n 2, 1) := by decide +kernel
theorem dX9_canBeFor_25 : decode cX9_canBeFor 25 = .ok (.if_icmp .eq 19, 3) := by decide +kernel
theorem dX9_canBeFor_28 : decode cX9_canBeFor 28 = .ok (.aload_n 0, 1) := by decide +kernel
theorem dX9_canBeFor_29 : decode cX9_canBeFor 29 = .ok (.getfield 19, 3) := by decide +kernel
theorem dX9_canBeFor_32 : decode cX9_canBeFor 32 = .ok (.iload_n 3, 1) := by decide +kernel
theorem dX9_canBeFor_33 : decode cX9_canBeFor 33 = .ok (.invokevirtual 319, 3) := by decide +kernel
theorem dX9_canBeFor_36 : decode cX9_canBeFor 36 = .ok (.iconst 2, 1) := by decide +kernel
theorem dX9_canBeFor_37 : decode cX9_canBeFor 37 = .ok (.if_icmp .eq 7, 3) := by decide +kernel
theorem dX9_canBeFor_40 : decode cX9_canBeFor 40 = .ok (.iconst 1, 1) := by decide +kernel
theorem dX9_canBeFor_41 : decode cX9_canBeFor 41 = .ok (.goto 4, 3) := by decide +kernel
theorem dX9_canBeFor_44 : decode cX9_canBeFor 44 = .ok (.iconst 0, 1) := by decide +kernel
theorem dX9_canBeFor_45 : decode cX9_canBeFor 45 = .ok (.ireturn, 1) := by decide +kernel
theorem dX9_isWithin_0 : decode cX9_isWithin 0 = .ok (.iload_n 0, 1) := by decide +kernel
theorem dX9_isWithin_1 : decode cX9_isWithin 1 = .ok (.iload_n 1, 1) := by decide +kernel
theorem dX9_isWithin_2 : decode cX9_isWithin 2 = .ok (.if_icmp .lt 12, 3) := by decide +kernel
theorem dX9_isWithin_5 : decode cX9_isWithin 5 = .ok (.iload_n 0, 1) := by decide +kernel
theorem dX9_isWithin_6 : decode cX9_isWithin 6 = .ok (.iload_n 2, 1) := by decide +kernel
theorem dX9_isWithin_7 : decode cX9_isWithin 7 = .ok (.if_icmp .gt 7, 3) := by decide +kernel
theorem dX9_isWithin_10 : decode cX9_isWithin 10 = .ok (.iconst 1, 1) := by decide +kernel
theorem dX9_isWithin_11 : decode cX9_isWithin 11 = .ok (.goto 4, 3) := by decide +kernel
theorem dX9_isWithin_14 : decode cX9_isWithin 14 = .ok (.iconst 0, 1) := by decide +kernel
theorem dX9_isWithin_15 : decode cX9_isWithin 15 = .ok (.ireturn, 1) := by decide +kernel
theorem dX9_signsOf_0 : decode cX9_signsOf 0 = .ok (.iload_n 0, 1) := by decide +kernel
theorem dX9_signsOf_1 : decode cX9_signsOf 1 = .ok (.bipush 100, 2) := by decide +kernel
theorem dX9_signsOf_3 : decode cX9_signsOf 3 = .ok (.idiv, 1) := by decide +kernel
theorem dX9_signsOf_4 : decode cX9_signsOf 4 = .ok (.iload_n 0, 1) := by decide +kernel
theorem dX9_signsOf_5 : decode cX9_signsOf 5 = .ok (.bipush 10, 2) := by decide +kernel
theorem dX9_signsOf_7 : decode cX9_signsOf 7 = .ok (.idiv, 1) := by decide +kernel
theorem dX9_signsOf_8 : decode cX9_signsOf 8 = .ok (.bipush 10, 2) := by decide +kernel
theorem dX9_signsOf_10 : decode cX9_signsOf 10 = .ok (.irem, 1) := by decide +kernel
theorem dX9_signsOf_11 : decode cX9_signsOf 11 = .ok (.iadd, 1) := by decide +kernel
theorem dX9_signsOf_12 : decode cX9_signsOf 12 = .ok (.iload_n 0, 1) := by decide +kernel
theorem dX9_signsOf_13 : decode cX9_signsOf 13 = .ok (.bipush 10, 2) := by decide +kernel
theorem dX9_signsOf_15 : decode cX9_signsOf 15 = .ok (.irem, 1) := by decide +kernel
theorem dX9_signsOf_16 : decode cX9_signsOf 16 = .ok (.iadd, 1) := by decide +kernel
theorem dX9_signsOf_17 : decode cX9_signsOf 17 = .ok (.ireturn, 1) := by decide +kernel
theorem dX10_init_0 : decode cX10_init 0 = .ok (.aload_n 0, 1) := by decide +kernel
theorem dX10_init_1 : decode cX10_init 1 = .ok (.invokespecial 1, 3) := by decide +kernel
theorem dX10_init_4 : decode cX10_init 4 = .ok (.aload_n 0, 1) := by decide +kernel
theorem dX10_init_5 : decode cX10_init 5 = .ok (.bipush 6, 2) := by decide +kernel
theorem dX10_init_7 : decode cX10_init 7 = .ok (.newarray .int, 2) := by decide +kernel
theorem dX10_init_9 : decode cX10_init 9 = .ok (.putfield 7, 3) := by decide +kernel
theorem dX10_init_12 : decode cX10_init 12 = .ok (.aload_n 0, 1) := by decide +kernel
theorem dX10_init_13 : decode cX10_init 13 = .ok (.bipush 6, 2) := by decide +kernel
theorem dX10_init_15 : decode cX10_init 15 = .ok (.newarray .int, 2) := by decide +kernel
theorem dX10_init_17 : decode cX10_init 17 = .ok (.putfield 13, 3) := by decide +kernel
theorem dX10_init_20 : decode cX10_init 20 = .ok (.aload_n 0, 1) := by decide +kernel
theorem dX10_init_21 : decode cX10_init 21 = .ok (.bipush 36, 2) := by decide +kernel
theorem dX10_init_23 : decode cX10_init 23 = .ok (.newarray .int, 2) := by decide +kernel
theorem dX10_init_25 : decode cX10_init 25 = .ok (.putfield 16, 3) := by decide +kernel
theorem dX10_init_28 : decode cX10_init 28 = .ok (.aload_n 0, 1) := by decide +kernel
theorem dX10_init_29 : decode cX10_init 29 = .ok (.iconst 2, 1) := by decide +kernel
theorem dX10_init_30 : decode cX10_init 30 = .ok (.newarray .int, 2) := by decide +kernel
theorem dX10_init_32 : decode cX10_init 32 = .ok (.putfield 19, 3) := by decide +kernel
theorem dX10_init_35 : decode cX10_init 35 = .ok (.aload_n 0, 1) := by decide +kernel
theorem dX10_init_36 : decode cX10_init 36 = .ok (.bipush 14, 2) := by decide +kernel
theorem dX10_init_38 : decode cX10_init 38 = .ok (.newarray .int, 2) := by decide +kernel
theorem dX10_init_40 : decode cX10_init 40 = .ok (.putfield 22, 3) := by decide +kernel
theorem dX10_init_43 : decode cX10_init 43 = .ok (.aload_n 0, 1) := by decide +kernel
theorem dX10_init_44 : decode cX10_init 44 = .ok (.bipush 12, 2) := by decide +kernel
theorem dX10_init_46 : decode cX10_init 46 = .ok (.putfield 25, 3) := by decide +kernel
theorem dX10_init_49 : decode cX10_init 49 = .ok (.aload_n 0, 1) := by decide +kernel
theorem dX10_init_50 : decode cX10_init 50 = .ok (.iconst 2, 1) := by decide +kernel
theorem dX10_init_51 : decode cX10_init 51 = .ok (.putfield 29, 3) := by decide +kernel
theorem dX10_init_54 : decode cX10_init 54 = .ok (.aload_n 0, 1) := by decide +kernel
theorem dX10_init_55 : decode cX10_init 55 = .ok (.bipush 14, 2) := by decide +kernel
theorem dX10_init_57 : decode cX10_init 57 = .ok (.newarray .int, 2) := by decide +kernel
theorem dX10_init_59 : decode cX10_init 59 = .ok (.putfield 32, 3) := by decide +kernel
theorem dX10_init_62 : decode cX10_init 62 = .ok (.aload_n 0, 1) := by decide +kernel
theorem dX10_init_63 : decode cX10_init 63 = .ok (.bipush 84, 2) := by decide +kernel
theorem dX10_init_65 : decode cX10_init 65 = .ok (.newarray .int, 2) := by decide +kernel
theorem dX10_init_67 : decode cX10_init 67 = .ok (.putfield 35, 3) := by decide +kernel
theorem dX10_init_70 : decode cX10_init 70 = .ok (.aload_n 0, 1) := by decide +kernel
theorem dX10_init_71 : decode cX10_init 71 = .ok (.bipush 84, 2) := by decide +kernel
theorem dX10_init_73 : decode cX10_init 73 = .ok (.newarray .int, 2) := by decide +kernel
theorem dX10_init_75 : decode cX10_init 75 = .ok (.putfield 38, 3) := by decide +kernel
theorem dX10_init_78 : decode cX10_init 78 = .ok (.aload_n 0, 1) := by decide +kernel
theorem dX10_init_79 : decode cX10_init 79 = .ok (.bipush 6, 2) := by decide +kernel
theorem dX10_init_81 : decode cX10_init 81 = .ok (.newarray .int, 2) := by decide +kernel
theorem dX10_init_83 : decode cX10_init 83 = .ok (.putfield 41, 3) := by decide +kernel
theorem dX10_init_86 : decode cX10_init 86 = .ok (.aload_n 0, 1) := by decide +kernel
theorem dX10_init_87 : decode cX10_init 87 = .ok (.bipush 6, 2) := by decide +kernel
theorem dX10_init_89 : decode cX10_init 89 = .ok (.newarray .int, 2) := by decide +kernel
theorem dX10_init_91 : decode cX10_init 91 = .ok (.putfield 44, 3) := by decide +kernel
theorem dX10_init_94 : decode cX10_init 94 = .ok (.aload_n 0, 1) := by decide +kernel
theorem dX10_init_95 : decode cX10_init 95 = .ok (.bipush 14, 2) := by decide +kernel
theorem dX10_init_97 : decode cX10_init 97 = .ok (.newarray .int, 2) := by decide +kernel
theorem dX10_init_99 : decode cX10_init 99 = .ok (.putfield 47, 3) := by decide +kernel
theorem dX10_init_102 : decode cX10_init 102 = .ok (.aload_n 0, 1) := by decide +kernel
theorem dX10_init_103 : decode cX10_init 103 = .ok (.sipush 500, 3) := by decide +kernel
theorem dX10_init_106 : decode cX10_init 106 = .ok (.newarray .int, 2) := by decide +kernel
theorem dX10_init_108 : decode cX10_init 108 = .ok (.putfield 50, 3) := by decide +kernel
theorem dX10_init_111 : decode cX10_init 111 = .ok (.aload_n 0, 1) := by decide +kernel
theorem dX10_init_112 : decode cX10_init 112 = .ok (.iconst (-1), 1) := by decide +kernel
theorem dX10_init_113 : decode cX10_init 113 = .ok (.putfield 53, 3) := by decide +kernel
theorem dX10_init_116 : decode cX10_init 116 = .ok (.aload_n 0, 1) := by decide +kernel
theorem dX10_init_117 : decode cX10_init 117 = .ok (.bipush 6, 2) := by decide +kernel
theorem dX10_init_119 : decode cX10_init 119 = .ok (.newarray .int, 2) := by decide +kernel
theorem dX10_init_121 : decode cX10_init 121 = .ok (.putfield 56, 3) := by decide +kernel
theorem dX10_init_124 : decode cX10_init 124 = .ok (.aload_n 0, 1) := by decide +kernel
theorem dX10_init_125 : decode cX10_init 125 = .ok (.bipush 6, 2) := by decide +kernel
theorem dX10_init_127 : decode cX10_init 127 = .ok (.newarray .int, 2) := by decide +kernel
theorem dX10_init_129 : decode cX10_init 129 = .ok (.putfield 59, 3) := by decide +kernel
theorem dX10_init_132 : decode cX10_init 132 = .ok (.aload_n 0, 1) := by decide +kernel
theorem dX10_init_133 : decode cX10_init 133 = .ok (.bipush 36, 2) := by decide +kernel
theorem dX10_init_135 : decode cX10_init 135 = .ok (.newarray .int, 2) := by decide +kernel
theorem dX10_init_137 : decode cX10_init 137 = .ok (.putfield 62, 3) := by decide +kernel
theorem dX10_init_140 : decode cX10_init 140 = .ok (.aload_n 0, 1) := by decide +kernel
theorem dX10_init_141 : decode cX10_init 141 = .ok (.iconst 2, 1) := by decide +kernel
theorem dX10_init_142 : decode cX10_init 142 = .ok (.newarray .int, 2) := by decide +kernel
theorem dX10_init_144 : decode cX10_init 144 = .ok (.putfield 65, 3) := by decide +kernel
theorem dX10_init_147 : decode cX10_init 147 = .ok (.aload_n 0, 1) := by decide +kernel
theorem dX10_init_148 : decode cX10_init 148 = .ok (.bipush 14, 2) := by decide +kernel
theorem dX10_init_150 : decode cX10_init 150 = .ok (.newarray .int, 2) := by decide +kernel
theorem dX10_init_152 : decode cX10_init 152 = .ok (.putfield 68, 3) := by decide +kernel
theorem dX10_init_155 : decode cX10_init 155 = .ok (.aload_n 0, 1) := by decide +kernel
theorem dX10_init_156 : decode cX10_init 156 = .ok (.bipush 7, 2) := by decide +kernel
theorem dX10_init_158 : decode cX10_init 158 = .ok (.newarray .int, 2) := by decide +kernel
theorem dX10_init_160 : decode cX10_init 160 = .ok (.putfield 71, 3) := by decide +kernel
theorem dX10_init_163 : decode cX10_init 163 = .ok (.aload_n 0, 1) := by decide +kernel
theorem dX10_init_164 : decode cX10_init 164 = .ok (.sipush 512, 3) := by decide +kernel
theorem dX10_init_167 : decode cX10_init 167 = .ok (.newarray .int, 2) := by decide +kernel
theorem dX10_init_169 : decode cX10_init 169 = .ok (.putfield 74, 3) := by decide +kernel
theorem dX10_init_172 : decode cX10_init 172 = .ok (.aload_n 0, 1) := by decide +kernel
theorem dX10_init_173 : decode cX10_init 173 = .ok (.bipush 6, 2) := by decide +kernel
theorem dX10_init_175 : decode cX10_init 175 = .ok (.newarray .int, 2) := by decide +kernel
theorem dX10_init_177 : decode cX10_init 177 = .ok (.putfield 77, 3) := by decide +kernel
theorem dX10_init_180 : decode cX10_init 180 = .ok (.aload_n 0, 1) := by decide +kernel
theorem dX10_init_181 : decode cX10_init 181 = .ok (.bipush 10, 2) := by decide +kernel
theorem dX10_init_183 : decode cX10_init 183 = .ok (.newarray .int, 2) := by decide +kernel
theorem dX10_init_185 : decode cX10_init 185 = .ok (.putfield 80, 3) := by decide +kernel
theorem dX10_init_188 : decode cX10_init 188 = .ok (.aload_n 0, 1) := by decide +kernel
theorem dX10_init_189 : decode cX10_init 189 = .ok (.bipush 10, 2) := by decide +kernel
theorem dX10_init_191 : decode cX10_init 191 = .ok (.newarray .int, 2) := by decide +kernel
theorem dX10_init_193 : decode cX10_init 193 = .ok (.putfield 83, 3) := by decide +kernel
theorem dX10_init_196 : decode cX10_init 196 = .ok (.aload_n 0, 1) := by decide +kernel
theorem dX10_init_197 : decode cX10_init 197 = .ok (.bipush 10, 2) := by decide +kernel
theorem dX10_init_199 : decode cX10_init 199 = .ok (.newarray .int, 2) := by decide +kernel
theorem dX10_init_201 : decode cX10_init 201 = .ok (.putfield 86, 3) := by decide +kernel
theorem dX10_init_204 : decode cX10_init 204 = .ok (.aload_n 0, 1) := by decide +kernel
theorem dX10_init_205 : decode cX10_init 205 = .ok (.bipush 10, 2) := by decide +kernel
theorem dX10_init_207 : decode cX10_init 207 = .ok (.newarray .boolean, 2) := by decide +kernel
theorem dX10_init_209 : decode cX10_init 209 = .ok (.putfield 89, 3) := by decide +kernel
theorem dX10_init_212 : decode cX10_init 212 = .ok (.aload_n 0, 1) := by decide +kernel
theorem dX10_init_213 : decode cX10_init 213 = .ok (.sipush 6016, 3) := by decide +kernel
theorem dX10_init_216 : decode cX10_init 216 = .ok (.newarray .long, 2) := by decide +kernel
theorem dX10_init_218 : decode cX10_init 218 = .ok (.putfield 93, 3) := by decide +kernel
theorem dX10_init_221 : decode cX10_init 221 = .ok (.aload_n 0, 1) := by decide +kernel
theorem dX10_init_222 : decode cX10_init 222 = .ok (.sipush 504, 3) := by decide +kernel
theorem dX10_init_225 : decode cX10_init 225 = .ok (.newarray .int, 2) := by decide +kernel
theorem dX10_init_227 : decode cX10_init 227 = .ok (.putfield 97, 3) := by decide +kernel
theorem dX10_init_230 : decode cX10_init 230 = .ok (.aload_n 0, 1) := by decide +kernel
theorem dX10_init_231 : decode cX10_init 231 = .ok (.bipush 30, 2) := by decide +kernel
theorem dX10_init_233 : decode cX10_init 233 = .ok (.newarray .int, 2) := by decide +kernel
theorem dX10_init_235 : decode cX10_init 235 = .ok (.putfield 100, 3) := by decide +kernel
theorem dX10_init_238 : decode cX10_init 238 = .ok (.aload_n 0, 1) := by decide +kernel
theorem dX10_init_239 : decode cX10_init 239 = .ok (.bipush 30, 2) := by decide +kernel
theorem dX10_init_241 : decode cX10_init 241 = .ok (.newarray .int, 2) := by decide +kernel
theorem dX10_init_243 : decode cX10_init 243 = .ok (.putfield 103, 3) := by decide +kernel
theorem dX10_init_246 : decode cX10_init 246 = .ok (.aload_n 0, 1) := by decide +kernel
theorem dX10_init_247 : decode cX10_init 247 = .ok (.bipush 30, 2) := by decide +kernel
theorem dX10_init_249 : decode cX10_init 249 = .ok (.newarray .int, 2) := by decide +kernel
theorem dX10_init_251 : decode cX10_init 251 = .ok (.putfield 106, 3) := by decide +kernel
theorem dX10_init_254 : decode cX10_init 254 = .ok (.aload_n 0, 1) := by decide +kernel
theorem dX10_init_255 : decode cX10_init 255 = .ok (.bipush 30, 2) := by decide +kernel
theorem dX10_init_257 : decode cX10_init 257 = .ok (.newarray .int, 2) := by decide +kernel
theorem dX10_init_259 : decode cX10_init 259 = .ok (.putfield 109, 3) := by decide +kernel
theorem dX10_init_262 : decode cX10_init 262 = .ok (.aload_n 0, 1) := by decide +kernel
theorem dX10_init_263 : decode cX10_init 263 = .ok (.sipush 440, 3) := by decide +kernel
theorem dX10_init_266 : decode cX10_init 266 = .ok (.newarray .int, 2) := by decide +kernel
theorem dX10_init_268 : decode cX10_init 268 = .ok (.putfield 112, 3) := by decide +kernel
theorem dX10_init_271 : decode cX10_init 271 = .ok (.aload_n 0, 1) := by decide +kernel
theorem dX10_init_272 : decode cX10_init 272 = .ok (.iconst 2, 1) := by decide +kernel
theorem dX10_init_273 : decode cX10_init 273 = .ok (.newarray .boolean, 2) := by decide +kernel
theorem dX10_init_275 : decode cX10_init 275 = .ok (.putfield 115, 3) := by decide +kernel
theorem dX10_init_278 : decode cX10_init 278 = .ok (.aload_n 0, 1) := by decide +kernel
theorem dX10_init_279 : decode cX10_init 279 = .ok (.invokevirtual 118, 3) := by decide +kernel
theorem dX10_init_282 : decode cX10_init 282 = .ok (.return_, 1) := by decide +kernel
theorem dX10_in_0 : decode cX10_in 0 = .ok (.lload_n 0, 1) := by decide +kernel
theorem dX10_in_1 : decode cX10_in 1 = .ok (.lload_n 2, 1) := by decide +kernel
theorem dX10_in_2 : decode cX10_in 2 = .ok (.lcmp, 1) := by decide +kernel
theorem dX10_in_3 : decode cX10_in 3 = .ok (.ifCond .lt 14, 3) := by decide +kernel
theorem dX10_in_6 : decode cX10_in 6 = .ok (.lload_n 0, 1) := by decide +kernel
theorem dX10_in_7 : decode cX10_in 7 = .ok (.lload 4, 2) := by decide +kernel
theorem dX10_in_9 : decode cX10_in 9 = .ok (.lcmp, 1) := by decide +kernel
theorem dX10_in_10 : decode cX10_in 10 = .ok (.ifCond .gt 7, 3) := by decide +kernel
theorem dX10_in_13 : decode cX10_in 13 = .ok (.iconst 1, 1) := by decide +kernel
theorem dX10_in_14 : decode cX10_in 14 = .ok (.goto 4, 3) := by decide +kernel
theorem dX10_in_17 : decode cX10_in 17 = .ok (.iconst 0, 1) := by decide +kernel
theorem dX10_in_18 : decode cX10_in 18 = .ok (.ireturn, 1) := by decide +kernel
theorem dX10_has_0 : decode cX10_has 0 = .ok (.iload_n 0, 1) := by decide +kernel
theorem dX10_has_1 : decode cX10_has 1 = .ok (.iload_n 1, 1) := by decide +kernel
theorem dX10_has_2 : decode cX10_has 2 = .ok (.ishr, 1) := by decide +kernel
theorem dX10_has_3 : decode cX10_has 3 = .ok (.iconst 1, 1) := by decide +kernel
theorem dX10_has_4 : decode cX10_has 4 = .ok (.iand, 1) := by decide +kernel
theorem dX10_has_5 : decode cX10_has 5 = .ok (.iconst 1, 1) := by decide +kernel
theorem dX10_has_6 : decode cX10_has 6 = .ok (.if_icmp .ne 7, 3) := by decide +kernel
theorem dX10_has_9 : decode cX10_has 9 = .ok (.iconst 1, 1) := by decide +kernel
theorem dX10_has_10 : decode cX10_has 10 = .ok (.goto 4, 3) := by decide +kernel
theorem dX10_has_13 : decode cX10_has 13 = .ok (.iconst 0, 1) := by decide +kernel
theorem dX10_has_14 : decode cX10_has 14 = .ok (.ireturn, 1) := by decide +kernel
theorem dX10_bits_0 : decode cX10_bits 0 = .ok (.iconst 0, 1) := by decide +kernel
theorem dX10_bits_1 : decode cX10_bits 1 = .ok (.istore_n 1, 1) := by decide +kernel
theorem dX10_bits_2 : decode cX10_bits 2 = .ok (.iconst 0, 1) := by decide +kernel
theorem dX10_bits_3 : decode cX10_bits 3 = .ok (.istore_n 2, 1) := by decide +kernel
theorem dX10_bits_4 : decode cX10_bits 4 = .ok (.iload_n 2, 1) := by decide +kernel
theorem dX10_bits_5 : decode cX10_bits 5 = .ok (.bipush 14, 2) := by decide +kernel
theorem dX10_bits_7 : decode cX10_bits 7 = .ok (.if_icmp .ge 17, 3) := by decide +kernel
theorem dX10_bits_10 : decode cX10_bits 10 = .ok (.iload_n 1, 1) := by decide +kernel
theorem dX10_bits_11 : decode cX10_bits 11 = .ok (.iload_n 0, 1) := by decide +kernel
theorem dX10_bits_12 : decode cX10_bits 12 = .ok (.iload_n 2, 1) := by decide +kernel
theorem dX10_bits_13 : decode cX10_bits 13 = .ok (.ishr, 1) := by decide +kernel
theorem dX10_bits_14 : decode cX10_bits 14 = .ok (.iconst 1, 1) := by decide +kernel
theorem dX10_bits_15 : decode cX10_bits 15 = .ok (.iand, 1) := by decide +kernel
theorem dX10_bits_16 : decode cX10_bits 16 = .ok (.iadd, 1) := by decide +kernel
theorem dX10_bits_17 : decode cX10_bits 17 = .ok (.istore_n 1, 1) := by decide +kernel
theorem dX10_bits_18 : decode cX10_bits 18 = .ok (.iinc 2 1, 3) := by decide +kernel
theorem dX10_bits_21 : decode cX10_bits 21 = .ok (.goto (-17), 3) := by decide +kernel
theorem dX10_bits_24 : decode cX10_bits 24 = .ok (.iload_n 1, 1) := by decide +kernel
theorem dX10_bits_25 : decode cX10_bits 25 = .ok (.ireturn, 1) := by decide +kernel
theorem dX10_persons_0 : decode cX10_persons 0 = .ok (.aload_n 0, 1) := by decide +kernel
theorem dX10_persons_1 : decode cX10_persons 1 = .ok (.getfield 121, 3) := by decide +kernel
theorem dX10_persons_4 : decode cX10_persons 4 = .ok (.aload_n 0, 1) := by decide +kernel
theorem dX10_persons_5 : decode cX10_persons 5 = .ok (.getfield 124, 3) := by decide +kernel
theorem dX10_persons_8 : decode cX10_persons 8 = .ok (.iadd, 1) := by decide +kernel
theorem dX10_persons_9 : decode cX10_persons 9 = .ok (.aload_n 0, 1) := by decide +kernel
theorem dX10_persons_10 : decode cX10_persons 10 = .ok (.getfield 127, 3) := by decide +kernel
theorem dX10_persons_13 : decode cX10_persons 13 = .ok (.iadd, 1) := by decide +kernel
theorem dX10_persons_14 : decode cX10_persons 14 = .ok (.ireturn, 1) := by decide +kernel
theorem dX10_isPerson_0 : decode cX10_isPerson 0 = .ok (.iload_n 1, 1) := by decide +kernel
theorem dX10_isPerson_1 : decode cX10_isPerson 1 = .ok (.i2l, 1) := by decide +kernel
theorem dX10_isPerson_2 : decode cX10_isPerson 2 = .ok (.lconst 0, 1) := by decide +kernel
theorem dX10_isPerson_3 : decode cX10_isPerson 3 = .ok (.aload_n 0, 1) := by decide +kernel
theorem dX10_isPerson_4 : decode cX10_isPerson 4 = .ok (.invokevirtual 130, 3) := by decide +kernel
theorem dX10_isPerson_7 : decode cX10_isPerson 7 = .ok (.iconst 1, 1) := by decide +kernel
theorem dX10_isPerson_8 : decode cX10_isPerson 8 = .ok (.isub, 1) := by decide +kernel
theorem dX10_isPerson_9 : decode cX10_isPerson 9 = .ok (.i2l, 1) := by decide +kernel
theorem dX10_isPerson_10 : decode cX10_isPerson 10 = .ok (.invokestatic 134, 3) := by decide +kernel
theorem dX10_isPerson_13 : decode cX10_isPerson 13 = .ok (.ireturn, 1) := by decide +kernel
theorem dX10_sortOf_0 : decode cX10_sortOf 0 = .ok (.iload_n 1, 1) := by decide +kernel
theorem dX10_sortOf_1 : decode cX10_sortOf 1 = .ok (.aload_n 0, 1) := by decide +kernel
theorem dX10_sortOf_2 : decode cX10_sortOf 2 = .ok (.getfield 121, 3) := by decide +kernel
theorem dX10_sortOf_5 : decode cX10_sortOf 5 = .ok (.if_icmp .ge 7, 3) := by decide +kernel
theorem dX10_sortOf_8 : decode cX10_sortOf 8 = .ok (.iconst 0, 1) := by decide +kernel
theorem dX10_sortOf_9 : decode cX10_sortOf 9 = .ok (.goto 21, 3) := by decide +kernel
theorem dX10_sortOf_12 : decode cX10_sortOf 12 = .ok (.iload_n 1, 1) := by decide +kernel
theorem dX10_sortOf_13 : decode cX10_sortOf 13 = .ok (.aload_n 0, 1) := by decide +kernel
theorem dX10_sortOf_14 : decode cX10_sortOf 14 = .ok (.getfield 121, 3) := by decide +kernel
theorem dX10_sortOf_17 : decode cX10_sortOf 17 = .ok (.aload_n 0, 1) := by decide +kernel
theorem dX10_sortOf_18 : decode cX10_sortOf 18 = .ok (.getfield 124, 3) := by decide +kernel
theorem dX10_sortOf_21 : decode cX10_sortOf 21 = .ok (.iadd, 1) := by decide +kernel
theorem dX10_sortOf_22 : decode cX10_sortOf 22 = .ok (.if_icmp .ge 7, 3) := by decide +kernel
theorem dX10_sortOf_25 : decode cX10_sortOf 25 = .ok (.iconst 1, 1) := by decide +kernel
theorem dX10_sortOf_26 : decode cX10_sortOf 26 = .ok (.goto 4, 3) := by decide +kernel
theorem dX10_sortOf_29 : decode cX10_sortOf 29 = .ok (.iconst 2, 1) := by decide +kernel
theorem dX10_sortOf_30 : decode cX10_sortOf 30 = .ok (.ireturn, 1) := by decide +kernel
theorem dX10_isLot_0 : decode cX10_isLot 0 = .ok (.iload_n 1, 1) := by decide +kernel
theorem dX10_isLot_1 : decode cX10_isLot 1 = .ok (.i2l, 1) := by decide +kernel
theorem dX10_isLot_2 : decode cX10_isLot 2 = .ok (.lconst 0, 1) := by decide +kernel
theorem dX10_isLot_3 : decode cX10_isLot 3 = .ok (.aload_n 0, 1) := by decide +kernel
theorem dX10_isLot_4 : decode cX10_isLot 4 = .ok (.getfield 121, 3) := by decide +kernel
theorem dX10_isLot_7 : decode cX10_isLot 7 = .ok (.iconst 1, 1) := by decide +kernel
theorem dX10_isLot_8 : decode cX10_isLot 8 = .ok (.isub, 1) := by decide +kernel
theorem dX10_isLot_9 : decode cX10_isLot 9 = .ok (.i2l, 1) := by decide +kernel
theorem dX10_isLot_10 : decode cX10_isLot 10 = .ok (.invokestatic 134, 3) := by decide +kernel
theorem dX10_isLot_13 : decode cX10_isLot 13 = .ok (.ireturn, 1) := by decide +kernel
theorem dX10_isBuyer_0 : decode cX10_isBuyer 0 = .ok (.iload_n 1, 1) := by decide +kernel
theorem dX10_isBuyer_1 : decode cX10_isBuyer 1 = .ok (.i2l, 1) := by decide +kernel
theorem dX10_isBuyer_2 : decode cX10_isBuyer 2 = .ok (.lconst 0, 1) := by decide +kernel
theorem dX10_isBuyer_3 : decode cX10_isBuyer 3 = .ok (.aload_n 0, 1) := by decide +kernel
theorem dX10_isBuyer_4 : decode cX10_isBuyer 4 = .ok (.getfield 124, 3) := by decide +kernel
theorem dX10_isBuyer_7 : decode cX10_isBuyer 7 = .ok (.iconst 1, 1) := by decide +kernel
theorem dX10_isBuyer_8 : decode cX10_isBuyer 8 = .ok (.isub, 1) := by decide +kernel
theorem dX10_isBuyer_9 : decode cX10_isBuyer 9 = .ok (.i2l, 1) := by decide +kernel
theorem dX10_isBuyer_10 : decode cX10_isBuyer 10 = .ok (.invokestatic 134, 3) := by decide +kernel
theorem dX10_isBuyer_13 : decode cX10_isBuyer 13 = .ok (.ireturn, 1) := by decide +kernel
theorem dX10_bare_0 : decode cX10_bare 0 = .ok (.aload_n 0, 1) := by decide +kernel
theorem dX10_bare_1 : decode cX10_bare 1 = .ok (.iconst 0, 1) := by decide +kernel
theorem dX10_bare_2 : decode cX10_bare 2 = .ok (.putfield 138, 3) := by decide +kernel
theorem dX10_bare_5 : decode cX10_bare 5 = .ok (.iconst 0, 1) := by decide +kernel
theorem dX10_bare_6 : decode cX10_bare 6 = .ok (.istore_n 1, 1) := by decide +kernel
theorem dX10_bare_7 : decode cX10_bare 7 = .ok (.iload_n 1, 1) := by decide +kernel
theorem dX10_bare_8 : decode cX10_bare 8 = .ok (.bipush 14, 2) := by decide +kernel
theorem dX10_bare_10 : decode cX10_bare 10 = .ok (.if_icmp .ge 23, 3) := by decide +kernel
theorem dX10_bare_13 : decode cX10_bare 13 = .ok (.aload_n 0, 1) := by decide +kernel
theorem dX10_bare_14 : decode cX10_bare 14 = .ok (.getfield 32, 3) := by decide +kernel
theorem dX10_bare_17 : decode cX10_bare 17 = .ok (.iload_n 1, 1) := by decide +kernel
theorem dX10_bare_18 : decode cX10_bare 18 = .ok (.iconst 0, 1) := by decide +kernel
theorem dX10_bare_19 : decode cX10_bare 19 = .ok (.iastore, 1) := by decide +kernel
theorem dX10_bare_20 : decode cX10_bare 20 = .ok (.aload_n 0, 1) := by decide +kernel
theorem dX10_bare_21 : decode cX10_bare 21 = .ok (.getfield 47, 3) := by decide +kernel
theorem dX10_bare_24 : decode cX10_bare 24 = .ok (.iload_n 1, 1) := by decide +kernel
theorem dX10_bare_25 : decode cX10_bare 25 = .ok (.iconst 0, 1) := by decide +kernel
theorem dX10_bare_26 : decode cX10_bare 26 = .ok (.iastore, 1) := by decide +kernel
theorem dX10_bare_27 : decode cX10_bare 27 = .ok (.iinc 1 1, 3) := by decide +kernel
theorem dX10_bare_30 : decode cX10_bare 30 = .ok (.goto (-23), 3) := by decide +kernel
theorem dX10_bare_33 : decode cX10_bare 33 = .ok (.iconst 0, 1) := by decide +kernel
theorem dX10_bare_34 : decode cX10_bare 34 = .ok (.istore_n 1, 1) := by decide +kernel
theorem dX10_bare_35 : decode cX10_bare 35 = .ok (.iload_n 1, 1) := by decide +kernel
theorem dX10_bare_36 : decode cX10_bare 36 = .ok (.bipush 84, 2) := by decide +kernel
theorem dX10_bare_38 : decode cX10_bare 38 = .ok (.if_icmp .ge 23, 3) := by decide +kernel
theorem dX10_bare_41 : decode cX10_bare 41 = .ok (.aload_n 0, 1) := by decide +kernel
theorem dX10_bare_42 : decode cX10_bare 42 = .ok (.getfield 35, 3) := by decide +kernel
theorem dX10_bare_45 : decode cX10_bare 45 = .ok (.iload_n 1, 1) := by decide +kernel
theorem dX10_bare_46 : decode cX10_bare 46 = .ok (.iconst (-1), 1) := by decide +kernel
theorem dX10_bare_47 : decode cX10_bare 47 = .ok (.iastore, 1) := by decide +kernel
theorem dX10_bare_48 : decode cX10_bare 48 = .ok (.aload_n 0, 1) := by decide +kernel
theorem dX10_bare_49 : decode cX10_bare 49 = .ok (.getfield 38, 3) := by decide +kernel
theorem dX10_bare_52 : decode cX10_bare 52 = .ok (.iload_n 1, 1) := by decide +kernel
theorem dX10_bare_53 : decode cX10_bare 53 = .ok (.iconst (-1), 1) := by decide +kernel
theorem dX10_bare_54 : decode cX10_bare 54 = .ok (.iastore, 1) := by decide +kernel
theorem dX10_bare_55 : decode cX10_bare 55 = .ok (.iinc 1 1, 3) := by decide +kernel
theorem dX10_bare_58 : decode cX10_bare 58 = .ok (.goto (-23), 3) := by decide +kernel
theorem dX10_bare_61 : decode cX10_bare 61 = .ok (.iconst 0, 1) := by decide +kernel
theorem dX10_bare_62 : decode cX10_bare 62 = .ok (.istore_n 1, 1) := by decide +kernel
theorem dX10_bare_63 : decode cX10_bare 63 = .ok (.iload_n 1, 1) := by decide +kernel
theorem dX10_bare_64 : decode cX10_bare 64 = .ok (.bipush 6, 2) := by decide +kernel
theorem dX10_bare_66 : decode cX10_bare 66 = .ok (.if_icmp .ge 23, 3) := by decide +kernel
theorem dX10_bare_69 : decode cX10_bare 69 = .ok (.aload_n 0, 1) := by decide +kernel
theorem dX10_bare_70 : decode cX10_bare 70 = .ok (.getfield 41, 3) := by decide +kernel
theorem dX10_bare_73 : decode cX10_bare 73 = .ok (.iload_n 1, 1) := by decide +kernel
theorem dX10_bare_74 : decode cX10_bare 74 = .ok (.iconst (-1), 1) := by decide +kernel
theorem dX10_bare_75 : decode cX10_bare 75 = .ok (.iastore, 1) := by decide +kernel
theorem dX10_bare_76 : decode cX10_bare 76 = .ok (.aload_n 0, 1) := by decide +kernel
theorem dX10_bare_77 : decode cX10_bare 77 = .ok (.getfield 44, 3) := by decide +kernel
theorem dX10_bare_80 : decode cX10_bare 80 = .ok (.iload_n 1, 1) := by decide +kernel
theorem dX10_bare_81 : decode cX10_bare 81 = .ok (.iconst (-1), 1) := by decide +kernel
theorem dX10_bare_82 : decode cX10_bare 82 = .ok (.iastore, 1) := by decide +kernel
theorem dX10_bare_83 : decode cX10_bare 83 = .ok (.iinc 1 1, 3) := by decide +kernel
theorem dX10_bare_86 : decode cX10_bare 86 = .ok (.goto (-23), 3) := by decide +kernel
theorem dX10_bare_89 : decode cX10_bare 89 = .ok (.return_, 1) := by decide +kernel
theorem dX10_feed_0 : decode cX10_feed 0 = .ok (.iload_n 1, 1) := by decide +kernel
theorem dX10_feed_1 : decode cX10_feed 1 = .ok (.i2l, 1) := by decide +kernel
theorem dX10_feed_2 : decode cX10_feed 2 = .ok (.lconst 1, 1) := by decide +kernel
theorem dX10_feed_3 : decode cX10_feed 3 = .ok (.ldc2_w 141, 3) := by decide +kernel
theorem dX10_feed_6 : decode cX10_feed 6 = .ok (.invokestatic 134, 3) := by decide +kernel
theorem dX10_feed_9 : decode cX10_feed 9 = .ok (.ifCond .ne 6, 3) := by decide +kernel
theorem dX10_feed_12 : decode cX10_feed 12 = .ok (.ldc 143, 2) := by decide +kernel
theorem dX10_feed_14 : decode cX10_feed 14 = .ok (.ireturn, 1) := by decide +kernel
theorem dX10_feed_15 : decode cX10_feed 15 = .ok (.aload_n 0, 1) := by decide +kernel
theorem dX10_feed_16 : decode cX10_feed 16 = .ok (.getfield 144, 3) := by decide +kernel
theorem dX10_feed_19 : decode cX10_feed 19 = .ok (.iload_n 1, 1) := by decide +kernel
theorem dX10_feed_20 : decode cX10_feed 20 = .ok (.iadd, 1) := by decide +kernel
theorem dX10_feed_21 : decode cX10_feed 21 = .ok (.sipush 500, 3) := by decide +kernel
theorem dX10_feed_24 : decode cX10_feed 24 = .ok (.if_icmp .le 6, 3) := by decide +kernel
theorem dX10_feed_27 : decode cX10_feed 27 = .ok (.ldc 147, 2) := by decide +kernel
theorem dX10_feed_29 : decode cX10_feed 29 = .ok (.ireturn, 1) := by decide +kernel
theorem dX10_feed_30 : decode cX10_feed 30 = .ok (.iload_n 1, 1) := by decide +kernel
theorem dX10_feed_31 : decode cX10_feed 31 = .ok (.iconst 1, 1) := by decide +kernel
theorem dX10_feed_32 : decode cX10_feed 32 = .ok (.isub, 1) := by decide +kernel
theorem dX10_feed_33 : decode cX10_feed 33 = .ok (.istore 4, 2) := by decide +kernel
theorem dX10_feed_35 : decode cX10_feed 35 = .ok (.iload 4, 2) := by decide +kernel
theorem dX10_feed_37 : decode cX10_feed 37 = .ok (.ifCond .lt 40, 3) := by decide +kernel
theorem dX10_feed_40 : decode cX10_feed 40 = .ok (.aload_n 0, 1) := by decide +kernel
theorem dX10_feed_41 : decode cX10_feed 41 = .ok (.getfield 50, 3) := by decide +kernel
theorem dX10_feed_44 : decode cX10_feed 44 = .ok (.aload_n 0, 1) := by decide +kernel
theorem dX10_feed_45 : decode cX10_feed 45 = .ok (.getfield 144, 3) := by decide +kernel
theorem dX10_feed_48 : decode cX10_feed 48 = .ok (.lload_n 2, 1) := by decide +kernel
theorem dX10_feed_49 : decode cX10_feed 49 = .ok (.bipush 8, 2) := by decide +kernel
theorem dX10_feed_51 : decode cX10_feed 51 = .ok (.iload 4, 2) := by decide +kernel
theorem dX10_feed_53 : decode cX10_feed 53 = .ok (.imul, 1) := by decide +kernel
theorem dX10_feed_54 : decode cX10_feed 54 = .ok (.lshr, 1) := by decide +kernel
theorem dX10_feed_55 : decode cX10_feed 55 = .ok (.ldc2_w 148, 3) := by decide +kernel
theorem dX10_feed_58 : decode cX10_feed 58 = .ok (.land, 1) := by decide +kernel
theorem dX10_feed_59 : decode cX10_feed 59 = .ok (.l2i, 1) := by decide +kernel
theorem dX10_feed_60 : decode cX10_feed 60 = .ok (.iastore, 1) := by decide +kernel
theorem dX10_feed_61 : decode cX10_feed 61 = .ok (.aload_n 0, 1) := by decide +kernel
theorem dX10_feed_62 : decode cX10_feed 62 = .ok (.dup, 1) := by decide +kernel
theorem dX10_feed_63 : decode cX10_feed 63 = .ok (.getfield 144, 3) := by decide +kernel
theorem dX10_feed_66 : decode cX10_feed 66 = .ok (.iconst 1, 1) := by decide +kernel
theorem dX10_feed_67 : decode cX10_feed 67 = .ok (.iadd, 1) := by decide +kernel
theorem dX10_feed_68 : decode cX10_feed 68 = .ok (.putfield 144, 3) := by decide +kernel
theorem dX10_feed_71 : decode cX10_feed 71 = .ok (.iinc 4 (-1), 3) := by decide +kernel
theorem dX10_feed_74 : decode cX10_feed 74 = .ok (.goto (-39), 3) := by decide +kernel
theorem dX10_feed_77 : decode cX10_feed 77 = .ok (.aload_n 0, 1) := by decide +kernel
theorem dX10_feed_78 : decode cX10_feed 78 = .ok (.getfield 144, 3) := by decide +kernel
theorem dX10_feed_81 : decode cX10_feed 81 = .ok (.ireturn, 1) := by decide +kernel
theorem dX10_here_0 : decode cX10_here 0 = .ok (.aload_n 0, 1) := by decide +kernel
theorem dX10_here_1 : decode cX10_here 1 = .ok (.getfield 150, 3) := by decide +kernel
theorem dX10_here_4 : decode cX10_here 4 = .ok (.aload_n 0, 1) := by decide +kernel
theorem dX10_here_5 : decode cX10_here 5 = .ok (.getfield 144, 3) := by decide +kernel
theorem dX10_here_8 : decode cX10_here 8 = .ok (.if_icmp .ge 30, 3) := by decide +kernel
theorem dX10_here_11 : decode cX10_here 11 = .ok (.aload_n 0, 1) := by decide +kernel
theorem dX10_here_12 : decode cX10_here 12 = .ok (.getfield 50, 3) := by decide +kernel
theorem dX10_here_15 : decode cX10_here 15 = .ok (.aload_n 0, 1) := by decide +kernel
theorem dX10_here_16 : decode cX10_here 16 = .ok (.getfield 150, 3) := by decide +kernel
theorem dX10_here_19 : decode cX10_here 19 = .ok (.iaload, 1) := by decide +kernel
theorem dX10_here_20 : decode cX10_here 20 = .ok (.bipush 32, 2) := by decide +kernel
theorem dX10_here_22 : decode cX10_here 22 = .ok (.if_icmp .ne 16, 3) := by decide +kernel
theorem dX10_here_25 : decode cX10_here 25 = .ok (.aload_n 0, 1) := by decide +kernel
theorem dX10_here_26 : decode cX10_here 26 = .ok (.dup, 1) := by decide +kernel
theorem dX10_here_27 : decode cX10_here 27 = .ok (.getfield 150, 3) := by decide +kernel
theorem dX10_here_30 : decode cX10_here 30 = .ok (.iconst 1, 1) := by decide +kernel
theorem dX10_here_31 : decode cX10_here 31 = .ok (.iadd, 1) := by decide +kernel
theorem dX10_here_32 : decode cX10_here 32 = .ok (.putfield 150, 3) := by decide +kernel
theorem dX10_here_35 : decode cX10_here 35 = .ok (.goto (-35), 3) := by decide +kernel
theorem dX10_here_38 : decode cX10_here 38 = .ok (.aload_n 0, 1) := by decide +kernel
theorem dX10_here_39 : decode cX10_here 39 = .ok (.getfield 150, 3) := by decide +kernel
theorem dX10_here_42 : decode cX10_here 42 = .ok (.aload_n 0, 1) := by decide +kernel
theorem dX10_here_43 : decode cX10_here 43 = .ok (.getfield 144, 3) := by decide +kernel
theorem dX10_here_46 : decode cX10_here 46 = .ok (.if_icmp .ge 15, 3) := by decide +kernel
theorem dX10_here_49 : decode cX10_here 49 = .ok (.aload_n 0, 1) := by decide +kernel
theorem dX10_here_50 : decode cX10_here 50 = .ok (.getfield 50, 3) := by decide +kernel
theorem dX10_here_53 : decode cX10_here 53 = .ok (.aload_n 0, 1) := by decide +kernel
theorem dX10_here_54 : decode cX10_here 54 = .ok (.getfield 150, 3) := by decide +kernel
theorem dX10_here_57 : decode cX10_here 57 = .ok (.iaload, 1) := by decide +kernel
theorem dX10_here_58 : decode cX10_here 58 = .ok (.goto 4, 3) := by decide +kernel
theorem dX10_here_61 : decode cX10_here 61 = .ok (.iconst (-1), 1) := by decide +kernel
theorem dX10_here_62 : decode cX10_here 62 = .ok (.ireturn, 1) := by decide +kernel
theorem dX10_fails_0 : decode cX10_fails 0 = .ok (.aload_n 0, 1) := by decide +kernel
theorem dX10_fails_1 : decode cX10_fails 1 = .ok (.iload_n 2, 1) := by decide +kernel
theorem dX10_fails_2 : decode cX10_fails 2 = .ok (.putfield 53, 3) := by decide +kernel
theorem dX10_fails_5 : decode cX10_fails 5 = .ok (.iload_n 1, 1) := by decide +kernel
theorem dX10_fails_6 : decode cX10_fails 6 = .ok (.ireturn, 1) := by decide +kernel
theorem dX10_readWord_0 : decode cX10_readWord 0 = .ok (.aload_n 0, 1) := by decide +kernel
theorem dX10_readWord_1 : decode cX10_readWord 1 = .ok (.invokevirtual 153, 3) := by decide +kernel
theorem dX10_readWord_4 : decode cX10_readWord 4 = .ok (.istore_n 1, 1) := by decide +kernel
theorem dX10_readWord_5 : decode cX10_readWord 5 = .ok (.aload_n 0, 1) := by decide +kernel
theorem dX10_readWord_6 : decode cX10_readWord 6 = .ok (.lconst 0, 1) := by decide +kernel
theorem dX10_readWord_7 : decode cX10_readWord 7 = .ok (.putfield 156, 3) := by decide +kernel
theorem dX10_readWord_10 : decode cX10_readWord 10 = .ok (.aload_n 0, 1) := by decide +kernel
theorem dX10_readWord_11 : decode cX10_readWord 11 = .ok (.aload_n 0, 1) := by decide +kernel
theorem dX10_readWord_12 : decode cX10_readWord 12 = .ok (.getfield 150, 3) := by decide +kernel
theorem dX10_readWord_15 : decode cX10_readWord 15 = .ok (.putfield 160, 3) := by decide +kernel
theorem dX10_readWord_18 : decode cX10_readWord 18 = .ok (.aload_n 0, 1) := by decide +kernel
theorem dX10_readWord_19 : decode cX10_readWord 19 = .ok (.getfield 160, 3) := by decide +kernel
theorem dX10_readWord_22 : decode cX10_readWord 22 = .ok (.aload_n 0, 1) := by decide +kernel
theorem dX10_readWord_23 : decode cX10_readWord 23 = .ok (.getfield 144, 3) := by decide +kernel
theorem dX10_readWord_26 : decode cX10_readWord 26 = .ok (.if_icmp .ge 82, 3) := by decide +kernel
theorem dX10_readWord_29 : decode cX10_readWord 29 = .ok (.aload_n 0, 1) := by decide +kernel
theorem dX10_readWord_30 : decode cX10_readWord 30 = .ok (.getfield 50, 3) := by decide +kernel
theorem dX10_readWord_33 : decode cX10_readWord 33 = .ok (.aload_n 0, 1) := by decide +kernel
theorem dX10_readWord_34 : decode cX10_readWord 34 = .ok (.getfield 160, 3) := by decide +kernel
theorem dX10_readWord_37 : decode cX10_readWord 37 = .ok (.iaload, 1) := by decide +kernel
theorem dX10_readWord_38 : decode cX10_readWord 38 = .ok (.i2l, 1) := by decide +kernel
theorem dX10_readWord_39 : decode cX10_readWord 39 = .ok (.ldc2_w 163, 3) := by decide +kernel
theorem dX10_readWord_42 : decode cX10_readWord 42 = .ok (.ldc2_w 165, 3) := by decide +kernel
theorem dX10_readWord_45 : decode cX10_readWord 45 = .ok (.invokestatic 134, 3) := by decide +kernel
theorem dX10_readWord_48 : decode cX10_readWord 48 = .ok (.ifCond .eq 60, 3) := by decide +kernel
theorem dX10_readWord_51 : decode cX10_readWord 51 = .ok (.aload_n 0, 1) := by decide +kernel
theorem dX10_readWord_52 : decode cX10_readWord 52 = .ok (.aload_n 0, 1) := by decide +kernel
theorem dX10_readWord_53 : decode cX10_readWord 53 = .ok (.getfield 156, 3) := by decide +kernel
theorem dX10_readWord_56 : decode cX10_readWord 56 = .ok (.ldc2_w 167, 3) := by decide +kernel
theorem dX10_readWord_59 : decode cX10_readWord 59 = .ok (.lcmp, 1) := by decide +kernel
theorem dX10_readWord_60 : decode cX10_readWord 60 = .ok (.ifCond .le 9, 3) := by decide +kernel
theorem dX10_readWord_63 : decode cX10_readWord 63 = .ok (.ldc2_w 169, 3) := by decide +kernel
theorem dX10_readWord_66 : decode cX10_readWord 66 = .ok (.goto 26, 3) := by decide +kernel
theorem dX10_readWord_69 : decode cX10_readWord 69 = .ok (.ldc2_w 171, 3) := by decide +kernel
theorem dX10_readWord_72 : decode cX10_readWord 72 = .ok (.aload_n 0, 1) := by decide +kernel
theorem dX10_readWord_73 : decode cX10_readWord 73 = .ok (.getfield 156, 3) := by decide +kernel
theorem dX10_readWord_76 : decode cX10_readWord 76 = .ok (.lmul, 1) := by decide +kernel
theorem dX10_readWord_77 : decode cX10_readWord 77 = .ok (.aload_n 0, 1) := by decide +kernel
theorem dX10_readWord_78 : decode cX10_readWord 78 = .ok (.getfield 50, 3) := by decide +kernel
theorem dX10_readWord_81 : decode cX10_readWord 81 = .ok (.aload_n 0, 1) := by decide +kernel
theorem dX10_readWord_82 : decode cX10_readWord 82 = .ok (.getfield 160, 3) := by decide +kernel
theorem dX10_readWord_85 : decode cX10_readWord 85 = .ok (.iaload, 1) := by decide +kernel
theorem dX10_readWord_86 : decode cX10_readWord 86 = .ok (.i2l, 1) := by decide +kernel
theorem dX10_readWord_87 : decode cX10_readWord 87 = .ok (.ladd, 1) := by decide +kernel
theorem dX10_readWord_88 : decode cX10_readWord 88 = .ok (.ldc2_w 173, 3) := by decide +kernel
theorem dX10_readWord_91 : decode cX10_readWord 91 = .ok (.lsub, 1) := by decide +kernel
theorem dX10_readWord_92 : decode cX10_readWord 92 = .ok (.putfield 156, 3) := by decide +kernel
theorem dX10_readWord_95 : decode cX10_readWord 95 = .ok (.aload_n 0, 1) := by decide +kernel
theorem dX10_readWord_96 : decode cX10_readWord 96 = .ok (.dup, 1) := by decide +kernel
theorem dX10_readWord_97 : decode cX10_readWord 97 = .ok (.getfield 160, 3) := by decide +kernel
theorem dX10_readWord_100 : decode cX10_readWord 100 = .ok (.iconst 1, 1) := by decide +kernel
theorem dX10_readWord_101 : decode cX10_readWord 101 = .ok (.iadd, 1) := by decide +kernel
theorem dX10_readWord_102 : decode cX10_readWord 102 = .ok (.putfield 160, 3) := by decide +kernel
theorem dX10_readWord_105 : decode cX10_readWord 105 = .ok (.goto (-87), 3) := by decide +kernel
theorem dX10_readWord_108 : decode cX10_readWord 108 = .ok (.return_, 1) := by decide +kernel
theorem dX10_code_0 : decode cX10_code 0 = .ok (.ldc2_w 171, 3) := by decide +kernel
theorem dX10_code_3 : decode cX10_code 3 = .ok (.ldc2_w 171, 3) := by decide +kernel
theorem dX10_code_6 : decode cX10_code 6 = .ok (.ldc2_w 171, 3) := by decide +kernel
theorem dX10_code_9 : decode cX10_code 9 = .ok (.iload_n 0, 1) := by decide +kernel
theorem dX10_code_10 : decode cX10_code 10 = .ok (.i2l, 1) := by decide +kernel
theorem dX10_code_11 : decode cX10_code 11 = .ok (.ldc2_w 173, 3) := by decide +kernel
theorem dX10_code_14 : decode cX10_code 14 = .ok (.lsub, 1) := by decide +kernel
theorem dX10_code_15 : decode cX10_code 15 = .ok (.lmul, 1) := by decide +kernel
theorem dX10_code_16 : decode cX10_code 16 = .ok (.iload_n 1, 1) := by decide +kernel
theorem dX10_code_17 : decode cX10_code 17 = .ok (.i2l, 1) := by decide +kernel
theorem dX10_code_18 : decode cX10_code 18 = .ok (.ladd, 1) := by decide +kernel
theorem dX10_code_19 : decode cX10_code 19 = .ok (.ldc2_w 173, 3) := by decide +kernel
theorem dX10_code_22 : decode cX10_code 22 = .ok (.lsub, 1) := by decide +kernel
theorem dX10_code_23 : decode cX10_code 23 = .ok (.lmul, 1) := by decide +kernel
theorem dX10_code_24 : decode cX10_code 24 = .ok (.iload_n 2, 1) := by decide +kernel
theorem dX10_code_25 : decode cX10_code 25 = .ok (.i2l, 1) := by decide +kernel
theorem dX10_code_26 : decode cX10_code 26 = .ok (.ladd, 1) := by decide +kernel
theorem dX10_code_27 : decode cX10_code 27 = .ok (.ldc2_w 173, 3) := by decide +kernel
theorem dX10_code_30 : decode cX10_code 30 = .ok (.lsub, 1) := by decide +kernel
theorem dX10_code_31 : decode cX10_code 31 = .ok (.lmul, 1) := by decide +kernel
theorem dX10_code_32 : decode cX10_code 32 = .ok (.iload_n 3, 1) := by decide +kernel
theorem dX10_code_33 : decode cX10_code 33 = .ok (.i2l, 1) := by decide +kernel
theorem dX10_code_34 : decode cX10_code 34 = .ok (.ladd, 1) := by decide +kernel
theorem dX10_code_35 : decode cX10_code 35 = .ok (.ldc2_w 173, 3) := by decide +kernel
theorem dX10_code_38 : decode cX10_code 38 = .ok (.lsub, 1) := by decide +kernel
theorem dX10_code_39 : decode cX10_code 39 = .ok (.lreturn, 1) := by decide +kernel
theorem dX10_longer_0 : decode cX10_longer 0 = .ok (.ldc2_w 171, 3) := by decide +kernel
theorem dX10_longer_3 : decode cX10_longer 3 = .ok (.lload_n 0, 1) := by decide +kernel
theorem dX10_longer_4 : decode cX10_longer 4 = .ok (.lmul, 1) := by decide +kernel
theorem dX10_longer_5 : decode cX10_longer 5 = .ok (.iload_n 2, 1) := by decide +kernel
theorem dX10_longer_6 : decode cX10_longer 6 = .ok (.i2l, 1) := by decide +kernel
theorem dX10_longer_7 : decode cX10_longer 7 = .ok (.ladd, 1) := by decide +kernel
theorem dX10_longer_8 : decode cX10_longer 8 = .ok (.ldc2_w 173, 3) := by decide +kernel
theorem dX10_longer_11 : decode cX10_longer 11 = .ok (.lsub, 1) := by decide +kernel
theorem dX10_longer_12 : decode cX10_longer 12 = .ok (.lreturn, 1) := by decide +kernel
theorem dX10_takeNumber_0 : decode cX10_takeNumber 0 = .ok (.aload_n 0, 1) := by decide +kernel
theorem dX10_takeNumber_1 : decode cX10_takeNumber 1 = .ok (.invokevirtual 153, 3) := by decide +kernel
theorem dX10_takeNumber_4 : decode cX10_takeNumber 4 = .ok (.istore_n 3, 1) := by decide +kernel
theorem dX10_takeNumber_5 : decode cX10_takeNumber 5 = .ok (.iload_n 3, 1) := by decide +kernel
theorem dX10_takeNumber_6 : decode cX10_takeNumber 6 = .ok (.i2l, 1) := by decide +kernel
theorem dX10_takeNumber_7 : decode cX10_takeNumber 7 = .ok (.ldc2_w 175, 3) := by decide +kernel
theorem dX10_takeNumber_10 : decode cX10_takeNumber 10 = .ok (.ldc2_w 177, 3) := by decide +kernel
theorem dX10_takeNumber_13 : decode cX10_takeNumber 13 = .ok (.invokestatic 134, 3) := by decide +kernel
theorem dX10_takeNumber_16 : decode cX10_takeNumber 16 = .ok (.ifCond .ne 13, 3) := by decide +kernel
theorem dX10_takeNumber_19 : decode cX10_takeNumber 19 = .ok (.aload_n 0, 1) := by decide +kernel
theorem dX10_takeNumber_20 : decode cX10_takeNumber 20 = .ok (.iconst 1, 1) := by decide +kernel
theorem dX10_takeNumber_21 : decode cX10_takeNumber 21 = .ok (.aload_n 0, 1) := by decide +kernel
theorem dX10_takeNumber_22 : decode cX10_takeNumber 22 = .ok (.getfield 150, 3) := by decide +kernel
theorem dX10_takeNumber_25 : decode cX10_takeNumber 25 = .ok (.invokevirtual 179, 3) := by decide +kernel
theorem dX10_takeNumber_28 : decode cX10_takeNumber 28 = .ok (.ireturn, 1) := by decide +kernel
theorem dX10_takeNumber_29 : decode cX10_takeNumber 29 = .ok (.aload_n 0, 1) := by decide +kernel
theorem dX10_takeNumber_30 : decode cX10_takeNumber 30 = .ok (.aload_n 0, 1) := by decide +kernel
theorem dX10_takeNumber_31 : decode cX10_takeNumber 31 = .ok (.getfield 150, 3) := by decide +kernel
theorem dX10_takeNumber_34 : decode cX10_takeNumber 34 = .ok (.putfield 183, 3) := by decide +kernel
theorem dX10_takeNumber_37 : decode cX10_takeNumber 37 = .ok (.aload_n 0, 1) := by decide +kernel
theorem dX10_takeNumber_38 : decode cX10_takeNumber 38 = .ok (.iconst 0, 1) := by decide +kernel
theorem dX10_takeNumber_39 : decode cX10_takeNumber 39 = .ok (.putfield 186, 3) := by decide +kernel
theorem dX10_takeNumber_42 : decode cX10_takeNumber 42 = .ok (.aload_n 0, 1) := by decide +kernel
theorem dX10_takeNumber_43 : decode cX10_takeNumber 43 = .ok (.getfield 150, 3) := by decide +kernel
theorem dX10_takeNumber_46 : decode cX10_takeNumber 46 = .ok (.aload_n 0, 1) := by decide +kernel
theorem dX10_takeNumber_47 : decode cX10_takeNumber 47 = .ok (.getfield 144, 3) := by decide +kernel
theorem dX10_takeNumber_50 : decode cX10_takeNumber 50 = .ok (.if_icmp .ge 78, 3) := by decide +kernel
theorem dX10_takeNumber_53 : decode cX10_takeNumber 53 = .ok (.aload_n 0, 1) := by decide +kernel
theorem dX10_takeNumber_54 : decode cX10_takeNumber 54 = .ok (.getfield 50, 3) := by decide +kernel
theorem dX10_takeNumber_57 : decode cX10_takeNumber 57 = .ok (.aload_n 0, 1) := by decide +kernel
theorem dX10_takeNumber_58 : decode cX10_takeNumber 58 = .ok (.getfield 150, 3) := by decide +kernel
theorem dX10_takeNumber_61 : decode cX10_takeNumber 61 = .ok (.iaload, 1) := by decide +kernel
theorem dX10_takeNumber_62 : decode cX10_takeNumber 62 = .ok (.i2l, 1) := by decide +kernel
theorem dX10_takeNumber_63 : decode cX10_takeNumber 63 = .ok (.ldc2_w 175, 3) := by decide +kernel
theorem dX10_takeNumber_66 : decode cX10_takeNumber 66 = .ok (.ldc2_w 177, 3) := by decide +kernel
theorem dX10_takeNumber_69 : decode cX10_takeNumber 69 = .ok (.invokestatic 134, 3) := by decide +kernel
theorem dX10_takeNumber_72 : decode cX10_takeNumber 72 = .ok (.ifCond .eq 56, 3) := by decide +kernel
theorem dX10_takeNumber_75 : decode cX10_takeNumber 75 = .ok (.aload_n 0, 1) := by decide +kernel
theorem dX10_takeNumber_76 : decode cX10_takeNumber 76 = .ok (.aload_n 0, 1) := by decide +kernel
theorem dX10_takeNumber_77 : decode cX10_takeNumber 77 = .ok (.getfield 186, 3) := by decide +kernel
theorem dX10_takeNumber_80 : decode cX10_takeNumber 80 = .ok (.ldc 189, 2) := by decide +kernel
theorem dX10_takeNumber_82 : decode cX10_takeNumber 82 = .ok (.if_icmp .le 10, 3) := by decide +kernel
theorem dX10_takeNumber_85 : decode cX10_takeNumber 85 = .ok (.aload_n 0, 1) := by decide +kernel
theorem dX10_takeNumber_86 : decode cX10_takeNumber 86 = .ok (.getfield 186, 3) := by decide +kernel
theorem dX10_takeNumber_89 : decode cX10_takeNumber 89 = .ok (.goto 23, 3) := by decide +kernel
theorem dX10_takeNumber_92 : decode cX10_takeNumber 92 = .ok (.bipush 10, 2) := by decide +kernel
theorem dX10_takeNumber_94 : decode cX10_takeNumber 94 = .ok (.aload_n 0, 1) := by decide +kernel
theorem dX10_takeNumber_95 : decode cX10_takeNumber 95 = .ok (.getfield 186, 3) := by decide +kernel
theorem dX10_takeNumber_98 : decode cX10_takeNumber 98 = .ok (.imul, 1) := by decide +kernel
theorem dX10_takeNumber_99 : decode cX10_takeNumber 99 = .ok (.aload_n 0, 1) := by decide +kernel
theorem dX10_takeNumber_100 : decode cX10_takeNumber 100 = .ok (.getfield 50, 3) := by decide +kernel
theorem dX10_takeNumber_103 : decode cX10_takeNumber 103 = .ok (.aload_n 0, 1) := by decide +kernel
theorem dX10_takeNumber_104 : decode cX10_takeNumber 104 = .ok (.getfield 150, 3) := by decide +kernel
theorem dX10_takeNumber_107 : decode cX10_takeNumber 107 = .ok (.iaload, 1) := by decide +kernel
theorem dX10_takeNumber_108 : decode cX10_takeNumber 108 = .ok (.iadd, 1) := by decide +kernel
theorem dX10_takeNumber_109 : decode cX10_takeNumber 109 = .ok (.bipush 48, 2) := by decide +kernel
theorem dX10_takeNumber_111 : decode cX10_takeNumber 111 = .ok (.isub, 1) := by decide +kernel
theorem dX10_takeNumber_112 : decode cX10_takeNumber 112 = .ok (.putfield 186, 3) := by decide +kernel
theorem dX10_takeNumber_115 : decode cX10_takeNumber 115 = .ok (.aload_n 0, 1) := by decide +kernel
theorem dX10_takeNumber_116 : decode cX10_takeNumber 116 = .ok (.dup, 1) := by decide +kernel
theorem dX10_takeNumber_117 : decode cX10_takeNumber 117 = .ok (.getfield 150, 3) := by decide +kernel
theorem dX10_takeNumber_120 : decode cX10_takeNumber 120 = .ok (.iconst 1, 1) := by decide +kernel
theorem dX10_takeNumber_121 : decode cX10_takeNumber 121 = .ok (.iadd, 1) := by decide +kernel
theorem dX10_takeNumber_122 : decode cX10_takeNumber 122 = .ok (.putfield 150, 3) := by decide +kernel
theorem dX10_takeNumber_125 : decode cX10_takeNumber 125 = .ok (.goto (-83), 3) := by decide +kernel
theorem dX10_takeNumber_128 : decode cX10_takeNumber 128 = .ok (.aload_n 0, 1) := by decide +kernel
theorem dX10_takeNumber_129 : decode cX10_takeNumber 129 = .ok (.getfield 150, 3) := by decide +kernel
theorem dX10_takeNumber_132 : decode cX10_takeNumber 132 = .ok (.aload_n 0, 1) := by decide +kernel
theorem dX10_takeNumber_133 : decode cX10_takeNumber 133 = .ok (.getfield 183, 3) := by decide +kernel
theorem dX10_takeNumber_136 : decode cX10_takeNumber 136 = .ok (.isub, 1) := by decide +kernel
theorem dX10_takeNumber_137 : decode cX10_takeNumber 137 = .ok (.iconst 4, 1) := by decide +kernel
theorem dX10_takeNumber_138 : decode cX10_takeNumber 138 = .ok (.if_icmp .gt 18, 3) := by decide +kernel
theorem dX10_takeNumber_141 : decode cX10_takeNumber 141 = .ok (.aload_n 0, 1) := by decide +kernel
theorem dX10_takeNumber_142 : decode cX10_takeNumber 142 = .ok (.getfield 186, 3) := by decide +kernel
theorem dX10_takeNumber_145 : decode cX10_takeNumber 145 = .ok (.i2l, 1) := by decide +kernel
theorem dX10_takeNumber_146 : decode cX10_takeNumber 146 = .ok (.iload_n 1, 1) := by decide +kernel
theorem dX10_takeNumber_147 : decode cX10_takeNumber 147 = .ok (.i2l, 1) := by decide +kernel
theorem dX10_takeNumber_148 : decode cX10_takeNumber 148 = .ok (.iload_n 2, 1) := by decide +kernel
theorem dX10_takeNumber_149 : decode cX10_takeNumber 149 = .ok (.i2l, 1) := by decide +kernel
theorem dX10_takeNumber_150 : decode cX10_takeNumber 150 = .ok (.invokestatic 134, 3) := by decide +kernel
theorem dX10_takeNumber_153 : decode cX10_takeNumber 153 = .ok (.ifCond .ne 15, 3) := by decide +kernel
theorem dX10_takeNumber_156 : decode cX10_takeNumber 156 = .ok (.aload_n 0, 1) := by decide +kernel
theorem dX10_takeNumber_157 : decode cX10_takeNumber 157 = .ok (.iconst 2, 1) := by decide +kernel
theorem dX10_takeNumber_158 : decode cX10_takeNumber 158 = .ok (.aload_n 0, 1) := by decide +kernel
theorem dX10_takeNumber_159 : decode cX10_takeNumber 159 = .ok (.getfield 183, 3) := by decide +kernel
theorem dX10_takeNumber_162 : decode cX10_takeNumber 162 = .ok (.invokevirtual 179, 3) := by decide +kernel
theorem dX10_takeNumber_165 : decode cX10_takeNumber 165 = .ok (.goto 4, 3) := by decide +kernel
theorem dX10_takeNumber_168 : decode cX10_takeNumber 168 = .ok (.iconst 0, 1) := by decide +kernel
theorem dX10_takeNumber_169 : decode cX10_takeNumber 169 = .ok (.ireturn, 1) := by decide +kernel
theorem dX10_into_0 : decode cX10_into 0 = .ok (.aload_n 0, 1) := by decide +kernel
theorem dX10_into_1 : decode cX10_into 1 = .ok (.iload_n 3, 1) := by decide +kernel
theorem dX10_into_2 : decode cX10_into 2 = .ok (.iload 4, 2) := by decide +kernel
theorem dX10_into_4 : decode cX10_into 4 = .ok (.invokevirtual 190, 3) := by decide +kernel
theorem dX10_into_7 : decode cX10_into 7 = .ok (.istore 5, 2) := by decide +kernel
theorem dX10_into_9 : decode cX10_into 9 = .ok (.aload_n 1, 1) := by decide +kernel
theorem dX10_into_10 : decode cX10_into 10 = .ok (.iload_n 2, 1) := by decide +kernel
theorem dX10_into_11 : decode cX10_into 11 = .ok (.aload_n 0, 1) := by decide +kernel
theorem dX10_into_12 : decode cX10_into 12 = .ok (.getfield 186, 3) := by decide +kernel
theorem dX10_into_15 : decode cX10_into 15 = .ok (.iastore, 1) := by decide +kernel
theorem dX10_into_16 : decode cX10_into 16 = .ok (.iload 5, 2) := by decide +kernel
theorem dX10_into_18 : decode cX10_into 18 = .ok (.ireturn, 1) := by decide +kernel
theorem dX10_takeSeller_0 : decode cX10_takeSeller 0 = .ok (.aload_n 0, 1) := by decide +kernel
theorem dX10_takeSeller_1 : decode cX10_takeSeller 1 = .ok (.aload_n 0, 1) := by decide +kernel
theorem dX10_takeSeller_2 : decode cX10_takeSeller 2 = .ok (.getfield 56, 3) := by decide +kernel
theorem dX10_takeSeller_5 : decode cX10_takeSeller 5 = .ok (.aload_n 0, 1) := by decide +kernel
theorem dX10_takeSeller_6 : decode cX10_takeSeller 6 = .ok (.getfield 193, 3) := by decide +kernel
theorem dX10_takeSeller_9 : decode cX10_takeSeller 9 = .ok (.iconst 0, 1) := by decide +kernel
theorem dX10_takeSeller_10 : decode cX10_takeSeller 10 = .ok (.sipush 999, 3) := by decide +kernel
theorem dX10_takeSeller_13 : decode cX10_takeSeller 13 = .ok (.invokevirtual 196, 3) := by decide +kernel
theorem dX10_takeSeller_16 : decode cX10_takeSeller 16 = .ok (.istore_n 1, 1) := by decide +kernel
theorem dX10_takeSeller_17 : decode cX10_takeSeller 17 = .ok (.iload_n 1, 1) := by decide +kernel
theorem dX10_takeSeller_18 : decode cX10_takeSeller 18 = .ok (.ifCond .le 7, 3) := by decide +kernel
theorem dX10_takeSeller_21 : decode cX10_takeSeller 21 = .ok (.iload_n 1, 1) := by decide +kernel
theorem dX10_takeSeller_22 : decode cX10_takeSeller 22 = .ok (.goto 17, 3) := by decide +kernel
theorem dX10_takeSeller_25 : decode cX10_takeSeller 25 = .ok (.aload_n 0, 1) := by decide +kernel
theorem dX10_takeSeller_26 : decode cX10_takeSeller 26 = .ok (.aload_n 0, 1) := by decide +kernel
theorem dX10_takeSeller_27 : decode cX10_takeSeller 27 = .ok (.getfield 68, 3) := by decide +kernel
theorem dX10_takeSeller_30 : decode cX10_takeSeller 30 = .ok (.aload_n 0, 1) := by decide +kernel
theorem dX10_takeSeller_31 : decode cX10_takeSeller 31 = .ok (.getfield 193, 3) := by decide +kernel
theorem dX10_takeSeller_34 : decode cX10_takeSeller 34 = .ok (.iconst 1, 1) := by decide +kernel
theorem dX10_takeSeller_35 : decode cX10_takeSeller 35 = .ok (.iconst 2, 1) := by decide +kernel
theorem dX10_takeSeller_36 : decode cX10_takeSeller 36 = .ok (.invokevirtual 196, 3) := by decide +kernel
theorem dX10_takeSeller_39 : decode cX10_takeSeller 39 = .ok (.istore_n 1, 1) := by decide +kernel
theorem dX10_takeSeller_40 : decode cX10_takeSeller 40 = .ok (.aload_n 0, 1) := by decide +kernel
theorem dX10_takeSeller_41 : decode cX10_takeSeller 41 = .ok (.dup, 1) := by decide +kernel
theorem dX10_takeSeller_42 : decode cX10_takeSeller 42 = .ok (.getfield 193, 3) := by decide +kernel
theorem dX10_takeSeller_45 : decode cX10_takeSeller 45 = .ok (.iconst 1, 1) := by decide +kernel
theorem dX10_takeSeller_46 : decode cX10_takeSeller 46 = .ok (.iadd, 1) := by decide +kernel
theorem dX10_takeSeller_47 : decode cX10_takeSeller 47 = .ok (.putfield 193, 3) := by decide +kernel
theorem dX10_takeSeller_50 : decode cX10_takeSeller 50 = .ok (.iload_n 1, 1) := by decide +kernel
theorem dX10_takeSeller_51 : decode cX10_takeSeller 51 = .ok (.ireturn, 1) := by decide +kernel
theorem dX10_takeBuyer_0 : decode cX10_takeBuyer 0 = .ok (.aload_n 0, 1) := by decide +kernel
theorem dX10_takeBuyer_1 : decode cX10_takeBuyer 1 = .ok (.getfield 200, 3) := by decide +kernel
theorem dX10_takeBuyer_4 : decode cX10_takeBuyer 4 = .ok (.istore_n 1, 1) := by decide +kernel
theorem dX10_takeBuyer_5 : decode cX10_takeBuyer 5 = .ok (.aload_n 0, 1) := by decide +kernel
theorem dX10_takeBuyer_6 : decode cX10_takeBuyer 6 = .ok (.dup, 1) := by decide +kernel
theorem dX10_takeBuyer_7 : decode cX10_takeBuyer 7 = .ok (.getfield 200, 3) := by decide +kernel
theorem dX10_takeBuyer_10 : decode cX10_takeBuyer 10 = .ok (.iconst 1, 1) := by decide +kernel
theorem dX10_takeBuyer_11 : decode cX10_takeBuyer 11 = .ok (.iadd, 1) := by decide +kernel
theorem dX10_takeBuyer_12 : decode cX10_takeBuyer 12 = .ok (.putfield 200, 3) := by decide +kernel
theorem dX10_takeBuyer_15 : decode cX10_takeBuyer 15 = .ok (.aload_n 0, 1) := by decide +kernel
theorem dX10_takeBuyer_16 : decode cX10_takeBuyer 16 = .ok (.aload_n 0, 1) := by decide +kernel
theorem dX10_takeBuyer_17 : decode cX10_takeBuyer 17 = .ok (.getfield 68, 3) := by decide +kernel
theorem dX10_takeBuyer_20 : decode cX10_takeBuyer 20 = .ok (.bipush 6, 2) := by decide +kernel
theorem dX10_takeBuyer_22 : decode cX10_takeBuyer 22 = .ok (.iload_n 1, 1) := by decide +kernel
theorem dX10_takeBuyer_23 : decode cX10_takeBuyer 23 = .ok (.iadd, 1) := by decide +kernel
theorem dX10_takeBuyer_24 : decode cX10_takeBuyer 24 = .ok (.iconst 1, 1) := by decide +kernel
theorem dX10_takeBuyer_25 : decode cX10_takeBuyer 25 = .ok (.iconst 2, 1) := by decide +kernel
theorem dX10_takeBuyer_26 : decode cX10_takeBuyer 26 = .ok (.invokevirtual 196, 3) := by decide +kernel
theorem dX10_takeBuyer_29 : decode cX10_takeBuyer 29 = .ok (.istore_n 2, 1) := by decide +kernel
theorem dX10_takeBuyer_30 : decode cX10_takeBuyer 30 = .ok (.iload_n 2, 1) := by decide +kernel
theorem dX10_takeBuyer_31 : decode cX10_takeBuyer 31 = .ok (.ifCond .le 7, 3) := by decide +kernel
theorem dX10_takeBuyer_34 : decode cX10_takeBuyer 34 = .ok (.iload_n 2, 1) := by decide +kernel
theorem dX10_takeBuyer_35 : decode cX10_takeBuyer 35 = .ok (.goto 16, 3) := by decide +kernel
theorem dX10_takeBuyer_38 : decode cX10_takeBuyer 38 = .ok (.aload_n 0, 1) := by decide +kernel
theorem dX10_takeBuyer_39 : decode cX10_takeBuyer 39 = .ok (.aload_n 0, 1) := by decide +kernel
theorem dX10_takeBuyer_40 : decode cX10_takeBuyer 40 = .ok (.getfield 59, 3) := by decide +kernel
theorem dX10_takeBuyer_43 : decode cX10_takeBuyer 43 = .ok (.iload_n 1, 1) := by decide +kernel
theorem dX10_takeBuyer_44 : decode cX10_takeBuyer 44 = .ok (.iconst 0, 1) := by decide +kernel
theorem dX10_takeBuyer_45 : decode cX10_takeBuyer 45 = .ok (.sipush 9999, 3) := by decide +kernel
theorem dX10_takeBuyer_48 : decode cX10_takeBuyer 48 = .ok (.invokevirtual 196, 3) := by decide +kernel
theorem dX10_takeBuyer_51 : decode cX10_takeBuyer 51 = .ok (.istore_n 2, 1) := by decide +kernel
theorem dX10_takeBuyer_52 : decode cX10_takeBuyer 52 = .ok (.iload_n 2, 1) := by decide +kernel
theorem dX10_takeBuyer_53 : decode cX10_takeBuyer 53 = .ok (.ifCond .ne 25, 3) := by decide +kernel
theorem dX10_takeBuyer_56 : decode cX10_takeBuyer 56 = .ok (.aload_n 0, 1) := by decide +kernel
theorem dX10_takeBuyer_57 : decode cX10_takeBuyer 57 = .ok (.getfield 193, 3) := by decide +kernel
theorem dX10_takeBuyer_60 : decode cX10_takeBuyer 60 = .ok (.ifCond .ne 18, 3) := by decide +kernel
theorem dX10_takeBuyer_63 : decode cX10_takeBuyer 63 = .ok (.aload_n 0, 1) := by decide +kernel
theorem dX10_takeBuyer_64 : decode cX10_takeBuyer 64 = .ok (.invokevirtual 153, 3) := by decide +kernel
theorem dX10_takeBuyer_67 : decode cX10_takeBuyer 67 = .ok (.istore_n 3, 1) := by decide +kernel
theorem dX10_takeBuyer_68 : decode cX10_takeBuyer 68 = .ok (.aload_n 0, 1) := by decide +kernel
