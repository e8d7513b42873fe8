theorem dX0_init_0 : decode cX0_init 0 = .ok (.aload_n 0, 1) := by decide +kernel
theorem dX0_init_1 : decode cX0_init 1 = .ok (.invokespecial 3, 3) := by decide +kernel
theorem dX0_init_4 : decode cX0_init 4 = .ok (.aload_n 0, 1) := by decide +kernel
theorem dX0_init_5 : decode cX0_init 5 = .ok (.bipush 30, 2) := by decide +kernel
theorem dX0_init_7 : decode cX0_init 7 = .ok (.newarray .int, 2) := by decide +kernel
theorem dX0_init_9 : decode cX0_init 9 = .ok (.putfield 9, 3) := by decide +kernel
theorem dX0_init_12 : decode cX0_init 12 = .ok (.aload_n 0, 1) := by decide +kernel
theorem dX0_init_13 : decode cX0_init 13 = .ok (.bipush 30, 2) := by decide +kernel
theorem dX0_init_15 : decode cX0_init 15 = .ok (.newarray .int, 2) := by decide +kernel
theorem dX0_init_17 : decode cX0_init 17 = .ok (.putfield 15, 3) := by decide +kernel
theorem dX0_init_20 : decode cX0_init 20 = .ok (.aload_n 0, 1) := by decide +kernel
theorem dX0_init_21 : decode cX0_init 21 = .ok (.bipush 30, 2) := by decide +kernel
theorem dX0_init_23 : decode cX0_init 23 = .ok (.newarray .int, 2) := by decide +kernel
theorem dX0_init_25 : decode cX0_init 25 = .ok (.putfield 18, 3) := by decide +kernel
theorem dX0_init_28 : decode cX0_init 28 = .ok (.aload_n 0, 1) := by decide +kernel
theorem dX0_init_29 : decode cX0_init 29 = .ok (.bipush 30, 2) := by decide +kernel
theorem dX0_init_31 : decode cX0_init 31 = .ok (.newarray .int, 2) := by decide +kernel
theorem dX0_init_33 : decode cX0_init 33 = .ok (.putfield 21, 3) := by decide +kernel
theorem dX0_init_36 : decode cX0_init 36 = .ok (.aload_n 0, 1) := by decide +kernel
theorem dX0_init_37 : decode cX0_init 37 = .ok (.aload_n 1, 1) := by decide +kernel
theorem dX0_init_38 : decode cX0_init 38 = .ok (.putfield 24, 3) := by decide +kernel
theorem dX0_init_41 : decode cX0_init 41 = .ok (.return_, 1) := by decide +kernel
theorem dX0_append_0 : decode cX0_append 0 = .ok (.aload_n 0, 1) := by decide +kernel
theorem dX0_append_1 : decode cX0_append 1 = .ok (.getfield 28, 3) := by decide +kernel
theorem dX0_append_4 : decode cX0_append 4 = .ok (.bipush 30, 2) := by decide +kernel
theorem dX0_append_6 : decode cX0_append 6 = .ok (.if_icmp .ge 54, 3) := by decide +kernel
theorem dX0_append_9 : decode cX0_append 9 = .ok (.aload_n 0, 1) := by decide +kernel
theorem dX0_append_10 : decode cX0_append 10 = .ok (.getfield 9, 3) := by decide +kernel
theorem dX0_append_13 : decode cX0_append 13 = .ok (.aload_n 0, 1) := by decide +kernel
theorem dX0_append_14 : decode cX0_append 14 = .ok (.getfield 28, 3) := by decide +kernel
theorem dX0_append_17 : decode cX0_append 17 = .ok (.iload_n 1, 1) := by decide +kernel
theorem dX0_append_18 : decode cX0_append 18 = .ok (.iastore, 1) := by decide +kernel
theorem dX0_append_19 : decode cX0_append 19 = .ok (.aload_n 0, 1) := by decide +kernel
theorem dX0_append_20 : decode cX0_append 20 = .ok (.getfield 15, 3) := by decide +kernel
theorem dX0_append_23 : decode cX0_append 23 = .ok (.aload_n 0, 1) := by decide +kernel
theorem dX0_append_24 : decode cX0_append 24 = .ok (.getfield 28, 3) := by decide +kernel
theorem dX0_append_27 : decode cX0_append 27 = .ok (.iload_n 2, 1) := by decide +kernel
theorem dX0_append_28 : decode cX0_append 28 = .ok (.iastore, 1) := by decide +kernel
theorem dX0_append_29 : decode cX0_append 29 = .ok (.aload_n 0, 1) := by decide +kernel
theorem dX0_append_30 : decode cX0_append 30 = .ok (.getfield 18, 3) := by decide +kernel
theorem dX0_append_33 : decode cX0_append 33 = .ok (.aload_n 0, 1) := by decide +kernel
theorem dX0_append_34 : decode cX0_append 34 = .ok (.getfield 28, 3) := by decide +kernel
theorem dX0_append_37 : decode cX0_append 37 = .ok (.iload_n 3, 1) := by decide +kernel
theorem dX0_append_38 : decode cX0_append 38 = .ok (.iastore, 1) := by decide +kernel
theorem dX0_append_39 : decode cX0_append 39 = .ok (.aload_n 0, 1) := by decide +kernel
theorem dX0_append_40 : decode cX0_append 40 = .ok (.getfield 21, 3) := by decide +kernel
theorem dX0_append_43 : decode cX0_append 43 = .ok (.aload_n 0, 1) := by decide +kernel
theorem dX0_append_44 : decode cX0_append 44 = .ok (.getfield 28, 3) := by decide +kernel
theorem dX0_append_47 : decode cX0_append 47 = .ok (.iload 4, 2) := by decide +kernel
theorem dX0_append_49 : decode cX0_append 49 = .ok (.iastore, 1) := by decide +kernel
theorem dX0_append_50 : decode cX0_append 50 = .ok (.aload_n 0, 1) := by decide +kernel
theorem dX0_append_51 : decode cX0_append 51 = .ok (.dup, 1) := by decide +kernel
theorem dX0_append_52 : decode cX0_append 52 = .ok (.getfield 28, 3) := by decide +kernel
theorem dX0_append_55 : decode cX0_append 55 = .ok (.iconst 1, 1) := by decide +kernel
theorem dX0_append_56 : decode cX0_append 56 = .ok (.iadd, 1) := by decide +kernel
theorem dX0_append_57 : decode cX0_append 57 = .ok (.putfield 28, 3) := by decide +kernel
theorem dX0_append_60 : decode cX0_append 60 = .ok (.return_, 1) := by decide +kernel
theorem dX0_firstWrong_0 : decode cX0_firstWrong 0 = .ok (.iconst 0, 1) := by decide +kernel
theorem dX0_firstWrong_1 : decode cX0_firstWrong 1 = .ok (.istore_n 1, 1) := by decide +kernel
theorem dX0_firstWrong_2 : decode cX0_firstWrong 2 = .ok (.iload_n 1, 1) := by decide +kernel
theorem dX0_firstWrong_3 : decode cX0_firstWrong 3 = .ok (.aload_n 0, 1) := by decide +kernel
theorem dX0_firstWrong_4 : decode cX0_firstWrong 4 = .ok (.getfield 28, 3) := by decide +kernel
theorem dX0_firstWrong_7 : decode cX0_firstWrong 7 = .ok (.if_icmp .ge 25, 3) := by decide +kernel
theorem dX0_firstWrong_10 : decode cX0_firstWrong 10 = .ok (.iload_n 1, 1) := by decide +kernel
theorem dX0_firstWrong_11 : decode cX0_firstWrong 11 = .ok (.bipush 30, 2) := by decide +kernel
theorem dX0_firstWrong_13 : decode cX0_firstWrong 13 = .ok (.if_icmp .ge 19, 3) := by decide +kernel
theorem dX0_firstWrong_16 : decode cX0_firstWrong 16 = .ok (.aload_n 0, 1) := by decide +kernel
theorem dX0_firstWrong_17 : decode cX0_firstWrong 17 = .ok (.iload_n 1, 1) := by decide +kernel
theorem dX0_firstWrong_18 : decode cX0_firstWrong 18 = .ok (.invokevirtual 32, 3) := by decide +kernel
theorem dX0_firstWrong_21 : decode cX0_firstWrong 21 = .ok (.ifCond .eq 5, 3) := by decide +kernel
theorem dX0_firstWrong_24 : decode cX0_firstWrong 24 = .ok (.iload_n 1, 1) := by decide +kernel
theorem dX0_firstWrong_25 : decode cX0_firstWrong 25 = .ok (.ireturn, 1) := by decide +kernel
theorem dX0_firstWrong_26 : decode cX0_firstWrong 26 = .ok (.iinc 1 1, 3) := by decide +kernel
theorem dX0_firstWrong_29 : decode cX0_firstWrong 29 = .ok (.goto (-27), 3) := by decide +kernel
theorem dX0_firstWrong_32 : decode cX0_firstWrong 32 = .ok (.iconst (-1), 1) := by decide +kernel
theorem dX0_firstWrong_33 : decode cX0_firstWrong 33 = .ok (.ireturn, 1) := by decide +kernel
theorem dX0_isWrong_0 : decode cX0_isWrong 0 = .ok (.iload_n 1, 1) := by decide +kernel
theorem dX0_isWrong_1 : decode cX0_isWrong 1 = .ok (.ifCond .le 22, 3) := by decide +kernel
theorem dX0_isWrong_4 : decode cX0_isWrong 4 = .ok (.aload_n 0, 1) := by decide +kernel
theorem dX0_isWrong_5 : decode cX0_isWrong 5 = .ok (.getfield 9, 3) := by decide +kernel
theorem dX0_isWrong_8 : decode cX0_isWrong 8 = .ok (.iload_n 1, 1) := by decide +kernel
theorem dX0_isWrong_9 : decode cX0_isWrong 9 = .ok (.iaload, 1) := by decide +kernel
theorem dX0_isWrong_10 : decode cX0_isWrong 10 = .ok (.aload_n 0, 1) := by decide +kernel
theorem dX0_isWrong_11 : decode cX0_isWrong 11 = .ok (.getfield 9, 3) := by decide +kernel
theorem dX0_isWrong_14 : decode cX0_isWrong 14 = .ok (.iload_n 1, 1) := by decide +kernel
theorem dX0_isWrong_15 : decode cX0_isWrong 15 = .ok (.iconst 1, 1) := by decide +kernel
theorem dX0_isWrong_16 : decode cX0_isWrong 16 = .ok (.isub, 1) := by decide +kernel
theorem dX0_isWrong_17 : decode cX0_isWrong 17 = .ok (.iaload, 1) := by decide +kernel
theorem dX0_isWrong_18 : decode cX0_isWrong 18 = .ok (.if_icmp .ge 5, 3) := by decide +kernel
theorem dX0_isWrong_21 : decode cX0_isWrong 21 = .ok (.iconst 1, 1) := by decide +kernel
theorem dX0_isWrong_22 : decode cX0_isWrong 22 = .ok (.ireturn, 1) := by decide +kernel
theorem dX0_isWrong_23 : decode cX0_isWrong 23 = .ok (.iconst 0, 1) := by decide +kernel
theorem dX0_isWrong_24 : decode cX0_isWrong 24 = .ok (.istore_n 2, 1) := by decide +kernel
theorem dX0_isWrong_25 : decode cX0_isWrong 25 = .ok (.iconst 0, 1) := by decide +kernel
theorem dX0_isWrong_26 : decode cX0_isWrong 26 = .ok (.istore_n 3, 1) := by decide +kernel
theorem dX0_isWrong_27 : decode cX0_isWrong 27 = .ok (.iload_n 3, 1) := by decide +kernel
theorem dX0_isWrong_28 : decode cX0_isWrong 28 = .ok (.iload_n 1, 1) := by decide +kernel
theorem dX0_isWrong_29 : decode cX0_isWrong 29 = .ok (.if_icmp .ge 73, 3) := by decide +kernel
theorem dX0_isWrong_32 : decode cX0_isWrong 32 = .ok (.aload_n 0, 1) := by decide +kernel
theorem dX0_isWrong_33 : decode cX0_isWrong 33 = .ok (.getfield 15, 3) := by decide +kernel
theorem dX0_isWrong_36 : decode cX0_isWrong 36 = .ok (.iload_n 3, 1) := by decide +kernel
theorem dX0_isWrong_37 : decode cX0_isWrong 37 = .ok (.iaload, 1) := by decide +kernel
theorem dX0_isWrong_38 : decode cX0_isWrong 38 = .ok (.aload_n 0, 1) := by decide +kernel
theorem dX0_isWrong_39 : decode cX0_isWrong 39 = .ok (.getfield 15, 3) := by decide +kernel
theorem dX0_isWrong_42 : decode cX0_isWrong 42 = .ok (.iload_n 1, 1) := by decide +kernel
theorem dX0_isWrong_43 : decode cX0_isWrong 43 = .ok (.iaload, 1) := by decide +kernel
theorem dX0_isWrong_44 : decode cX0_isWrong 44 = .ok (.if_icmp .ne 52, 3) := by decide +kernel
theorem dX0_isWrong_47 : decode cX0_isWrong 47 = .ok (.aload_n 0, 1) := by decide +kernel
theorem dX0_isWrong_48 : decode cX0_isWrong 48 = .ok (.getfield 9, 3) := by decide +kernel
theorem dX0_isWrong_51 : decode cX0_isWrong 51 = .ok (.iload_n 3, 1) := by decide +kernel
theorem dX0_isWrong_52 : decode cX0_isWrong 52 = .ok (.iaload, 1) := by decide +kernel
theorem dX0_isWrong_53 : decode cX0_isWrong 53 = .ok (.aload_n 0, 1) := by decide +kernel
theorem dX0_isWrong_54 : decode cX0_isWrong 54 = .ok (.getfield 24, 3) := by decide +kernel
theorem dX0_isWrong_57 : decode cX0_isWrong 57 = .ok (.getfield 36, 3) := by decide +kernel
theorem dX0_isWrong_60 : decode cX0_isWrong 60 = .ok (.iadd, 1) := by decide +kernel
theorem dX0_isWrong_61 : decode cX0_isWrong 61 = .ok (.aload_n 0, 1) := by decide +kernel
theorem dX0_isWrong_62 : decode cX0_isWrong 62 = .ok (.getfield 9, 3) := by decide +kernel
theorem dX0_isWrong_65 : decode cX0_isWrong 65 = .ok (.iload_n 1, 1) := by decide +kernel
theorem dX0_isWrong_66 : decode cX0_isWrong 66 = .ok (.iaload, 1) := by decide +kernel
theorem dX0_isWrong_67 : decode cX0_isWrong 67 = .ok (.if_icmp .le 29, 3) := by decide +kernel
theorem dX0_isWrong_70 : decode cX0_isWrong 70 = .ok (.aload_n 0, 1) := by decide +kernel
theorem dX0_isWrong_71 : decode cX0_isWrong 71 = .ok (.getfield 18, 3) := by decide +kernel
theorem dX0_isWrong_74 : decode cX0_isWrong 74 = .ok (.iload_n 3, 1) := by decide +kernel
theorem dX0_isWrong_75 : decode cX0_isWrong 75 = .ok (.iaload, 1) := by decide +kernel
theorem dX0_isWrong_76 : decode cX0_isWrong 76 = .ok (.aload_n 0, 1) := by decide +kernel
theorem dX0_isWrong_77 : decode cX0_isWrong 77 = .ok (.getfield 18, 3) := by decide +kernel
theorem dX0_isWrong_80 : decode cX0_isWrong 80 = .ok (.iload_n 1, 1) := by decide +kernel
theorem dX0_isWrong_81 : decode cX0_isWrong 81 = .ok (.iaload, 1) := by decide +kernel
theorem dX0_isWrong_82 : decode cX0_isWrong 82 = .ok (.if_icmp .ne 5, 3) := by decide +kernel
theorem dX0_isWrong_85 : decode cX0_isWrong 85 = .ok (.iconst 1, 1) := by decide +kernel
theorem dX0_isWrong_86 : decode cX0_isWrong 86 = .ok (.ireturn, 1) := by decide +kernel
theorem dX0_isWrong_87 : decode cX0_isWrong 87 = .ok (.iload_n 2, 1) := by decide +kernel
theorem dX0_isWrong_88 : decode cX0_isWrong 88 = .ok (.aload_n 0, 1) := by decide +kernel
theorem dX0_isWrong_89 : decode cX0_isWrong 89 = .ok (.getfield 21, 3) := by decide +kernel
theorem dX0_isWrong_92 : decode cX0_isWrong 92 = .ok (.iload_n 3, 1) := by decide +kernel
theorem dX0_isWrong_93 : decode cX0_isWrong 93 = .ok (.iaload, 1) := by decide +kernel
theorem dX0_isWrong_94 : decode cX0_isWrong 94 = .ok (.iadd, 1) := by decide +kernel
theorem dX0_isWrong_95 : decode cX0_isWrong 95 = .ok (.istore_n 2, 1) := by decide +kernel
theorem dX0_isWrong_96 : decode cX0_isWrong 96 = .ok (.iinc 3 1, 3) := by decide +kernel
theorem dX0_isWrong_99 : decode cX0_isWrong 99 = .ok (.goto (-72), 3) := by decide +kernel
theorem dX0_isWrong_102 : decode cX0_isWrong 102 = .ok (.aload_n 0, 1) := by decide +kernel
theorem dX0_isWrong_103 : decode cX0_isWrong 103 = .ok (.getfield 15, 3) := by decide +kernel
theorem dX0_isWrong_106 : decode cX0_isWrong 106 = .ok (.iload_n 1, 1) := by decide +kernel
theorem dX0_isWrong_107 : decode cX0_isWrong 107 = .ok (.iaload, 1) := by decide +kernel
theorem dX0_isWrong_108 : decode cX0_isWrong 108 = .ok (.istore_n 3, 1) := by decide +kernel
theorem dX0_isWrong_109 : decode cX0_isWrong 109 = .ok (.aload_n 0, 1) := by decide +kernel
theorem dX0_isWrong_110 : decode cX0_isWrong 110 = .ok (.getfield 24, 3) := by decide +kernel
theorem dX0_isWrong_113 : decode cX0_isWrong 113 = .ok (.iload_n 3, 1) := by decide +kernel
theorem dX0_isWrong_114 : decode cX0_isWrong 114 = .ok (.invokevirtual 41, 3) := by decide +kernel
theorem dX0_isWrong_117 : decode cX0_isWrong 117 = .ok (.ifCond .eq 39, 3) := by decide +kernel
theorem dX0_isWrong_120 : decode cX0_isWrong 120 = .ok (.aload_n 0, 1) := by decide +kernel
theorem dX0_isWrong_121 : decode cX0_isWrong 121 = .ok (.getfield 24, 3) := by decide +kernel
theorem dX0_isWrong_124 : decode cX0_isWrong 124 = .ok (.iload_n 3, 1) := by decide +kernel
theorem dX0_isWrong_125 : decode cX0_isWrong 125 = .ok (.invokevirtual 44, 3) := by decide +kernel
theorem dX0_isWrong_128 : decode cX0_isWrong 128 = .ok (.iconst 1, 1) := by decide +kernel
theorem dX0_isWrong_129 : decode cX0_isWrong 129 = .ok (.if_icmp .ne 27, 3) := by decide +kernel
theorem dX0_isWrong_132 : decode cX0_isWrong 132 = .ok (.aload_n 0, 1) := by decide +kernel
theorem dX0_isWrong_133 : decode cX0_isWrong 133 = .ok (.getfield 21, 3) := by decide +kernel
theorem dX0_isWrong_136 : decode cX0_isWrong 136 = .ok (.iload_n 1, 1) := by decide +kernel
theorem dX0_isWrong_137 : decode cX0_isWrong 137 = .ok (.iaload, 1) := by decide +kernel
theorem dX0_isWrong_138 : decode cX0_isWrong 138 = .ok (.aload_n 0, 1) := by decide +kernel
theorem dX0_isWrong_139 : decode cX0_isWrong 139 = .ok (.getfield 24, 3) := by decide +kernel
theorem dX0_isWrong_142 : decode cX0_isWrong 142 = .ok (.getfield 48, 3) := by decide +kernel
theorem dX0_isWrong_145 : decode cX0_isWrong 145 = .ok (.iload_n 3, 1) := by decide +kernel
theorem dX0_isWrong_146 : decode cX0_isWrong 146 = .ok (.iaload, 1) := by decide +kernel
theorem dX0_isWrong_147 : decode cX0_isWrong 147 = .ok (.iload_n 2, 1) := by decide +kernel
theorem dX0_isWrong_148 : decode cX0_isWrong 148 = .ok (.isub, 1) := by decide +kernel
theorem dX0_isWrong_149 : decode cX0_isWrong 149 = .ok (.if_icmp .le 7, 3) := by decide +kernel
theorem dX0_isWrong_152 : decode cX0_isWrong 152 = .ok (.iconst 1, 1) := by decide +kernel
theorem dX0_isWrong_153 : decode cX0_isWrong 153 = .ok (.goto 4, 3) := by decide +kernel
theorem dX0_isWrong_156 : decode cX0_isWrong 156 = .ok (.iconst 0, 1) := by decide +kernel
theorem dX0_isWrong_157 : decode cX0_isWrong 157 = .ok (.ireturn, 1) := by decide +kernel
theorem dX1_init_0 : decode cX1_init 0 = .ok (.aload_n 0, 1) := by decide +kernel
theorem dX1_init_1 : decode cX1_init 1 = .ok (.invokespecial 3, 3) := by decide +kernel
theorem dX1_init_4 : decode cX1_init 4 = .ok (.aload_n 0, 1) := by decide +kernel
theorem dX1_init_5 : decode cX1_init 5 = .ok (.bipush 14, 2) := by decide +kernel
theorem dX1_init_7 : decode cX1_init 7 = .ok (.newarray .int, 2) := by decide +kernel
theorem dX1_init_9 : decode cX1_init 9 = .ok (.putfield 9, 3) := by decide +kernel
theorem dX1_init_12 : decode cX1_init 12 = .ok (.aload_n 0, 1) := by decide +kernel
theorem dX1_init_13 : decode cX1_init 13 = .ok (.bipush 84, 2) := by decide +kernel
theorem dX1_init_15 : decode cX1_init 15 = .ok (.newarray .int, 2) := by decide +kernel
theorem dX1_init_17 : decode cX1_init 17 = .ok (.putfield 15, 3) := by decide +kernel
theorem dX1_init_20 : decode cX1_init 20 = .ok (.aload_n 0, 1) := by decide +kernel
theorem dX1_init_21 : decode cX1_init 21 = .ok (.bipush 84, 2) := by decide +kernel
theorem dX1_init_23 : decode cX1_init 23 = .ok (.newarray .int, 2) := by decide +kernel
theorem dX1_init_25 : decode cX1_init 25 = .ok (.putfield 18, 3) := by decide +kernel
theorem dX1_init_28 : decode cX1_init 28 = .ok (.aload_n 0, 1) := by decide +kernel
theorem dX1_init_29 : decode cX1_init 29 = .ok (.bipush 6, 2) := by decide +kernel
theorem dX1_init_31 : decode cX1_init 31 = .ok (.newarray .int, 2) := by decide +kernel
theorem dX1_init_33 : decode cX1_init 33 = .ok (.putfield 21, 3) := by decide +kernel
theorem dX1_init_36 : decode cX1_init 36 = .ok (.aload_n 0, 1) := by decide +kernel
theorem dX1_init_37 : decode cX1_init 37 = .ok (.bipush 6, 2) := by decide +kernel
theorem dX1_init_39 : decode cX1_init 39 = .ok (.newarray .int, 2) := by decide +kernel
theorem dX1_init_41 : decode cX1_init 41 = .ok (.putfield 24, 3) := by decide +kernel
theorem dX1_init_44 : decode cX1_init 44 = .ok (.aload_n 0, 1) := by decide +kernel
theorem dX1_init_45 : decode cX1_init 45 = .ok (.bipush 14, 2) := by decide +kernel
theorem dX1_init_47 : decode cX1_init 47 = .ok (.newarray .int, 2) := by decide +kernel
theorem dX1_init_49 : decode cX1_init 49 = .ok (.putfield 27, 3) := by decide +kernel
theorem dX1_init_52 : decode cX1_init 52 = .ok (.aload_n 0, 1) := by decide +kernel
theorem dX1_init_53 : decode cX1_init 53 = .ok (.aload_n 1, 1) := by decide +kernel
theorem dX1_init_54 : decode cX1_init 54 = .ok (.putfield 30, 3) := by decide +kernel
theorem dX1_init_57 : decode cX1_init 57 = .ok (.aload_n 0, 1) := by decide +kernel
theorem dX1_init_58 : decode cX1_init 58 = .ok (.invokevirtual 34, 3) := by decide +kernel
theorem dX1_init_61 : decode cX1_init 61 = .ok (.return_, 1) := by decide +kernel
theorem dX1_begin_0 : decode cX1_begin 0 = .ok (.aload_n 0, 1) := by decide +kernel
theorem dX1_begin_1 : decode cX1_begin 1 = .ok (.iconst 0, 1) := by decide +kernel
theorem dX1_begin_2 : decode cX1_begin 2 = .ok (.putfield 37, 3) := by decide +kernel
theorem dX1_begin_5 : decode cX1_begin 5 = .ok (.aload_n 0, 1) := by decide +kernel
theorem dX1_begin_6 : decode cX1_begin 6 = .ok (.getfield 9, 3) := by decide +kernel
theorem dX1_begin_9 : decode cX1_begin 9 = .ok (.iconst 0, 1) := by decide +kernel
theorem dX1_begin_10 : decode cX1_begin 10 = .ok (.invokestatic 41, 3) := by decide +kernel
theorem dX1_begin_13 : decode cX1_begin 13 = .ok (.aload_n 0, 1) := by decide +kernel
theorem dX1_begin_14 : decode cX1_begin 14 = .ok (.getfield 15, 3) := by decide +kernel
theorem dX1_begin_17 : decode cX1_begin 17 = .ok (.iconst 0, 1) := by decide +kernel
theorem dX1_begin_18 : decode cX1_begin 18 = .ok (.invokestatic 41, 3) := by decide +kernel
theorem dX1_begin_21 : decode cX1_begin 21 = .ok (.aload_n 0, 1) := by decide +kernel
theorem dX1_begin_22 : decode cX1_begin 22 = .ok (.getfield 18, 3) := by decide +kernel
theorem dX1_begin_25 : decode cX1_begin 25 = .ok (.iconst 0, 1) := by decide +kernel
theorem dX1_begin_26 : decode cX1_begin 26 = .ok (.invokestatic 41, 3) := by decide +kernel
theorem dX1_begin_29 : decode cX1_begin 29 = .ok (.aload_n 0, 1) := by decide +kernel
theorem dX1_begin_30 : decode cX1_begin 30 = .ok (.getfield 21, 3) := by decide +kernel
theorem dX1_begin_33 : decode cX1_begin 33 = .ok (.iconst (-1), 1) := by decide +kernel
theorem dX1_begin_34 : decode cX1_begin 34 = .ok (.invokestatic 41, 3) := by decide +kernel
theorem dX1_begin_37 : decode cX1_begin 37 = .ok (.aload_n 0, 1) := by decide +kernel
theorem dX1_begin_38 : decode cX1_begin 38 = .ok (.getfield 24, 3) := by decide +kernel
theorem dX1_begin_41 : decode cX1_begin 41 = .ok (.iconst (-1), 1) := by decide +kernel
theorem dX1_begin_42 : decode cX1_begin 42 = .ok (.invokestatic 41, 3) := by decide +kernel
theorem dX1_begin_45 : decode cX1_begin 45 = .ok (.aload_n 0, 1) := by decide +kernel
theorem dX1_begin_46 : decode cX1_begin 46 = .ok (.getfield 27, 3) := by decide +kernel
theorem dX1_begin_49 : decode cX1_begin 49 = .ok (.iconst 0, 1) := by decide +kernel
theorem dX1_begin_50 : decode cX1_begin 50 = .ok (.invokestatic 41, 3) := by decide +kernel
theorem dX1_begin_53 : decode cX1_begin 53 = .ok (.return_, 1) := by decide +kernel
theorem dX1_become_0 : decode cX1_become 0 = .ok (.aload_n 0, 1) := by decide +kernel
theorem dX1_become_1 : decode cX1_become 1 = .ok (.aload_n 1, 1) := by decide +kernel
theorem dX1_become_2 : decode cX1_become 2 = .ok (.getfield 37, 3) := by decide +kernel
theorem dX1_become_5 : decode cX1_become 5 = .ok (.putfield 37, 3) := by decide +kernel
theorem dX1_become_8 : decode cX1_become 8 = .ok (.aload_n 0, 1) := by decide +kernel
theorem dX1_become_9 : decode cX1_become 9 = .ok (.aload_n 1, 1) := by decide +kernel
theorem dX1_become_10 : decode cX1_become 10 = .ok (.getfield 47, 3) := by decide +kernel
theorem dX1_become_13 : decode cX1_become 13 = .ok (.putfield 47, 3) := by decide +kernel
theorem dX1_become_16 : decode cX1_become 16 = .ok (.aload_n 1, 1) := by decide +kernel
theorem dX1_become_17 : decode cX1_become 17 = .ok (.getfield 9, 3) := by decide +kernel
theorem dX1_become_20 : decode cX1_become 20 = .ok (.iconst 0, 1) := by decide +kernel
theorem dX1_become_21 : decode cX1_become 21 = .ok (.aload_n 0, 1) := by decide +kernel
theorem dX1_become_22 : decode cX1_become 22 = .ok (.getfield 9, 3) := by decide +kernel
theorem dX1_become_25 : decode cX1_become 25 = .ok (.iconst 0, 1) := by decide +kernel
theorem dX1_become_26 : decode cX1_become 26 = .ok (.bipush 14, 2) := by decide +kernel
theorem dX1_become_28 : decode cX1_become 28 = .ok (.invokestatic 50, 3) := by decide +kernel
theorem dX1_become_31 : decode cX1_become 31 = .ok (.aload_n 1, 1) := by decide +kernel
theorem dX1_become_32 : decode cX1_become 32 = .ok (.getfield 15, 3) := by decide +kernel
theorem dX1_become_35 : decode cX1_become 35 = .ok (.iconst 0, 1) := by decide +kernel
theorem dX1_become_36 : decode cX1_become 36 = .ok (.aload_n 0, 1) := by decide +kernel
theorem dX1_become_37 : decode cX1_become 37 = .ok (.getfield 15, 3) := by decide +kernel
theorem dX1_become_40 : decode cX1_become 40 = .ok (.iconst 0, 1) := by decide +kernel
theorem dX1_become_41 : decode cX1_become 41 = .ok (.bipush 84, 2) := by decide +kernel
theorem dX1_become_43 : decode cX1_become 43 = .ok (.invokestatic 50, 3) := by decide +kernel
theorem dX1_become_46 : decode cX1_become 46 = .ok (.aload_n 1, 1) := by decide +kernel
theorem dX1_become_47 : decode cX1_become 47 = .ok (.getfield 18, 3) := by decide +kernel
theorem dX1_become_50 : decode cX1_become 50 = .ok (.iconst 0, 1) := by decide +kernel
theorem dX1_become_51 : decode cX1_become 51 = .ok (.aload_n 0, 1) := by decide +kernel
theorem dX1_become_52 : decode cX1_become 52 = .ok (.getfield 18, 3) := by decide +kernel
theorem dX1_become_55 : decode cX1_become 55 = .ok (.iconst 0, 1) := by decide +kernel
theorem dX1_become_56 : decode cX1_become 56 = .ok (.bipush 84, 2) := by decide +kernel
theorem dX1_become_58 : decode cX1_become 58 = .ok (.invokestatic 50, 3) := by decide +kernel
theorem dX1_become_61 : decode cX1_become 61 = .ok (.aload_n 1, 1) := by decide +kernel
theorem dX1_become_62 : decode cX1_become 62 = .ok (.getfield 21, 3) := by decide +kernel
theorem dX1_become_65 : decode cX1_become 65 = .ok (.iconst 0, 1) := by decide +kernel
theorem dX1_become_66 : decode cX1_become 66 = .ok (.aload_n 0, 1) := by decide +kernel
theorem dX1_become_67 : decode cX1_become 67 = .ok (.getfield 21, 3) := by decide +kernel
theorem dX1_become_70 : decode cX1_become 70 = .ok (.iconst 0, 1) := by decide +kernel
theorem dX1_become_71 : decode cX1_become 71 = .ok (.bipush 6, 2) := by decide +kernel
theorem dX1_become_73 : decode cX1_become 73 = .ok (.invokestatic 50, 3) := by decide +kernel
theorem dX1_become_76 : decode cX1_become 76 = .ok (.aload_n 1, 1) := by decide +kernel
theorem dX1_become_77 : decode cX1_become 77 = .ok (.getfield 24, 3) := by decide +kernel
theorem dX1_become_80 : decode cX1_become 80 = .ok (.iconst 0, 1) := by decide +kernel
theorem dX1_become_81 : decode cX1_become 81 = .ok (.aload_n 0, 1) := by decide +kernel
theorem dX1_become_82 : decode cX1_become 82 = .ok (.getfield 24, 3) := by decide +kernel
theorem dX1_become_85 : decode cX1_become 85 = .ok (.iconst 0, 1) := by decide +kernel
theorem dX1_become_86 : decode cX1_become 86 = .ok (.bipush 6, 2) := by decide +kernel
theorem dX1_become_88 : decode cX1_become 88 = .ok (.invokestatic 50, 3) := by decide +kernel
theorem dX1_become_91 : decode cX1_become 91 = .ok (.aload_n 1, 1) := by decide +kernel
theorem dX1_become_92 : decode cX1_become 92 = .ok (.getfield 27, 3) := by decide +kernel
theorem dX1_become_95 : decode cX1_become 95 = .ok (.iconst 0, 1) := by decide +kernel
theorem dX1_become_96 : decode cX1_become 96 = .ok (.aload_n 0, 1) := by decide +kernel
theorem dX1_become_97 : decode cX1_become 97 = .ok (.getfield 27, 3) := by decide +kernel
theorem dX1_become_100 : decode cX1_become 100 = .ok (.iconst 0, 1) := by decide +kernel
theorem dX1_become_101 : decode cX1_become 101 = .ok (.bipush 14, 2) := by decide +kernel
theorem dX1_become_103 : decode cX1_become 103 = .ok (.invokestatic 50, 3) := by decide +kernel
theorem dX1_become_106 : decode cX1_become 106 = .ok (.return_, 1) := by decide +kernel
theorem dX1_freeHands_0 : decode cX1_freeHands 0 = .ok (.aload_n 0, 1) := by decide +kernel
theorem dX1_freeHands_1 : decode cX1_freeHands 1 = .ok (.getfield 30, 3) := by decide +kernel
theorem dX1_freeHands_4 : decode cX1_freeHands 4 = .ok (.getfield 56, 3) := by decide +kernel
theorem dX1_freeHands_7 : decode cX1_freeHands 7 = .ok (.iload_n 1, 1) := by decide +kernel
theorem dX1_freeHands_8 : decode cX1_freeHands 8 = .ok (.iaload, 1) := by decide +kernel
theorem dX1_freeHands_9 : decode cX1_freeHands 9 = .ok (.aload_n 0, 1) := by decide +kernel
theorem dX1_freeHands_10 : decode cX1_freeHands 10 = .ok (.getfield 9, 3) := by decide +kernel
theorem dX1_freeHands_13 : decode cX1_freeHands 13 = .ok (.iload_n 1, 1) := by decide +kernel
theorem dX1_freeHands_14 : decode cX1_freeHands 14 = .ok (.iaload, 1) := by decide +kernel
theorem dX1_freeHands_15 : decode cX1_freeHands 15 = .ok (.invokestatic 61, 3) := by decide +kernel
theorem dX1_freeHands_18 : decode cX1_freeHands 18 = .ok (.isub, 1) := by decide +kernel
theorem dX1_freeHands_19 : decode cX1_freeHands 19 = .ok (.ireturn, 1) := by decide +kernel
theorem dX1_holds_0 : decode cX1_holds 0 = .ok (.aload_n 0, 1) := by decide +kernel
theorem dX1_holds_1 : decode cX1_holds 1 = .ok (.getfield 9, 3) := by decide +kernel
theorem dX1_holds_4 : decode cX1_holds 4 = .ok (.iload_n 1, 1) := by decide +kernel
theorem dX1_holds_5 : decode cX1_holds 5 = .ok (.iaload, 1) := by decide +kernel
theorem dX1_holds_6 : decode cX1_holds 6 = .ok (.iload_n 2, 1) := by decide +kernel
theorem dX1_holds_7 : decode cX1_holds 7 = .ok (.ishr, 1) := by decide +kernel
theorem dX1_holds_8 : decode cX1_holds 8 = .ok (.iconst 1, 1) := by decide +kernel
theorem dX1_holds_9 : decode cX1_holds 9 = .ok (.iand, 1) := by decide +kernel
theorem dX1_holds_10 : decode cX1_holds 10 = .ok (.iconst 1, 1) := by decide +kernel
theorem dX1_holds_11 : decode cX1_holds 11 = .ok (.if_icmp .ne 7, 3) := by decide +kernel
theorem dX1_holds_14 : decode cX1_holds 14 = .ok (.iconst 1, 1) := by decide +kernel
theorem dX1_holds_15 : decode cX1_holds 15 = .ok (.goto 4, 3) := by decide +kernel
theorem dX1_holds_18 : decode cX1_holds 18 = .ok (.iconst 0, 1) := by decide +kernel
theorem dX1_holds_19 : decode cX1_holds 19 = .ok (.ireturn, 1) := by decide +kernel
theorem dX1_mayHold_0 : decode cX1_mayHold 0 = .ok (.aload_n 0, 1) := by decide +kernel
theorem dX1_mayHold_1 : decode cX1_mayHold 1 = .ok (.getfield 30, 3) := by decide +kernel
theorem dX1_mayHold_4 : decode cX1_mayHold 4 = .ok (.iload_n 1, 1) := by decide +kernel
theorem dX1_mayHold_5 : decode cX1_mayHold 5 = .ok (.invokevirtual 67, 3) := by decide +kernel
theorem dX1_mayHold_8 : decode cX1_mayHold 8 = .ok (.aload_n 0, 1) := by decide +kernel
theorem dX1_mayHold_9 : decode cX1_mayHold 9 = .ok (.getfield 30, 3) := by decide +kernel
theorem dX1_mayHold_12 : decode cX1_mayHold 12 = .ok (.iload_n 2, 1) := by decide +kernel
theorem dX1_mayHold_13 : decode cX1_mayHold 13 = .ok (.invokevirtual 67, 3) := by decide +kernel
theorem dX1_mayHold_16 : decode cX1_mayHold 16 = .ok (.if_icmp .eq 32, 3) := by decide +kernel
theorem dX1_mayHold_19 : decode cX1_mayHold 19 = .ok (.aload_n 0, 1) := by decide +kernel
theorem dX1_mayHold_20 : decode cX1_mayHold 20 = .ok (.iload_n 1, 1) := by decide +kernel
theorem dX1_mayHold_21 : decode cX1_mayHold 21 = .ok (.iload_n 2, 1) := by decide +kernel
theorem dX1_mayHold_22 : decode cX1_mayHold 22 = .ok (.invokevirtual 70, 3) := by decide +kernel
theorem dX1_mayHold_25 : decode cX1_mayHold 25 = .ok (.ifCond .ne 23, 3) := by decide +kernel
theorem dX1_mayHold_28 : decode cX1_mayHold 28 = .ok (.aload_n 0, 1) := by decide +kernel
theorem dX1_mayHold_29 : decode cX1_mayHold 29 = .ok (.iload_n 1, 1) := by decide +kernel
theorem dX1_mayHold_30 : decode cX1_mayHold 30 = .ok (.invokevirtual 74, 3) := by decide +kernel
theorem dX1_mayHold_33 : decode cX1_mayHold 33 = .ok (.ifCond .le 15, 3) := by decide +kernel
theorem dX1_mayHold_36 : decode cX1_mayHold 36 = .ok (.aload_n 0, 1) := by decide +kernel
theorem dX1_mayHold_37 : decode cX1_mayHold 37 = .ok (.iload_n 2, 1) := by decide +kernel
theorem dX1_mayHold_38 : decode cX1_mayHold 38 = .ok (.invokevirtual 74, 3) := by decide +kernel
theorem dX1_mayHold_41 : decode cX1_mayHold 41 = .ok (.ifCond .le 7, 3) := by decide +kernel
theorem dX1_mayHold_44 : decode cX1_mayHold 44 = .ok (.iconst 1, 1) := by decide +kernel
theorem dX1_mayHold_45 : decode cX1_mayHold 45 = .ok (.goto 4, 3) := by decide +kernel
theorem dX1_mayHold_48 : decode cX1_mayHold 48 = .ok (.iconst 0, 1) := by decide +kernel
theorem dX1_mayHold_49 : decode cX1_mayHold 49 = .ok (.ireturn, 1) := by decide +kernel
theorem dX1_join_0 : decode cX1_join 0 = .ok (.aload_n 0, 1) := by decide +kernel
theorem dX1_join_1 : decode cX1_join 1 = .ok (.getfield 9, 3) := by decide +kernel
theorem dX1_join_4 : decode cX1_join 4 = .ok (.iload_n 1, 1) := by decide +kernel
theorem dX1_join_5 : decode cX1_join 5 = .ok (.dup2, 1) := by decide +kernel
theorem dX1_join_6 : decode cX1_join 6 = .ok (.iaload, 1) := by decide +kernel
theorem dX1_join_7 : decode cX1_join 7 = .ok (.iconst 1, 1) := by decide +kernel
theorem dX1_join_8 : decode cX1_join 8 = .ok (.iload_n 2, 1) := by decide +kernel
theorem dX1_join_9 : decode cX1_join 9 = .ok (.ishl, 1) := by decide +kernel
theorem dX1_join_10 : decode cX1_join 10 = .ok (.ior, 1) := by decide +kernel
theorem dX1_join_11 : decode cX1_join 11 = .ok (.iastore, 1) := by decide +kernel
theorem dX1_join_12 : decode cX1_join 12 = .ok (.aload_n 0, 1) := by decide +kernel
theorem dX1_join_13 : decode cX1_join 13 = .ok (.getfield 9, 3) := by decide +kernel
theorem dX1_join_16 : decode cX1_join 16 = .ok (.iload_n 2, 1) := by decide +kernel
theorem dX1_join_17 : decode cX1_join 17 = .ok (.dup2, 1) := by decide +kernel
theorem dX1_join_18 : decode cX1_join 18 = .ok (.iaload, 1) := by decide +kernel
theorem dX1_join_19 : decode cX1_join 19 = .ok (.iconst 1, 1) := by decide +kernel
theorem dX1_join_20 : decode cX1_join 20 = .ok (.iload_n 1, 1) := by decide +kernel
theorem dX1_join_21 : decode cX1_join 21 = .ok (.ishl, 1) := by decide +kernel
theorem dX1_join_22 : decode cX1_join 22 = .ok (.ior, 1) := by decide +kernel
theorem dX1_join_23 : decode cX1_join 23 = .ok (.iastore, 1) := by decide +kernel
theorem dX1_join_24 : decode cX1_join 24 = .ok (.return_, 1) := by decide +kernel
theorem dX1_part_0 : decode cX1_part 0 = .ok (.aload_n 0, 1) := by decide +kernel
theorem dX1_part_1 : decode cX1_part 1 = .ok (.getfield 9, 3) := by decide +kernel
theorem dX1_part_4 : decode cX1_part 4 = .ok (.iload_n 1, 1) := by decide +kernel
theorem dX1_part_5 : decode cX1_part 5 = .ok (.dup2, 1) := by decide +kernel
theorem dX1_part_6 : decode cX1_part 6 = .ok (.iaload, 1) := by decide +kernel
theorem dX1_part_7 : decode cX1_part 7 = .ok (.iconst 1, 1) := by decide +kernel
theorem dX1_part_8 : decode cX1_part 8 = .ok (.iload_n 2, 1) := by decide +kernel
theorem dX1_part_9 : decode cX1_part 9 = .ok (.ishl, 1) := by decide +kernel
theorem dX1_part_10 : decode cX1_part 10 = .ok (.iconst (-1), 1) := by decide +kernel
theorem dX1_part_11 : decode cX1_part 11 = .ok (.ixor, 1) := by decide +kernel
theorem dX1_part_12 : decode cX1_part 12 = .ok (.iand, 1) := by decide +kernel
theorem dX1_part_13 : decode cX1_part 13 = .ok (.iastore, 1) := by decide +kernel
theorem dX1_part_14 : decode cX1_part 14 = .ok (.aload_n 0, 1) := by decide +kernel
theorem dX1_part_15 : decode cX1_part 15 = .ok (.getfield 9, 3) := by decide +kernel
theorem dX1_part_18 : decode cX1_part 18 = .ok (.iload_n 2, 1) := by decide +kernel
theorem dX1_part_19 : decode cX1_part 19 = .ok (.dup2, 1) := by decide +kernel
theorem dX1_part_20 : decode cX1_part 20 = .ok (.iaload, 1) := by decide +kernel
theorem dX1_part_21 : decode cX1_part 21 = .ok (.iconst 1, 1) := by decide +kernel
theorem dX1_part_22 : decode cX1_part 22 = .ok (.iload_n 1, 1) := by decide +kernel
theorem dX1_part_23 : decode cX1_part 23 = .ok (.ishl, 1) := by decide +kernel
theorem dX1_part_24 : decode cX1_part 24 = .ok (.iconst (-1), 1) := by decide +kernel
theorem dX1_part_25 : decode cX1_part 25 = .ok (.ixor, 1) := by decide +kernel
theorem dX1_part_26 : decode cX1_part 26 = .ok (.iand, 1) := by decide +kernel
theorem dX1_part_27 : decode cX1_part 27 = .ok (.iastore, 1) := by decide +kernel
theorem dX1_part_28 : decode cX1_part 28 = .ok (.return_, 1) := by decide +kernel
theorem dX1_isSold_0 : decode cX1_isSold 0 = .ok (.aload_n 0, 1) := by decide +kernel
theorem dX1_isSold_1 : decode cX1_isSold 1 = .ok (.getfield 21, 3) := by decide +kernel
theorem dX1_isSold_4 : decode cX1_isSold 4 = .ok (.iload_n 1, 1) := by decide +kernel
theorem dX1_isSold_5 : decode cX1_isSold 5 = .ok (.iaload, 1) := by decide +kernel
theorem dX1_isSold_6 : decode cX1_isSold 6 = .ok (.iconst (-1), 1) := by decide +kernel
theorem dX1_isSold_7 : decode cX1_isSold 7 = .ok (.if_icmp .eq 7, 3) := by decide +kernel
theorem dX1_isSold_10 : decode cX1_isSold 10 = .ok (.iconst 1, 1) := by decide +kernel
theorem dX1_isSold_11 : decode cX1_isSold 11 = .ok (.goto 4, 3) := by decide +kernel
theorem dX1_isSold_14 : decode cX1_isSold 14 = .ok (.iconst 0, 1) := by decide +kernel
theorem dX1_isSold_15 : decode cX1_isSold 15 = .ok (.ireturn, 1) := by decide +kernel
theorem dX1_soldLots_0 : decode cX1_soldLots 0 = .ok (.iconst 0, 1) := by decide +kernel
theorem dX1_soldLots_1 : decode cX1_soldLots 1 = .ok (.istore_n 1, 1) := by decide +kernel
theorem dX1_soldLots_2 : decode cX1_soldLots 2 = .ok (.iconst 0, 1) := by decide +kernel
theorem dX1_soldLots_3 : decode cX1_soldLots 3 = .ok (.istore_n 2, 1) := by decide +kernel
theorem dX1_soldLots_4 : decode cX1_soldLots 4 = .ok (.iload_n 2, 1) := by decide +kernel
theorem dX1_soldLots_5 : decode cX1_soldLots 5 = .ok (.aload_n 0, 1) := by decide +kernel
theorem dX1_soldLots_6 : decode cX1_soldLots 6 = .ok (.getfield 30, 3) := by decide +kernel
theorem dX1_soldLots_9 : decode cX1_soldLots 9 = .ok (.getfield 77, 3) := by decide +kernel
theorem dX1_soldLots_12 : decode cX1_soldLots 12 = .ok (.if_icmp .ge 27, 3) := by decide +kernel
theorem dX1_soldLots_15 : decode cX1_soldLots 15 = .ok (.iload_n 1, 1) := by decide +kernel
theorem dX1_soldLots_16 : decode cX1_soldLots 16 = .ok (.aload_n 0, 1) := by decide +kernel
theorem dX1_soldLots_17 : decode cX1_soldLots 17 = .ok (.iload_n 2, 1) := by decide +kernel
theorem dX1_soldLots_18 : decode cX1_soldLots 18 = .ok (.invokevirtual 80, 3) := by decide +kernel
theorem dX1_soldLots_21 : decode cX1_soldLots 21 = .ok (.ifCond .eq 9, 3) := by decide +kernel
theorem dX1_soldLots_24 : decode cX1_soldLots 24 = .ok (.iconst 1, 1) := by decide +kernel
theorem dX1_soldLots_25 : decode cX1_soldLots 25 = .ok (.iload_n 2, 1) := by decide +kernel
theorem dX1_soldLots_26 : decode cX1_soldLots 26 = .ok (.ishl, 1) := by decide +kernel
theorem dX1_soldLots_27 : decode cX1_soldLots 27 = .ok (.goto 4, 3) := by decide +kernel
theorem dX1_soldLots_30 : decode cX1_soldLots 30 = .ok (.iconst 0, 1) := by decide +kernel
theorem dX1_soldLots_31 : decode cX1_soldLots 31 = .ok (.ior, 1) := by decide +kernel
theorem dX1_soldLots_32 : decode cX1_soldLots 32 = .ok (.istore_n 1, 1) := by decide +kernel
theorem dX1_soldLots_33 : decode cX1_soldLots 33 = .ok (.iinc 2 1, 3) := by decide +kernel
theorem dX1_soldLots_36 : decode cX1_soldLots 36 = .ok (.goto (-32), 3) := by decide +kernel
theorem dX1_soldLots_39 : decode cX1_soldLots 39 = .ok (.iload_n 1, 1) := by decide +kernel
theorem dX1_soldLots_40 : decode cX1_soldLots 40 = .ok (.ireturn, 1) := by decide +kernel
theorem dX1_isBound_0 : decode cX1_isBound 0 = .ok (.iload_n 1, 1) := by decide +kernel
theorem dX1_isBound_1 : decode cX1_isBound 1 = .ok (.bipush 6, 2) := by decide +kernel
theorem dX1_isBound_3 : decode cX1_isBound 3 = .ok (.imul, 1) := by decide +kernel
theorem dX1_isBound_4 : decode cX1_isBound 4 = .ok (.iload_n 2, 1) := by decide +kernel
theorem dX1_isBound_5 : decode cX1_isBound 5 = .ok (.iadd, 1) := by decide +kernel
theorem dX1_isBound_6 : decode cX1_isBound 6 = .ok (.istore_n 3, 1) := by decide +kernel
theorem dX1_isBound_7 : decode cX1_isBound 7 = .ok (.aload_n 0, 1) := by decide +kernel
theorem dX1_isBound_8 : decode cX1_isBound 8 = .ok (.getfield 15, 3) := by decide +kernel
theorem dX1_isBound_11 : decode cX1_isBound 11 = .ok (.iload_n 3, 1) := by decide +kernel
theorem dX1_isBound_12 : decode cX1_isBound 12 = .ok (.iaload, 1) := by decide +kernel
theorem dX1_isBound_13 : decode cX1_isBound 13 = .ok (.ifCond .le 20, 3) := by decide +kernel
theorem dX1_isBound_16 : decode cX1_isBound 16 = .ok (.aload_n 0, 1) := by decide +kernel
theorem dX1_isBound_17 : decode cX1_isBound 17 = .ok (.getfield 37, 3) := by decide +kernel
theorem dX1_isBound_20 : decode cX1_isBound 20 = .ok (.aload_n 0, 1) := by decide +kernel
theorem dX1_isBound_21 : decode cX1_isBound 21 = .ok (.getfield 18, 3) := by decide +kernel
theorem dX1_isBound_24 : decode cX1_isBound 24 = .ok (.iload_n 3, 1) := by decide +kernel
theorem dX1_isBound_25 : decode cX1_isBound 25 = .ok (.iaload, 1) := by decide +kernel
theorem dX1_isBound_26 : decode cX1_isBound 26 = .ok (.if_icmp .ge 7, 3) := by decide +kernel
theorem dX1_isBound_29 : decode cX1_isBound 29 = .ok (.iconst 1, 1) := by decide +kernel
theorem dX1_isBound_30 : decode cX1_isBound 30 = .ok (.goto 4, 3) := by decide +kernel
theorem dX1_isBound_33 : decode cX1_isBound 33 = .ok (.iconst 0, 1) := by decide +kernel
theorem dX1_isBound_34 : decode cX1_isBound 34 = .ok (.ireturn, 1) := by decide +kernel
theorem dX1_maySpeak_0 : decode cX1_maySpeak 0 = .ok (.aload_n 0, 1) := by decide +kernel
theorem dX1_maySpeak_1 : decode cX1_maySpeak 1 = .ok (.iload_n 3, 1) := by decide +kernel
theorem dX1_maySpeak_2 : decode cX1_maySpeak 2 = .ok (.invokevirtual 80, 3) := by decide +kernel
theorem dX1_maySpeak_5 : decode cX1_maySpeak 5 = .ok (.ifCond .ne 22, 3) := by decide +kernel
theorem dX1_maySpeak_8 : decode cX1_maySpeak 8 = .ok (.aload_n 0, 1) := by decide +kernel
theorem dX1_maySpeak_9 : decode cX1_maySpeak 9 = .ok (.iload_n 1, 1) := by decide +kernel
theorem dX1_maySpeak_10 : decode cX1_maySpeak 10 = .ok (.iload_n 2, 1) := by decide +kernel
theorem dX1_maySpeak_11 : decode cX1_maySpeak 11 = .ok (.invokevirtual 70, 3) := by decide +kernel
theorem dX1_maySpeak_14 : decode cX1_maySpeak 14 = .ok (.ifCond .eq 13, 3) := by decide +kernel
theorem dX1_maySpeak_17 : decode cX1_maySpeak 17 = .ok (.aload_n 0, 1) := by decide +kernel
theorem dX1_maySpeak_18 : decode cX1_maySpeak 18 = .ok (.iload_n 1, 1) := by decide +kernel
theorem dX1_maySpeak_19 : decode cX1_maySpeak 19 = .ok (.iload 4, 2) := by decide +kernel
theorem dX1_maySpeak_21 : decode cX1_maySpeak 21 = .ok (.invokevirtual 84, 3) := by decide +kernel
theorem dX1_maySpeak_24 : decode cX1_maySpeak 24 = .ok (.ifCond .ne 5, 3) := by decide +kernel
theorem dX1_maySpeak_27 : decode cX1_maySpeak 27 = .ok (.iconst 0, 1) := by decide +kernel
theorem dX1_maySpeak_28 : decode cX1_maySpeak 28 = .ok (.ireturn, 1) := by decide +kernel
theorem dX1_maySpeak_29 : decode cX1_maySpeak 29 = .ok (.aload_n 0, 1) := by decide +kernel
theorem dX1_maySpeak_30 : decode cX1_maySpeak 30 = .ok (.getfield 30, 3) := by decide +kernel
theorem dX1_maySpeak_33 : decode cX1_maySpeak 33 = .ok (.iload 4, 2) := by decide +kernel
theorem dX1_maySpeak_35 : decode cX1_maySpeak 35 = .ok (.invokevirtual 67, 3) := by decide +kernel
theorem dX1_maySpeak_38 : decode cX1_maySpeak 38 = .ok (.ifCond .ne 15, 3) := by decide +kernel
theorem dX1_maySpeak_41 : decode cX1_maySpeak 41 = .ok (.iload_n 3, 1) := by decide +kernel
theorem dX1_maySpeak_42 : decode cX1_maySpeak 42 = .ok (.iload 4, 2) := by decide +kernel
theorem dX1_maySpeak_44 : decode cX1_maySpeak 44 = .ok (.if_icmp .ne 7, 3) := by decide +kernel
theorem dX1_maySpeak_47 : decode cX1_maySpeak 47 = .ok (.iconst 1, 1) := by decide +kernel
theorem dX1_maySpeak_48 : decode cX1_maySpeak 48 = .ok (.goto 4, 3) := by decide +kernel
theorem dX1_maySpeak_51 : decode cX1_maySpeak 51 = .ok (.iconst 0, 1) := by decide +kernel
theorem dX1_maySpeak_52 : decode cX1_maySpeak 52 = .ok (.ireturn, 1) := by decide +kernel
theorem dX1_maySpeak_53 : decode cX1_maySpeak 53 = .ok (.aload_n 0, 1) := by decide +kernel
theorem dX1_maySpeak_54 : decode cX1_maySpeak 54 = .ok (.getfield 30, 3) := by decide +kernel
theorem dX1_maySpeak_57 : decode cX1_maySpeak 57 = .ok (.iload_n 2, 1) := by decide +kernel
theorem dX1_maySpeak_58 : decode cX1_maySpeak 58 = .ok (.invokevirtual 67, 3) := by decide +kernel
theorem dX1_maySpeak_61 : decode cX1_maySpeak 61 = .ok (.ifCond .ne 8, 3) := by decide +kernel
theorem dX1_maySpeak_64 : decode cX1_maySpeak 64 = .ok (.iload_n 3, 1) := by decide +kernel
theorem dX1_maySpeak_65 : decode cX1_maySpeak 65 = .ok (.iload_n 2, 1) := by decide +kernel
theorem dX1_maySpeak_66 : decode cX1_maySpeak 66 = .ok (.if_icmp .ne 7, 3) := by decide +kernel
theorem dX1_maySpeak_69 : decode cX1_maySpeak 69 = .ok (.iconst 1, 1) := by decide +kernel
theorem dX1_maySpeak_70 : decode cX1_maySpeak 70 = .ok (.goto 4, 3) := by decide +kernel
theorem dX1_maySpeak_73 : decode cX1_maySpeak 73 = .ok (.iconst 0, 1) := by decide +kernel
theorem dX1_maySpeak_74 : decode cX1_maySpeak 74 = .ok (.ireturn, 1) := by decide +kernel
theorem dX1_maySpeakFor_0 : decode cX1_maySpeakFor 0 = .ok (.aload_n 0, 1) := by decide +kernel
theorem dX1_maySpeakFor_1 : decode cX1_maySpeakFor 1 = .ok (.getfield 30, 3) := by decide +kernel
theorem dX1_maySpeakFor_4 : decode cX1_maySpeakFor 4 = .ok (.iload_n 1, 1) := by decide +kernel
theorem dX1_maySpeakFor_5 : decode cX1_maySpeakFor 5 = .ok (.invokevirtual 67, 3) := by decide +kernel
theorem dX1_maySpeakFor_8 : decode cX1_maySpeakFor 8 = .ok (.iconst 2, 1) := by decide +kernel
theorem dX1_maySpeakFor_9 : decode cX1_maySpeakFor 9 = .ok (.if_icmp .ne 23, 3) := by decide +kernel
theorem dX1_maySpeakFor_12 : decode cX1_maySpeakFor 12 = .ok (.iload_n 1, 1) := by decide +kernel
theorem dX1_maySpeakFor_13 : decode cX1_maySpeakFor 13 = .ok (.iload_n 2, 1) := by decide +kernel
theorem dX1_maySpeakFor_14 : decode cX1_maySpeakFor 14 = .ok (.if_icmp .eq 16, 3) := by decide +kernel
theorem dX1_maySpeakFor_17 : decode cX1_maySpeakFor 17 = .ok (.aload_n 0, 1) := by decide +kernel
theorem dX1_maySpeakFor_18 : decode cX1_maySpeakFor 18 = .ok (.iload_n 1, 1) := by decide +kernel
theorem dX1_maySpeakFor_19 : decode cX1_maySpeakFor 19 = .ok (.iload_n 2, 1) := by decide +kernel
theorem dX1_maySpeakFor_20 : decode cX1_maySpeakFor 20 = .ok (.invokevirtual 70, 3) := by decide +kernel
theorem dX1_maySpeakFor_23 : decode cX1_maySpeakFor 23 = .ok (.ifCond .eq 7, 3) := by decide +kernel
theorem dX1_maySpeakFor_26 : decode cX1_maySpeakFor 26 = .ok (.iconst 1, 1) := by decide +kernel
theorem dX1_maySpeakFor_27 : decode cX1_maySpeakFor 27 = .ok (.goto 4, 3) := by decide +kernel
theorem dX1_maySpeakFor_30 : decode cX1_maySpeakFor 30 = .ok (.iconst 0, 1) := by decide +kernel
theorem dX1_maySpeakFor_31 : decode cX1_maySpeakFor 31 = .ok (.ireturn, 1) := by decide +kernel
theorem dX1_maySpeakFor_32 : decode cX1_maySpeakFor 32 = .ok (.iload_n 1, 1) := by decide +kernel
theorem dX1_maySpeakFor_33 : decode cX1_maySpeakFor 33 = .ok (.iload_n 2, 1) := by decide +kernel
theorem dX1_maySpeakFor_34 : decode cX1_maySpeakFor 34 = .ok (.if_icmp .ne 7, 3) := by decide +kernel
theorem dX1_maySpeakFor_37 : decode cX1_maySpeakFor 37 = .ok (.iconst 1, 1) := by decide +kernel
theorem dX1_maySpeakFor_38 : decode cX1_maySpeakFor 38 = .ok (.goto 4, 3) := by decide +kernel
theorem dX1_maySpeakFor_41 : decode cX1_maySpeakFor 41 = .ok (.iconst 0, 1) := by decide +kernel
theorem dX1_maySpeakFor_42 : decode cX1_maySpeakFor 42 = .ok (.ireturn, 1) := by decide +kernel
theorem dX1_mayBind_0 : decode cX1_mayBind 0 = .ok (.aload_n 0, 1) := by decide +kernel
theorem dX1_mayBind_1 : decode cX1_mayBind 1 = .ok (.iload_n 2, 1) := by decide +kernel
theorem dX1_mayBind_2 : decode cX1_mayBind 2 = .ok (.invokevirtual 80, 3) := by decide +kernel
theorem dX1_mayBind_5 : decode cX1_mayBind 5 = .ok (.ifCond .ne 12, 3) := by decide +kernel
theorem dX1_mayBind_8 : decode cX1_mayBind 8 = .ok (.aload_n 0, 1) := by decide +kernel
theorem dX1_mayBind_9 : decode cX1_mayBind 9 = .ok (.iload_n 1, 1) := by decide +kernel
theorem dX1_mayBind_10 : decode cX1_mayBind 10 = .ok (.iload_n 2, 1) := by decide +kernel
theorem dX1_mayBind_11 : decode cX1_mayBind 11 = .ok (.invokevirtual 87, 3) := by decide +kernel
theorem dX1_mayBind_14 : decode cX1_mayBind 14 = .ok (.ifCond .eq 5, 3) := by decide +kernel
theorem dX1_mayBind_17 : decode cX1_mayBind 17 = .ok (.iconst 0, 1) := by decide +kernel
theorem dX1_mayBind_18 : decode cX1_mayBind 18 = .ok (.ireturn, 1) := by decide +kernel
theorem dX1_mayBind_19 : decode cX1_mayBind 19 = .ok (.aload_n 0, 1) := by decide +kernel
theorem dX1_mayBind_20 : decode cX1_mayBind 20 = .ok (.getfield 30, 3) := by decide +kernel
theorem dX1_mayBind_23 : decode cX1_mayBind 23 = .ok (.iload_n 1, 1) := by decide +kernel
theorem dX1_mayBind_24 : decode cX1_mayBind 24 = .ok (.invokevirtual 67, 3) := by decide +kernel
theorem dX1_mayBind_27 : decode cX1_mayBind 27 = .ok (.iconst 1, 1) := by decide +kernel
theorem dX1_mayBind_28 : decode cX1_mayBind 28 = .ok (.if_icmp .ne 13, 3) := by decide +kernel
theorem dX1_mayBind_31 : decode cX1_mayBind 31 = .ok (.iload_n 3, 1) := by decide +kernel
theorem dX1_mayBind_32 : decode cX1_mayBind 32 = .ok (.aload_n 0, 1) := by decide +kernel
theorem dX1_mayBind_33 : decode cX1_mayBind 33 = .ok (.iload_n 1, 1) := by decide +kernel
theorem dX1_mayBind_34 : decode cX1_mayBind 34 = .ok (.iload_n 2, 1) := by decide +kernel
theorem dX1_mayBind_35 : decode cX1_mayBind 35 = .ok (.invokevirtual 90, 3) := by decide +kernel
theorem dX1_mayBind_38 : decode cX1_mayBind 38 = .ok (.if_icmp .gt 7, 3) := by decide +kernel
theorem dX1_mayBind_41 : decode cX1_mayBind 41 = .ok (.iconst 1, 1) := by decide +kernel
theorem dX1_mayBind_42 : decode cX1_mayBind 42 = .ok (.goto 4, 3) := by decide +kernel
theorem dX1_mayBind_45 : decode cX1_mayBind 45 = .ok (.iconst 0, 1) := by decide +kernel
theorem dX1_mayBind_46 : decode cX1_mayBind 46 = .ok (.ireturn, 1) := by decide +kernel
theorem dX1_leftInPurse_0 : decode cX1_leftInPurse 0 = .ok (.aload_n 0, 1) := by decide +kernel
theorem dX1_leftInPurse_1 : decode cX1_leftInPurse 1 = .ok (.getfield 30, 3) := by decide +kernel
theorem dX1_leftInPurse_4 : decode cX1_leftInPurse 4 = .ok (.getfield 94, 3) := by decide +kernel
theorem dX1_leftInPurse_7 : decode cX1_leftInPurse 7 = .ok (.iload_n 1, 1) := by decide +kernel
theorem dX1_leftInPurse_8 : decode cX1_leftInPurse 8 = .ok (.iaload, 1) := by decide +kernel
theorem dX1_leftInPurse_9 : decode cX1_leftInPurse 9 = .ok (.aload_n 0, 1) := by decide +kernel
theorem dX1_leftInPurse_10 : decode cX1_leftInPurse 10 = .ok (.getfield 27, 3) := by decide +kernel
theorem dX1_leftInPurse_13 : decode cX1_leftInPurse 13 = .ok (.iload_n 1, 1) := by decide +kernel
theorem dX1_leftInPurse_14 : decode cX1_leftInPurse 14 = .ok (.iaload, 1) := by decide +kernel
theorem dX1_leftInPurse_15 : decode cX1_leftInPurse 15 = .ok (.isub, 1) := by decide +kernel
theorem dX1_leftInPurse_16 : decode cX1_leftInPurse 16 = .ok (.istore_n 3, 1) := by decide +kernel
theorem dX1_leftInPurse_17 : decode cX1_leftInPurse 17 = .ok (.iconst 0, 1) := by decide +kernel
theorem dX1_leftInPurse_18 : decode cX1_leftInPurse 18 = .ok (.istore 4, 2) := by decide +kernel
theorem dX1_leftInPurse_20 : decode cX1_leftInPurse 20 = .ok (.iload 4, 2) := by decide +kernel
theorem dX1_leftInPurse_22 : decode cX1_leftInPurse 22 = .ok (.aload_n 0, 1) := by decide +kernel
theorem dX1_leftInPurse_23 : decode cX1_leftInPurse 23 = .ok (.getfield 30, 3) := by decide +kernel
theorem dX1_leftInPurse_26 : decode cX1_leftInPurse 26 = .ok (.getfield 77, 3) := by decide +kernel
theorem dX1_leftInPurse_29 : decode cX1_leftInPurse 29 = .ok (.if_icmp .ge 40, 3) := by decide +kernel
theorem dX1_leftInPurse_32 : decode cX1_leftInPurse 32 = .ok (.iload 4, 2) := by decide +kernel
theorem dX1_leftInPurse_34 : decode cX1_leftInPurse 34 = .ok (.iload_n 2, 1) := by decide +kernel
theorem dX1_leftInPurse_35 : decode cX1_leftInPurse 35 = .ok (.if_icmp .eq 28, 3) := by decide +kernel
theorem dX1_leftInPurse_38 : decode cX1_leftInPurse 38 = .ok (.aload_n 0, 1) := by decide +kernel
theorem dX1_leftInPurse_39 : decode cX1_leftInPurse 39 = .ok (.iload_n 1, 1) := by decide +kernel
theorem dX1_leftInPurse_40 : decode cX1_leftInPurse 40 = .ok (.iload 4, 2) := by decide +kernel
theorem dX1_leftInPurse_42 : decode cX1_leftInPurse 42 = .ok (.invokevirtual 87, 3) := by decide +kernel
theorem dX1_leftInPurse_45 : decode cX1_leftInPurse 45 = .ok (.ifCond .eq 18, 3) := by decide +kernel
theorem dX1_leftInPurse_48 : decode cX1_leftInPurse 48 = .ok (.iload_n 3, 1) := by decide +kernel
theorem dX1_leftInPurse_49 : decode cX1_leftInPurse 49 = .ok (.aload_n 0, 1) := by decide +kernel
theorem dX1_leftInPurse_50 : decode cX1_leftInPurse 50 = .ok (.getfield 15, 3) := by decide +kernel
theorem dX1_leftInPurse_53 : decode cX1_leftInPurse 53 = .ok (.iload_n 1, 1) := by decide +kernel
theorem dX1_leftInPurse_54 : decode cX1_leftInPurse 54 = .ok (.bipush 6, 2) := by decide +kernel
theorem dX1_leftInPurse_56 : decode cX1_leftInPurse 56 = .ok (.imul, 1) := by decide +kernel
theorem dX1_leftInPurse_57 : decode cX1_leftInPurse 57 = .ok (.iload 4, 2) := by decide +kernel
theorem dX1_leftInPurse_59 : decode cX1_leftInPurse 59 = .ok (.iadd, 1) := by decide +kernel
theorem dX1_leftInPurse_60 : decode cX1_leftInPurse 60 = .ok (.iaload, 1) := by decide +kernel
theorem dX1_leftInPurse_61 : decode cX1_leftInPurse 61 = .ok (.isub, 1) := by decide +kernel
theorem dX1_leftInPurse_62 : decode cX1_leftInPurse 62 = .ok (.istore_n 3, 1) := by decide +kernel
theorem dX1_leftInPurse_63 : decode cX1_leftInPurse 63 = .ok (.iinc 4 1, 3) := by decide +kernel
theorem dX1_leftInPurse_66 : decode cX1_leftInPurse 66 = .ok (.goto (-46), 3) := by decide +kernel
theorem dX1_leftInPurse_69 : decode cX1_leftInPurse 69 = .ok (.iload_n 3, 1) := by decide +kernel
theorem dX1_leftInPurse_70 : decode cX1_leftInPurse 70 = .ok (.ireturn, 1) := by decide +kernel
theorem dX1_bind_0 : decode cX1_bind 0 = .ok (.iload_n 1, 1) := by decide +kernel
theorem dX1_bind_1 : decode cX1_bind 1 = .ok (.bipush 6, 2) := by decide +kernel
theorem dX1_bind_3 : decode cX1_bind 3 = .ok (.imul, 1) := by decide +kernel
theorem dX1_bind_4 : decode cX1_bind 4 = .ok (.iload_n 2, 1) := by decide +kernel
theorem dX1_bind_5 : decode cX1_bind 5 = .ok (.iadd, 1) := by decide +kernel
theorem dX1_bind_6 : decode cX1_bind 6 = .ok (.istore 4, 2) := by decide +kernel
theorem dX1_bind_8 : decode cX1_bind 8 = .ok (.aload_n 0, 1) := by decide +kernel
theorem dX1_bind_9 : decode cX1_bind 9 = .ok (.getfield 15, 3) := by decide +kernel
theorem dX1_bind_12 : decode cX1_bind 12 = .ok (.iload 4, 2) := by decide +kernel
theorem dX1_bind_14 : decode cX1_bind 14 = .ok (.iload_n 3, 1) := by decide +kernel
theorem dX1_bind_15 : decode cX1_bind 15 = .ok (.iastore, 1) := by decide +kernel
theorem dX1_bind_16 : decode cX1_bind 16 = .ok (.aload_n 0, 1) := by decide +kernel
theorem dX1_bind_17 : decode cX1_bind 17 = .ok (.getfield 18, 3) := by decide +kernel
theorem dX1_bind_20 : decode cX1_bind 20 = .ok (.iload 4, 2) := by decide +kernel
theorem dX1_bind_22 : decode cX1_bind 22 = .ok (.aload_n 0, 1) := by decide +kernel
theorem dX1_bind_23 : decode cX1_bind 23 = .ok (.getfield 37, 3) := by decide +kernel
theorem dX1_bind_26 : decode cX1_bind 26 = .ok (.aload_n 0, 1) := by decide +kernel
theorem dX1_bind_27 : decode cX1_bind 27 = .ok (.getfield 30, 3) := by decide +kernel
theorem dX1_bind_30 : decode cX1_bind 30 = .ok (.getfield 97, 3) := by decide +kernel
theorem dX1_bind_33 : decode cX1_bind 33 = .ok (.iadd, 1) := by decide +kernel
theorem dX1_bind_34 : decode cX1_bind 34 = .ok (.iastore, 1) := by decide +kernel
theorem dX1_bind_35 : decode cX1_bind 35 = .ok (.aload_n 0, 1) := by decide +kernel
theorem dX1_bind_36 : decode cX1_bind 36 = .ok (.iload_n 2, 1) := by decide +kernel
theorem dX1_bind_37 : decode cX1_bind 37 = .ok (.invokevirtual 100, 3) := by decide +kernel
theorem dX1_bind_40 : decode cX1_bind 40 = .ok (.istore 5, 2) := by decide +kernel
theorem dX1_bind_42 : decode cX1_bind 42 = .ok (.iload 5, 2) := by decide +kernel
theorem dX1_bind_44 : decode cX1_bind 44 = .ok (.iconst (-1), 1) := by decide +kernel
theorem dX1_bind_45 : decode cX1_bind 45 = .ok (.if_icmp .eq 21, 3) := by decide +kernel
theorem dX1_bind_48 : decode cX1_bind 48 = .ok (.aload_n 0, 1) := by decide +kernel
theorem dX1_bind_49 : decode cX1_bind 49 = .ok (.iload_n 2, 1) := by decide +kernel
theorem dX1_bind_50 : decode cX1_bind 50 = .ok (.iload 5, 2) := by decide +kernel
theorem dX1_bind_52 : decode cX1_bind 52 = .ok (.aload_n 0, 1) := by decide +kernel
theorem dX1_bind_53 : decode cX1_bind 53 = .ok (.getfield 15, 3) := by decide +kernel
theorem dX1_bind_56 : decode cX1_bind 56 = .ok (.iload_n 2, 1) := by decide +kernel
theorem dX1_bind_57 : decode cX1_bind 57 = .ok (.bipush 6, 2) := by decide +kernel
theorem dX1_bind_59 : decode cX1_bind 59 = .ok (.imul, 1) := by decide +kernel
theorem dX1_bind_60 : decode cX1_bind 60 = .ok (.iload_n 2, 1) := by decide +kernel
theorem dX1_bind_61 : decode cX1_bind 61 = .ok (.iadd, 1) := by decide +kernel
theorem dX1_bind_62 : decode cX1_bind 62 = .ok (.iaload, 1) := by decide +kernel
theorem dX1_bind_63 : decode cX1_bind 63 = .ok (.invokevirtual 103, 3) := by decide +kernel
theorem dX1_bind_66 : decode cX1_bind 66 = .ok (.return_, 1) := by decide +kernel
theorem dX1_winnerOf_0 : decode cX1_winnerOf 0 = .ok (.aload_n 0, 1) := by decide +kernel
theorem dX1_winnerOf_1 : decode cX1_winnerOf 1 = .ok (.iload_n 1, 1) := by decide +kernel
theorem dX1_winnerOf_2 : decode cX1_winnerOf 2 = .ok (.iload_n 1, 1) := by decide +kernel
theorem dX1_winnerOf_3 : decode cX1_winnerOf 3 = .ok (.invokevirtual 87, 3) := by decide +kernel
theorem dX1_winnerOf_6 : decode cX1_winnerOf 6 = .ok (.ifCond .ne 5, 3) := by decide +kernel
theorem dX1_winnerOf_9 : decode cX1_winnerOf 9 = .ok (.iconst (-1), 1) := by decide +kernel
theorem dX1_winnerOf_10 : decode cX1_winnerOf 10 = .ok (.ireturn, 1) := by decide +kernel
theorem dX1_winnerOf_11 : decode cX1_winnerOf 11 = .ok (.aload_n 0, 1) := by decide +kernel
theorem dX1_winnerOf_12 : decode cX1_winnerOf 12 = .ok (.getfield 15, 3) := by decide +kernel
theorem dX1_winnerOf_15 : decode cX1_winnerOf 15 = .ok (.iload_n 1, 1) := by decide +kernel
theorem dX1_winnerOf_16 : decode cX1_winnerOf 16 = .ok (.bipush 6, 2) := by decide +kernel
theorem dX1_winnerOf_18 : decode cX1_winnerOf 18 = .ok (.imul, 1) := by decide +kernel
theorem dX1_winnerOf_19 : decode cX1_winnerOf 19 = .ok (.iload_n 1, 1) := by decide +kernel
theorem dX1_winnerOf_20 : decode cX1_winnerOf 20 = .ok (.iadd, 1) := by decide +kernel
theorem dX1_winnerOf_21 : decode cX1_winnerOf 21 = .ok (.iaload, 1) := by decide +kernel
theorem dX1_winnerOf_22 : decode cX1_winnerOf 22 = .ok (.istore_n 2, 1) := by decide +kernel
theorem dX1_winnerOf_23 : decode cX1_winnerOf 23 = .ok (.iconst 0, 1) := by decide +kernel
theorem dX1_winnerOf_24 : decode cX1_winnerOf 24 = .ok (.istore_n 3, 1) := by decide +kernel
theorem dX1_winnerOf_25 : decode cX1_winnerOf 25 = .ok (.iconst (-1), 1) := by decide +kernel
theorem dX1_winnerOf_26 : decode cX1_winnerOf 26 = .ok (.istore 4, 2) := by decide +kernel
theorem dX1_winnerOf_28 : decode cX1_winnerOf 28 = .ok (.iconst 0, 1) := by decide +kernel
theorem dX1_winnerOf_29 : decode cX1_winnerOf 29 = .ok (.istore 5, 2) := by decide +kernel
theorem dX1_winnerOf_31 : decode cX1_winnerOf 31 = .ok (.iload 5, 2) := by decide +kernel
theorem dX1_winnerOf_33 : decode cX1_winnerOf 33 = .ok (.aload_n 0, 1) := by decide +kernel
theorem dX1_winnerOf_34 : decode cX1_winnerOf 34 = .ok (.getfield 30, 3) := by decide +kernel
theorem dX1_winnerOf_37 : decode cX1_winnerOf 37 = .ok (.getfield 107, 3) := by decide +kernel
theorem dX1_winnerOf_40 : decode cX1_winnerOf 40 = .ok (.if_icmp .ge 64, 3) := by decide +kernel
theorem dX1_winnerOf_43 : decode cX1_winnerOf 43 = .ok (.aload_n 0, 1) := by decide +kernel
theorem dX1_winnerOf_44 : decode cX1_winnerOf 44 = .ok (.getfield 30, 3) := by decide +kernel
theorem dX1_winnerOf_47 : decode cX1_winnerOf 47 = .ok (.getfield 77, 3) := by decide +kernel
theorem dX1_winnerOf_50 : decode cX1_winnerOf 50 = .ok (.iload 5, 2) := by decide +kernel
theorem dX1_winnerOf_52 : decode cX1_winnerOf 52 = .ok (.iadd, 1) := by decide +kernel
theorem dX1_winnerOf_53 : decode cX1_winnerOf 53 = .ok (.istore 6, 2) := by decide +kernel
theorem dX1_winnerOf_55 : decode cX1_winnerOf 55 = .ok (.aload_n 0, 1) := by decide +kernel
theorem dX1_winnerOf_56 : decode cX1_winnerOf 56 = .ok (.getfield 15, 3) := by decide +kernel
theorem dX1_winnerOf_59 : decode cX1_winnerOf 59 = .ok (.iload 6, 2) := by decide +kernel
theorem dX1_winnerOf_61 : decode cX1_winnerOf 61 = .ok (.bipush 6, 2) := by decide +kernel
theorem dX1_winnerOf_63 : decode cX1_winnerOf 63 = .ok (.imul, 1) := by decide +kernel
theorem dX1_winnerOf_64 : decode cX1_winnerOf 64 = .ok (.iload_n 1, 1) := by decide +kernel
theorem dX1_winnerOf_65 : decode cX1_winnerOf 65 = .ok (.iadd, 1) := by decide +kernel
theorem dX1_winnerOf_66 : decode cX1_winnerOf 66 = .ok (.iaload, 1) := by decide +kernel
theorem dX1_winnerOf_67 : decode cX1_winnerOf 67 = .ok (.istore 7, 2) := by decide +kernel
theorem dX1_winnerOf_69 : decode cX1_winnerOf 69 = .ok (.aload_n 0, 1) := by decide +kernel
theorem dX1_winnerOf_70 : decode cX1_winnerOf 70 = .ok (.iload 6, 2) := by decide +kernel
theorem dX1_winnerOf_72 : decode cX1_winnerOf 72 = .ok (.iload_n 1, 1) := by decide +kernel
theorem dX1_winnerOf_73 : decode cX1_winnerOf 73 = .ok (.invokevirtual 87, 3) := by decide +kernel
theorem dX1_winnerOf_76 : decode cX1_winnerOf 76 = .ok (.ifCond .eq 22, 3) := by decide +kernel
theorem dX1_winnerOf_79 : decode cX1_winnerOf 79 = .ok (.iload 7, 2) := by decide +kernel
theorem dX1_winnerOf_81 : decode cX1_winnerOf 81 = .ok (.iload_n 2, 1) := by decide +kernel
theorem dX1_winnerOf_82 : decode cX1_winnerOf 82 = .ok (.if_icmp .lt 16, 3) := by decide +kernel
theorem dX1_winnerOf_85 : decode cX1_winnerOf 85 = .ok (.iload 7, 2) := by decide +kernel
theorem dX1_winnerOf_87 : decode cX1_winnerOf 87 = .ok (.iload_n 3, 1) := by decide +kernel
theorem dX1_winnerOf_88 : decode cX1_winnerOf 88 = .ok (.if_icmp .le 10, 3) := by decide +kernel
theorem dX1_winnerOf_91 : decode cX1_winnerOf 91 = .ok (.iload 7, 2) := by decide +kernel
theorem dX1_winnerOf_93 : decode cX1_winnerOf 93 = .ok (.istore_n 3, 1) := by decide +kernel
theorem dX1_winnerOf_94 : decode cX1_winnerOf 94 = .ok (.iload 5, 2) := by decide +kernel
theorem dX1_winnerOf_96 : decode cX1_winnerOf 96 = .ok (.istore 4, 2) := by decide +kernel
theorem dX1_winnerOf_98 : decode cX1_winnerOf 98 = .ok (.iinc 5 1, 3) := by decide +kernel
theorem dX1_winnerOf_101 : decode cX1_winnerOf 101 = .ok (.goto (-70), 3) := by decide +kernel
theorem dX1_winnerOf_104 : decode cX1_winnerOf 104 = .ok (.iload 4, 2) := by decide +kernel
theorem dX1_winnerOf_106 : decode cX1_winnerOf 106 = .ok (.ireturn, 1) := by decide +kernel
theorem dX1_sell_0 : decode cX1_sell 0 = .ok (.aload_n 0, 1) := by decide +kernel
theorem dX1_sell_1 : decode cX1_sell 1 = .ok (.getfield 21, 3) := by decide +kernel
theorem dX1_sell_4 : decode cX1_sell 4 = .ok (.iload_n 1, 1) := by decide +kernel
theorem dX1_sell_5 : decode cX1_sell 5 = .ok (.iload_n 2, 1) := by decide +kernel
theorem dX1_sell_6 : decode cX1_sell 6 = .ok (.iastore, 1) := by decide +kernel
theorem dX1_sell_7 : decode cX1_sell 7 = .ok (.aload_n 0, 1) := by decide +kernel
theorem dX1_sell_8 : decode cX1_sell 8 = .ok (.getfield 24, 3) := by decide +kernel
theorem dX1_sell_11 : decode cX1_sell 11 = .ok (.iload_n 1, 1) := by decide +kernel
theorem dX1_sell_12 : decode cX1_sell 12 = .ok (.iload_n 3, 1) := by decide +kernel
theorem dX1_sell_13 : decode cX1_sell 13 = .ok (.iastore, 1) := by decide +kernel
theorem dX1_sell_14 : decode cX1_sell 14 = .ok (.iconst 0, 1) := by decide +kernel
theorem dX1_sell_15 : decode cX1_sell 15 = .ok (.istore 4, 2) := by decide +kernel
theorem dX1_sell_17 : decode cX1_sell 17 = .ok (.iload 4, 2) := by decide +kernel
theorem dX1_sell_19 : decode cX1_sell 19 = .ok (.aload_n 0, 1) := by decide +kernel
theorem dX1_sell_20 : decode cX1_sell 20 = .ok (.getfield 30, 3) := by decide +kernel
theorem dX1_sell_23 : decode cX1_sell 23 = .ok (.invokevirtual 110, 3) := by decide +kernel
theorem dX1_sell_26 : decode cX1_sell 26 = .ok (.if_icmp .ge 22, 3) := by decide +kernel
theorem dX1_sell_29 : decode cX1_sell 29 = .ok (.aload_n 0, 1) := by decide +kernel
theorem dX1_sell_30 : decode cX1_sell 30 = .ok (.getfield 15, 3) := by decide +kernel
theorem dX1_sell_33 : decode cX1_sell 33 = .ok (.iload 4, 2) := by decide +kernel
theorem dX1_sell_35 : decode cX1_sell 35 = .ok (.bipush 6, 2) := by decide +kernel
theorem dX1_sell_37 : decode cX1_sell 37 = .ok (.imul, 1) := by decide +kernel
theorem dX1_sell_38 : decode cX1_sell 38 = .ok (.iload_n 1, 1) := by decide +kernel
theorem dX1_sell_39 : decode cX1_sell 39 = .ok (.iadd, 1) := by decide +kernel
theorem dX1_sell_40 : decode cX1_sell 40 = .ok (.iconst 0, 1) := by decide +kernel
theorem dX1_sell_41 : decode cX1_sell 41 = .ok (.iastore, 1) := by decide +kernel
theorem dX1_sell_42 : decode cX1_sell 42 = .ok (.iinc 4 1, 3) := by decide +kernel
theorem dX1_sell_45 : decode cX1_sell 45 = .ok (.goto (-28), 3) := by decide +kernel
theorem dX1_sell_48 : decode cX1_sell 48 = .ok (.aload_n 0, 1) := by decide +kernel
theorem dX1_sell_49 : decode cX1_sell 49 = .ok (.getfield 30, 3) := by decide +kernel
theorem dX1_sell_52 : decode cX1_sell 52 = .ok (.getfield 77, 3) := by decide +kernel
theorem dX1_sell_55 : decode cX1_sell 55 = .ok (.iload_n 2, 1) := by decide +kernel
theorem dX1_sell_56 : decode cX1_sell 56 = .ok (.iadd, 1) := by decide +kernel
theorem dX1_sell_57 : decode cX1_sell 57 = .ok (.istore 4, 2) := by decide +kernel
theorem dX1_sell_59 : decode cX1_sell 59 = .ok (.aload_n 0, 1) := by decide +kernel
theorem dX1_sell_60 : decode cX1_sell 60 = .ok (.getfield 27, 3) := by decide +kernel
theorem dX1_sell_63 : decode cX1_sell 63 = .ok (.iload 4, 2) := by decide +kernel
theorem dX1_sell_65 : decode cX1_sell 65 = .ok (.dup2, 1) := by decide +kernel
theorem dX1_sell_66 : decode cX1_sell 66 = .ok (.iaload, 1) := by decide +kernel
theorem dX1_sell_67 : decode cX1_sell 67 = .ok (.iload_n 3, 1) := by decide +kernel
theorem dX1_sell_68 : decode cX1_sell 68 = .ok (.iadd, 1) := by decide +kernel
theorem dX1_sell_69 : decode cX1_sell 69 = .ok (.iastore, 1) := by decide +kernel
theorem dX1_sell_70 : decode cX1_sell 70 = .ok (.aload_n 0, 1) := by decide +kernel
theorem dX1_sell_71 : decode cX1_sell 71 = .ok (.getfield 27, 3) := by decide +kernel
theorem dX1_sell_74 : decode cX1_sell 74 = .ok (.iload_n 1, 1) := by decide +kernel
theorem dX1_sell_75 : decode cX1_sell 75 = .ok (.dup2, 1) := by decide +kernel
theorem dX1_sell_76 : decode cX1_sell 76 = .ok (.iaload, 1) := by decide +kernel
theorem dX1_sell_77 : decode cX1_sell 77 = .ok (.iload_n 3, 1) := by decide +kernel
theorem dX1_sell_78 : decode cX1_sell 78 = .ok (.iadd, 1) := by decide +kernel
theorem dX1_sell_79 : decode cX1_sell 79 = .ok (.iastore, 1) := by decide +kernel
theorem dX1_sell_80 : decode cX1_sell 80 = .ok (.aload_n 0, 1) := by decide +kernel
theorem dX1_sell_81 : decode cX1_sell 81 = .ok (.iload_n 1, 1) := by decide +kernel
theorem dX1_sell_82 : decode cX1_sell 82 = .ok (.iload 4, 2) := by decide +kernel
theorem dX1_sell_84 : decode cX1_sell 84 = .ok (.invokevirtual 114, 3) := by decide +kernel
theorem dX1_sell_87 : decode cX1_sell 87 = .ok (.istore 5, 2) := by decide +kernel
theorem dX1_sell_89 : decode cX1_sell 89 = .ok (.iload 5, 2) := by decide +kernel
theorem dX1_sell_91 : decode cX1_sell 91 = .ok (.iconst (-1), 1) := by decide +kernel
theorem dX1_sell_92 : decode cX1_sell 92 = .ok (.if_icmp .eq 43, 3) := by decide +kernel
theorem dX1_sell_95 : decode cX1_sell 95 = .ok (.iload_n 3, 1) := by decide +kernel
theorem dX1_sell_96 : decode cX1_sell 96 = .ok (.aload_n 0, 1) := by decide +kernel
theorem dX1_sell_97 : decode cX1_sell 97 = .ok (.getfield 30, 3) := by decide +kernel
theorem dX1_sell_100 : decode cX1_sell 100 = .ok (.getfield 94, 3) := by decide +kernel
theorem dX1_sell_103 : decode cX1_sell 103 = .ok (.iload 5, 2) := by decide +kernel
theorem dX1_sell_105 : decode cX1_sell 105 = .ok (.iaload, 1) := by decide +kernel
theorem dX1_sell_106 : decode cX1_sell 106 = .ok (.imul, 1) := by decide +kernel
theorem dX1_sell_107 : decode cX1_sell 107 = .ok (.bipush 100, 2) := by decide +kernel
theorem dX1_sell_109 : decode cX1_sell 109 = .ok (.idiv, 1) := by decide +kernel
theorem dX1_sell_110 : decode cX1_sell 110 = .ok (.istore 6, 2) := by decide +kernel
theorem dX1_sell_112 : decode cX1_sell 112 = .ok (.aload_n 0, 1) := by decide +kernel
theorem dX1_sell_113 : decode cX1_sell 113 = .ok (.getfield 27, 3) := by decide +kernel
theorem dX1_sell_116 : decode cX1_sell 116 = .ok (.iload 5, 2) := by decide +kernel
theorem dX1_sell_118 : decode cX1_sell 118 = .ok (.dup2, 1) := by decide +kernel
theorem dX1_sell_119 : decode cX1_sell 119 = .ok (.iaload, 1) := by decide +kernel
theorem dX1_sell_120 : decode cX1_sell 120 = .ok (.iload 6, 2) := by decide +kernel
theorem dX1_sell_122 : decode cX1_sell 122 = .ok (.iadd, 1) := by decide +kernel
theorem dX1_sell_123 : decode cX1_sell 123 = .ok (.iastore, 1) := by decide +kernel
theorem dX1_sell_124 : decode cX1_sell 124 = .ok (.aload_n 0, 1) := by decide +kernel
theorem dX1_sell_125 : decode cX1_sell 125 = .ok (.getfield 27, 3) := by decide +kernel
theorem dX1_sell_128 : decode cX1_sell 128 = .ok (.iload_n 1, 1) := by decide +kernel
theorem dX1_sell_129 : decode cX1_sell 129 = .ok (.dup2, 1) := by decide +kernel
theorem dX1_sell_130 : decode cX1_sell 130 = .ok (.iaload, 1) := by decide +kernel
theorem dX1_sell_131 : decode cX1_sell 131 = .ok (.iload 6, 2) := by decide +kernel
theorem dX1_sell_133 : decode cX1_sell 133 = .ok (.isub, 1) := by decide +kernel
theorem dX1_sell_134 : decode cX1_sell 134 = .ok (.iastore, 1) := by decide +kernel
theorem dX1_sell_135 : decode cX1_sell 135 = .ok (.return_, 1) := by decide +kernel
theorem dX1_brokerOf_0 : decode cX1_brokerOf 0 = .ok (.aload_n 0, 1) := by decide +kernel
theorem dX1_brokerOf_1 : decode cX1_brokerOf 1 = .ok (.getfield 30, 3) := by decide +kernel
theorem dX1_brokerOf_4 : decode cX1_brokerOf 4 = .ok (.getfield 77, 3) := by decide +kernel
theorem dX1_brokerOf_7 : decode cX1_brokerOf 7 = .ok (.aload_n 0, 1) := by decide +kernel
theorem dX1_brokerOf_8 : decode cX1_brokerOf 8 = .ok (.getfield 30, 3) := by decide +kernel
theorem dX1_brokerOf_11 : decode cX1_brokerOf 11 = .ok (.getfield 107, 3) := by decide +kernel
theorem dX1_brokerOf_14 : decode cX1_brokerOf 14 = .ok (.iadd, 1) := by decide +kernel
theorem dX1_brokerOf_15 : decode cX1_brokerOf 15 = .ok (.istore_n 3, 1) := by decide +kernel
theorem dX1_brokerOf_16 : decode cX1_brokerOf 16 = .ok (.iload_n 3, 1) := by decide +kernel
theorem dX1_brokerOf_17 : decode cX1_brokerOf 17 = .ok (.aload_n 0, 1) := by decide +kernel
theorem dX1_brokerOf_18 : decode cX1_brokerOf 18 = .ok (.getfield 30, 3) := by decide +kernel
theorem dX1_brokerOf_21 : decode cX1_brokerOf 21 = .ok (.invokevirtual 110, 3) := by decide +kernel
theorem dX1_brokerOf_24 : decode cX1_brokerOf 24 = .ok (.if_icmp .ge 29, 3) := by decide +kernel
theorem dX1_brokerOf_27 : decode cX1_brokerOf 27 = .ok (.aload_n 0, 1) := by decide +kernel
theorem dX1_brokerOf_28 : decode cX1_brokerOf 28 = .ok (.iload_n 3, 1) := by decide +kernel
theorem dX1_brokerOf_29 : decode cX1_brokerOf 29 = .ok (.iload_n 1, 1) := by decide +kernel
theorem dX1_brokerOf_30 : decode cX1_brokerOf 30 = .ok (.invokevirtual 70, 3) := by decide +kernel
theorem dX1_brokerOf_33 : decode cX1_brokerOf 33 = .ok (.ifCond .eq 14, 3) := by decide +kernel
theorem dX1_brokerOf_36 : decode cX1_brokerOf 36 = .ok (.aload_n 0, 1) := by decide +kernel
theorem dX1_brokerOf_37 : decode cX1_brokerOf 37 = .ok (.iload_n 3, 1) := by decide +kernel
theorem dX1_brokerOf_38 : decode cX1_brokerOf 38 = .ok (.iload_n 2, 1) := by decide +kernel
theorem dX1_brokerOf_39 : decode cX1_brokerOf 39 = .ok (.invokevirtual 70, 3) := by decide +kernel
theorem dX1_brokerOf_42 : decode cX1_brokerOf 42 = .ok (.ifCond .eq 5, 3) := by decide +kernel
theorem dX1_brokerOf_45 : decode cX1_brokerOf 45 = .ok (.iload_n 3, 1) := by decide +kernel
theorem dX1_brokerOf_46 : decode cX1_brokerOf 46 = .ok (.ireturn, 1) := by decide +kernel
theorem dX1_brokerOf_47 : decode cX1_brokerOf 47 = .ok (.iinc 3 1, 3) := by decide +kernel
theorem dX1_brokerOf_50 : decode cX1_brokerOf 50 = .ok (.goto (-34), 3) := by decide +kernel
theorem dX1_brokerOf_53 : decode cX1_brokerOf 53 = .ok (.iconst (-1), 1) := by decide +kernel
theorem dX1_brokerOf_54 : decode cX1_brokerOf 54 = .ok (.ireturn, 1) := by decide +kernel
theorem dX1_draw_0 : decode cX1_draw 0 = .ok (.aload_n 0, 1) := by decide +kernel
theorem dX1_draw_1 : decode cX1_draw 1 = .ok (.aload_n 0, 1) := by decide +kernel
theorem dX1_draw_2 : decode cX1_draw 2 = .ok (.getfield 47, 3) := by decide +kernel
theorem dX1_draw_5 : decode cX1_draw 5 = .ok (.i2l, 1) := by decide +kernel
theorem dX1_draw_6 : decode cX1_draw 6 = .ok (.ldc2_w 117, 3) := by decide +kernel
theorem dX1_draw_9 : decode cX1_draw 9 = .ok (.lmul, 1) := by decide +kernel
theorem dX1_draw_10 : decode cX1_draw 10 = .ok (.ldc2_w 119, 3) := by decide +kernel
theorem dX1_draw_13 : decode cX1_draw 13 = .ok (.ladd, 1) := by decide +kernel
theorem dX1_draw_14 : decode cX1_draw 14 = .ok (.ldc2_w 121, 3) := by decide +kernel
theorem dX1_draw_17 : decode cX1_draw 17 = .ok (.land, 1) := by decide +kernel
theorem dX1_draw_18 : decode cX1_draw 18 = .ok (.l2i, 1) := by decide +kernel
theorem dX1_draw_19 : decode cX1_draw 19 = .ok (.putfield 47, 3) := by decide +kernel
theorem dX1_draw_22 : decode cX1_draw 22 = .ok (.iload_n 1, 1) := by decide +kernel
theorem dX1_draw_23 : decode cX1_draw 23 = .ok (.ifCond .le 15, 3) := by decide +kernel
theorem dX1_draw_26 : decode cX1_draw 26 = .ok (.aload_n 0, 1) := by decide +kernel
theorem dX1_draw_27 : decode cX1_draw 27 = .ok (.getfield 47, 3) := by decide +kernel
theorem dX1_draw_30 : decode cX1_draw 30 = .ok (.ldc 123, 2) := by decide +kernel
theorem dX1_draw_32 : decode cX1_draw 32 = .ok (.idiv, 1) := by decide +kernel
theorem dX1_draw_33 : decode cX1_draw 33 = .ok (.iload_n 1, 1) := by decide +kernel
theorem dX1_draw_34 : decode cX1_draw 34 = .ok (.irem, 1) := by decide +kernel
theorem dX1_draw_35 : decode cX1_draw 35 = .ok (.goto 4, 3) := by decide +kernel
theorem dX1_draw_38 : decode cX1_draw 38 = .ok (.iconst 0, 1) := by decide +kernel
theorem dX1_draw_39 : decode cX1_draw 39 = .ok (.ireturn, 1) := by decide +kernel
theorem dX1_driftBeat_0 : decode cX1_driftBeat 0 = .ok (.iconst 0, 1) := by decide +kernel
theorem dX1_driftBeat_1 : decode cX1_driftBeat 1 = .ok (.istore_n 1, 1) := by decide +kernel
theorem dX1_driftBeat_2 : decode cX1_driftBeat 2 = .ok (.iload_n 1, 1) := by decide +kernel
theorem dX1_driftBeat_3 : decode cX1_driftBeat 3 = .ok (.aload_n 0, 1) := by decide +kernel
theorem dX1_driftBeat_4 : decode cX1_driftBeat 4 = .ok (.getfield 30, 3) := by decide +kernel
theorem dX1_driftBeat_7 : decode cX1_driftBeat 7 = .ok (.getfield 77, 3) := by decide +kernel
theorem dX1_driftBeat_10 : decode cX1_driftBeat 10 = .ok (.if_icmp .ge 31, 3) := by decide +kernel
theorem dX1_driftBeat_13 : decode cX1_driftBeat 13 = .ok (.aload_n 0, 1) := by decide +kernel
theorem dX1_driftBeat_14 : decode cX1_driftBeat 14 = .ok (.iload_n 1, 1) := by decide +kernel
theorem dX1_driftBeat_15 : decode cX1_driftBeat 15 = .ok (.iload_n 1, 1) := by decide +kernel
theorem dX1_driftBeat_16 : decode cX1_driftBeat 16 = .ok (.aload_n 0, 1) := by decide +kernel
theorem dX1_driftBeat_17 : decode cX1_driftBeat 17 = .ok (.getfield 30, 3) := by decide +kernel
theorem dX1_driftBeat_20 : decode cX1_driftBeat 20 = .ok (.getfield 94, 3) := by decide +kernel
theorem dX1_driftBeat_23 : decode cX1_driftBeat 23 = .ok (.iload_n 1, 1) := by decide +kernel
theorem dX1_driftBeat_24 : decode cX1_driftBeat 24 = .ok (.iaload, 1) := by decide +kernel
theorem dX1_driftBeat_25 : decode cX1_driftBeat 25 = .ok (.aload_n 0, 1) := by decide +kernel
theorem dX1_driftBeat_26 : decode cX1_driftBeat 26 = .ok (.bipush 50, 2) := by decide +kernel
theorem dX1_driftBeat_28 : decode cX1_driftBeat 28 = .ok (.invokevirtual 124, 3) := by decide +kernel
theorem dX1_driftBeat_31 : decode cX1_driftBeat 31 = .ok (.iadd, 1) := by decide +kernel
theorem dX1_driftBeat_32 : decode cX1_driftBeat 32 = .ok (.invokevirtual 127, 3) := by decide +kernel
theorem dX1_driftBeat_35 : decode cX1_driftBeat 35 = .ok (.iinc 1 1, 3) := by decide +kernel
theorem dX1_driftBeat_38 : decode cX1_driftBeat 38 = .ok (.goto (-36), 3) := by decide +kernel
theorem dX1_driftBeat_41 : decode cX1_driftBeat 41 = .ok (.iconst 0, 1) := by decide +kernel
theorem dX1_driftBeat_42 : decode cX1_driftBeat 42 = .ok (.istore_n 1, 1) := by decide +kernel
theorem dX1_driftBeat_43 : decode cX1_driftBeat 43 = .ok (.iload_n 1, 1) := by decide +kernel
theorem dX1_driftBeat_44 : decode cX1_driftBeat 44 = .ok (.aload_n 0, 1) := by decide +kernel
theorem dX1_driftBeat_45 : decode cX1_driftBeat 45 = .ok (.getfield 30, 3) := by decide +kernel
theorem dX1_driftBeat_48 : decode cX1_driftBeat 48 = .ok (.getfield 107, 3) := by decide +kernel
theorem dX1_driftBeat_51 : decode cX1_driftBeat 51 = .ok (.if_icmp .ge 51, 3) := by decide +kernel
theorem dX1_driftBeat_54 : decode cX1_driftBeat 54 = .ok (.aload_n 0, 1) := by decide +kernel
theorem dX1_driftBeat_55 : decode cX1_driftBeat 55 = .ok (.aload_n 0, 1) := by decide +kernel
theorem dX1_driftBeat_56 : decode cX1_driftBeat 56 = .ok (.getfield 30, 3) := by decide +kernel
theorem dX1_driftBeat_59 : decode cX1_driftBeat 59 = .ok (.getfield 77, 3) := by decide +kernel
theorem dX1_driftBeat_62 : decode cX1_driftBeat 62 = .ok (.invokevirtual 124, 3) := by decide +kernel
theorem dX1_driftBeat_65 : decode cX1_driftBeat 65 = .ok (.istore_n 2, 1) := by decide +kernel
theorem dX1_driftBeat_66 : decode cX1_driftBeat 66 = .ok (.aload_n 0, 1) := by decide +kernel
theorem dX1_driftBeat_67 : decode cX1_driftBeat 67 = .ok (.aload_n 0, 1) := by decide +kernel
theorem dX1_driftBeat_68 : decode cX1_driftBeat 68 = .ok (.getfield 30, 3) := by decide +kernel
theorem dX1_driftBeat_71 : decode cX1_driftBeat 71 = .ok (.getfield 77, 3) := by decide +kernel
theorem dX1_driftBeat_74 : decode cX1_driftBeat 74 = .ok (.iload_n 1, 1) := by decide +kernel
theorem dX1_driftBeat_75 : decode cX1_driftBeat 75 = .ok (.iadd, 1) := by decide +kernel
theorem dX1_driftBeat_76 : decode cX1_driftBeat 76 = .ok (.iload_n 2, 1) := by decide +kernel
theorem dX1_driftBeat_77 : decode cX1_driftBeat 77 = .ok (.aload_n 0, 1) := by decide +kernel
theorem dX1_driftBeat_78 : decode cX1_driftBeat 78 = .ok (.getfield 30, 3) := by decide +kernel
theorem dX1_driftBeat_81 : decode cX1_driftBeat 81 = .ok (.iload_n 1, 1) := by decide +kernel
theorem dX1_driftBeat_82 : decode cX1_driftBeat 82 = .ok (.iload_n 2, 1) := by decide +kernel
theorem dX1_driftBeat_83 : decode cX1_driftBeat 83 = .ok (.invokevirtual 130, 3) := by decide +kernel
theorem dX1_driftBeat_86 : decode cX1_driftBeat 86 = .ok (.aload_n 0, 1) := by decide +kernel
theorem dX1_driftBeat_87 : decode cX1_driftBeat 87 = .ok (.bipush 50, 2) := by decide +kernel
theorem dX1_driftBeat_89 : decode cX1_driftBeat 89 = .ok (.invokevirtual 124, 3) := by decide +kernel
theorem dX1_driftBeat_92 : decode cX1_driftBeat 92 = .ok (.isub, 1) := by decide +kernel
theorem dX1_driftBeat_93 : decode cX1_driftBeat 93 = .ok (.invokevirtual 127, 3) := by decide +kernel
theorem dX1_driftBeat_96 : decode cX1_driftBeat 96 = .ok (.iinc 1 1, 3) := by decide +kernel
theorem dX1_driftBeat_99 : decode cX1_driftBeat 99 = .ok (.goto (-56), 3) := by decide +kernel
theorem dX1_driftBeat_102 : decode cX1_driftBeat 102 = .ok (.aload_n 0, 1) := by decide +kernel
theorem dX1_driftBeat_103 : decode cX1_driftBeat 103 = .ok (.dup, 1) := by decide +kernel
theorem dX1_driftBeat_104 : decode cX1_driftBeat 104 = .ok (.getfield 37, 3) := by decide +kernel
theorem dX1_driftBeat_107 : decode cX1_driftBeat 107 = .ok (.iconst 1, 1) := by decide +kernel
theorem dX1_driftBeat_108 : decode cX1_driftBeat 108 = .ok (.iadd, 1) := by decide +kernel
theorem dX1_driftBeat_109 : decode cX1_driftBeat 109 = .ok (.putfield 37, 3) := by decide +kernel
theorem dX1_driftBeat_112 : decode cX1_driftBeat 112 = .ok (.return_, 1) := by decide +kernel
theorem dX1_bindIfMay_0 : decode cX1_bindIfMay 0 = .ok (.iload_n 3, 1) := by decide +kernel
theorem dX1_bindIfMay_1 : decode cX1_bindIfMay 1 = .ok (.iconst 1, 1) := by decide +kernel
theorem dX1_bindIfMay_2 : decode cX1_bindIfMay 2 = .ok (.sipush 999, 3) := by decide +kernel
theorem dX1_bindIfMay_5 : decode cX1_bindIfMay 5 = .ok (.invokestatic 133, 3) := by decide +kernel
theorem dX1_bindIfMay_8 : decode cX1_bindIfMay 8 = .ok (.ifCond .eq 20, 3) := by decide +kernel
theorem dX1_bindIfMay_11 : decode cX1_bindIfMay 11 = .ok (.aload_n 0, 1) := by decide +kernel
theorem dX1_bindIfMay_12 : decode cX1_bindIfMay 12 = .ok (.iload_n 1, 1) := by decide +kernel
theorem dX1_bindIfMay_13 : decode cX1_bindIfMay 13 = .ok (.iload_n 2, 1) := by decide +kernel
theorem dX1_bindIfMay_14 : decode cX1_bindIfMay 14 = .ok (.iload_n 3, 1) := by decide +kernel
theorem dX1_bindIfMay_15 : decode cX1_bindIfMay 15 = .ok (.invokevirtual 137, 3) := by decide +kernel
theorem dX1_bindIfMay_18 : decode cX1_bindIfMay 18 = .ok (.ifCond .eq 10, 3) := by decide +kernel
theorem dX1_bindIfMay_21 : decode cX1_bindIfMay 21 = .ok (.aload_n 0, 1) := by decide +kernel
theorem dX1_bindIfMay_22 : decode cX1_bindIfMay 22 = .ok (.iload_n 1, 1) := by decide +kernel
theorem dX1_bindIfMay_23 : decode cX1_bindIfMay 23 = .ok (.iload_n 2, 1) := by decide +kernel
theorem dX1_bindIfMay_24 : decode cX1_bindIfMay 24 = .ok (.iload_n 3, 1) := by decide +kernel
theorem dX1_bindIfMay_25 : decode cX1_bindIfMay 25 = .ok (.invokevirtual 140, 3) := by decide +kernel
theorem dX1_bindIfMay_28 : decode cX1_bindIfMay 28 = .ok (.return_, 1) := by decide +kernel
theorem dX2_init_0 : decode cX2_init 0 = .ok (.aload_n 0, 1) := by decide +kernel
theorem dX2_init_1 : decode cX2_init 1 = .ok (.invokespecial 3, 3) := by decide +kernel
theorem dX2_init_4 : decode cX2_init 4 = .ok (.aload_n 0, 1) := by decide +kernel
theorem dX2_init_5 : decode cX2_init 5 = .ok (.bipush 14, 2) := by decide +kernel
theorem dX2_init_7 : decode cX2_init 7 = .ok (.newarray .int, 2) := by decide +kernel
theorem dX2_init_9 : decode cX2_init 9 = .ok (.putfield 9, 3) := by decide +kernel
theorem dX2_init_12 : decode cX2_init 12 = .ok (.aload_n 0, 1) := by decide +kernel
theorem dX2_init_13 : decode cX2_init 13 = .ok (.bipush 14, 2) := by decide +kernel
theorem dX2_init_15 : decode cX2_init 15 = .ok (.newarray .int, 2) := by decide +kernel
theorem dX2_init_17 : decode cX2_init 17 = .ok (.putfield 15, 3) := by decide +kernel
theorem dX2_init_20 : decode cX2_init 20 = .ok (.aload_n 0, 1) := by decide +kernel
theorem dX2_init_21 : decode cX2_init 21 = .ok (.bipush 36, 2) := by decide +kernel
theorem dX2_init_23 : decode cX2_init 23 = .ok (.newarray .int, 2) := by decide +kernel
theorem dX2_init_25 : decode cX2_init 25 = .ok (.putfield 18, 3) := by decide +kernel
theorem dX2_init_28 : decode cX2_init 28 = .ok (.aload_n 0, 1) := by decide +kernel
theorem dX2_init_29 : decode cX2_init 29 = .ok (.invokevirtual 21, 3) := by decide +kernel
theorem dX2_init_32 : decode cX2_init 32 = .ok (.return_, 1) := by decide +kernel
theorem dX2_clear_0 : decode cX2_clear 0 = .ok (.aload_n 0, 1) := by decide +kernel
theorem dX2_clear_1 : decode cX2_clear 1 = .ok (.iconst 0, 1) := by decide +kernel
theorem dX2_clear_2 : decode cX2_clear 2 = .ok (.putfield 24, 3) := by decide +kernel
theorem dX2_clear_5 : decode cX2_clear 5 = .ok (.aload_n 0, 1) := by decide +kernel
theorem dX2_clear_6 : decode cX2_clear 6 = .ok (.iconst 0, 1) := by decide +kernel
theorem dX2_clear_7 : decode cX2_clear 7 = .ok (.putfield 28, 3) := by decide +kernel
theorem dX2_clear_10 : decode cX2_clear 10 = .ok (.aload_n 0, 1) := by decide +kernel
theorem dX2_clear_11 : decode cX2_clear 11 = .ok (.iconst 0, 1) := by decide +kernel
theorem dX2_clear_12 : decode cX2_clear 12 = .ok (.putfield 31, 3) := by decide +kernel
theorem dX2_clear_15 : decode cX2_clear 15 = .ok (.aload_n 0, 1) := by decide +kernel
theorem dX2_clear_16 : decode cX2_clear 16 = .ok (.bipush 12, 2) := by decide +kernel
theorem dX2_clear_18 : decode cX2_clear 18 = .ok (.putfield 34, 3) := by decide +kernel
theorem dX2_clear_21 : decode cX2_clear 21 = .ok (.aload_n 0, 1) := by decide +kernel
theorem dX2_clear_22 : decode cX2_clear 22 = .ok (.iconst 2, 1) := by decide +kernel
theorem dX2_clear_23 : decode cX2_clear 23 = .ok (.putfield 37, 3) := by decide +kernel
theorem dX2_clear_26 : decode cX2_clear 26 = .ok (.return_, 1) := by decide +kernel
theorem dX2_become_0 : decode cX2_become 0 = .ok (.aload_n 0, 1) := by decide +kernel
theorem dX2_become_1 : decode cX2_become 1 = .ok (.aload_n 1, 1) := by decide +kernel
theorem dX2_become_2 : decode cX2_become 2 = .ok (.getfield 24, 3) := by decide +kernel
theorem dX2_become_5 : decode cX2_become 5 = .ok (.putfield 24, 3) := by decide +kernel
theorem dX2_become_8 : decode cX2_become 8 = .ok (.aload_n 0, 1) := by decide +kernel
theorem dX2_become_9 : decode cX2_become 9 = .ok (.aload_n 1, 1) := by decide +kernel
theorem dX2_become_10 : decode cX2_become 10 = .ok (.getfield 28, 3) := by decide +kernel
theorem dX2_become_13 : decode cX2_become 13 = .ok (.putfield 28, 3) := by decide +kernel
theorem dX2_become_16 : decode cX2_become 16 = .ok (.aload_n 0, 1) := by decide +kernel
theorem dX2_become_17 : decode cX2_become 17 = .ok (.aload_n 1, 1) := by decide +kernel
theorem dX2_become_18 : decode cX2_become 18 = .ok (.getfield 31, 3) := by decide +kernel
theorem dX2_become_21 : decode cX2_become 21 = .ok (.putfield 31, 3) := by decide +kernel
theorem dX2_become_24 : decode cX2_become 24 = .ok (.aload_n 0, 1) := by decide +kernel
theorem dX2_become_25 : decode cX2_become 25 = .ok (.aload_n 1, 1) := by decide +kernel
theorem dX2_become_26 : decode cX2_become 26 = .ok (.getfield 34, 3) := by decide +kernel
theorem dX2_become_29 : decode cX2_become 29 = .ok (.putfield 34, 3) := by decide +kernel
theorem dX2_become_32 : decode cX2_become 32 = .ok (.aload_n 0, 1) := by decide +kernel
theorem dX2_become_33 : decode cX2_become 33 = .ok (.aload_n 1, 1) := by decide +kernel
theorem dX2_become_34 : decode cX2_become 34 = .ok (.getfield 37, 3) := by decide +kernel
theorem dX2_become_37 : decode cX2_become 37 = .ok (.putfield 37, 3) := by decide +kernel
theorem dX2_become_40 : decode cX2_become 40 = .ok (.aload_n 1, 1) := by decide +kernel
theorem dX2_become_41 : decode cX2_become 41 = .ok (.getfield 9, 3) := by decide +kernel
theorem dX2_become_44 : decode cX2_become 44 = .ok (.iconst 0, 1) := by decide +kernel
theorem dX2_become_45 : decode cX2_become 45 = .ok (.aload_n 0, 1) := by decide +kernel
theorem dX2_become_46 : decode cX2_become 46 = .ok (.getfield 9, 3) := by decide +kernel
theorem dX2_become_49 : decode cX2_become 49 = .ok (.iconst 0, 1) := by decide +kernel
theorem dX2_become_50 : decode cX2_become 50 = .ok (.bipush 14, 2) := by decide +kernel
theorem dX2_become_52 : decode cX2_become 52 = .ok (.invokestatic 40, 3) := by decide +kernel
theorem dX2_become_55 : decode cX2_become 55 = .ok (.aload_n 1, 1) := by decide +kernel
theorem dX2_become_56 : decode cX2_become 56 = .ok (.getfield 15, 3) := by decide +kernel
theorem dX2_become_59 : decode cX2_become 59 = .ok (.iconst 0, 1) := by decide +kernel
theorem dX2_become_60 : decode cX2_become 60 = .ok (.aload_n 0, 1) := by decide +kernel
theorem dX2_become_61 : decode cX2_become 61 = .ok (.getfield 15, 3) := by decide +kernel
theorem dX2_become_64 : decode cX2_become 64 = .ok (.iconst 0, 1) := by decide +kernel
theorem dX2_become_65 : decode cX2_become 65 = .ok (.bipush 14, 2) := by decide +kernel
theorem dX2_become_67 : decode cX2_become 67 = .ok (.invokestatic 40, 3) := by decide +kernel
theorem dX2_become_70 : decode cX2_become 70 = .ok (.aload_n 1, 1) := by decide +kernel
theorem dX2_become_71 : decode cX2_become 71 = .ok (.getfield 18, 3) := by decide +kernel
theorem dX2_become_74 : decode cX2_become 74 = .ok (.iconst 0, 1) := by decide +kernel
theorem dX2_become_75 : decode cX2_become 75 = .ok (.aload_n 0, 1) := by decide +kernel
theorem dX2_become_76 : decode cX2_become 76 = .ok (.getfield 18, 3) := by decide +kernel
theorem dX2_become_79 : decode cX2_become 79 = .ok (.iconst 0, 1) := by decide +kernel
theorem dX2_become_80 : decode cX2_become 80 = .ok (.bipush 36, 2) := by decide +kernel
theorem dX2_become_82 : decode cX2_become 82 = .ok (.invokestatic 40, 3) := by decide +kernel
theorem dX2_become_85 : decode cX2_become 85 = .ok (.return_, 1) := by decide +kernel
theorem dX2_persons_0 : decode cX2_persons 0 = .ok (.aload_n 0, 1) := by decide +kernel
theorem dX2_persons_1 : decode cX2_persons 1 = .ok (.getfield 24, 3) := by decide +kernel
theorem dX2_persons_4 : decode cX2_persons 4 = .ok (.aload_n 0, 1) := by decide +kernel
theorem dX2_persons_5 : decode cX2_persons 5 = .ok (.getfield 28, 3) := by decide +kernel
theorem dX2_persons_8 : decode cX2_persons 8 = .ok (.iadd, 1) := by decide +kernel
theorem dX2_persons_9 : decode cX2_persons 9 = .ok (.aload_n 0, 1) := by decide +kernel
theorem dX2_persons_10 : decode cX2_persons 10 = .ok (.getfield 31, 3) := by decide +kernel
theorem dX2_persons_13 : decode cX2_persons 13 = .ok (.iadd, 1) := by decide +kernel
theorem dX2_persons_14 : decode cX2_persons 14 = .ok (.ireturn, 1) := by decide +kernel
theorem dX2_hasPerson_0 : decode cX2_hasPerson 0 = .ok (.iload_n 1, 1) := by decide +kernel
theorem dX2_hasPerson_1 : decode cX2_hasPerson 1 = .ok (.ifCond .lt 15, 3) := by decide +kernel
theorem dX2_hasPerson_4 : decode cX2_hasPerson 4 = .ok (.iload_n 1, 1) := by decide +kernel
theorem dX2_hasPerson_5 : decode cX2_hasPerson 5 = .ok (.aload_n 0, 1) := by decide +kernel
theorem dX2_hasPerson_6 : decode cX2_hasPerson 6 = .ok (.invokevirtual 46, 3) := by decide +kernel
theorem dX2_hasPerson_9 : decode cX2_hasPerson 9 = .ok (.if_icmp .ge 7, 3) := by decide +kernel
theorem dX2_hasPerson_12 : decode cX2_hasPerson 12 = .ok (.iconst 1, 1) := by decide +kernel
theorem dX2_hasPerson_13 : decode cX2_hasPerson 13 = .ok (.goto 4, 3) := by decide +kernel
theorem dX2_hasPerson_16 : decode cX2_hasPerson 16 = .ok (.iconst 0, 1) := by decide +kernel
theorem dX2_hasPerson_17 : decode cX2_hasPerson 17 = .ok (.ireturn, 1) := by decide +kernel
theorem dX2_hasLot_0 : decode cX2_hasLot 0 = .ok (.iload_n 1, 1) := by decide +kernel
theorem dX2_hasLot_1 : decode cX2_hasLot 1 = .ok (.ifCond .lt 15, 3) := by decide +kernel
theorem dX2_hasLot_4 : decode cX2_hasLot 4 = .ok (.iload_n 1, 1) := by decide +kernel
theorem dX2_hasLot_5 : decode cX2_hasLot 5 = .ok (.aload_n 0, 1) := by decide +kernel
theorem dX2_hasLot_6 : decode cX2_hasLot 6 = .ok (.getfield 24, 3) := by decide +kernel
theorem dX2_hasLot_9 : decode cX2_hasLot 9 = .ok (.if_icmp .ge 7, 3) := by decide +kernel
theorem dX2_hasLot_12 : decode cX2_hasLot 12 = .ok (.iconst 1, 1) := by decide +kernel
theorem dX2_hasLot_13 : decode cX2_hasLot 13 = .ok (.goto 4, 3) := by decide +kernel
theorem dX2_hasLot_16 : decode cX2_hasLot 16 = .ok (.iconst 0, 1) := by decide +kernel
theorem dX2_hasLot_17 : decode cX2_hasLot 17 = .ok (.ireturn, 1) := by decide +kernel
theorem dX2_hasBuyer_0 : decode cX2_hasBuyer 0 = .ok (.iload_n 1, 1) := by decide +kernel
theorem dX2_hasBuyer_1 : decode cX2_hasBuyer 1 = .ok (.ifCond .lt 15, 3) := by decide +kernel
theorem dX2_hasBuyer_4 : decode cX2_hasBuyer 4 = .ok (.iload_n 1, 1) := by decide +kernel
theorem dX2_hasBuyer_5 : decode cX2_hasBuyer 5 = .ok (.aload_n 0, 1) := by decide +kernel
theorem dX2_hasBuyer_6 : decode cX2_hasBuyer 6 = .ok (.getfield 28, 3) := by decide +kernel
theorem dX2_hasBuyer_9 : decode cX2_hasBuyer 9 = .ok (.if_icmp .ge 7, 3) := by decide +kernel
theorem dX2_hasBuyer_12 : decode cX2_hasBuyer 12 = .ok (.iconst 1, 1) := by decide +kernel
theorem dX2_hasBuyer_13 : decode cX2_hasBuyer 13 = .ok (.goto 4, 3) := by decide +kernel
theorem dX2_hasBuyer_16 : decode cX2_hasBuyer 16 = .ok (.iconst 0, 1) := by decide +kernel
theorem dX2_hasBuyer_17 : decode cX2_hasBuyer 17 = .ok (.ireturn, 1) := by decide +kernel
theorem dX2_sortOf_0 : decode cX2_sortOf 0 = .ok (.iload_n 1, 1) := by decide +kernel
theorem dX2_sortOf_1 : decode cX2_sortOf 1 = .ok (.aload_n 0, 1) := by decide +kernel
theorem dX2_sortOf_2 : decode cX2_sortOf 2 = .ok (.getfield 24, 3) := by decide +kernel
theorem dX2_sortOf_5 : decode cX2_sortOf 5 = .ok (.if_icmp .ge 5, 3) := by decide +kernel
theorem dX2_sortOf_8 : decode cX2_sortOf 8 = .ok (.iconst 0, 1) := by decide +kernel
theorem dX2_sortOf_9 : decode cX2_sortOf 9 = .ok (.ireturn, 1) := by decide +kernel
theorem dX2_sortOf_10 : decode cX2_sortOf 10 = .ok (.iload_n 1, 1) := by decide +kernel
theorem dX2_sortOf_11 : decode cX2_sortOf 11 = .ok (.aload_n 0, 1) := by decide +kernel
theorem dX2_sortOf_12 : decode cX2_sortOf 12 = .ok (.getfield 24, 3) := by decide +kernel
theorem dX2_sortOf_15 : decode cX2_sortOf 15 = .ok (.aload_n 0, 1) := by decide +kernel
theorem dX2_sortOf_16 : decode cX2_sortOf 16 = .ok (.getfield 28, 3) := by decide +kernel
theorem dX2_sortOf_19 : decode cX2_sortOf 19 = .ok (.iadd, 1) := by decide +kernel
theorem dX2_sortOf_20 : decode cX2_sortOf 20 = .ok (.if_icmp .ge 7, 3) := by decide +kernel
theorem dX2_sortOf_23 : decode cX2_sortOf 23 = .ok (.iconst 1, 1) := by decide +kernel
theorem dX2_sortOf_24 : decode cX2_sortOf 24 = .ok (.goto 4, 3) := by decide +kernel
theorem dX2_sortOf_27 : decode cX2_sortOf 27 = .ok (.iconst 2, 1) := by decide +kernel
theorem dX2_sortOf_28 : decode cX2_sortOf 28 = .ok (.ireturn, 1) := by decide +kernel
theorem dX2_dealsIn_0 : decode cX2_dealsIn 0 = .ok (.aload_n 0, 1) := by decide +kernel
theorem dX2_dealsIn_1 : decode cX2_dealsIn 1 = .ok (.iload_n 1, 1) := by decide +kernel
theorem dX2_dealsIn_2 : decode cX2_dealsIn 2 = .ok (.invokevirtual 50, 3) := by decide +kernel
theorem dX2_dealsIn_5 : decode cX2_dealsIn 5 = .ok (.ifCond .eq 11, 3) := by decide +kernel
theorem dX2_dealsIn_8 : decode cX2_dealsIn 8 = .ok (.aload_n 0, 1) := by decide +kernel
theorem dX2_dealsIn_9 : decode cX2_dealsIn 9 = .ok (.iload_n 2, 1) := by decide +kernel
theorem dX2_dealsIn_10 : decode cX2_dealsIn 10 = .ok (.invokevirtual 54, 3) := by decide +kernel
theorem dX2_dealsIn_13 : decode cX2_dealsIn 13 = .ok (.ifCond .ne 5, 3) := by decide +kernel
theorem dX2_dealsIn_16 : decode cX2_dealsIn 16 = .ok (.iconst 0, 1) := by decide +kernel
theorem dX2_dealsIn_17 : decode cX2_dealsIn 17 = .ok (.ireturn, 1) := by decide +kernel
theorem dX2_dealsIn_18 : decode cX2_dealsIn 18 = .ok (.aload_n 0, 1) := by decide +kernel
theorem dX2_dealsIn_19 : decode cX2_dealsIn 19 = .ok (.iload_n 1, 1) := by decide +kernel
theorem dX2_dealsIn_20 : decode cX2_dealsIn 20 = .ok (.invokevirtual 57, 3) := by decide +kernel
theorem dX2_dealsIn_23 : decode cX2_dealsIn 23 = .ok (.istore_n 3, 1) := by decide +kernel
theorem dX2_dealsIn_24 : decode cX2_dealsIn 24 = .ok (.iload_n 3, 1) := by decide +kernel
theorem dX2_dealsIn_25 : decode cX2_dealsIn 25 = .ok (.iconst 1, 1) := by decide +kernel
theorem dX2_dealsIn_26 : decode cX2_dealsIn 26 = .ok (.if_icmp .eq 12, 3) := by decide +kernel
theorem dX2_dealsIn_29 : decode cX2_dealsIn 29 = .ok (.iload_n 3, 1) := by decide +kernel
theorem dX2_dealsIn_30 : decode cX2_dealsIn 30 = .ok (.ifCond .ne 12, 3) := by decide +kernel
theorem dX2_dealsIn_33 : decode cX2_dealsIn 33 = .ok (.iload_n 1, 1) := by decide +kernel
theorem dX2_dealsIn_34 : decode cX2_dealsIn 34 = .ok (.iload_n 2, 1) := by decide +kernel
theorem dX2_dealsIn_35 : decode cX2_dealsIn 35 = .ok (.if_icmp .ne 7, 3) := by decide +kernel
theorem dX2_dealsIn_38 : decode cX2_dealsIn 38 = .ok (.iconst 1, 1) := by decide +kernel
theorem dX2_dealsIn_39 : decode cX2_dealsIn 39 = .ok (.goto 4, 3) := by decide +kernel
theorem dX2_dealsIn_42 : decode cX2_dealsIn 42 = .ok (.iconst 0, 1) := by decide +kernel
theorem dX2_dealsIn_43 : decode cX2_dealsIn 43 = .ok (.ireturn, 1) := by decide +kernel
theorem dX2_worthOf_0 : decode cX2_worthOf 0 = .ok (.aload_n 0, 1) := by decide +kernel
theorem dX2_worthOf_1 : decode cX2_worthOf 1 = .ok (.getfield 18, 3) := by decide +kernel
theorem dX2_worthOf_4 : decode cX2_worthOf 4 = .ok (.iload_n 1, 1) := by decide +kernel
theorem dX2_worthOf_5 : decode cX2_worthOf 5 = .ok (.bipush 6, 2) := by decide +kernel
theorem dX2_worthOf_7 : decode cX2_worthOf 7 = .ok (.imul, 1) := by decide +kernel
theorem dX2_worthOf_8 : decode cX2_worthOf 8 = .ok (.iload_n 2, 1) := by decide +kernel
theorem dX2_worthOf_9 : decode cX2_worthOf 9 = .ok (.iadd, 1) := by decide +kernel
theorem dX2_worthOf_10 : decode cX2_worthOf 10 = .ok (.iaload, 1) := by decide +kernel
theorem dX2_worthOf_11 : decode cX2_worthOf 11 = .ok (.ireturn, 1) := by decide +kernel
theorem dX2_bargainPrice_0 : decode cX2_bargainPrice 0 = .ok (.aload_n 0, 1) := by decide +kernel
theorem dX2_bargainPrice_1 : decode cX2_bargainPrice 1 = .ok (.iload_n 2, 1) := by decide +kernel
theorem dX2_bargainPrice_2 : decode cX2_bargainPrice 2 = .ok (.iload_n 1, 1) := by decide +kernel
theorem dX2_bargainPrice_3 : decode cX2_bargainPrice 3 = .ok (.invokevirtual 61, 3) := by decide +kernel
theorem dX2_bargainPrice_6 : decode cX2_bargainPrice 6 = .ok (.aload_n 0, 1) := by decide +kernel
theorem dX2_bargainPrice_7 : decode cX2_bargainPrice 7 = .ok (.getfield 15, 3) := by decide +kernel
theorem dX2_bargainPrice_10 : decode cX2_bargainPrice 10 = .ok (.iload_n 1, 1) := by decide +kernel
theorem dX2_bargainPrice_11 : decode cX2_bargainPrice 11 = .ok (.iaload, 1) := by decide +kernel
theorem dX2_bargainPrice_12 : decode cX2_bargainPrice 12 = .ok (.isub, 1) := by decide +kernel
theorem dX2_bargainPrice_13 : decode cX2_bargainPrice 13 = .ok (.istore 4, 2) := by decide +kernel
theorem dX2_bargainPrice_15 : decode cX2_bargainPrice 15 = .ok (.iload 4, 2) := by decide +kernel
theorem dX2_bargainPrice_17 : decode cX2_bargainPrice 17 = .ok (.ifCond .ge 5, 3) := by decide +kernel
theorem dX2_bargainPrice_20 : decode cX2_bargainPrice 20 = .ok (.iconst (-1), 1) := by decide +kernel
theorem dX2_bargainPrice_21 : decode cX2_bargainPrice 21 = .ok (.ireturn, 1) := by decide +kernel
theorem dX2_bargainPrice_22 : decode cX2_bargainPrice 22 = .ok (.iconst 0, 1) := by decide +kernel
theorem dX2_bargainPrice_23 : decode cX2_bargainPrice 23 = .ok (.istore 5, 2) := by decide +kernel
theorem dX2_bargainPrice_25 : decode cX2_bargainPrice 25 = .ok (.iload_n 3, 1) := by decide +kernel
theorem dX2_bargainPrice_26 : decode cX2_bargainPrice 26 = .ok (.iconst 1, 1) := by decide +kernel
theorem dX2_bargainPrice_27 : decode cX2_bargainPrice 27 = .ok (.isub, 1) := by decide +kernel
theorem dX2_bargainPrice_28 : decode cX2_bargainPrice 28 = .ok (.istore 6, 2) := by decide +kernel
theorem dX2_bargainPrice_30 : decode cX2_bargainPrice 30 = .ok (.iload 6, 2) := by decide +kernel
theorem dX2_bargainPrice_32 : decode cX2_bargainPrice 32 = .ok (.ifCond .lt 32, 3) := by decide +kernel
theorem dX2_bargainPrice_35 : decode cX2_bargainPrice 35 = .ok (.iconst 0, 1) := by decide +kernel
theorem dX2_bargainPrice_36 : decode cX2_bargainPrice 36 = .ok (.iconst 0, 1) := by decide +kernel
theorem dX2_bargainPrice_37 : decode cX2_bargainPrice 37 = .ok (.iload 4, 2) := by decide +kernel
theorem dX2_bargainPrice_39 : decode cX2_bargainPrice 39 = .ok (.iload 6, 2) := by decide +kernel
theorem dX2_bargainPrice_41 : decode cX2_bargainPrice 41 = .ok (.aload_n 0, 1) := by decide +kernel
theorem dX2_bargainPrice_42 : decode cX2_bargainPrice 42 = .ok (.getfield 37, 3) := by decide +kernel
theorem dX2_bargainPrice_45 : decode cX2_bargainPrice 45 = .ok (.imul, 1) := by decide +kernel
theorem dX2_bargainPrice_46 : decode cX2_bargainPrice 46 = .ok (.isub, 1) := by decide +kernel
theorem dX2_bargainPrice_47 : decode cX2_bargainPrice 47 = .ok (.invokestatic 65, 3) := by decide +kernel
theorem dX2_bargainPrice_50 : decode cX2_bargainPrice 50 = .ok (.iload 5, 2) := by decide +kernel
theorem dX2_bargainPrice_52 : decode cX2_bargainPrice 52 = .ok (.isub, 1) := by decide +kernel
theorem dX2_bargainPrice_53 : decode cX2_bargainPrice 53 = .ok (.invokestatic 65, 3) := by decide +kernel
theorem dX2_bargainPrice_56 : decode cX2_bargainPrice 56 = .ok (.istore 5, 2) := by decide +kernel
theorem dX2_bargainPrice_58 : decode cX2_bargainPrice 58 = .ok (.iinc 6 (-1), 3) := by decide +kernel
theorem dX2_bargainPrice_61 : decode cX2_bargainPrice 61 = .ok (.goto (-31), 3) := by decide +kernel
theorem dX2_bargainPrice_64 : decode cX2_bargainPrice 64 = .ok (.aload_n 0, 1) := by decide +kernel
theorem dX2_bargainPrice_65 : decode cX2_bargainPrice 65 = .ok (.getfield 15, 3) := by decide +kernel
theorem dX2_bargainPrice_68 : decode cX2_bargainPrice 68 = .ok (.iload_n 1, 1) := by decide +kernel
theorem dX2_bargainPrice_69 : decode cX2_bargainPrice 69 = .ok (.iaload, 1) := by decide +kernel
theorem dX2_bargainPrice_70 : decode cX2_bargainPrice 70 = .ok (.iload 5, 2) := by decide +kernel
theorem dX2_bargainPrice_72 : decode cX2_bargainPrice 72 = .ok (.iadd, 1) := by decide +kernel
theorem dX2_bargainPrice_73 : decode cX2_bargainPrice 73 = .ok (.ireturn, 1) := by decide +kernel
theorem dX3_init_0 : decode cX3_init 0 = .ok (.aload_n 0, 1) := by decide +kernel
theorem dX3_init_1 : decode cX3_init 1 = .ok (.invokespecial 3, 3) := by decide +kernel
theorem dX3_init_4 : decode cX3_init 4 = .ok (.aload_n 0, 1) := by decide +kernel
theorem dX3_init_5 : decode cX3_init 5 = .ok (.sipush 168, 3) := by decide +kernel
theorem dX3_init_8 : decode cX3_init 8 = .ok (.newarray .int, 2) := by decide +kernel
theorem dX3_init_10 : decode cX3_init 10 = .ok (.putfield 11, 3) := by decide +kernel
theorem dX3_init_13 : decode cX3_init 13 = .ok (.aload_n 0, 1) := by decide +kernel
theorem dX3_init_14 : decode cX3_init 14 = .ok (.aload_n 1, 1) := by decide +kernel
theorem dX3_init_15 : decode cX3_init 15 = .ok (.putfield 15, 3) := by decide +kernel
theorem dX3_init_18 : decode cX3_init 18 = .ok (.return_, 1) := by decide +kernel
theorem dX3_isWanted_0 : decode cX3_isWanted 0 = .ok (.aload_n 0, 1) := by decide +kernel
theorem dX3_isWanted_1 : decode cX3_isWanted 1 = .ok (.getfield 15, 3) := by decide +kernel
theorem dX3_isWanted_4 : decode cX3_isWanted 4 = .ok (.getfield 19, 3) := by decide +kernel
theorem dX3_isWanted_7 : decode cX3_isWanted 7 = .ok (.iload_n 1, 1) := by decide +kernel
theorem dX3_isWanted_8 : decode cX3_isWanted 8 = .ok (.iaload, 1) := by decide +kernel
theorem dX3_isWanted_9 : decode cX3_isWanted 9 = .ok (.aload_n 0, 1) := by decide +kernel
theorem dX3_isWanted_10 : decode cX3_isWanted 10 = .ok (.getfield 15, 3) := by decide +kernel
theorem dX3_isWanted_13 : decode cX3_isWanted 13 = .ok (.iload_n 2, 1) := by decide +kernel
theorem dX3_isWanted_14 : decode cX3_isWanted 14 = .ok (.iload_n 1, 1) := by decide +kernel
theorem dX3_isWanted_15 : decode cX3_isWanted 15 = .ok (.invokevirtual 24, 3) := by decide +kernel
theorem dX3_isWanted_18 : decode cX3_isWanted 18 = .ok (.if_icmp .gt 7, 3) := by decide +kernel
theorem dX3_isWanted_21 : decode cX3_isWanted 21 = .ok (.iconst 1, 1) := by decide +kernel
theorem dX3_isWanted_22 : decode cX3_isWanted 22 = .ok (.goto 4, 3) := by decide +kernel
theorem dX3_isWanted_25 : decode cX3_isWanted 25 = .ok (.iconst 0, 1) := by decide +kernel
theorem dX3_isWanted_26 : decode cX3_isWanted 26 = .ok (.ireturn, 1) := by decide +kernel
theorem dX3_byHands_0 : decode cX3_byHands 0 = .ok (.iconst 0, 1) := by decide +kernel
theorem dX3_byHands_1 : decode cX3_byHands 1 = .ok (.istore_n 1, 1) := by decide +kernel
theorem dX3_byHands_2 : decode cX3_byHands 2 = .ok (.iconst 0, 1) := by decide +kernel
theorem dX3_byHands_3 : decode cX3_byHands 3 = .ok (.istore_n 2, 1) := by decide +kernel
theorem dX3_byHands_4 : decode cX3_byHands 4 = .ok (.iload_n 2, 1) := by decide +kernel
theorem dX3_byHands_5 : decode cX3_byHands 5 = .ok (.aload_n 0, 1) := by decide +kernel
theorem dX3_byHands_6 : decode cX3_byHands 6 = .ok (.getfield 15, 3) := by decide +kernel
theorem dX3_byHands_9 : decode cX3_byHands 9 = .ok (.getfield 28, 3) := by decide +kernel
theorem dX3_byHands_12 : decode cX3_byHands 12 = .ok (.if_icmp .ge 61, 3) := by decide +kernel
theorem dX3_byHands_15 : decode cX3_byHands 15 = .ok (.iconst 0, 1) := by decide +kernel
theorem dX3_byHands_16 : decode cX3_byHands 16 = .ok (.istore_n 3, 1) := by decide +kernel
theorem dX3_byHands_17 : decode cX3_byHands 17 = .ok (.iconst 0, 1) := by decide +kernel
theorem dX3_byHands_18 : decode cX3_byHands 18 = .ok (.istore 4, 2) := by decide +kernel
theorem dX3_byHands_20 : decode cX3_byHands 20 = .ok (.iload 4, 2) := by decide +kernel
theorem dX3_byHands_22 : decode cX3_byHands 22 = .ok (.aload_n 0, 1) := by decide +kernel
theorem dX3_byHands_23 : decode cX3_byHands 23 = .ok (.getfield 15, 3) := by decide +kernel
theorem dX3_byHands_26 : decode cX3_byHands 26 = .ok (.getfield 32, 3) := by decide +kernel
theorem dX3_byHands_29 : decode cX3_byHands 29 = .ok (.if_icmp .ge 27, 3) := by decide +kernel
theorem dX3_byHands_32 : decode cX3_byHands 32 = .ok (.iload_n 3, 1) := by decide +kernel
theorem dX3_byHands_33 : decode cX3_byHands 33 = .ok (.aload_n 0, 1) := by decide +kernel
theorem dX3_byHands_34 : decode cX3_byHands 34 = .ok (.iload_n 2, 1) := by decide +kernel
theorem dX3_byHands_35 : decode cX3_byHands 35 = .ok (.iload 4, 2) := by decide +kernel
theorem dX3_byHands_37 : decode cX3_byHands 37 = .ok (.invokevirtual 35, 3) := by decide +kernel
theorem dX3_byHands_40 : decode cX3_byHands 40 = .ok (.ifCond .eq 7, 3) := by decide +kernel
theorem dX3_byHands_43 : decode cX3_byHands 43 = .ok (.iconst 1, 1) := by decide +kernel
theorem dX3_byHands_44 : decode cX3_byHands 44 = .ok (.goto 4, 3) := by decide +kernel
theorem dX3_byHands_47 : decode cX3_byHands 47 = .ok (.iconst 0, 1) := by decide +kernel
theorem dX3_byHands_48 : decode cX3_byHands 48 = .ok (.iadd, 1) := by decide +kernel
theorem dX3_byHands_49 : decode cX3_byHands 49 = .ok (.istore_n 3, 1) := by decide +kernel
theorem dX3_byHands_50 : decode cX3_byHands 50 = .ok (.iinc 4 1, 3) := by decide +kernel
theorem dX3_byHands_53 : decode cX3_byHands 53 = .ok (.goto (-33), 3) := by decide +kernel
theorem dX3_byHands_56 : decode cX3_byHands 56 = .ok (.iload_n 1, 1) := by decide +kernel
theorem dX3_byHands_57 : decode cX3_byHands 57 = .ok (.aload_n 0, 1) := by decide +kernel
theorem dX3_byHands_58 : decode cX3_byHands 58 = .ok (.iload_n 3, 1) := by decide +kernel
theorem dX3_byHands_59 : decode cX3_byHands 59 = .ok (.iload_n 2, 1) := by decide +kernel
theorem dX3_byHands_60 : decode cX3_byHands 60 = .ok (.invokevirtual 39, 3) := by decide +kernel
theorem dX3_byHands_63 : decode cX3_byHands 63 = .ok (.invokestatic 42, 3) := by decide +kernel
theorem dX3_byHands_66 : decode cX3_byHands 66 = .ok (.istore_n 1, 1) := by decide +kernel
theorem dX3_byHands_67 : decode cX3_byHands 67 = .ok (.iinc 2 1, 3) := by decide +kernel
theorem dX3_byHands_70 : decode cX3_byHands 70 = .ok (.goto (-66), 3) := by decide +kernel
theorem dX3_byHands_73 : decode cX3_byHands 73 = .ok (.iconst 0, 1) := by decide +kernel
theorem dX3_byHands_74 : decode cX3_byHands 74 = .ok (.istore_n 2, 1) := by decide +kernel
theorem dX3_byHands_75 : decode cX3_byHands 75 = .ok (.iload_n 2, 1) := by decide +kernel
theorem dX3_byHands_76 : decode cX3_byHands 76 = .ok (.aload_n 0, 1) := by decide +kernel
theorem dX3_byHands_77 : decode cX3_byHands 77 = .ok (.getfield 15, 3) := by decide +kernel
theorem dX3_byHands_80 : decode cX3_byHands 80 = .ok (.getfield 32, 3) := by decide +kernel
theorem dX3_byHands_83 : decode cX3_byHands 83 = .ok (.if_icmp .ge 69, 3) := by decide +kernel
theorem dX3_byHands_86 : decode cX3_byHands 86 = .ok (.iconst 0, 1) := by decide +kernel
theorem dX3_byHands_87 : decode cX3_byHands 87 = .ok (.istore_n 3, 1) := by decide +kernel
theorem dX3_byHands_88 : decode cX3_byHands 88 = .ok (.iconst 0, 1) := by decide +kernel
theorem dX3_byHands_89 : decode cX3_byHands 89 = .ok (.istore 4, 2) := by decide +kernel
theorem dX3_byHands_91 : decode cX3_byHands 91 = .ok (.iload 4, 2) := by decide +kernel
theorem dX3_byHands_93 : decode cX3_byHands 93 = .ok (.aload_n 0, 1) := by decide +kernel
theorem dX3_byHands_94 : decode cX3_byHands 94 = .ok (.getfield 15, 3) := by decide +kernel
theorem dX3_byHands_97 : decode cX3_byHands 97 = .ok (.getfield 28, 3) := by decide +kernel
theorem dX3_byHands_100 : decode cX3_byHands 100 = .ok (.if_icmp .ge 27, 3) := by decide +kernel
theorem dX3_byHands_103 : decode cX3_byHands 103 = .ok (.iload_n 3, 1) := by decide +kernel
theorem dX3_byHands_104 : decode cX3_byHands 104 = .ok (.aload_n 0, 1) := by decide +kernel
theorem dX3_byHands_105 : decode cX3_byHands 105 = .ok (.iload 4, 2) := by decide +kernel
theorem dX3_byHands_107 : decode cX3_byHands 107 = .ok (.iload_n 2, 1) := by decide +kernel
theorem dX3_byHands_108 : decode cX3_byHands 108 = .ok (.invokevirtual 35, 3) := by decide +kernel
theorem dX3_byHands_111 : decode cX3_byHands 111 = .ok (.ifCond .eq 7, 3) := by decide +kernel
theorem dX3_byHands_114 : decode cX3_byHands 114 = .ok (.iconst 1, 1) := by decide +kernel
theorem dX3_byHands_115 : decode cX3_byHands 115 = .ok (.goto 4, 3) := by decide +kernel
theorem dX3_byHands_118 : decode cX3_byHands 118 = .ok (.iconst 0, 1) := by decide +kernel
theorem dX3_byHands_119 : decode cX3_byHands 119 = .ok (.iadd, 1) := by decide +kernel
theorem dX3_byHands_120 : decode cX3_byHands 120 = .ok (.istore_n 3, 1) := by decide +kernel
theorem dX3_byHands_121 : decode cX3_byHands 121 = .ok (.iinc 4 1, 3) := by decide +kernel
theorem dX3_byHands_124 : decode cX3_byHands 124 = .ok (.goto (-33), 3) := by decide +kernel
theorem dX3_byHands_127 : decode cX3_byHands 127 = .ok (.iload_n 1, 1) := by decide +kernel
theorem dX3_byHands_128 : decode cX3_byHands 128 = .ok (.aload_n 0, 1) := by decide +kernel
theorem dX3_byHands_129 : decode cX3_byHands 129 = .ok (.iload_n 3, 1) := by decide +kernel
theorem dX3_byHands_130 : decode cX3_byHands 130 = .ok (.aload_n 0, 1) := by decide +kernel
theorem dX3_byHands_131 : decode cX3_byHands 131 = .ok (.getfield 15, 3) := by decide +kernel
theorem dX3_byHands_134 : decode cX3_byHands 134 = .ok (.getfield 28, 3) := by decide +kernel
theorem dX3_byHands_137 : decode cX3_byHands 137 = .ok (.iload_n 2, 1) := by decide +kernel
theorem dX3_byHands_138 : decode cX3_byHands 138 = .ok (.iadd, 1) := by decide +kernel
theorem dX3_byHands_139 : decode cX3_byHands 139 = .ok (.invokevirtual 39, 3) := by decide +kernel
theorem dX3_byHands_142 : decode cX3_byHands 142 = .ok (.invokestatic 42, 3) := by decide +kernel
theorem dX3_byHands_145 : decode cX3_byHands 145 = .ok (.istore_n 1, 1) := by decide +kernel
theorem dX3_byHands_146 : decode cX3_byHands 146 = .ok (.iinc 2 1, 3) := by decide +kernel
theorem dX3_byHands_149 : decode cX3_byHands 149 = .ok (.goto (-74), 3) := by decide +kernel
theorem dX3_byHands_152 : decode cX3_byHands 152 = .ok (.iload_n 1, 1) := by decide +kernel
theorem dX3_byHands_153 : decode cX3_byHands 153 = .ok (.ireturn, 1) := by decide +kernel
theorem dX3_beatsFor_0 : decode cX3_beatsFor 0 = .ok (.iconst 1, 1) := by decide +kernel
theorem dX3_beatsFor_1 : decode cX3_beatsFor 1 = .ok (.aload_n 0, 1) := by decide +kernel
theorem dX3_beatsFor_2 : decode cX3_beatsFor 2 = .ok (.getfield 15, 3) := by decide +kernel
theorem dX3_beatsFor_5 : decode cX3_beatsFor 5 = .ok (.getfield 47, 3) := by decide +kernel
theorem dX3_beatsFor_8 : decode cX3_beatsFor 8 = .ok (.iload_n 2, 1) := by decide +kernel
theorem dX3_beatsFor_9 : decode cX3_beatsFor 9 = .ok (.iaload, 1) := by decide +kernel
theorem dX3_beatsFor_10 : decode cX3_beatsFor 10 = .ok (.invokestatic 42, 3) := by decide +kernel
theorem dX3_beatsFor_13 : decode cX3_beatsFor 13 = .ok (.istore_n 3, 1) := by decide +kernel
theorem dX3_beatsFor_14 : decode cX3_beatsFor 14 = .ok (.iload_n 1, 1) := by decide +kernel
theorem dX3_beatsFor_15 : decode cX3_beatsFor 15 = .ok (.iload_n 3, 1) := by decide +kernel
theorem dX3_beatsFor_16 : decode cX3_beatsFor 16 = .ok (.iadd, 1) := by decide +kernel
theorem dX3_beatsFor_17 : decode cX3_beatsFor 17 = .ok (.iconst 1, 1) := by decide +kernel
theorem dX3_beatsFor_18 : decode cX3_beatsFor 18 = .ok (.isub, 1) := by decide +kernel
theorem dX3_beatsFor_19 : decode cX3_beatsFor 19 = .ok (.iload_n 3, 1) := by decide +kernel
theorem dX3_beatsFor_20 : decode cX3_beatsFor 20 = .ok (.idiv, 1) := by decide +kernel
theorem dX3_beatsFor_21 : decode cX3_beatsFor 21 = .ok (.ireturn, 1) := by decide +kernel
theorem dX3_byOrder_0 : decode cX3_byOrder 0 = .ok (.aload_n 0, 1) := by decide +kernel
theorem dX3_byOrder_1 : decode cX3_byOrder 1 = .ok (.getfield 11, 3) := by decide +kernel
theorem dX3_byOrder_4 : decode cX3_byOrder 4 = .ok (.iconst 0, 1) := by decide +kernel
theorem dX3_byOrder_5 : decode cX3_byOrder 5 = .ok (.invokestatic 50, 3) := by decide +kernel
theorem dX3_byOrder_8 : decode cX3_byOrder 8 = .ok (.iconst 0, 1) := by decide +kernel
theorem dX3_byOrder_9 : decode cX3_byOrder 9 = .ok (.istore_n 1, 1) := by decide +kernel
theorem dX3_byOrder_10 : decode cX3_byOrder 10 = .ok (.iconst 0, 1) := by decide +kernel
theorem dX3_byOrder_11 : decode cX3_byOrder 11 = .ok (.istore_n 2, 1) := by decide +kernel
theorem dX3_byOrder_12 : decode cX3_byOrder 12 = .ok (.iload_n 2, 1) := by decide +kernel
theorem dX3_byOrder_13 : decode cX3_byOrder 13 = .ok (.aload_n 0, 1) := by decide +kernel
theorem dX3_byOrder_14 : decode cX3_byOrder 14 = .ok (.getfield 15, 3) := by decide +kernel
theorem dX3_byOrder_17 : decode cX3_byOrder 17 = .ok (.getfield 28, 3) := by decide +kernel
theorem dX3_byOrder_20 : decode cX3_byOrder 20 = .ok (.if_icmp .ge 58, 3) := by decide +kernel
theorem dX3_byOrder_23 : decode cX3_byOrder 23 = .ok (.iconst 0, 1) := by decide +kernel
theorem dX3_byOrder_24 : decode cX3_byOrder 24 = .ok (.istore_n 3, 1) := by decide +kernel
theorem dX3_byOrder_25 : decode cX3_byOrder 25 = .ok (.iload_n 3, 1) := by decide +kernel
theorem dX3_byOrder_26 : decode cX3_byOrder 26 = .ok (.aload_n 0, 1) := by decide +kernel
theorem dX3_byOrder_27 : decode cX3_byOrder 27 = .ok (.getfield 15, 3) := by decide +kernel
theorem dX3_byOrder_30 : decode cX3_byOrder 30 = .ok (.getfield 32, 3) := by decide +kernel
theorem dX3_byOrder_33 : decode cX3_byOrder 33 = .ok (.if_icmp .ge 39, 3) := by decide +kernel
theorem dX3_byOrder_36 : decode cX3_byOrder 36 = .ok (.aload_n 0, 1) := by decide +kernel
theorem dX3_byOrder_37 : decode cX3_byOrder 37 = .ok (.iload_n 2, 1) := by decide +kernel
theorem dX3_byOrder_38 : decode cX3_byOrder 38 = .ok (.iload_n 3, 1) := by decide +kernel
theorem dX3_byOrder_39 : decode cX3_byOrder 39 = .ok (.invokevirtual 35, 3) := by decide +kernel
theorem dX3_byOrder_42 : decode cX3_byOrder 42 = .ok (.ifCond .eq 24, 3) := by decide +kernel
theorem dX3_byOrder_45 : decode cX3_byOrder 45 = .ok (.iload_n 1, 1) := by decide +kernel
theorem dX3_byOrder_46 : decode cX3_byOrder 46 = .ok (.aload_n 0, 1) := by decide +kernel
theorem dX3_byOrder_47 : decode cX3_byOrder 47 = .ok (.iload_n 2, 1) := by decide +kernel
theorem dX3_byOrder_48 : decode cX3_byOrder 48 = .ok (.aload_n 0, 1) := by decide +kernel
theorem dX3_byOrder_49 : decode cX3_byOrder 49 = .ok (.getfield 15, 3) := by decide +kernel
theorem dX3_byOrder_52 : decode cX3_byOrder 52 = .ok (.getfield 28, 3) := by decide +kernel
theorem dX3_byOrder_55 : decode cX3_byOrder 55 = .ok (.iload_n 3, 1) := by decide +kernel
theorem dX3_byOrder_56 : decode cX3_byOrder 56 = .ok (.iadd, 1) := by decide +kernel
theorem dX3_byOrder_57 : decode cX3_byOrder 57 = .ok (.invokevirtual 56, 3) := by decide +kernel
theorem dX3_byOrder_60 : decode cX3_byOrder 60 = .ok (.iconst 1, 1) := by decide +kernel
theorem dX3_byOrder_61 : decode cX3_byOrder 61 = .ok (.iadd, 1) := by decide +kernel
theorem dX3_byOrder_62 : decode cX3_byOrder 62 = .ok (.invokestatic 42, 3) := by decide +kernel
theorem dX3_byOrder_65 : decode cX3_byOrder 65 = .ok (.istore_n 1, 1) := by decide +kernel
theorem dX3_byOrder_66 : decode cX3_byOrder 66 = .ok (.iinc 3 1, 3) := by decide +kernel
theorem dX3_byOrder_69 : decode cX3_byOrder 69 = .ok (.goto (-44), 3) := by decide +kernel
theorem dX3_byOrder_72 : decode cX3_byOrder 72 = .ok (.iinc 2 1, 3) := by decide +kernel
theorem dX3_byOrder_75 : decode cX3_byOrder 75 = .ok (.goto (-63), 3) := by decide +kernel
theorem dX3_byOrder_78 : decode cX3_byOrder 78 = .ok (.iload_n 1, 1) := by decide +kernel
theorem dX3_byOrder_79 : decode cX3_byOrder 79 = .ok (.ireturn, 1) := by decide +kernel
theorem dX3_meet_0 : decode cX3_meet 0 = .ok (.iconst 0, 1) := by decide +kernel
theorem dX3_meet_1 : decode cX3_meet 1 = .ok (.istore_n 3, 1) := by decide +kernel
theorem dX3_meet_2 : decode cX3_meet 2 = .ok (.iload_n 3, 1) := by decide +kernel
theorem dX3_meet_3 : decode cX3_meet 3 = .ok (.bipush 11, 2) := by decide +kernel
theorem dX3_meet_5 : decode cX3_meet 5 = .ok (.if_icmp .ge 27, 3) := by decide +kernel
theorem dX3_meet_8 : decode cX3_meet 8 = .ok (.aload_n 0, 1) := by decide +kernel
theorem dX3_meet_9 : decode cX3_meet 9 = .ok (.iload_n 1, 1) := by decide +kernel
theorem dX3_meet_10 : decode cX3_meet 10 = .ok (.iload_n 3, 1) := by decide +kernel
theorem dX3_meet_11 : decode cX3_meet 11 = .ok (.invokevirtual 59, 3) := by decide +kernel
theorem dX3_meet_14 : decode cX3_meet 14 = .ok (.ifCond .eq 12, 3) := by decide +kernel
theorem dX3_meet_17 : decode cX3_meet 17 = .ok (.aload_n 0, 1) := by decide +kernel
theorem dX3_meet_18 : decode cX3_meet 18 = .ok (.iload_n 2, 1) := by decide +kernel
theorem dX3_meet_19 : decode cX3_meet 19 = .ok (.iload_n 3, 1) := by decide +kernel
theorem dX3_meet_20 : decode cX3_meet 20 = .ok (.invokevirtual 59, 3) := by decide +kernel
theorem dX3_meet_23 : decode cX3_meet 23 = .ok (.ifCond .ne 9, 3) := by decide +kernel
theorem dX3_meet_26 : decode cX3_meet 26 = .ok (.iinc 3 1, 3) := by decide +kernel
theorem dX3_meet_29 : decode cX3_meet 29 = .ok (.goto (-27), 3) := by decide +kernel
theorem dX3_meet_32 : decode cX3_meet 32 = .ok (.aload_n 0, 1) := by decide +kernel
theorem dX3_meet_33 : decode cX3_meet 33 = .ok (.getfield 11, 3) := by decide +kernel
theorem dX3_meet_36 : decode cX3_meet 36 = .ok (.iload_n 1, 1) := by decide +kernel
theorem dX3_meet_37 : decode cX3_meet 37 = .ok (.bipush 12, 2) := by decide +kernel
theorem dX3_meet_39 : decode cX3_meet 39 = .ok (.imul, 1) := by decide +kernel
theorem dX3_meet_40 : decode cX3_meet 40 = .ok (.iload_n 3, 1) := by decide +kernel
theorem dX3_meet_41 : decode cX3_meet 41 = .ok (.iadd, 1) := by decide +kernel
theorem dX3_meet_42 : decode cX3_meet 42 = .ok (.dup2, 1) := by decide +kernel
theorem dX3_meet_43 : decode cX3_meet 43 = .ok (.iaload, 1) := by decide +kernel
theorem dX3_meet_44 : decode cX3_meet 44 = .ok (.iconst 1, 1) := by decide +kernel
theorem dX3_meet_45 : decode cX3_meet 45 = .ok (.iadd, 1) := by decide +kernel
theorem dX3_meet_46 : decode cX3_meet 46 = .ok (.iastore, 1) := by decide +kernel
theorem dX3_meet_47 : decode cX3_meet 47 = .ok (.aload_n 0, 1) := by decide +kernel
theorem dX3_meet_48 : decode cX3_meet 48 = .ok (.getfield 11, 3) := by decide +kernel
theorem dX3_meet_51 : decode cX3_meet 51 = .ok (.iload_n 2, 1) := by decide +kernel
theorem dX3_meet_52 : decode cX3_meet 52 = .ok (.bipush 12, 2) := by decide +kernel
theorem dX3_meet_54 : decode cX3_meet 54 = .ok (.imul, 1) := by decide +kernel
theorem dX3_meet_55 : decode cX3_meet 55 = .ok (.iload_n 3, 1) := by decide +kernel
theorem dX3_meet_56 : decode cX3_meet 56 = .ok (.iadd, 1) := by decide +kernel
theorem dX3_meet_57 : decode cX3_meet 57 = .ok (.dup2, 1) := by decide +kernel
theorem dX3_meet_58 : decode cX3_meet 58 = .ok (.iaload, 1) := by decide +kernel
theorem dX3_meet_59 : decode cX3_meet 59 = .ok (.iconst 1, 1) := by decide +kernel
theorem dX3_meet_60 : decode cX3_meet 60 = .ok (.iadd, 1) := by decide +kernel
theorem dX3_meet_61 : decode cX3_meet 61 = .ok (.iastore, 1) := by decide +kernel
theorem dX3_meet_62 : decode cX3_meet 62 = .ok (.iload_n 3, 1) := by decide +kernel
theorem dX3_meet_63 : decode cX3_meet 63 = .ok (.ireturn, 1) := by decide +kernel
theorem dX3_hasHandIn_0 : decode cX3_hasHandIn 0 = .ok (.aload_n 0, 1) := by decide +kernel
theorem dX3_hasHandIn_1 : decode cX3_hasHandIn 1 = .ok (.getfield 11, 3) := by decide +kernel
theorem dX3_hasHandIn_4 : decode cX3_hasHandIn 4 = .ok (.iload_n 1, 1) := by decide +kernel
theorem dX3_hasHandIn_5 : decode cX3_hasHandIn 5 = .ok (.bipush 12, 2) := by decide +kernel
theorem dX3_hasHandIn_7 : decode cX3_hasHandIn 7 = .ok (.imul, 1) := by decide +kernel
theorem dX3_hasHandIn_8 : decode cX3_hasHandIn 8 = .ok (.iload_n 2, 1) := by decide +kernel
theorem dX3_hasHandIn_9 : decode cX3_hasHandIn 9 = .ok (.iadd, 1) := by decide +kernel
theorem dX3_hasHandIn_10 : decode cX3_hasHandIn 10 = .ok (.iaload, 1) := by decide +kernel
theorem dX3_hasHandIn_11 : decode cX3_hasHandIn 11 = .ok (.aload_n 0, 1) := by decide +kernel
theorem dX3_hasHandIn_12 : decode cX3_hasHandIn 12 = .ok (.getfield 15, 3) := by decide +kernel
theorem dX3_hasHandIn_15 : decode cX3_hasHandIn 15 = .ok (.getfield 47, 3) := by decide +kernel
theorem dX3_hasHandIn_18 : decode cX3_hasHandIn 18 = .ok (.iload_n 1, 1) := by decide +kernel
theorem dX3_hasHandIn_19 : decode cX3_hasHandIn 19 = .ok (.iaload, 1) := by decide +kernel
theorem dX3_hasHandIn_20 : decode cX3_hasHandIn 20 = .ok (.if_icmp .ge 7, 3) := by decide +kernel
theorem dX3_hasHandIn_23 : decode cX3_hasHandIn 23 = .ok (.iconst 1, 1) := by decide +kernel
theorem dX3_hasHandIn_24 : decode cX3_hasHandIn 24 = .ok (.goto 4, 3) := by decide +kernel
theorem dX3_hasHandIn_27 : decode cX3_hasHandIn 27 = .ok (.iconst 0, 1) := by decide +kernel
theorem dX3_hasHandIn_28 : decode cX3_hasHandIn 28 = .ok (.ireturn, 1) := by decide +kernel
theorem dX4_init_0 : decode cX4_init 0 = .ok (.aload_n 0, 1) := by decide +kernel
theorem dX4_init_1 : decode cX4_init 1 = .ok (.invokespecial 3, 3) := by decide +kernel
theorem dX4_init_4 : decode cX4_init 4 = .ok (.aload_n 0, 1) := by decide +kernel
theorem dX4_init_5 : decode cX4_init 5 = .ok (.new 9, 3) := by decide +kernel
theorem dX4_init_8 : decode cX4_init 8 = .ok (.dup, 1) := by decide +kernel
theorem dX4_init_9 : decode cX4_init 9 = .ok (.invokespecial 11, 3) := by decide +kernel
theorem dX4_init_12 : decode cX4_init 12 = .ok (.putfield 12, 3) := by decide +kernel
theorem dX4_init_15 : decode cX4_init 15 = .ok (.aload_n 0, 1) := by decide +kernel
theorem dX4_init_16 : decode cX4_init 16 = .ok (.aload_n 1, 1) := by decide +kernel
theorem dX4_init_17 : decode cX4_init 17 = .ok (.putfield 18, 3) := by decide +kernel
theorem dX4_init_20 : decode cX4_init 20 = .ok (.return_, 1) := by decide +kernel
theorem dX4_readText_0 : decode cX4_readText 0 = .ok (.aload_n 0, 1) := by decide +kernel
theorem dX4_readText_1 : decode cX4_readText 1 = .ok (.getfield 12, 3) := by decide +kernel
theorem dX4_readText_4 : decode cX4_readText 4 = .ok (.invokevirtual 22, 3) := by decide +kernel
theorem dX4_readText_7 : decode cX4_readText 7 = .ok (.aload_n 0, 1) := by decide +kernel
theorem dX4_readText_8 : decode cX4_readText 8 = .ok (.iconst 0, 1) := by decide +kernel
theorem dX4_readText_9 : decode cX4_readText 9 = .ok (.putfield 25, 3) := by decide +kernel
theorem dX4_readText_12 : decode cX4_readText 12 = .ok (.aload_n 0, 1) := by decide +kernel
theorem dX4_readText_13 : decode cX4_readText 13 = .ok (.iconst (-1), 1) := by decide +kernel
theorem dX4_readText_14 : decode cX4_readText 14 = .ok (.putfield 29, 3) := by decide +kernel
theorem dX4_readText_17 : decode cX4_readText 17 = .ok (.aload_n 0, 1) := by decide +kernel
theorem dX4_readText_18 : decode cX4_readText 18 = .ok (.iconst 0, 1) := by decide +kernel
theorem dX4_readText_19 : decode cX4_readText 19 = .ok (.putfield 32, 3) := by decide +kernel
theorem dX4_readText_22 : decode cX4_readText 22 = .ok (.aload_n 0, 1) := by decide +kernel
theorem dX4_readText_23 : decode cX4_readText 23 = .ok (.iconst 0, 1) := by decide +kernel
theorem dX4_readText_24 : decode cX4_readText 24 = .ok (.putfield 35, 3) := by decide +kernel
theorem dX4_readText_27 : decode cX4_readText 27 = .ok (.aload_n 0, 1) := by decide +kernel
theorem dX4_readText_28 : decode cX4_readText 28 = .ok (.iconst 0, 1) := by decide +kernel
theorem dX4_readText_29 : decode cX4_readText 29 = .ok (.putfield 39, 3) := by decide +kernel
theorem dX4_readText_32 : decode cX4_readText 32 = .ok (.aload_n 0, 1) := by decide +kernel
theorem dX4_readText_33 : decode cX4_readText 33 = .ok (.invokevirtual 42, 3) := by decide +kernel
theorem dX4_readText_36 : decode cX4_readText 36 = .ok (.iconst 0, 1) := by decide +kernel
theorem dX4_readText_37 : decode cX4_readText 37 = .ok (.istore_n 1, 1) := by decide +kernel
theorem dX4_readText_38 : decode cX4_readText 38 = .ok (.iload_n 1, 1) := by decide +kernel
theorem dX4_readText_39 : decode cX4_readText 39 = .ok (.sipush 500, 3) := by decide +kernel
theorem dX4_readText_42 : decode cX4_readText 42 = .ok (.if_icmp .ge 38, 3) := by decide +kernel
theorem dX4_readText_45 : decode cX4_readText 45 = .ok (.aload_n 0, 1) := by decide +kernel
theorem dX4_readText_46 : decode cX4_readText 46 = .ok (.getfield 25, 3) := by decide +kernel
theorem dX4_readText_49 : decode cX4_readText 49 = .ok (.ifCond .ne 31, 3) := by decide +kernel
theorem dX4_readText_52 : decode cX4_readText 52 = .ok (.aload_n 0, 1) := by decide +kernel
theorem dX4_readText_53 : decode cX4_readText 53 = .ok (.getfield 32, 3) := by decide +kernel
theorem dX4_readText_56 : decode cX4_readText 56 = .ok (.aload_n 0, 1) := by decide +kernel
theorem dX4_readText_57 : decode cX4_readText 57 = .ok (.getfield 18, 3) := by decide +kernel
theorem dX4_readText_60 : decode cX4_readText 60 = .ok (.getfield 45, 3) := by decide +kernel
theorem dX4_readText_63 : decode cX4_readText 63 = .ok (.if_icmp .ge 17, 3) := by decide +kernel
theorem dX4_readText_66 : decode cX4_readText 66 = .ok (.aload_n 0, 1) := by decide +kernel
theorem dX4_readText_67 : decode cX4_readText 67 = .ok (.invokevirtual 50, 3) := by decide +kernel
theorem dX4_readText_70 : decode cX4_readText 70 = .ok (.aload_n 0, 1) := by decide +kernel
theorem dX4_readText_71 : decode cX4_readText 71 = .ok (.invokevirtual 42, 3) := by decide +kernel
theorem dX4_readText_74 : decode cX4_readText 74 = .ok (.iinc 1 1, 3) := by decide +kernel
theorem dX4_readText_77 : decode cX4_readText 77 = .ok (.goto (-39), 3) := by decide +kernel
theorem dX4_readText_80 : decode cX4_readText 80 = .ok (.aload_n 0, 1) := by decide +kernel
theorem dX4_readText_81 : decode cX4_readText 81 = .ok (.getfield 25, 3) := by decide +kernel
theorem dX4_readText_84 : decode cX4_readText 84 = .ok (.ireturn, 1) := by decide +kernel
theorem dX4_readClause_0 : decode cX4_readClause 0 = .ok (.aload_n 0, 1) := by decide +kernel
theorem dX4_readClause_1 : decode cX4_readClause 1 = .ok (.getfield 32, 3) := by decide +kernel
theorem dX4_readClause_4 : decode cX4_readClause 4 = .ok (.istore_n 1, 1) := by decide +kernel
theorem dX4_readClause_5 : decode cX4_readClause 5 = .ok (.aload_n 0, 1) := by decide +kernel
theorem dX4_readClause_6 : decode cX4_readClause 6 = .ok (.invokevirtual 53, 3) := by decide +kernel
theorem dX4_readClause_9 : decode cX4_readClause 9 = .ok (.aload_n 0, 1) := by decide +kernel
theorem dX4_readClause_10 : decode cX4_readClause 10 = .ok (.iload_n 1, 1) := by decide +kernel
theorem dX4_readClause_11 : decode cX4_readClause 11 = .ok (.ldc 56, 2) := by decide +kernel
theorem dX4_readClause_13 : decode cX4_readClause 13 = .ok (.invokevirtual 58, 3) := by decide +kernel
theorem dX4_readClause_16 : decode cX4_readClause 16 = .ok (.ifCond .eq 11, 3) := by decide +kernel
theorem dX4_readClause_19 : decode cX4_readClause 19 = .ok (.aload_n 0, 1) := by decide +kernel
theorem dX4_readClause_20 : decode cX4_readClause 20 = .ok (.iload_n 1, 1) := by decide +kernel
theorem dX4_readClause_21 : decode cX4_readClause 21 = .ok (.invokevirtual 62, 3) := by decide +kernel
theorem dX4_readClause_24 : decode cX4_readClause 24 = .ok (.goto 142, 3) := by decide +kernel
theorem dX4_readClause_27 : decode cX4_readClause 27 = .ok (.aload_n 0, 1) := by decide +kernel
theorem dX4_readClause_28 : decode cX4_readClause 28 = .ok (.iload_n 1, 1) := by decide +kernel
theorem dX4_readClause_29 : decode cX4_readClause 29 = .ok (.ldc 66, 2) := by decide +kernel
theorem dX4_readClause_31 : decode cX4_readClause 31 = .ok (.invokevirtual 58, 3) := by decide +kernel
theorem dX4_readClause_34 : decode cX4_readClause 34 = .ok (.ifCond .eq 11, 3) := by decide +kernel
theorem dX4_readClause_37 : decode cX4_readClause 37 = .ok (.aload_n 0, 1) := by decide +kernel
theorem dX4_readClause_38 : decode cX4_readClause 38 = .ok (.iload_n 1, 1) := by decide +kernel
theorem dX4_readClause_39 : decode cX4_readClause 39 = .ok (.invokevirtual 68, 3) := by decide +kernel
theorem dX4_readClause_42 : decode cX4_readClause 42 = .ok (.goto 124, 3) := by decide +kernel
theorem dX4_readClause_45 : decode cX4_readClause 45 = .ok (.aload_n 0, 1) := by decide +kernel
theorem dX4_readClause_46 : decode cX4_readClause 46 = .ok (.iload_n 1, 1) := by decide +kernel
theorem dX4_readClause_47 : decode cX4_readClause 47 = .ok (.ldc 71, 2) := by decide +kernel
theorem dX4_readClause_49 : decode cX4_readClause 49 = .ok (.invokevirtual 58, 3) := by decide +kernel
theorem dX4_readClause_52 : decode cX4_readClause 52 = .ok (.ifCond .eq 11, 3) := by decide +kernel
theorem dX4_readClause_55 : decode cX4_readClause 55 = .ok (.aload_n 0, 1) := by decide +kernel
theorem dX4_readClause_56 : decode cX4_readClause 56 = .ok (.iload_n 1, 1) := by decide +kernel
theorem dX4_readClause_57 : decode cX4_readClause 57 = .ok (.invokevirtual 73, 3) := by decide +kernel
theorem dX4_readClause_60 : decode cX4_readClause 60 = .ok (.goto 106, 3) := by decide +kernel
theorem dX4_readClause_63 : decode cX4_readClause 63 = .ok (.aload_n 0, 1) := by decide +kernel
theorem dX4_readClause_64 : decode cX4_readClause 64 = .ok (.iload_n 1, 1) := by decide +kernel
theorem dX4_readClause_65 : decode cX4_readClause 65 = .ok (.ldc 76, 2) := by decide +kernel
theorem dX4_readClause_67 : decode cX4_readClause 67 = .ok (.invokevirtual 58, 3) := by decide +kernel
theorem dX4_readClause_70 : decode cX4_readClause 70 = .ok (.ifCond .eq 41, 3) := by decide +kernel
theorem dX4_readClause_73 : decode cX4_readClause 73 = .ok (.aload_n 0, 1) := by decide +kernel
theorem dX4_readClause_74 : decode cX4_readClause 74 = .ok (.aload_n 0, 1) := by decide +kernel
theorem dX4_readClause_75 : decode cX4_readClause 75 = .ok (.getfield 35, 3) := by decide +kernel
theorem dX4_readClause_78 : decode cX4_readClause 78 = .ok (.iconst 3, 1) := by decide +kernel
theorem dX4_readClause_79 : decode cX4_readClause 79 = .ok (.iload_n 1, 1) := by decide +kernel
theorem dX4_readClause_80 : decode cX4_readClause 80 = .ok (.invokevirtual 78, 3) := by decide +kernel
theorem dX4_readClause_83 : decode cX4_readClause 83 = .ok (.aload_n 0, 1) := by decide +kernel
theorem dX4_readClause_84 : decode cX4_readClause 84 = .ok (.iconst 1, 1) := by decide +kernel
theorem dX4_readClause_85 : decode cX4_readClause 85 = .ok (.putfield 35, 3) := by decide +kernel
theorem dX4_readClause_88 : decode cX4_readClause 88 = .ok (.aload_n 0, 1) := by decide +kernel
theorem dX4_readClause_89 : decode cX4_readClause 89 = .ok (.getfield 12, 3) := by decide +kernel
theorem dX4_readClause_92 : decode cX4_readClause 92 = .ok (.aload_n 0, 1) := by decide +kernel
theorem dX4_readClause_93 : decode cX4_readClause 93 = .ok (.iconst 1, 1) := by decide +kernel
theorem dX4_readClause_94 : decode cX4_readClause 94 = .ok (.bipush 99, 2) := by decide +kernel
theorem dX4_readClause_96 : decode cX4_readClause 96 = .ok (.invokevirtual 82, 3) := by decide +kernel
theorem dX4_readClause_99 : decode cX4_readClause 99 = .ok (.putfield 86, 3) := by decide +kernel
theorem dX4_readClause_102 : decode cX4_readClause 102 = .ok (.aload_n 0, 1) := by decide +kernel
theorem dX4_readClause_103 : decode cX4_readClause 103 = .ok (.bipush 59, 2) := by decide +kernel
theorem dX4_readClause_105 : decode cX4_readClause 105 = .ok (.invokevirtual 88, 3) := by decide +kernel
theorem dX4_readClause_108 : decode cX4_readClause 108 = .ok (.goto 58, 3) := by decide +kernel
theorem dX4_readClause_111 : decode cX4_readClause 111 = .ok (.aload_n 0, 1) := by decide +kernel
theorem dX4_readClause_112 : decode cX4_readClause 112 = .ok (.iload_n 1, 1) := by decide +kernel
theorem dX4_readClause_113 : decode cX4_readClause 113 = .ok (.ldc 91, 2) := by decide +kernel
theorem dX4_readClause_115 : decode cX4_readClause 115 = .ok (.invokevirtual 58, 3) := by decide +kernel
theorem dX4_readClause_118 : decode cX4_readClause 118 = .ok (.ifCond .eq 41, 3) := by decide +kernel
theorem dX4_readClause_121 : decode cX4_readClause 121 = .ok (.aload_n 0, 1) := by decide +kernel
theorem dX4_readClause_122 : decode cX4_readClause 122 = .ok (.aload_n 0, 1) := by decide +kernel
theorem dX4_readClause_123 : decode cX4_readClause 123 = .ok (.getfield 39, 3) := by decide +kernel
theorem dX4_readClause_126 : decode cX4_readClause 126 = .ok (.iconst 3, 1) := by decide +kernel
theorem dX4_readClause_127 : decode cX4_readClause 127 = .ok (.iload_n 1, 1) := by decide +kernel
theorem dX4_readClause_128 : decode cX4_readClause 128 = .ok (.invokevirtual 78, 3) := by decide +kernel
theorem dX4_readClause_131 : decode cX4_readClause 131 = .ok (.aload_n 0, 1) := by decide +kernel
theorem dX4_readClause_132 : decode cX4_readClause 132 = .ok (.iconst 1, 1) := by decide +kernel
theorem dX4_readClause_133 : decode cX4_readClause 133 = .ok (.putfield 39, 3) := by decide +kernel
theorem dX4_readClause_136 : decode cX4_readClause 136 = .ok (.aload_n 0, 1) := by decide +kernel
theorem dX4_readClause_137 : decode cX4_readClause 137 = .ok (.getfield 12, 3) := by decide +kernel
theorem dX4_readClause_140 : decode cX4_readClause 140 = .ok (.aload_n 0, 1) := by decide +kernel
theorem dX4_readClause_141 : decode cX4_readClause 141 = .ok (.iconst 0, 1) := by decide +kernel
theorem dX4_readClause_142 : decode cX4_readClause 142 = .ok (.bipush 99, 2) := by decide +kernel
theorem dX4_readClause_144 : decode cX4_readClause 144 = .ok (.invokevirtual 82, 3) := by decide +kernel
theorem dX4_readClause_147 : decode cX4_readClause 147 = .ok (.putfield 93, 3) := by decide +kernel
theorem dX4_readClause_150 : decode cX4_readClause 150 = .ok (.aload_n 0, 1) := by decide +kernel
theorem dX4_readClause_151 : decode cX4_readClause 151 = .ok (.bipush 59, 2) := by decide +kernel
theorem dX4_readClause_153 : decode cX4_readClause 153 = .ok (.invokevirtual 88, 3) := by decide +kernel
theorem dX4_readClause_156 : decode cX4_readClause 156 = .ok (.goto 10, 3) := by decide +kernel
theorem dX4_readClause_159 : decode cX4_readClause 159 = .ok (.aload_n 0, 1) := by decide +kernel
theorem dX4_readClause_160 : decode cX4_readClause 160 = .ok (.iconst 1, 1) := by decide +kernel
theorem dX4_readClause_161 : decode cX4_readClause 161 = .ok (.iconst 1, 1) := by decide +kernel
theorem dX4_readClause_162 : decode cX4_readClause 162 = .ok (.iload_n 1, 1) := by decide +kernel
theorem dX4_readClause_163 : decode cX4_readClause 163 = .ok (.invokevirtual 78, 3) := by decide +kernel
theorem dX4_readClause_166 : decode cX4_readClause 166 = .ok (.return_, 1) := by decide +kernel
theorem dX4_readSeller_0 : decode cX4_readSeller 0 = .ok (.aload_n 0, 1) := by decide +kernel
theorem dX4_readSeller_1 : decode cX4_readSeller 1 = .ok (.aload_n 0, 1) := by decide +kernel
theorem dX4_readSeller_2 : decode cX4_readSeller 2 = .ok (.getfield 12, 3) := by decide +kernel
theorem dX4_readSeller_5 : decode cX4_readSeller 5 = .ok (.getfield 95, 3) := by decide +kernel
theorem dX4_readSeller_8 : decode cX4_readSeller 8 = .ok (.bipush 6, 2) := by decide +kernel
theorem dX4_readSeller_10 : decode cX4_readSeller 10 = .ok (.if_icmp .lt 7, 3) := by decide +kernel
theorem dX4_readSeller_13 : decode cX4_readSeller 13 = .ok (.iconst 1, 1) := by decide +kernel
theorem dX4_readSeller_14 : decode cX4_readSeller 14 = .ok (.goto 4, 3) := by decide +kernel
theorem dX4_readSeller_17 : decode cX4_readSeller 17 = .ok (.iconst 0, 1) := by decide +kernel
theorem dX4_readSeller_18 : decode cX4_readSeller 18 = .ok (.iconst 3, 1) := by decide +kernel
theorem dX4_readSeller_19 : decode cX4_readSeller 19 = .ok (.iload_n 1, 1) := by decide +kernel
theorem dX4_readSeller_20 : decode cX4_readSeller 20 = .ok (.invokevirtual 78, 3) := by decide +kernel
theorem dX4_readSeller_23 : decode cX4_readSeller 23 = .ok (.aload_n 0, 1) := by decide +kernel
theorem dX4_readSeller_24 : decode cX4_readSeller 24 = .ok (.aload_n 0, 1) := by decide +kernel
theorem dX4_readSeller_25 : decode cX4_readSeller 25 = .ok (.getfield 12, 3) := by decide +kernel
theorem dX4_readSeller_28 : decode cX4_readSeller 28 = .ok (.getfield 98, 3) := by decide +kernel
theorem dX4_readSeller_31 : decode cX4_readSeller 31 = .ok (.aload_n 0, 1) := by decide +kernel
theorem dX4_readSeller_32 : decode cX4_readSeller 32 = .ok (.getfield 12, 3) := by decide +kernel
theorem dX4_readSeller_35 : decode cX4_readSeller 35 = .ok (.getfield 101, 3) := by decide +kernel
theorem dX4_readSeller_38 : decode cX4_readSeller 38 = .ok (.iadd, 1) := by decide +kernel
theorem dX4_readSeller_39 : decode cX4_readSeller 39 = .ok (.ifCond .le 7, 3) := by decide +kernel
theorem dX4_readSeller_42 : decode cX4_readSeller 42 = .ok (.iconst 1, 1) := by decide +kernel
theorem dX4_readSeller_43 : decode cX4_readSeller 43 = .ok (.goto 4, 3) := by decide +kernel
theorem dX4_readSeller_46 : decode cX4_readSeller 46 = .ok (.iconst 0, 1) := by decide +kernel
theorem dX4_readSeller_47 : decode cX4_readSeller 47 = .ok (.iconst 4, 1) := by decide +kernel
theorem dX4_readSeller_48 : decode cX4_readSeller 48 = .ok (.iload_n 1, 1) := by decide +kernel
theorem dX4_readSeller_49 : decode cX4_readSeller 49 = .ok (.invokevirtual 78, 3) := by decide +kernel
theorem dX4_readSeller_52 : decode cX4_readSeller 52 = .ok (.aload_n 0, 1) := by decide +kernel
theorem dX4_readSeller_53 : decode cX4_readSeller 53 = .ok (.iconst 0, 1) := by decide +kernel
theorem dX4_readSeller_54 : decode cX4_readSeller 54 = .ok (.sipush 999, 3) := by decide +kernel
theorem dX4_readSeller_57 : decode cX4_readSeller 57 = .ok (.invokevirtual 82, 3) := by decide +kernel
theorem dX4_readSeller_60 : decode cX4_readSeller 60 = .ok (.istore_n 2, 1) := by decide +kernel
theorem dX4_readSeller_61 : decode cX4_readSeller 61 = .ok (.aload_n 0, 1) := by decide +kernel
theorem dX4_readSeller_62 : decode cX4_readSeller 62 = .ok (.iconst 1, 1) := by decide +kernel
theorem dX4_readSeller_63 : decode cX4_readSeller 63 = .ok (.iconst 2, 1) := by decide +kernel
theorem dX4_readSeller_64 : decode cX4_readSeller 64 = .ok (.invokevirtual 82, 3) := by decide +kernel
theorem dX4_readSeller_67 : decode cX4_readSeller 67 = .ok (.istore_n 3, 1) := by decide +kernel
theorem dX4_readSeller_68 : decode cX4_readSeller 68 = .ok (.aload_n 0, 1) := by decide +kernel
theorem dX4_readSeller_69 : decode cX4_readSeller 69 = .ok (.bipush 59, 2) := by decide +kernel
theorem dX4_readSeller_71 : decode cX4_readSeller 71 = .ok (.invokevirtual 88, 3) := by decide +kernel
theorem dX4_readSeller_74 : decode cX4_readSeller 74 = .ok (.aload_n 0, 1) := by decide +kernel
theorem dX4_readSeller_75 : decode cX4_readSeller 75 = .ok (.getfield 25, 3) := by decide +kernel
theorem dX4_readSeller_78 : decode cX4_readSeller 78 = .ok (.ifCond .ne 22, 3) := by decide +kernel
theorem dX4_readSeller_81 : decode cX4_readSeller 81 = .ok (.aload_n 0, 1) := by decide +kernel
theorem dX4_readSeller_82 : decode cX4_readSeller 82 = .ok (.iload_n 3, 1) := by decide +kernel
theorem dX4_readSeller_83 : decode cX4_readSeller 83 = .ok (.iload_n 2, 1) := by decide +kernel
theorem dX4_readSeller_84 : decode cX4_readSeller 84 = .ok (.invokevirtual 104, 3) := by decide +kernel
theorem dX4_readSeller_87 : decode cX4_readSeller 87 = .ok (.aload_n 0, 1) := by decide +kernel
theorem dX4_readSeller_88 : decode cX4_readSeller 88 = .ok (.getfield 12, 3) := by decide +kernel
theorem dX4_readSeller_91 : decode cX4_readSeller 91 = .ok (.dup, 1) := by decide +kernel
theorem dX4_readSeller_92 : decode cX4_readSeller 92 = .ok (.getfield 95, 3) := by decide +kernel
theorem dX4_readSeller_95 : decode cX4_readSeller 95 = .ok (.iconst 1, 1) := by decide +kernel
theorem dX4_readSeller_96 : decode cX4_readSeller 96 = .ok (.iadd, 1) := by decide +kernel
theorem dX4_readSeller_97 : decode cX4_readSeller 97 = .ok (.putfield 95, 3) := by decide +kernel
theorem dX4_readSeller_100 : decode cX4_readSeller 100 = .ok (.return_, 1) := by decide +kernel
theorem dX4_readBuyer_0 : decode cX4_readBuyer 0 = .ok (.aload_n 0, 1) := by decide +kernel
theorem dX4_readBuyer_1 : decode cX4_readBuyer 1 = .ok (.aload_n 0, 1) := by decide +kernel
theorem dX4_readBuyer_2 : decode cX4_readBuyer 2 = .ok (.getfield 12, 3) := by decide +kernel
theorem dX4_readBuyer_5 : decode cX4_readBuyer 5 = .ok (.getfield 98, 3) := by decide +kernel
theorem dX4_readBuyer_8 : decode cX4_readBuyer 8 = .ok (.bipush 6, 2) := by decide +kernel
theorem dX4_readBuyer_10 : decode cX4_readBuyer 10 = .ok (.if_icmp .lt 7, 3) := by decide +kernel
theorem dX4_readBuyer_13 : decode cX4_readBuyer 13 = .ok (.iconst 1, 1) := by decide +kernel
theorem dX4_readBuyer_14 : decode cX4_readBuyer 14 = .ok (.goto 4, 3) := by decide +kernel
theorem dX4_readBuyer_17 : decode cX4_readBuyer 17 = .ok (.iconst 0, 1) := by decide +kernel
theorem dX4_readBuyer_18 : decode cX4_readBuyer 18 = .ok (.iconst 3, 1) := by decide +kernel
theorem dX4_readBuyer_19 : decode cX4_readBuyer 19 = .ok (.iload_n 1, 1) := by decide +kernel
theorem dX4_readBuyer_20 : decode cX4_readBuyer 20 = .ok (.invokevirtual 78, 3) := by decide +kernel
theorem dX4_readBuyer_23 : decode cX4_readBuyer 23 = .ok (.aload_n 0, 1) := by decide +kernel
theorem dX4_readBuyer_24 : decode cX4_readBuyer 24 = .ok (.aload_n 0, 1) := by decide +kernel
theorem dX4_readBuyer_25 : decode cX4_readBuyer 25 = .ok (.getfield 12, 3) := by decide +kernel
theorem dX4_readBuyer_28 : decode cX4_readBuyer 28 = .ok (.getfield 101, 3) := by decide +kernel
theorem dX4_readBuyer_31 : decode cX4_readBuyer 31 = .ok (.ifCond .le 7, 3) := by decide +kernel
theorem dX4_readBuyer_34 : decode cX4_readBuyer 34 = .ok (.iconst 1, 1) := by decide +kernel
theorem dX4_readBuyer_35 : decode cX4_readBuyer 35 = .ok (.goto 4, 3) := by decide +kernel
theorem dX4_readBuyer_38 : decode cX4_readBuyer 38 = .ok (.iconst 0, 1) := by decide +kernel
theorem dX4_readBuyer_39 : decode cX4_readBuyer 39 = .ok (.iconst 4, 1) := by decide +kernel
theorem dX4_readBuyer_40 : decode cX4_readBuyer 40 = .ok (.iload_n 1, 1) := by decide +kernel
theorem dX4_readBuyer_41 : decode cX4_readBuyer 41 = .ok (.invokevirtual 78, 3) := by decide +kernel
theorem dX4_readBuyer_44 : decode cX4_readBuyer 44 = .ok (.aload_n 0, 1) := by decide +kernel
theorem dX4_readBuyer_45 : decode cX4_readBuyer 45 = .ok (.iconst 1, 1) := by decide +kernel
theorem dX4_readBuyer_46 : decode cX4_readBuyer 46 = .ok (.iconst 2, 1) := by decide +kernel
theorem dX4_readBuyer_47 : decode cX4_readBuyer 47 = .ok (.invokevirtual 82, 3) := by decide +kernel
theorem dX4_readBuyer_50 : decode cX4_readBuyer 50 = .ok (.istore_n 2, 1) := by decide +kernel
theorem dX4_readBuyer_51 : decode cX4_readBuyer 51 = .ok (.aload_n 0, 1) := by decide +kernel
theorem dX4_readBuyer_52 : decode cX4_readBuyer 52 = .ok (.iconst 0, 1) := by decide +kernel
theorem dX4_readBuyer_53 : decode cX4_readBuyer 53 = .ok (.sipush 9999, 3) := by decide +kernel
theorem dX4_readBuyer_56 : decode cX4_readBuyer 56 = .ok (.invokevirtual 82, 3) := by decide +kernel
theorem dX4_readBuyer_59 : decode cX4_readBuyer 59 = .ok (.istore_n 3, 1) := by decide +kernel
theorem dX4_readBuyer_60 : decode cX4_readBuyer 60 = .ok (.aload_n 0, 1) := by decide +kernel
theorem dX4_readBuyer_61 : decode cX4_readBuyer 61 = .ok (.invokevirtual 42, 3) := by decide +kernel
theorem dX4_readBuyer_64 : decode cX4_readBuyer 64 = .ok (.aload_n 0, 1) := by decide +kernel
theorem dX4_readBuyer_65 : decode cX4_readBuyer 65 = .ok (.aload_n 0, 1) := by decide +kernel
theorem dX4_readBuyer_66 : decode cX4_readBuyer 66 = .ok (.getfield 12, 3) := by decide +kernel
theorem dX4_readBuyer_69 : decode cX4_readBuyer 69 = .ok (.getfield 95, 3) := by decide +kernel
theorem dX4_readBuyer_72 : decode cX4_readBuyer 72 = .ok (.ifCond .ne 7, 3) := by decide +kernel
theorem dX4_readBuyer_75 : decode cX4_readBuyer 75 = .ok (.iconst 1, 1) := by decide +kernel
theorem dX4_readBuyer_76 : decode cX4_readBuyer 76 = .ok (.goto 4, 3) := by decide +kernel
theorem dX4_readBuyer_79 : decode cX4_readBuyer 79 = .ok (.iconst 0, 1) := by decide +kernel
theorem dX4_readBuyer_80 : decode cX4_readBuyer 80 = .ok (.iconst 1, 1) := by decide +kernel
theorem dX4_readBuyer_81 : decode cX4_readBuyer 81 = .ok (.aload_n 0, 1) := by decide +kernel
theorem dX4_readBuyer_82 : decode cX4_readBuyer 82 = .ok (.getfield 32, 3) := by decide +kernel
theorem dX4_readBuyer_85 : decode cX4_readBuyer 85 = .ok (.invokevirtual 78, 3) := by decide +kernel
theorem dX4_readBuyer_88 : decode cX4_readBuyer 88 = .ok (.iconst 0, 1) := by decide +kernel
theorem dX4_readBuyer_89 : decode cX4_readBuyer 89 = .ok (.istore 4, 2) := by decide +kernel
theorem dX4_readBuyer_91 : decode cX4_readBuyer 91 = .ok (.iload 4, 2) := by decide +kernel
theorem dX4_readBuyer_93 : decode cX4_readBuyer 93 = .ok (.aload_n 0, 1) := by decide +kernel
theorem dX4_readBuyer_94 : decode cX4_readBuyer 94 = .ok (.getfield 12, 3) := by decide +kernel
theorem dX4_readBuyer_97 : decode cX4_readBuyer 97 = .ok (.getfield 95, 3) := by decide +kernel
theorem dX4_readBuyer_100 : decode cX4_readBuyer 100 = .ok (.if_icmp .ge 56, 3) := by decide +kernel
theorem dX4_readBuyer_103 : decode cX4_readBuyer 103 = .ok (.aload_n 0, 1) := by decide +kernel
theorem dX4_readBuyer_104 : decode cX4_readBuyer 104 = .ok (.getfield 25, 3) := by decide +kernel
theorem dX4_readBuyer_107 : decode cX4_readBuyer 107 = .ok (.ifCond .ne 49, 3) := by decide +kernel
theorem dX4_readBuyer_110 : decode cX4_readBuyer 110 = .ok (.iload 4, 2) := by decide +kernel
theorem dX4_readBuyer_112 : decode cX4_readBuyer 112 = .ok (.ifCond .le 9, 3) := by decide +kernel
theorem dX4_readBuyer_115 : decode cX4_readBuyer 115 = .ok (.aload_n 0, 1) := by decide +kernel
theorem dX4_readBuyer_116 : decode cX4_readBuyer 116 = .ok (.bipush 44, 2) := by decide +kernel
theorem dX4_readBuyer_118 : decode cX4_readBuyer 118 = .ok (.invokevirtual 88, 3) := by decide +kernel
theorem dX4_readBuyer_121 : decode cX4_readBuyer 121 = .ok (.aload_n 0, 1) := by decide +kernel
theorem dX4_readBuyer_122 : decode cX4_readBuyer 122 = .ok (.getfield 12, 3) := by decide +kernel
theorem dX4_readBuyer_125 : decode cX4_readBuyer 125 = .ok (.getfield 108, 3) := by decide +kernel
theorem dX4_readBuyer_128 : decode cX4_readBuyer 128 = .ok (.aload_n 0, 1) := by decide +kernel
