theorem dX10_takeBuyer_69 : decode cX10_takeBuyer 69 = .ok (.iconst 1, 1) := by decide +kernel
theorem dX10_takeBuyer_70 : decode cX10_takeBuyer 70 = .ok (.aload_n 0, 1) := by decide +kernel
theorem dX10_takeBuyer_71 : decode cX10_takeBuyer 71 = .ok (.getfield 150, 3) := by decide +kernel
theorem dX10_takeBuyer_74 : decode cX10_takeBuyer 74 = .ok (.invokevirtual 179, 3) := by decide +kernel
theorem dX10_takeBuyer_77 : decode cX10_takeBuyer 77 = .ok (.ireturn, 1) := by decide +kernel
theorem dX10_takeBuyer_78 : decode cX10_takeBuyer 78 = .ok (.iconst 0, 1) := by decide +kernel
theorem dX10_takeBuyer_79 : decode cX10_takeBuyer 79 = .ok (.istore_n 3, 1) := by decide +kernel
theorem dX10_takeBuyer_80 : decode cX10_takeBuyer 80 = .ok (.iload_n 3, 1) := by decide +kernel
theorem dX10_takeBuyer_81 : decode cX10_takeBuyer 81 = .ok (.aload_n 0, 1) := by decide +kernel
theorem dX10_takeBuyer_82 : decode cX10_takeBuyer 82 = .ok (.getfield 193, 3) := by decide +kernel
theorem dX10_takeBuyer_85 : decode cX10_takeBuyer 85 = .ok (.if_icmp .ge 73, 3) := by decide +kernel
theorem dX10_takeBuyer_88 : decode cX10_takeBuyer 88 = .ok (.iload_n 2, 1) := by decide +kernel
theorem dX10_takeBuyer_89 : decode cX10_takeBuyer 89 = .ok (.ifCond .ne 69, 3) := by decide +kernel
theorem dX10_takeBuyer_92 : decode cX10_takeBuyer 92 = .ok (.iload_n 3, 1) := by decide +kernel
theorem dX10_takeBuyer_93 : decode cX10_takeBuyer 93 = .ok (.ifCond .le 22, 3) := by decide +kernel
theorem dX10_takeBuyer_96 : decode cX10_takeBuyer 96 = .ok (.aload_n 0, 1) := by decide +kernel
theorem dX10_takeBuyer_97 : decode cX10_takeBuyer 97 = .ok (.invokevirtual 153, 3) := by decide +kernel
theorem dX10_takeBuyer_100 : decode cX10_takeBuyer 100 = .ok (.bipush 44, 2) := by decide +kernel
theorem dX10_takeBuyer_102 : decode cX10_takeBuyer 102 = .ok (.if_icmp .eq 13, 3) := by decide +kernel
theorem dX10_takeBuyer_105 : decode cX10_takeBuyer 105 = .ok (.aload_n 0, 1) := by decide +kernel
theorem dX10_takeBuyer_106 : decode cX10_takeBuyer 106 = .ok (.iconst 1, 1) := by decide +kernel
theorem dX10_takeBuyer_107 : decode cX10_takeBuyer 107 = .ok (.aload_n 0, 1) := by decide +kernel
theorem dX10_takeBuyer_108 : decode cX10_takeBuyer 108 = .ok (.getfield 150, 3) := by decide +kernel
theorem dX10_takeBuyer_111 : decode cX10_takeBuyer 111 = .ok (.invokevirtual 179, 3) := by decide +kernel
theorem dX10_takeBuyer_114 : decode cX10_takeBuyer 114 = .ok (.ireturn, 1) := by decide +kernel
theorem dX10_takeBuyer_115 : decode cX10_takeBuyer 115 = .ok (.aload_n 0, 1) := by decide +kernel
theorem dX10_takeBuyer_116 : decode cX10_takeBuyer 116 = .ok (.dup, 1) := by decide +kernel
theorem dX10_takeBuyer_117 : decode cX10_takeBuyer 117 = .ok (.getfield 150, 3) := by decide +kernel
theorem dX10_takeBuyer_120 : decode cX10_takeBuyer 120 = .ok (.iload_n 3, 1) := by decide +kernel
theorem dX10_takeBuyer_121 : decode cX10_takeBuyer 121 = .ok (.ifCond .le 7, 3) := by decide +kernel
theorem dX10_takeBuyer_124 : decode cX10_takeBuyer 124 = .ok (.iconst 1, 1) := by decide +kernel
theorem dX10_takeBuyer_125 : decode cX10_takeBuyer 125 = .ok (.goto 4, 3) := by decide +kernel
theorem dX10_takeBuyer_128 : decode cX10_takeBuyer 128 = .ok (.iconst 0, 1) := by decide +kernel
theorem dX10_takeBuyer_129 : decode cX10_takeBuyer 129 = .ok (.iadd, 1) := by decide +kernel
theorem dX10_takeBuyer_130 : decode cX10_takeBuyer 130 = .ok (.putfield 150, 3) := by decide +kernel
theorem dX10_takeBuyer_133 : decode cX10_takeBuyer 133 = .ok (.aload_n 0, 1) := by decide +kernel
theorem dX10_takeBuyer_134 : decode cX10_takeBuyer 134 = .ok (.aload_n 0, 1) := by decide +kernel
theorem dX10_takeBuyer_135 : decode cX10_takeBuyer 135 = .ok (.getfield 62, 3) := by decide +kernel
theorem dX10_takeBuyer_138 : decode cX10_takeBuyer 138 = .ok (.bipush 6, 2) := by decide +kernel
theorem dX10_takeBuyer_140 : decode cX10_takeBuyer 140 = .ok (.iload_n 1, 1) := by decide +kernel
theorem dX10_takeBuyer_141 : decode cX10_takeBuyer 141 = .ok (.imul, 1) := by decide +kernel
theorem dX10_takeBuyer_142 : decode cX10_takeBuyer 142 = .ok (.iload_n 3, 1) := by decide +kernel
theorem dX10_takeBuyer_143 : decode cX10_takeBuyer 143 = .ok (.iadd, 1) := by decide +kernel
theorem dX10_takeBuyer_144 : decode cX10_takeBuyer 144 = .ok (.iconst 0, 1) := by decide +kernel
theorem dX10_takeBuyer_145 : decode cX10_takeBuyer 145 = .ok (.sipush 999, 3) := by decide +kernel
theorem dX10_takeBuyer_148 : decode cX10_takeBuyer 148 = .ok (.invokevirtual 196, 3) := by decide +kernel
theorem dX10_takeBuyer_151 : decode cX10_takeBuyer 151 = .ok (.istore_n 2, 1) := by decide +kernel
theorem dX10_takeBuyer_152 : decode cX10_takeBuyer 152 = .ok (.iinc 3 1, 3) := by decide +kernel
theorem dX10_takeBuyer_155 : decode cX10_takeBuyer 155 = .ok (.goto (-75), 3) := by decide +kernel
theorem dX10_takeBuyer_158 : decode cX10_takeBuyer 158 = .ok (.iload_n 2, 1) := by decide +kernel
theorem dX10_takeBuyer_159 : decode cX10_takeBuyer 159 = .ok (.ireturn, 1) := by decide +kernel
theorem dX10_takeBroker_0 : decode cX10_takeBroker 0 = .ok (.aload_n 0, 1) := by decide +kernel
theorem dX10_takeBroker_1 : decode cX10_takeBroker 1 = .ok (.aload_n 0, 1) := by decide +kernel
theorem dX10_takeBroker_2 : decode cX10_takeBroker 2 = .ok (.getfield 68, 3) := by decide +kernel
theorem dX10_takeBroker_5 : decode cX10_takeBroker 5 = .ok (.bipush 12, 2) := by decide +kernel
theorem dX10_takeBroker_7 : decode cX10_takeBroker 7 = .ok (.aload_n 0, 1) := by decide +kernel
theorem dX10_takeBroker_8 : decode cX10_takeBroker 8 = .ok (.getfield 203, 3) := by decide +kernel
theorem dX10_takeBroker_11 : decode cX10_takeBroker 11 = .ok (.iadd, 1) := by decide +kernel
theorem dX10_takeBroker_12 : decode cX10_takeBroker 12 = .ok (.iconst 1, 1) := by decide +kernel
theorem dX10_takeBroker_13 : decode cX10_takeBroker 13 = .ok (.iconst 2, 1) := by decide +kernel
theorem dX10_takeBroker_14 : decode cX10_takeBroker 14 = .ok (.invokevirtual 196, 3) := by decide +kernel
theorem dX10_takeBroker_17 : decode cX10_takeBroker 17 = .ok (.istore_n 1, 1) := by decide +kernel
theorem dX10_takeBroker_18 : decode cX10_takeBroker 18 = .ok (.iload_n 1, 1) := by decide +kernel
theorem dX10_takeBroker_19 : decode cX10_takeBroker 19 = .ok (.ifCond .le 7, 3) := by decide +kernel
theorem dX10_takeBroker_22 : decode cX10_takeBroker 22 = .ok (.iload_n 1, 1) := by decide +kernel
theorem dX10_takeBroker_23 : decode cX10_takeBroker 23 = .ok (.goto 18, 3) := by decide +kernel
theorem dX10_takeBroker_26 : decode cX10_takeBroker 26 = .ok (.aload_n 0, 1) := by decide +kernel
theorem dX10_takeBroker_27 : decode cX10_takeBroker 27 = .ok (.aload_n 0, 1) := by decide +kernel
theorem dX10_takeBroker_28 : decode cX10_takeBroker 28 = .ok (.getfield 65, 3) := by decide +kernel
theorem dX10_takeBroker_31 : decode cX10_takeBroker 31 = .ok (.aload_n 0, 1) := by decide +kernel
theorem dX10_takeBroker_32 : decode cX10_takeBroker 32 = .ok (.getfield 203, 3) := by decide +kernel
theorem dX10_takeBroker_35 : decode cX10_takeBroker 35 = .ok (.iconst 0, 1) := by decide +kernel
theorem dX10_takeBroker_36 : decode cX10_takeBroker 36 = .ok (.bipush 50, 2) := by decide +kernel
theorem dX10_takeBroker_38 : decode cX10_takeBroker 38 = .ok (.invokevirtual 196, 3) := by decide +kernel
theorem dX10_takeBroker_41 : decode cX10_takeBroker 41 = .ok (.istore_n 1, 1) := by decide +kernel
theorem dX10_takeBroker_42 : decode cX10_takeBroker 42 = .ok (.aload_n 0, 1) := by decide +kernel
theorem dX10_takeBroker_43 : decode cX10_takeBroker 43 = .ok (.dup, 1) := by decide +kernel
theorem dX10_takeBroker_44 : decode cX10_takeBroker 44 = .ok (.getfield 203, 3) := by decide +kernel
theorem dX10_takeBroker_47 : decode cX10_takeBroker 47 = .ok (.iconst 1, 1) := by decide +kernel
theorem dX10_takeBroker_48 : decode cX10_takeBroker 48 = .ok (.iadd, 1) := by decide +kernel
theorem dX10_takeBroker_49 : decode cX10_takeBroker 49 = .ok (.putfield 203, 3) := by decide +kernel
theorem dX10_takeBroker_52 : decode cX10_takeBroker 52 = .ok (.iload_n 1, 1) := by decide +kernel
theorem dX10_takeBroker_53 : decode cX10_takeBroker 53 = .ok (.ireturn, 1) := by decide +kernel
theorem dX10_clauseOf_0 : decode cX10_clauseOf 0 = .ok (.aload_n 0, 1) := by decide +kernel
theorem dX10_clauseOf_1 : decode cX10_clauseOf 1 = .ok (.getfield 156, 3) := by decide +kernel
theorem dX10_clauseOf_4 : decode cX10_clauseOf 4 = .ok (.bipush 115, 2) := by decide +kernel
theorem dX10_clauseOf_6 : decode cX10_clauseOf 6 = .ok (.bipush 101, 2) := by decide +kernel
theorem dX10_clauseOf_8 : decode cX10_clauseOf 8 = .ok (.bipush 108, 2) := by decide +kernel
theorem dX10_clauseOf_10 : decode cX10_clauseOf 10 = .ok (.bipush 108, 2) := by decide +kernel
theorem dX10_clauseOf_12 : decode cX10_clauseOf 12 = .ok (.invokestatic 206, 3) := by decide +kernel
theorem dX10_clauseOf_15 : decode cX10_clauseOf 15 = .ok (.bipush 101, 2) := by decide +kernel
theorem dX10_clauseOf_17 : decode cX10_clauseOf 17 = .ok (.invokestatic 210, 3) := by decide +kernel
theorem dX10_clauseOf_20 : decode cX10_clauseOf 20 = .ok (.bipush 114, 2) := by decide +kernel
theorem dX10_clauseOf_22 : decode cX10_clauseOf 22 = .ok (.invokestatic 210, 3) := by decide +kernel
theorem dX10_clauseOf_25 : decode cX10_clauseOf 25 = .ok (.lcmp, 1) := by decide +kernel
theorem dX10_clauseOf_26 : decode cX10_clauseOf 26 = .ok (.ifCond .ne 7, 3) := by decide +kernel
theorem dX10_clauseOf_29 : decode cX10_clauseOf 29 = .ok (.iconst 0, 1) := by decide +kernel
theorem dX10_clauseOf_30 : decode cX10_clauseOf 30 = .ok (.goto 65, 3) := by decide +kernel
theorem dX10_clauseOf_33 : decode cX10_clauseOf 33 = .ok (.aload_n 0, 1) := by decide +kernel
theorem dX10_clauseOf_34 : decode cX10_clauseOf 34 = .ok (.getfield 156, 3) := by decide +kernel
theorem dX10_clauseOf_37 : decode cX10_clauseOf 37 = .ok (.bipush 98, 2) := by decide +kernel
theorem dX10_clauseOf_39 : decode cX10_clauseOf 39 = .ok (.bipush 117, 2) := by decide +kernel
theorem dX10_clauseOf_41 : decode cX10_clauseOf 41 = .ok (.bipush 121, 2) := by decide +kernel
theorem dX10_clauseOf_43 : decode cX10_clauseOf 43 = .ok (.bipush 101, 2) := by decide +kernel
theorem dX10_clauseOf_45 : decode cX10_clauseOf 45 = .ok (.invokestatic 206, 3) := by decide +kernel
theorem dX10_clauseOf_48 : decode cX10_clauseOf 48 = .ok (.bipush 114, 2) := by decide +kernel
theorem dX10_clauseOf_50 : decode cX10_clauseOf 50 = .ok (.invokestatic 210, 3) := by decide +kernel
theorem dX10_clauseOf_53 : decode cX10_clauseOf 53 = .ok (.lcmp, 1) := by decide +kernel
theorem dX10_clauseOf_54 : decode cX10_clauseOf 54 = .ok (.ifCond .ne 7, 3) := by decide +kernel
theorem dX10_clauseOf_57 : decode cX10_clauseOf 57 = .ok (.iconst 1, 1) := by decide +kernel
theorem dX10_clauseOf_58 : decode cX10_clauseOf 58 = .ok (.goto 37, 3) := by decide +kernel
theorem dX10_clauseOf_61 : decode cX10_clauseOf 61 = .ok (.aload_n 0, 1) := by decide +kernel
theorem dX10_clauseOf_62 : decode cX10_clauseOf 62 = .ok (.getfield 156, 3) := by decide +kernel
theorem dX10_clauseOf_65 : decode cX10_clauseOf 65 = .ok (.bipush 98, 2) := by decide +kernel
theorem dX10_clauseOf_67 : decode cX10_clauseOf 67 = .ok (.bipush 114, 2) := by decide +kernel
theorem dX10_clauseOf_69 : decode cX10_clauseOf 69 = .ok (.bipush 111, 2) := by decide +kernel
theorem dX10_clauseOf_71 : decode cX10_clauseOf 71 = .ok (.bipush 107, 2) := by decide +kernel
theorem dX10_clauseOf_73 : decode cX10_clauseOf 73 = .ok (.invokestatic 206, 3) := by decide +kernel
theorem dX10_clauseOf_76 : decode cX10_clauseOf 76 = .ok (.bipush 101, 2) := by decide +kernel
theorem dX10_clauseOf_78 : decode cX10_clauseOf 78 = .ok (.invokestatic 210, 3) := by decide +kernel
theorem dX10_clauseOf_81 : decode cX10_clauseOf 81 = .ok (.bipush 114, 2) := by decide +kernel
theorem dX10_clauseOf_83 : decode cX10_clauseOf 83 = .ok (.invokestatic 210, 3) := by decide +kernel
theorem dX10_clauseOf_86 : decode cX10_clauseOf 86 = .ok (.lcmp, 1) := by decide +kernel
theorem dX10_clauseOf_87 : decode cX10_clauseOf 87 = .ok (.ifCond .ne 7, 3) := by decide +kernel
theorem dX10_clauseOf_90 : decode cX10_clauseOf 90 = .ok (.iconst 2, 1) := by decide +kernel
theorem dX10_clauseOf_91 : decode cX10_clauseOf 91 = .ok (.goto 4, 3) := by decide +kernel
theorem dX10_clauseOf_94 : decode cX10_clauseOf 94 = .ok (.iconst (-1), 1) := by decide +kernel
theorem dX10_clauseOf_95 : decode cX10_clauseOf 95 = .ok (.istore_n 1, 1) := by decide +kernel
theorem dX10_clauseOf_96 : decode cX10_clauseOf 96 = .ok (.iload_n 1, 1) := by decide +kernel
theorem dX10_clauseOf_97 : decode cX10_clauseOf 97 = .ok (.ifCond .lt 7, 3) := by decide +kernel
theorem dX10_clauseOf_100 : decode cX10_clauseOf 100 = .ok (.iload_n 1, 1) := by decide +kernel
theorem dX10_clauseOf_101 : decode cX10_clauseOf 101 = .ok (.goto 55, 3) := by decide +kernel
theorem dX10_clauseOf_104 : decode cX10_clauseOf 104 = .ok (.aload_n 0, 1) := by decide +kernel
theorem dX10_clauseOf_105 : decode cX10_clauseOf 105 = .ok (.getfield 156, 3) := by decide +kernel
theorem dX10_clauseOf_108 : decode cX10_clauseOf 108 = .ok (.bipush 98, 2) := by decide +kernel
theorem dX10_clauseOf_110 : decode cX10_clauseOf 110 = .ok (.bipush 105, 2) := by decide +kernel
theorem dX10_clauseOf_112 : decode cX10_clauseOf 112 = .ok (.bipush 110, 2) := by decide +kernel
theorem dX10_clauseOf_114 : decode cX10_clauseOf 114 = .ok (.bipush 100, 2) := by decide +kernel
theorem dX10_clauseOf_116 : decode cX10_clauseOf 116 = .ok (.invokestatic 206, 3) := by decide +kernel
theorem dX10_clauseOf_119 : decode cX10_clauseOf 119 = .ok (.bipush 115, 2) := by decide +kernel
theorem dX10_clauseOf_121 : decode cX10_clauseOf 121 = .ok (.invokestatic 210, 3) := by decide +kernel
theorem dX10_clauseOf_124 : decode cX10_clauseOf 124 = .ok (.lcmp, 1) := by decide +kernel
theorem dX10_clauseOf_125 : decode cX10_clauseOf 125 = .ok (.ifCond .ne 7, 3) := by decide +kernel
theorem dX10_clauseOf_128 : decode cX10_clauseOf 128 = .ok (.iconst 3, 1) := by decide +kernel
theorem dX10_clauseOf_129 : decode cX10_clauseOf 129 = .ok (.goto 27, 3) := by decide +kernel
theorem dX10_clauseOf_132 : decode cX10_clauseOf 132 = .ok (.aload_n 0, 1) := by decide +kernel
theorem dX10_clauseOf_133 : decode cX10_clauseOf 133 = .ok (.getfield 156, 3) := by decide +kernel
theorem dX10_clauseOf_136 : decode cX10_clauseOf 136 = .ok (.bipush 99, 2) := by decide +kernel
theorem dX10_clauseOf_138 : decode cX10_clauseOf 138 = .ok (.bipush 111, 2) := by decide +kernel
theorem dX10_clauseOf_140 : decode cX10_clauseOf 140 = .ok (.bipush 115, 2) := by decide +kernel
theorem dX10_clauseOf_142 : decode cX10_clauseOf 142 = .ok (.bipush 116, 2) := by decide +kernel
theorem dX10_clauseOf_144 : decode cX10_clauseOf 144 = .ok (.invokestatic 206, 3) := by decide +kernel
theorem dX10_clauseOf_147 : decode cX10_clauseOf 147 = .ok (.lcmp, 1) := by decide +kernel
theorem dX10_clauseOf_148 : decode cX10_clauseOf 148 = .ok (.ifCond .ne 7, 3) := by decide +kernel
theorem dX10_clauseOf_151 : decode cX10_clauseOf 151 = .ok (.iconst 4, 1) := by decide +kernel
theorem dX10_clauseOf_152 : decode cX10_clauseOf 152 = .ok (.goto 4, 3) := by decide +kernel
theorem dX10_clauseOf_155 : decode cX10_clauseOf 155 = .ok (.iconst (-1), 1) := by decide +kernel
theorem dX10_clauseOf_156 : decode cX10_clauseOf 156 = .ok (.ireturn, 1) := by decide +kernel
theorem dX10_isFull_0 : decode cX10_isFull 0 = .ok (.iload_n 1, 1) := by decide +kernel
theorem dX10_isFull_1 : decode cX10_isFull 1 = .ok (.ifCond .ne 20, 3) := by decide +kernel
theorem dX10_isFull_4 : decode cX10_isFull 4 = .ok (.aload_n 0, 1) := by decide +kernel
theorem dX10_isFull_5 : decode cX10_isFull 5 = .ok (.getfield 193, 3) := by decide +kernel
theorem dX10_isFull_8 : decode cX10_isFull 8 = .ok (.bipush 6, 2) := by decide +kernel
theorem dX10_isFull_10 : decode cX10_isFull 10 = .ok (.if_icmp .ne 7, 3) := by decide +kernel
theorem dX10_isFull_13 : decode cX10_isFull 13 = .ok (.iconst 1, 1) := by decide +kernel
theorem dX10_isFull_14 : decode cX10_isFull 14 = .ok (.goto 82, 3) := by decide +kernel
theorem dX10_isFull_17 : decode cX10_isFull 17 = .ok (.iconst 0, 1) := by decide +kernel
theorem dX10_isFull_18 : decode cX10_isFull 18 = .ok (.goto 78, 3) := by decide +kernel
theorem dX10_isFull_21 : decode cX10_isFull 21 = .ok (.iload_n 1, 1) := by decide +kernel
theorem dX10_isFull_22 : decode cX10_isFull 22 = .ok (.iconst 1, 1) := by decide +kernel
theorem dX10_isFull_23 : decode cX10_isFull 23 = .ok (.if_icmp .ne 20, 3) := by decide +kernel
theorem dX10_isFull_26 : decode cX10_isFull 26 = .ok (.aload_n 0, 1) := by decide +kernel
theorem dX10_isFull_27 : decode cX10_isFull 27 = .ok (.getfield 200, 3) := by decide +kernel
theorem dX10_isFull_30 : decode cX10_isFull 30 = .ok (.bipush 6, 2) := by decide +kernel
theorem dX10_isFull_32 : decode cX10_isFull 32 = .ok (.if_icmp .ne 7, 3) := by decide +kernel
theorem dX10_isFull_35 : decode cX10_isFull 35 = .ok (.iconst 1, 1) := by decide +kernel
theorem dX10_isFull_36 : decode cX10_isFull 36 = .ok (.goto 60, 3) := by decide +kernel
theorem dX10_isFull_39 : decode cX10_isFull 39 = .ok (.iconst 0, 1) := by decide +kernel
theorem dX10_isFull_40 : decode cX10_isFull 40 = .ok (.goto 56, 3) := by decide +kernel
theorem dX10_isFull_43 : decode cX10_isFull 43 = .ok (.iload_n 1, 1) := by decide +kernel
theorem dX10_isFull_44 : decode cX10_isFull 44 = .ok (.iconst 2, 1) := by decide +kernel
theorem dX10_isFull_45 : decode cX10_isFull 45 = .ok (.if_icmp .ne 19, 3) := by decide +kernel
theorem dX10_isFull_48 : decode cX10_isFull 48 = .ok (.aload_n 0, 1) := by decide +kernel
theorem dX10_isFull_49 : decode cX10_isFull 49 = .ok (.getfield 203, 3) := by decide +kernel
theorem dX10_isFull_52 : decode cX10_isFull 52 = .ok (.iconst 2, 1) := by decide +kernel
theorem dX10_isFull_53 : decode cX10_isFull 53 = .ok (.if_icmp .ne 7, 3) := by decide +kernel
theorem dX10_isFull_56 : decode cX10_isFull 56 = .ok (.iconst 1, 1) := by decide +kernel
theorem dX10_isFull_57 : decode cX10_isFull 57 = .ok (.goto 39, 3) := by decide +kernel
theorem dX10_isFull_60 : decode cX10_isFull 60 = .ok (.iconst 0, 1) := by decide +kernel
theorem dX10_isFull_61 : decode cX10_isFull 61 = .ok (.goto 35, 3) := by decide +kernel
theorem dX10_isFull_64 : decode cX10_isFull 64 = .ok (.iload_n 1, 1) := by decide +kernel
theorem dX10_isFull_65 : decode cX10_isFull 65 = .ok (.iconst 3, 1) := by decide +kernel
theorem dX10_isFull_66 : decode cX10_isFull 66 = .ok (.if_icmp .ne 18, 3) := by decide +kernel
theorem dX10_isFull_69 : decode cX10_isFull 69 = .ok (.aload_n 0, 1) := by decide +kernel
theorem dX10_isFull_70 : decode cX10_isFull 70 = .ok (.getfield 214, 3) := by decide +kernel
theorem dX10_isFull_73 : decode cX10_isFull 73 = .ok (.ifCond .lt 7, 3) := by decide +kernel
theorem dX10_isFull_76 : decode cX10_isFull 76 = .ok (.iconst 1, 1) := by decide +kernel
theorem dX10_isFull_77 : decode cX10_isFull 77 = .ok (.goto 19, 3) := by decide +kernel
theorem dX10_isFull_80 : decode cX10_isFull 80 = .ok (.iconst 0, 1) := by decide +kernel
theorem dX10_isFull_81 : decode cX10_isFull 81 = .ok (.goto 15, 3) := by decide +kernel
theorem dX10_isFull_84 : decode cX10_isFull 84 = .ok (.aload_n 0, 1) := by decide +kernel
theorem dX10_isFull_85 : decode cX10_isFull 85 = .ok (.getfield 217, 3) := by decide +kernel
theorem dX10_isFull_88 : decode cX10_isFull 88 = .ok (.ifCond .lt 7, 3) := by decide +kernel
theorem dX10_isFull_91 : decode cX10_isFull 91 = .ok (.iconst 1, 1) := by decide +kernel
theorem dX10_isFull_92 : decode cX10_isFull 92 = .ok (.goto 4, 3) := by decide +kernel
theorem dX10_isFull_95 : decode cX10_isFull 95 = .ok (.iconst 0, 1) := by decide +kernel
theorem dX10_isFull_96 : decode cX10_isFull 96 = .ok (.ireturn, 1) := by decide +kernel
theorem dX10_takeClause_0 : decode cX10_takeClause 0 = .ok (.aload_n 0, 1) := by decide +kernel
theorem dX10_takeClause_1 : decode cX10_takeClause 1 = .ok (.invokevirtual 220, 3) := by decide +kernel
theorem dX10_takeClause_4 : decode cX10_takeClause 4 = .ok (.aload_n 0, 1) := by decide +kernel
theorem dX10_takeClause_5 : decode cX10_takeClause 5 = .ok (.invokevirtual 223, 3) := by decide +kernel
theorem dX10_takeClause_8 : decode cX10_takeClause 8 = .ok (.istore_n 1, 1) := by decide +kernel
theorem dX10_takeClause_9 : decode cX10_takeClause 9 = .ok (.iload_n 1, 1) := by decide +kernel
theorem dX10_takeClause_10 : decode cX10_takeClause 10 = .ok (.ifCond .lt 11, 3) := by decide +kernel
theorem dX10_takeClause_13 : decode cX10_takeClause 13 = .ok (.aload_n 0, 1) := by decide +kernel
theorem dX10_takeClause_14 : decode cX10_takeClause 14 = .ok (.iload_n 1, 1) := by decide +kernel
theorem dX10_takeClause_15 : decode cX10_takeClause 15 = .ok (.invokevirtual 226, 3) := by decide +kernel
theorem dX10_takeClause_18 : decode cX10_takeClause 18 = .ok (.ifCond .eq 21, 3) := by decide +kernel
theorem dX10_takeClause_21 : decode cX10_takeClause 21 = .ok (.aload_n 0, 1) := by decide +kernel
theorem dX10_takeClause_22 : decode cX10_takeClause 22 = .ok (.iload_n 1, 1) := by decide +kernel
theorem dX10_takeClause_23 : decode cX10_takeClause 23 = .ok (.ifCond .ge 7, 3) := by decide +kernel
theorem dX10_takeClause_26 : decode cX10_takeClause 26 = .ok (.iconst 1, 1) := by decide +kernel
theorem dX10_takeClause_27 : decode cX10_takeClause 27 = .ok (.goto 4, 3) := by decide +kernel
theorem dX10_takeClause_30 : decode cX10_takeClause 30 = .ok (.iconst 3, 1) := by decide +kernel
theorem dX10_takeClause_31 : decode cX10_takeClause 31 = .ok (.aload_n 0, 1) := by decide +kernel
theorem dX10_takeClause_32 : decode cX10_takeClause 32 = .ok (.getfield 150, 3) := by decide +kernel
theorem dX10_takeClause_35 : decode cX10_takeClause 35 = .ok (.invokevirtual 179, 3) := by decide +kernel
theorem dX10_takeClause_38 : decode cX10_takeClause 38 = .ok (.ireturn, 1) := by decide +kernel
theorem dX10_takeClause_39 : decode cX10_takeClause 39 = .ok (.iload_n 1, 1) := by decide +kernel
theorem dX10_takeClause_40 : decode cX10_takeClause 40 = .ok (.ifCond .ne 15, 3) := by decide +kernel
theorem dX10_takeClause_43 : decode cX10_takeClause 43 = .ok (.aload_n 0, 1) := by decide +kernel
theorem dX10_takeClause_44 : decode cX10_takeClause 44 = .ok (.getfield 200, 3) := by decide +kernel
theorem dX10_takeClause_47 : decode cX10_takeClause 47 = .ok (.aload_n 0, 1) := by decide +kernel
theorem dX10_takeClause_48 : decode cX10_takeClause 48 = .ok (.getfield 203, 3) := by decide +kernel
theorem dX10_takeClause_51 : decode cX10_takeClause 51 = .ok (.iadd, 1) := by decide +kernel
theorem dX10_takeClause_52 : decode cX10_takeClause 52 = .ok (.ifCond .gt 15, 3) := by decide +kernel
theorem dX10_takeClause_55 : decode cX10_takeClause 55 = .ok (.iload_n 1, 1) := by decide +kernel
theorem dX10_takeClause_56 : decode cX10_takeClause 56 = .ok (.iconst 1, 1) := by decide +kernel
theorem dX10_takeClause_57 : decode cX10_takeClause 57 = .ok (.if_icmp .ne 20, 3) := by decide +kernel
theorem dX10_takeClause_60 : decode cX10_takeClause 60 = .ok (.aload_n 0, 1) := by decide +kernel
theorem dX10_takeClause_61 : decode cX10_takeClause 61 = .ok (.getfield 203, 3) := by decide +kernel
theorem dX10_takeClause_64 : decode cX10_takeClause 64 = .ok (.ifCond .le 13, 3) := by decide +kernel
theorem dX10_takeClause_67 : decode cX10_takeClause 67 = .ok (.aload_n 0, 1) := by decide +kernel
theorem dX10_takeClause_68 : decode cX10_takeClause 68 = .ok (.iconst 4, 1) := by decide +kernel
theorem dX10_takeClause_69 : decode cX10_takeClause 69 = .ok (.aload_n 0, 1) := by decide +kernel
theorem dX10_takeClause_70 : decode cX10_takeClause 70 = .ok (.getfield 150, 3) := by decide +kernel
theorem dX10_takeClause_73 : decode cX10_takeClause 73 = .ok (.invokevirtual 179, 3) := by decide +kernel
theorem dX10_takeClause_76 : decode cX10_takeClause 76 = .ok (.ireturn, 1) := by decide +kernel
theorem dX10_takeClause_77 : decode cX10_takeClause 77 = .ok (.aload_n 0, 1) := by decide +kernel
theorem dX10_takeClause_78 : decode cX10_takeClause 78 = .ok (.aload_n 0, 1) := by decide +kernel
theorem dX10_takeClause_79 : decode cX10_takeClause 79 = .ok (.getfield 160, 3) := by decide +kernel
theorem dX10_takeClause_82 : decode cX10_takeClause 82 = .ok (.putfield 150, 3) := by decide +kernel
theorem dX10_takeClause_85 : decode cX10_takeClause 85 = .ok (.iconst 0, 1) := by decide +kernel
theorem dX10_takeClause_86 : decode cX10_takeClause 86 = .ok (.istore_n 2, 1) := by decide +kernel
theorem dX10_takeClause_87 : decode cX10_takeClause 87 = .ok (.iload_n 1, 1) := by decide +kernel
theorem dX10_takeClause_88 : decode cX10_takeClause 88 = .ok (.tableswitch 75 0 3 #[32, 40, 48, 56], 32) := by decide +kernel
theorem dX10_takeClause_120 : decode cX10_takeClause 120 = .ok (.aload_n 0, 1) := by decide +kernel
theorem dX10_takeClause_121 : decode cX10_takeClause 121 = .ok (.invokevirtual 230, 3) := by decide +kernel
theorem dX10_takeClause_124 : decode cX10_takeClause 124 = .ok (.istore_n 2, 1) := by decide +kernel
theorem dX10_takeClause_125 : decode cX10_takeClause 125 = .ok (.goto 54, 3) := by decide +kernel
theorem dX10_takeClause_128 : decode cX10_takeClause 128 = .ok (.aload_n 0, 1) := by decide +kernel
theorem dX10_takeClause_129 : decode cX10_takeClause 129 = .ok (.invokevirtual 233, 3) := by decide +kernel
theorem dX10_takeClause_132 : decode cX10_takeClause 132 = .ok (.istore_n 2, 1) := by decide +kernel
theorem dX10_takeClause_133 : decode cX10_takeClause 133 = .ok (.goto 46, 3) := by decide +kernel
theorem dX10_takeClause_136 : decode cX10_takeClause 136 = .ok (.aload_n 0, 1) := by decide +kernel
theorem dX10_takeClause_137 : decode cX10_takeClause 137 = .ok (.invokevirtual 236, 3) := by decide +kernel
theorem dX10_takeClause_140 : decode cX10_takeClause 140 = .ok (.istore_n 2, 1) := by decide +kernel
theorem dX10_takeClause_141 : decode cX10_takeClause 141 = .ok (.goto 38, 3) := by decide +kernel
theorem dX10_takeClause_144 : decode cX10_takeClause 144 = .ok (.aload_n 0, 1) := by decide +kernel
theorem dX10_takeClause_145 : decode cX10_takeClause 145 = .ok (.iconst 1, 1) := by decide +kernel
theorem dX10_takeClause_146 : decode cX10_takeClause 146 = .ok (.bipush 99, 2) := by decide +kernel
theorem dX10_takeClause_148 : decode cX10_takeClause 148 = .ok (.invokevirtual 190, 3) := by decide +kernel
theorem dX10_takeClause_151 : decode cX10_takeClause 151 = .ok (.istore_n 2, 1) := by decide +kernel
theorem dX10_takeClause_152 : decode cX10_takeClause 152 = .ok (.aload_n 0, 1) := by decide +kernel
theorem dX10_takeClause_153 : decode cX10_takeClause 153 = .ok (.aload_n 0, 1) := by decide +kernel
theorem dX10_takeClause_154 : decode cX10_takeClause 154 = .ok (.getfield 186, 3) := by decide +kernel
theorem dX10_takeClause_157 : decode cX10_takeClause 157 = .ok (.putfield 214, 3) := by decide +kernel
theorem dX10_takeClause_160 : decode cX10_takeClause 160 = .ok (.goto 19, 3) := by decide +kernel
theorem dX10_takeClause_163 : decode cX10_takeClause 163 = .ok (.aload_n 0, 1) := by decide +kernel
theorem dX10_takeClause_164 : decode cX10_takeClause 164 = .ok (.iconst 0, 1) := by decide +kernel
theorem dX10_takeClause_165 : decode cX10_takeClause 165 = .ok (.bipush 99, 2) := by decide +kernel
theorem dX10_takeClause_167 : decode cX10_takeClause 167 = .ok (.invokevirtual 190, 3) := by decide +kernel
theorem dX10_takeClause_170 : decode cX10_takeClause 170 = .ok (.istore_n 2, 1) := by decide +kernel
theorem dX10_takeClause_171 : decode cX10_takeClause 171 = .ok (.aload_n 0, 1) := by decide +kernel
theorem dX10_takeClause_172 : decode cX10_takeClause 172 = .ok (.aload_n 0, 1) := by decide +kernel
theorem dX10_takeClause_173 : decode cX10_takeClause 173 = .ok (.getfield 186, 3) := by decide +kernel
theorem dX10_takeClause_176 : decode cX10_takeClause 176 = .ok (.putfield 217, 3) := by decide +kernel
theorem dX10_takeClause_179 : decode cX10_takeClause 179 = .ok (.iload_n 2, 1) := by decide +kernel
theorem dX10_takeClause_180 : decode cX10_takeClause 180 = .ok (.ifCond .ne 22, 3) := by decide +kernel
theorem dX10_takeClause_183 : decode cX10_takeClause 183 = .ok (.aload_n 0, 1) := by decide +kernel
theorem dX10_takeClause_184 : decode cX10_takeClause 184 = .ok (.invokevirtual 153, 3) := by decide +kernel
theorem dX10_takeClause_187 : decode cX10_takeClause 187 = .ok (.bipush 59, 2) := by decide +kernel
theorem dX10_takeClause_189 : decode cX10_takeClause 189 = .ok (.if_icmp .eq 13, 3) := by decide +kernel
theorem dX10_takeClause_192 : decode cX10_takeClause 192 = .ok (.aload_n 0, 1) := by decide +kernel
theorem dX10_takeClause_193 : decode cX10_takeClause 193 = .ok (.iconst 1, 1) := by decide +kernel
theorem dX10_takeClause_194 : decode cX10_takeClause 194 = .ok (.aload_n 0, 1) := by decide +kernel
theorem dX10_takeClause_195 : decode cX10_takeClause 195 = .ok (.getfield 150, 3) := by decide +kernel
theorem dX10_takeClause_198 : decode cX10_takeClause 198 = .ok (.invokevirtual 179, 3) := by decide +kernel
theorem dX10_takeClause_201 : decode cX10_takeClause 201 = .ok (.ireturn, 1) := by decide +kernel
theorem dX10_takeClause_202 : decode cX10_takeClause 202 = .ok (.aload_n 0, 1) := by decide +kernel
theorem dX10_takeClause_203 : decode cX10_takeClause 203 = .ok (.dup, 1) := by decide +kernel
theorem dX10_takeClause_204 : decode cX10_takeClause 204 = .ok (.getfield 150, 3) := by decide +kernel
theorem dX10_takeClause_207 : decode cX10_takeClause 207 = .ok (.iconst 1, 1) := by decide +kernel
theorem dX10_takeClause_208 : decode cX10_takeClause 208 = .ok (.iadd, 1) := by decide +kernel
theorem dX10_takeClause_209 : decode cX10_takeClause 209 = .ok (.putfield 150, 3) := by decide +kernel
theorem dX10_takeClause_212 : decode cX10_takeClause 212 = .ok (.iload_n 2, 1) := by decide +kernel
theorem dX10_takeClause_213 : decode cX10_takeClause 213 = .ok (.ireturn, 1) := by decide +kernel
theorem dX10_market_0 : decode cX10_market 0 = .ok (.aload_n 0, 1) := by decide +kernel
theorem dX10_market_1 : decode cX10_market 1 = .ok (.iconst (-1), 1) := by decide +kernel
theorem dX10_market_2 : decode cX10_market 2 = .ok (.putfield 53, 3) := by decide +kernel
theorem dX10_market_5 : decode cX10_market 5 = .ok (.aload_n 0, 1) := by decide +kernel
theorem dX10_market_6 : decode cX10_market 6 = .ok (.iconst 0, 1) := by decide +kernel
theorem dX10_market_7 : decode cX10_market 7 = .ok (.putfield 150, 3) := by decide +kernel
theorem dX10_market_10 : decode cX10_market 10 = .ok (.aload_n 0, 1) := by decide +kernel
theorem dX10_market_11 : decode cX10_market 11 = .ok (.iconst 0, 1) := by decide +kernel
theorem dX10_market_12 : decode cX10_market 12 = .ok (.putfield 193, 3) := by decide +kernel
theorem dX10_market_15 : decode cX10_market 15 = .ok (.aload_n 0, 1) := by decide +kernel
theorem dX10_market_16 : decode cX10_market 16 = .ok (.iconst 0, 1) := by decide +kernel
theorem dX10_market_17 : decode cX10_market 17 = .ok (.putfield 200, 3) := by decide +kernel
theorem dX10_market_20 : decode cX10_market 20 = .ok (.aload_n 0, 1) := by decide +kernel
theorem dX10_market_21 : decode cX10_market 21 = .ok (.iconst 0, 1) := by decide +kernel
theorem dX10_market_22 : decode cX10_market 22 = .ok (.putfield 203, 3) := by decide +kernel
theorem dX10_market_25 : decode cX10_market 25 = .ok (.aload_n 0, 1) := by decide +kernel
theorem dX10_market_26 : decode cX10_market 26 = .ok (.iconst (-1), 1) := by decide +kernel
theorem dX10_market_27 : decode cX10_market 27 = .ok (.putfield 214, 3) := by decide +kernel
theorem dX10_market_30 : decode cX10_market 30 = .ok (.aload_n 0, 1) := by decide +kernel
theorem dX10_market_31 : decode cX10_market 31 = .ok (.iconst (-1), 1) := by decide +kernel
theorem dX10_market_32 : decode cX10_market 32 = .ok (.putfield 217, 3) := by decide +kernel
theorem dX10_market_35 : decode cX10_market 35 = .ok (.iconst 0, 1) := by decide +kernel
theorem dX10_market_36 : decode cX10_market 36 = .ok (.istore_n 1, 1) := by decide +kernel
theorem dX10_market_37 : decode cX10_market 37 = .ok (.iload_n 1, 1) := by decide +kernel
theorem dX10_market_38 : decode cX10_market 38 = .ok (.ifCond .ne 18, 3) := by decide +kernel
theorem dX10_market_41 : decode cX10_market 41 = .ok (.aload_n 0, 1) := by decide +kernel
theorem dX10_market_42 : decode cX10_market 42 = .ok (.invokevirtual 153, 3) := by decide +kernel
theorem dX10_market_45 : decode cX10_market 45 = .ok (.ifCond .lt 11, 3) := by decide +kernel
theorem dX10_market_48 : decode cX10_market 48 = .ok (.aload_n 0, 1) := by decide +kernel
theorem dX10_market_49 : decode cX10_market 49 = .ok (.invokevirtual 239, 3) := by decide +kernel
theorem dX10_market_52 : decode cX10_market 52 = .ok (.istore_n 1, 1) := by decide +kernel
theorem dX10_market_53 : decode cX10_market 53 = .ok (.goto (-16), 3) := by decide +kernel
theorem dX10_market_56 : decode cX10_market 56 = .ok (.aload_n 0, 1) := by decide +kernel
theorem dX10_market_57 : decode cX10_market 57 = .ok (.iconst 0, 1) := by decide +kernel
theorem dX10_market_58 : decode cX10_market 58 = .ok (.putfield 144, 3) := by decide +kernel
theorem dX10_market_61 : decode cX10_market 61 = .ok (.iload_n 1, 1) := by decide +kernel
theorem dX10_market_62 : decode cX10_market 62 = .ok (.ifCond .le 8, 3) := by decide +kernel
theorem dX10_market_65 : decode cX10_market 65 = .ok (.bipush (-10), 2) := by decide +kernel
theorem dX10_market_67 : decode cX10_market 67 = .ok (.iload_n 1, 1) := by decide +kernel
theorem dX10_market_68 : decode cX10_market 68 = .ok (.isub, 1) := by decide +kernel
theorem dX10_market_69 : decode cX10_market 69 = .ok (.ireturn, 1) := by decide +kernel
theorem dX10_market_70 : decode cX10_market 70 = .ok (.aload_n 0, 1) := by decide +kernel
theorem dX10_market_71 : decode cX10_market 71 = .ok (.invokevirtual 242, 3) := by decide +kernel
theorem dX10_market_74 : decode cX10_market 74 = .ok (.aload_n 0, 1) := by decide +kernel
theorem dX10_market_75 : decode cX10_market 75 = .ok (.invokevirtual 130, 3) := by decide +kernel
theorem dX10_market_78 : decode cX10_market 78 = .ok (.ireturn, 1) := by decide +kernel
theorem dX10_takeMarket_0 : decode cX10_takeMarket 0 = .ok (.aload_n 0, 1) := by decide +kernel
theorem dX10_takeMarket_1 : decode cX10_takeMarket 1 = .ok (.aload_n 0, 1) := by decide +kernel
theorem dX10_takeMarket_2 : decode cX10_takeMarket 2 = .ok (.getfield 193, 3) := by decide +kernel
theorem dX10_takeMarket_5 : decode cX10_takeMarket 5 = .ok (.putfield 121, 3) := by decide +kernel
theorem dX10_takeMarket_8 : decode cX10_takeMarket 8 = .ok (.aload_n 0, 1) := by decide +kernel
theorem dX10_takeMarket_9 : decode cX10_takeMarket 9 = .ok (.aload_n 0, 1) := by decide +kernel
theorem dX10_takeMarket_10 : decode cX10_takeMarket 10 = .ok (.getfield 200, 3) := by decide +kernel
theorem dX10_takeMarket_13 : decode cX10_takeMarket 13 = .ok (.putfield 124, 3) := by decide +kernel
theorem dX10_takeMarket_16 : decode cX10_takeMarket 16 = .ok (.aload_n 0, 1) := by decide +kernel
theorem dX10_takeMarket_17 : decode cX10_takeMarket 17 = .ok (.aload_n 0, 1) := by decide +kernel
theorem dX10_takeMarket_18 : decode cX10_takeMarket 18 = .ok (.getfield 203, 3) := by decide +kernel
theorem dX10_takeMarket_21 : decode cX10_takeMarket 21 = .ok (.putfield 127, 3) := by decide +kernel
theorem dX10_takeMarket_24 : decode cX10_takeMarket 24 = .ok (.aload_n 0, 1) := by decide +kernel
theorem dX10_takeMarket_25 : decode cX10_takeMarket 25 = .ok (.aload_n 0, 1) := by decide +kernel
theorem dX10_takeMarket_26 : decode cX10_takeMarket 26 = .ok (.getfield 214, 3) := by decide +kernel
theorem dX10_takeMarket_29 : decode cX10_takeMarket 29 = .ok (.ifCond .ge 8, 3) := by decide +kernel
theorem dX10_takeMarket_32 : decode cX10_takeMarket 32 = .ok (.bipush 12, 2) := by decide +kernel
theorem dX10_takeMarket_34 : decode cX10_takeMarket 34 = .ok (.goto 7, 3) := by decide +kernel
theorem dX10_takeMarket_37 : decode cX10_takeMarket 37 = .ok (.aload_n 0, 1) := by decide +kernel
theorem dX10_takeMarket_38 : decode cX10_takeMarket 38 = .ok (.getfield 214, 3) := by decide +kernel
theorem dX10_takeMarket_41 : decode cX10_takeMarket 41 = .ok (.putfield 25, 3) := by decide +kernel
theorem dX10_takeMarket_44 : decode cX10_takeMarket 44 = .ok (.aload_n 0, 1) := by decide +kernel
theorem dX10_takeMarket_45 : decode cX10_takeMarket 45 = .ok (.aload_n 0, 1) := by decide +kernel
theorem dX10_takeMarket_46 : decode cX10_takeMarket 46 = .ok (.getfield 217, 3) := by decide +kernel
theorem dX10_takeMarket_49 : decode cX10_takeMarket 49 = .ok (.ifCond .ge 7, 3) := by decide +kernel
theorem dX10_takeMarket_52 : decode cX10_takeMarket 52 = .ok (.iconst 2, 1) := by decide +kernel
theorem dX10_takeMarket_53 : decode cX10_takeMarket 53 = .ok (.goto 7, 3) := by decide +kernel
theorem dX10_takeMarket_56 : decode cX10_takeMarket 56 = .ok (.aload_n 0, 1) := by decide +kernel
theorem dX10_takeMarket_57 : decode cX10_takeMarket 57 = .ok (.getfield 217, 3) := by decide +kernel
theorem dX10_takeMarket_60 : decode cX10_takeMarket 60 = .ok (.putfield 29, 3) := by decide +kernel
theorem dX10_takeMarket_63 : decode cX10_takeMarket 63 = .ok (.iconst 0, 1) := by decide +kernel
theorem dX10_takeMarket_64 : decode cX10_takeMarket 64 = .ok (.istore_n 1, 1) := by decide +kernel
theorem dX10_takeMarket_65 : decode cX10_takeMarket 65 = .ok (.iload_n 1, 1) := by decide +kernel
theorem dX10_takeMarket_66 : decode cX10_takeMarket 66 = .ok (.bipush 6, 2) := by decide +kernel
theorem dX10_takeMarket_68 : decode cX10_takeMarket 68 = .ok (.if_icmp .ge 33, 3) := by decide +kernel
theorem dX10_takeMarket_71 : decode cX10_takeMarket 71 = .ok (.aload_n 0, 1) := by decide +kernel
theorem dX10_takeMarket_72 : decode cX10_takeMarket 72 = .ok (.getfield 7, 3) := by decide +kernel
theorem dX10_takeMarket_75 : decode cX10_takeMarket 75 = .ok (.iload_n 1, 1) := by decide +kernel
theorem dX10_takeMarket_76 : decode cX10_takeMarket 76 = .ok (.aload_n 0, 1) := by decide +kernel
theorem dX10_takeMarket_77 : decode cX10_takeMarket 77 = .ok (.getfield 56, 3) := by decide +kernel
theorem dX10_takeMarket_80 : decode cX10_takeMarket 80 = .ok (.iload_n 1, 1) := by decide +kernel
theorem dX10_takeMarket_81 : decode cX10_takeMarket 81 = .ok (.iaload, 1) := by decide +kernel
theorem dX10_takeMarket_82 : decode cX10_takeMarket 82 = .ok (.iastore, 1) := by decide +kernel
theorem dX10_takeMarket_83 : decode cX10_takeMarket 83 = .ok (.aload_n 0, 1) := by decide +kernel
theorem dX10_takeMarket_84 : decode cX10_takeMarket 84 = .ok (.getfield 13, 3) := by decide +kernel
theorem dX10_takeMarket_87 : decode cX10_takeMarket 87 = .ok (.iload_n 1, 1) := by decide +kernel
theorem dX10_takeMarket_88 : decode cX10_takeMarket 88 = .ok (.aload_n 0, 1) := by decide +kernel
theorem dX10_takeMarket_89 : decode cX10_takeMarket 89 = .ok (.getfield 59, 3) := by decide +kernel
theorem dX10_takeMarket_92 : decode cX10_takeMarket 92 = .ok (.iload_n 1, 1) := by decide +kernel
theorem dX10_takeMarket_93 : decode cX10_takeMarket 93 = .ok (.iaload, 1) := by decide +kernel
theorem dX10_takeMarket_94 : decode cX10_takeMarket 94 = .ok (.iastore, 1) := by decide +kernel
theorem dX10_takeMarket_95 : decode cX10_takeMarket 95 = .ok (.iinc 1 1, 3) := by decide +kernel
theorem dX10_takeMarket_98 : decode cX10_takeMarket 98 = .ok (.goto (-33), 3) := by decide +kernel
theorem dX10_takeMarket_101 : decode cX10_takeMarket 101 = .ok (.iconst 0, 1) := by decide +kernel
theorem dX10_takeMarket_102 : decode cX10_takeMarket 102 = .ok (.istore_n 1, 1) := by decide +kernel
theorem dX10_takeMarket_103 : decode cX10_takeMarket 103 = .ok (.iload_n 1, 1) := by decide +kernel
theorem dX10_takeMarket_104 : decode cX10_takeMarket 104 = .ok (.bipush 36, 2) := by decide +kernel
theorem dX10_takeMarket_106 : decode cX10_takeMarket 106 = .ok (.if_icmp .ge 21, 3) := by decide +kernel
theorem dX10_takeMarket_109 : decode cX10_takeMarket 109 = .ok (.aload_n 0, 1) := by decide +kernel
theorem dX10_takeMarket_110 : decode cX10_takeMarket 110 = .ok (.getfield 16, 3) := by decide +kernel
theorem dX10_takeMarket_113 : decode cX10_takeMarket 113 = .ok (.iload_n 1, 1) := by decide +kernel
theorem dX10_takeMarket_114 : decode cX10_takeMarket 114 = .ok (.aload_n 0, 1) := by decide +kernel
theorem dX10_takeMarket_115 : decode cX10_takeMarket 115 = .ok (.getfield 62, 3) := by decide +kernel
theorem dX10_takeMarket_118 : decode cX10_takeMarket 118 = .ok (.iload_n 1, 1) := by decide +kernel
theorem dX10_takeMarket_119 : decode cX10_takeMarket 119 = .ok (.iaload, 1) := by decide +kernel
theorem dX10_takeMarket_120 : decode cX10_takeMarket 120 = .ok (.iastore, 1) := by decide +kernel
theorem dX10_takeMarket_121 : decode cX10_takeMarket 121 = .ok (.iinc 1 1, 3) := by decide +kernel
theorem dX10_takeMarket_124 : decode cX10_takeMarket 124 = .ok (.goto (-21), 3) := by decide +kernel
theorem dX10_takeMarket_127 : decode cX10_takeMarket 127 = .ok (.aload_n 0, 1) := by decide +kernel
theorem dX10_takeMarket_128 : decode cX10_takeMarket 128 = .ok (.getfield 19, 3) := by decide +kernel
theorem dX10_takeMarket_131 : decode cX10_takeMarket 131 = .ok (.iconst 0, 1) := by decide +kernel
theorem dX10_takeMarket_132 : decode cX10_takeMarket 132 = .ok (.aload_n 0, 1) := by decide +kernel
theorem dX10_takeMarket_133 : decode cX10_takeMarket 133 = .ok (.getfield 65, 3) := by decide +kernel
theorem dX10_takeMarket_136 : decode cX10_takeMarket 136 = .ok (.iconst 0, 1) := by decide +kernel
theorem dX10_takeMarket_137 : decode cX10_takeMarket 137 = .ok (.iaload, 1) := by decide +kernel
theorem dX10_takeMarket_138 : decode cX10_takeMarket 138 = .ok (.iastore, 1) := by decide +kernel
theorem dX10_takeMarket_139 : decode cX10_takeMarket 139 = .ok (.aload_n 0, 1) := by decide +kernel
theorem dX10_takeMarket_140 : decode cX10_takeMarket 140 = .ok (.getfield 19, 3) := by decide +kernel
theorem dX10_takeMarket_143 : decode cX10_takeMarket 143 = .ok (.iconst 1, 1) := by decide +kernel
theorem dX10_takeMarket_144 : decode cX10_takeMarket 144 = .ok (.aload_n 0, 1) := by decide +kernel
theorem dX10_takeMarket_145 : decode cX10_takeMarket 145 = .ok (.getfield 65, 3) := by decide +kernel
theorem dX10_takeMarket_148 : decode cX10_takeMarket 148 = .ok (.iconst 1, 1) := by decide +kernel
theorem dX10_takeMarket_149 : decode cX10_takeMarket 149 = .ok (.iaload, 1) := by decide +kernel
theorem dX10_takeMarket_150 : decode cX10_takeMarket 150 = .ok (.iastore, 1) := by decide +kernel
theorem dX10_takeMarket_151 : decode cX10_takeMarket 151 = .ok (.iconst 0, 1) := by decide +kernel
theorem dX10_takeMarket_152 : decode cX10_takeMarket 152 = .ok (.istore_n 1, 1) := by decide +kernel
theorem dX10_takeMarket_153 : decode cX10_takeMarket 153 = .ok (.iload_n 1, 1) := by decide +kernel
theorem dX10_takeMarket_154 : decode cX10_takeMarket 154 = .ok (.aload_n 0, 1) := by decide +kernel
theorem dX10_takeMarket_155 : decode cX10_takeMarket 155 = .ok (.invokevirtual 130, 3) := by decide +kernel
theorem dX10_takeMarket_158 : decode cX10_takeMarket 158 = .ok (.if_icmp .ge 65, 3) := by decide +kernel
theorem dX10_takeMarket_161 : decode cX10_takeMarket 161 = .ok (.aload_n 0, 1) := by decide +kernel
theorem dX10_takeMarket_162 : decode cX10_takeMarket 162 = .ok (.iload_n 1, 1) := by decide +kernel
theorem dX10_takeMarket_163 : decode cX10_takeMarket 163 = .ok (.invokevirtual 245, 3) := by decide +kernel
theorem dX10_takeMarket_166 : decode cX10_takeMarket 166 = .ok (.istore_n 2, 1) := by decide +kernel
theorem dX10_takeMarket_167 : decode cX10_takeMarket 167 = .ok (.aload_n 0, 1) := by decide +kernel
theorem dX10_takeMarket_168 : decode cX10_takeMarket 168 = .ok (.getfield 22, 3) := by decide +kernel
theorem dX10_takeMarket_171 : decode cX10_takeMarket 171 = .ok (.iload_n 1, 1) := by decide +kernel
theorem dX10_takeMarket_172 : decode cX10_takeMarket 172 = .ok (.aload_n 0, 1) := by decide +kernel
theorem dX10_takeMarket_173 : decode cX10_takeMarket 173 = .ok (.getfield 68, 3) := by decide +kernel
theorem dX10_takeMarket_176 : decode cX10_takeMarket 176 = .ok (.iload_n 2, 1) := by decide +kernel
theorem dX10_takeMarket_177 : decode cX10_takeMarket 177 = .ok (.ifCond .ne 7, 3) := by decide +kernel
theorem dX10_takeMarket_180 : decode cX10_takeMarket 180 = .ok (.iload_n 1, 1) := by decide +kernel
theorem dX10_takeMarket_181 : decode cX10_takeMarket 181 = .ok (.goto 34, 3) := by decide +kernel
theorem dX10_takeMarket_184 : decode cX10_takeMarket 184 = .ok (.iload_n 2, 1) := by decide +kernel
theorem dX10_takeMarket_185 : decode cX10_takeMarket 185 = .ok (.iconst 1, 1) := by decide +kernel
theorem dX10_takeMarket_186 : decode cX10_takeMarket 186 = .ok (.if_icmp .ne 15, 3) := by decide +kernel
theorem dX10_takeMarket_189 : decode cX10_takeMarket 189 = .ok (.bipush 6, 2) := by decide +kernel
theorem dX10_takeMarket_191 : decode cX10_takeMarket 191 = .ok (.iload_n 1, 1) := by decide +kernel
theorem dX10_takeMarket_192 : decode cX10_takeMarket 192 = .ok (.iadd, 1) := by decide +kernel
theorem dX10_takeMarket_193 : decode cX10_takeMarket 193 = .ok (.aload_n 0, 1) := by decide +kernel
theorem dX10_takeMarket_194 : decode cX10_takeMarket 194 = .ok (.getfield 121, 3) := by decide +kernel
theorem dX10_takeMarket_197 : decode cX10_takeMarket 197 = .ok (.isub, 1) := by decide +kernel
theorem dX10_takeMarket_198 : decode cX10_takeMarket 198 = .ok (.goto 17, 3) := by decide +kernel
theorem dX10_takeMarket_201 : decode cX10_takeMarket 201 = .ok (.bipush 12, 2) := by decide +kernel
theorem dX10_takeMarket_203 : decode cX10_takeMarket 203 = .ok (.iload_n 1, 1) := by decide +kernel
theorem dX10_takeMarket_204 : decode cX10_takeMarket 204 = .ok (.iadd, 1) := by decide +kernel
theorem dX10_takeMarket_205 : decode cX10_takeMarket 205 = .ok (.aload_n 0, 1) := by decide +kernel
theorem dX10_takeMarket_206 : decode cX10_takeMarket 206 = .ok (.getfield 121, 3) := by decide +kernel
theorem dX10_takeMarket_209 : decode cX10_takeMarket 209 = .ok (.isub, 1) := by decide +kernel
theorem dX10_takeMarket_210 : decode cX10_takeMarket 210 = .ok (.aload_n 0, 1) := by decide +kernel
theorem dX10_takeMarket_211 : decode cX10_takeMarket 211 = .ok (.getfield 124, 3) := by decide +kernel
theorem dX10_takeMarket_214 : decode cX10_takeMarket 214 = .ok (.isub, 1) := by decide +kernel
theorem dX10_takeMarket_215 : decode cX10_takeMarket 215 = .ok (.iaload, 1) := by decide +kernel
theorem dX10_takeMarket_216 : decode cX10_takeMarket 216 = .ok (.iastore, 1) := by decide +kernel
theorem dX10_takeMarket_217 : decode cX10_takeMarket 217 = .ok (.iinc 1 1, 3) := by decide +kernel
theorem dX10_takeMarket_220 : decode cX10_takeMarket 220 = .ok (.goto (-67), 3) := by decide +kernel
theorem dX10_takeMarket_223 : decode cX10_takeMarket 223 = .ok (.aload_n 0, 1) := by decide +kernel
theorem dX10_takeMarket_224 : decode cX10_takeMarket 224 = .ok (.iconst 0, 1) := by decide +kernel
theorem dX10_takeMarket_225 : decode cX10_takeMarket 225 = .ok (.putfield 249, 3) := by decide +kernel
theorem dX10_takeMarket_228 : decode cX10_takeMarket 228 = .ok (.aload_n 0, 1) := by decide +kernel
theorem dX10_takeMarket_229 : decode cX10_takeMarket 229 = .ok (.iconst 0, 1) := by decide +kernel
theorem dX10_takeMarket_230 : decode cX10_takeMarket 230 = .ok (.putfield 252, 3) := by decide +kernel
theorem dX10_takeMarket_233 : decode cX10_takeMarket 233 = .ok (.aload_n 0, 1) := by decide +kernel
theorem dX10_takeMarket_234 : decode cX10_takeMarket 234 = .ok (.getfield 115, 3) := by decide +kernel
theorem dX10_takeMarket_237 : decode cX10_takeMarket 237 = .ok (.iconst 0, 1) := by decide +kernel
theorem dX10_takeMarket_238 : decode cX10_takeMarket 238 = .ok (.iconst 0, 1) := by decide +kernel
theorem dX10_takeMarket_239 : decode cX10_takeMarket 239 = .ok (.bastore, 1) := by decide +kernel
theorem dX10_takeMarket_240 : decode cX10_takeMarket 240 = .ok (.aload_n 0, 1) := by decide +kernel
theorem dX10_takeMarket_241 : decode cX10_takeMarket 241 = .ok (.getfield 115, 3) := by decide +kernel
theorem dX10_takeMarket_244 : decode cX10_takeMarket 244 = .ok (.iconst 1, 1) := by decide +kernel
theorem dX10_takeMarket_245 : decode cX10_takeMarket 245 = .ok (.iconst 0, 1) := by decide +kernel
theorem dX10_takeMarket_246 : decode cX10_takeMarket 246 = .ok (.bastore, 1) := by decide +kernel
theorem dX10_takeMarket_247 : decode cX10_takeMarket 247 = .ok (.aload_n 0, 1) := by decide +kernel
theorem dX10_takeMarket_248 : decode cX10_takeMarket 248 = .ok (.invokevirtual 118, 3) := by decide +kernel
theorem dX10_takeMarket_251 : decode cX10_takeMarket 251 = .ok (.return_, 1) := by decide +kernel
theorem dX10_fault_0 : decode cX10_fault 0 = .ok (.aload_n 0, 1) := by decide +kernel
theorem dX10_fault_1 : decode cX10_fault 1 = .ok (.getfield 53, 3) := by decide +kernel
theorem dX10_fault_4 : decode cX10_fault 4 = .ok (.ireturn, 1) := by decide +kernel
theorem dX10_soldSet_0 : decode cX10_soldSet 0 = .ok (.iconst 0, 1) := by decide +kernel
theorem dX10_soldSet_1 : decode cX10_soldSet 1 = .ok (.istore_n 1, 1) := by decide +kernel
theorem dX10_soldSet_2 : decode cX10_soldSet 2 = .ok (.iconst 0, 1) := by decide +kernel
theorem dX10_soldSet_3 : decode cX10_soldSet 3 = .ok (.istore_n 2, 1) := by decide +kernel
theorem dX10_soldSet_4 : decode cX10_soldSet 4 = .ok (.iload_n 2, 1) := by decide +kernel
theorem dX10_soldSet_5 : decode cX10_soldSet 5 = .ok (.aload_n 0, 1) := by decide +kernel
theorem dX10_soldSet_6 : decode cX10_soldSet 6 = .ok (.getfield 121, 3) := by decide +kernel
theorem dX10_soldSet_9 : decode cX10_soldSet 9 = .ok (.if_icmp .ge 28, 3) := by decide +kernel
theorem dX10_soldSet_12 : decode cX10_soldSet 12 = .ok (.iload_n 1, 1) := by decide +kernel
theorem dX10_soldSet_13 : decode cX10_soldSet 13 = .ok (.aload_n 0, 1) := by decide +kernel
theorem dX10_soldSet_14 : decode cX10_soldSet 14 = .ok (.getfield 41, 3) := by decide +kernel
theorem dX10_soldSet_17 : decode cX10_soldSet 17 = .ok (.iload_n 2, 1) := by decide +kernel
theorem dX10_soldSet_18 : decode cX10_soldSet 18 = .ok (.iaload, 1) := by decide +kernel
theorem dX10_soldSet_19 : decode cX10_soldSet 19 = .ok (.ifCond .lt 9, 3) := by decide +kernel
theorem dX10_soldSet_22 : decode cX10_soldSet 22 = .ok (.iconst 1, 1) := by decide +kernel
theorem dX10_soldSet_23 : decode cX10_soldSet 23 = .ok (.iload_n 2, 1) := by decide +kernel
theorem dX10_soldSet_24 : decode cX10_soldSet 24 = .ok (.ishl, 1) := by decide +kernel
theorem dX10_soldSet_25 : decode cX10_soldSet 25 = .ok (.goto 4, 3) := by decide +kernel
theorem dX10_soldSet_28 : decode cX10_soldSet 28 = .ok (.iconst 0, 1) := by decide +kernel
theorem dX10_soldSet_29 : decode cX10_soldSet 29 = .ok (.ior, 1) := by decide +kernel
theorem dX10_soldSet_30 : decode cX10_soldSet 30 = .ok (.istore_n 1, 1) := by decide +kernel
theorem dX10_soldSet_31 : decode cX10_soldSet 31 = .ok (.iinc 2 1, 3) := by decide +kernel
theorem dX10_soldSet_34 : decode cX10_soldSet 34 = .ok (.goto (-30), 3) := by decide +kernel
theorem dX10_soldSet_37 : decode cX10_soldSet 37 = .ok (.iload_n 1, 1) := by decide +kernel
theorem dX10_soldSet_38 : decode cX10_soldSet 38 = .ok (.ireturn, 1) := by decide +kernel
theorem dX10_told_0 : decode cX10_told 0 = .ok (.iload_n 1, 1) := by decide +kernel
theorem dX10_told_1 : decode cX10_told 1 = .ok (.tableswitch 105 0 9 #[55, 60, 65, 70, 75, 80, 85, 90, 95, 100], 55) := by decide +kernel
theorem dX10_told_56 : decode cX10_told 56 = .ok (.aload_n 0, 1) := by decide +kernel
theorem dX10_told_57 : decode cX10_told 57 = .ok (.getfield 121, 3) := by decide +kernel
theorem dX10_told_60 : decode cX10_told 60 = .ok (.ireturn, 1) := by decide +kernel
theorem dX10_told_61 : decode cX10_told 61 = .ok (.aload_n 0, 1) := by decide +kernel
theorem dX10_told_62 : decode cX10_told 62 = .ok (.getfield 124, 3) := by decide +kernel
theorem dX10_told_65 : decode cX10_told 65 = .ok (.ireturn, 1) := by decide +kernel
theorem dX10_told_66 : decode cX10_told 66 = .ok (.aload_n 0, 1) := by decide +kernel
theorem dX10_told_67 : decode cX10_told 67 = .ok (.getfield 127, 3) := by decide +kernel
theorem dX10_told_70 : decode cX10_told 70 = .ok (.ireturn, 1) := by decide +kernel
theorem dX10_told_71 : decode cX10_told 71 = .ok (.aload_n 0, 1) := by decide +kernel
theorem dX10_told_72 : decode cX10_told 72 = .ok (.getfield 144, 3) := by decide +kernel
theorem dX10_told_75 : decode cX10_told 75 = .ok (.ireturn, 1) := by decide +kernel
theorem dX10_told_76 : decode cX10_told 76 = .ok (.aload_n 0, 1) := by decide +kernel
theorem dX10_told_77 : decode cX10_told 77 = .ok (.getfield 138, 3) := by decide +kernel
theorem dX10_told_80 : decode cX10_told 80 = .ok (.ireturn, 1) := by decide +kernel
theorem dX10_told_81 : decode cX10_told 81 = .ok (.aload_n 0, 1) := by decide +kernel
theorem dX10_told_82 : decode cX10_told 82 = .ok (.getfield 25, 3) := by decide +kernel
theorem dX10_told_85 : decode cX10_told 85 = .ok (.ireturn, 1) := by decide +kernel
theorem dX10_told_86 : decode cX10_told 86 = .ok (.aload_n 0, 1) := by decide +kernel
theorem dX10_told_87 : decode cX10_told 87 = .ok (.getfield 29, 3) := by decide +kernel
theorem dX10_told_90 : decode cX10_told 90 = .ok (.ireturn, 1) := by decide +kernel
theorem dX10_told_91 : decode cX10_told 91 = .ok (.aload_n 0, 1) := by decide +kernel
theorem dX10_told_92 : decode cX10_told 92 = .ok (.invokevirtual 255, 3) := by decide +kernel
theorem dX10_told_95 : decode cX10_told 95 = .ok (.ireturn, 1) := by decide +kernel
theorem dX10_told_96 : decode cX10_told 96 = .ok (.aload_n 0, 1) := by decide +kernel
theorem dX10_told_97 : decode cX10_told 97 = .ok (.getfield 252, 3) := by decide +kernel
theorem dX10_told_100 : decode cX10_told 100 = .ok (.ireturn, 1) := by decide +kernel
theorem dX10_told_101 : decode cX10_told 101 = .ok (.aload_n 0, 1) := by decide +kernel
theorem dX10_told_102 : decode cX10_told 102 = .ok (.getfield 249, 3) := by decide +kernel
theorem dX10_told_105 : decode cX10_told 105 = .ok (.ireturn, 1) := by decide +kernel
theorem dX10_told_106 : decode cX10_told 106 = .ok (.ldc 143, 2) := by decide +kernel
theorem dX10_told_108 : decode cX10_told 108 = .ok (.ireturn, 1) := by decide +kernel
theorem dX10_free_0 : decode cX10_free 0 = .ok (.aload_n 0, 1) := by decide +kernel
theorem dX10_free_1 : decode cX10_free 1 = .ok (.getfield 22, 3) := by decide +kernel
theorem dX10_free_4 : decode cX10_free 4 = .ok (.iload_n 1, 1) := by decide +kernel
theorem dX10_free_5 : decode cX10_free 5 = .ok (.iaload, 1) := by decide +kernel
theorem dX10_free_6 : decode cX10_free 6 = .ok (.aload_n 0, 1) := by decide +kernel
theorem dX10_free_7 : decode cX10_free 7 = .ok (.getfield 32, 3) := by decide +kernel
theorem dX10_free_10 : decode cX10_free 10 = .ok (.iload_n 1, 1) := by decide +kernel
theorem dX10_free_11 : decode cX10_free 11 = .ok (.iaload, 1) := by decide +kernel
theorem dX10_free_12 : decode cX10_free 12 = .ok (.invokestatic 258, 3) := by decide +kernel
theorem dX10_free_15 : decode cX10_free 15 = .ok (.isub, 1) := by decide +kernel
theorem dX10_free_16 : decode cX10_free 16 = .ok (.ireturn, 1) := by decide +kernel
theorem dX10_person_0 : decode cX10_person 0 = .ok (.aload_n 0, 1) := by decide +kernel
theorem dX10_person_1 : decode cX10_person 1 = .ok (.iload_n 1, 1) := by decide +kernel
theorem dX10_person_2 : decode cX10_person 2 = .ok (.invokevirtual 261, 3) := by decide +kernel
theorem dX10_person_5 : decode cX10_person 5 = .ok (.ifCond .ne 7, 3) := by decide +kernel
theorem dX10_person_8 : decode cX10_person 8 = .ok (.ldc_w 264, 3) := by decide +kernel
theorem dX10_person_11 : decode cX10_person 11 = .ok (.ireturn, 1) := by decide +kernel
theorem dX10_person_12 : decode cX10_person 12 = .ok (.aload_n 0, 1) := by decide +kernel
theorem dX10_person_13 : decode cX10_person 13 = .ok (.iload_n 1, 1) := by decide +kernel
theorem dX10_person_14 : decode cX10_person 14 = .ok (.invokevirtual 245, 3) := by decide +kernel
theorem dX10_person_17 : decode cX10_person 17 = .ok (.istore_n 3, 1) := by decide +kernel
theorem dX10_person_18 : decode cX10_person 18 = .ok (.iload_n 2, 1) := by decide +kernel
theorem dX10_person_19 : decode cX10_person 19 = .ok (.tableswitch 109 0 4 #[33, 40, 46, 53, 102], 33) := by decide +kernel
theorem dX10_person_52 : decode cX10_person 52 = .ok (.aload_n 0, 1) := by decide +kernel
theorem dX10_person_53 : decode cX10_person 53 = .ok (.getfield 22, 3) := by decide +kernel
theorem dX10_person_56 : decode cX10_person 56 = .ok (.iload_n 1, 1) := by decide +kernel
theorem dX10_person_57 : decode cX10_person 57 = .ok (.iaload, 1) := by decide +kernel
theorem dX10_person_58 : decode cX10_person 58 = .ok (.ireturn, 1) := by decide +kernel
theorem dX10_person_59 : decode cX10_person 59 = .ok (.aload_n 0, 1) := by decide +kernel
theorem dX10_person_60 : decode cX10_person 60 = .ok (.iload_n 1, 1) := by decide +kernel
theorem dX10_person_61 : decode cX10_person 61 = .ok (.invokevirtual 265, 3) := by decide +kernel
theorem dX10_person_64 : decode cX10_person 64 = .ok (.ireturn, 1) := by decide +kernel
theorem dX10_person_65 : decode cX10_person 65 = .ok (.aload_n 0, 1) := by decide +kernel
theorem dX10_person_66 : decode cX10_person 66 = .ok (.getfield 32, 3) := by decide +kernel
theorem dX10_person_69 : decode cX10_person 69 = .ok (.iload_n 1, 1) := by decide +kernel
theorem dX10_person_70 : decode cX10_person 70 = .ok (.iaload, 1) := by decide +kernel
theorem dX10_person_71 : decode cX10_person 71 = .ok (.ireturn, 1) := by decide +kernel
theorem dX10_person_72 : decode cX10_person 72 = .ok (.iload_n 3, 1) := by decide +kernel
theorem dX10_person_73 : decode cX10_person 73 = .ok (.ifCond .ne 12, 3) := by decide +kernel
theorem dX10_person_76 : decode cX10_person 76 = .ok (.aload_n 0, 1) := by decide +kernel
theorem dX10_person_77 : decode cX10_person 77 = .ok (.getfield 7, 3) := by decide +kernel
theorem dX10_person_80 : decode cX10_person 80 = .ok (.iload_n 1, 1) := by decide +kernel
theorem dX10_person_81 : decode cX10_person 81 = .ok (.iaload, 1) := by decide +kernel
theorem dX10_person_82 : decode cX10_person 82 = .ok (.goto 38, 3) := by decide +kernel
theorem dX10_person_85 : decode cX10_person 85 = .ok (.iload_n 3, 1) := by decide +kernel
theorem dX10_person_86 : decode cX10_person 86 = .ok (.iconst 1, 1) := by decide +kernel
theorem dX10_person_87 : decode cX10_person 87 = .ok (.if_icmp .ne 17, 3) := by decide +kernel
theorem dX10_person_90 : decode cX10_person 90 = .ok (.aload_n 0, 1) := by decide +kernel
theorem dX10_person_91 : decode cX10_person 91 = .ok (.getfield 13, 3) := by decide +kernel
theorem dX10_person_94 : decode cX10_person 94 = .ok (.iload_n 1, 1) := by decide +kernel
theorem dX10_person_95 : decode cX10_person 95 = .ok (.aload_n 0, 1) := by decide +kernel
theorem dX10_person_96 : decode cX10_person 96 = .ok (.getfield 121, 3) := by decide +kernel
theorem dX10_person_99 : decode cX10_person 99 = .ok (.isub, 1) := by decide +kernel
theorem dX10_person_100 : decode cX10_person 100 = .ok (.iaload, 1) := by decide +kernel
theorem dX10_person_101 : decode cX10_person 101 = .ok (.goto 19, 3) := by decide +kernel
theorem dX10_person_104 : decode cX10_person 104 = .ok (.aload_n 0, 1) := by decide +kernel
theorem dX10_person_105 : decode cX10_person 105 = .ok (.getfield 19, 3) := by decide +kernel
theorem dX10_person_108 : decode cX10_person 108 = .ok (.iload_n 1, 1) := by decide +kernel
theorem dX10_person_109 : decode cX10_person 109 = .ok (.aload_n 0, 1) := by decide +kernel
theorem dX10_person_110 : decode cX10_person 110 = .ok (.getfield 121, 3) := by decide +kernel
theorem dX10_person_113 : decode cX10_person 113 = .ok (.isub, 1) := by decide +kernel
theorem dX10_person_114 : decode cX10_person 114 = .ok (.aload_n 0, 1) := by decide +kernel
theorem dX10_person_115 : decode cX10_person 115 = .ok (.getfield 124, 3) := by decide +kernel
theorem dX10_person_118 : decode cX10_person 118 = .ok (.isub, 1) := by decide +kernel
theorem dX10_person_119 : decode cX10_person 119 = .ok (.iaload, 1) := by decide +kernel
theorem dX10_person_120 : decode cX10_person 120 = .ok (.ireturn, 1) := by decide +kernel
theorem dX10_person_121 : decode cX10_person 121 = .ok (.aload_n 0, 1) := by decide +kernel
theorem dX10_person_122 : decode cX10_person 122 = .ok (.getfield 47, 3) := by decide +kernel
theorem dX10_person_125 : decode cX10_person 125 = .ok (.iload_n 1, 1) := by decide +kernel
theorem dX10_person_126 : decode cX10_person 126 = .ok (.iaload, 1) := by decide +kernel
theorem dX10_person_127 : decode cX10_person 127 = .ok (.ireturn, 1) := by decide +kernel
theorem dX10_person_128 : decode cX10_person 128 = .ok (.ldc 143, 2) := by decide +kernel
theorem dX10_person_130 : decode cX10_person 130 = .ok (.ireturn, 1) := by decide +kernel
theorem dX10_worth_0 : decode cX10_worth 0 = .ok (.aload_n 0, 1) := by decide +kernel
theorem dX10_worth_1 : decode cX10_worth 1 = .ok (.iload_n 1, 1) := by decide +kernel
theorem dX10_worth_2 : decode cX10_worth 2 = .ok (.invokevirtual 268, 3) := by decide +kernel
theorem dX10_worth_5 : decode cX10_worth 5 = .ok (.ifCond .eq 25, 3) := by decide +kernel
theorem dX10_worth_8 : decode cX10_worth 8 = .ok (.aload_n 0, 1) := by decide +kernel
theorem dX10_worth_9 : decode cX10_worth 9 = .ok (.iload_n 2, 1) := by decide +kernel
theorem dX10_worth_10 : decode cX10_worth 10 = .ok (.invokevirtual 271, 3) := by decide +kernel
theorem dX10_worth_13 : decode cX10_worth 13 = .ok (.ifCond .eq 17, 3) := by decide +kernel
theorem dX10_worth_16 : decode cX10_worth 16 = .ok (.aload_n 0, 1) := by decide +kernel
theorem dX10_worth_17 : decode cX10_worth 17 = .ok (.getfield 16, 3) := by decide +kernel
theorem dX10_worth_20 : decode cX10_worth 20 = .ok (.bipush 6, 2) := by decide +kernel
theorem dX10_worth_22 : decode cX10_worth 22 = .ok (.iload_n 1, 1) := by decide +kernel
theorem dX10_worth_23 : decode cX10_worth 23 = .ok (.imul, 1) := by decide +kernel
theorem dX10_worth_24 : decode cX10_worth 24 = .ok (.iload_n 2, 1) := by decide +kernel
theorem dX10_worth_25 : decode cX10_worth 25 = .ok (.iadd, 1) := by decide +kernel
theorem dX10_worth_26 : decode cX10_worth 26 = .ok (.iaload, 1) := by decide +kernel
theorem dX10_worth_27 : decode cX10_worth 27 = .ok (.goto 6, 3) := by decide +kernel
theorem dX10_worth_30 : decode cX10_worth 30 = .ok (.ldc_w 264, 3) := by decide +kernel
theorem dX10_worth_33 : decode cX10_worth 33 = .ok (.ireturn, 1) := by decide +kernel
theorem dX10_isAbout_0 : decode cX10_isAbout 0 = .ok (.aload_n 0, 1) := by decide +kernel
theorem dX10_isAbout_1 : decode cX10_isAbout 1 = .ok (.iload_n 1, 1) := by decide +kernel
theorem dX10_isAbout_2 : decode cX10_isAbout 2 = .ok (.invokevirtual 261, 3) := by decide +kernel
theorem dX10_isAbout_5 : decode cX10_isAbout 5 = .ok (.ifCond .eq 37, 3) := by decide +kernel
theorem dX10_isAbout_8 : decode cX10_isAbout 8 = .ok (.aload_n 0, 1) := by decide +kernel
theorem dX10_isAbout_9 : decode cX10_isAbout 9 = .ok (.iload_n 2, 1) := by decide +kernel
theorem dX10_isAbout_10 : decode cX10_isAbout 10 = .ok (.invokevirtual 271, 3) := by decide +kernel
theorem dX10_isAbout_13 : decode cX10_isAbout 13 = .ok (.ifCond .eq 29, 3) := by decide +kernel
theorem dX10_isAbout_16 : decode cX10_isAbout 16 = .ok (.aload_n 0, 1) := by decide +kernel
theorem dX10_isAbout_17 : decode cX10_isAbout 17 = .ok (.iload_n 1, 1) := by decide +kernel
theorem dX10_isAbout_18 : decode cX10_isAbout 18 = .ok (.invokevirtual 245, 3) := by decide +kernel
theorem dX10_isAbout_21 : decode cX10_isAbout 21 = .ok (.iconst 1, 1) := by decide +kernel
theorem dX10_isAbout_22 : decode cX10_isAbout 22 = .ok (.if_icmp .eq 16, 3) := by decide +kernel
theorem dX10_isAbout_25 : decode cX10_isAbout 25 = .ok (.aload_n 0, 1) := by decide +kernel
theorem dX10_isAbout_26 : decode cX10_isAbout 26 = .ok (.iload_n 1, 1) := by decide +kernel
theorem dX10_isAbout_27 : decode cX10_isAbout 27 = .ok (.invokevirtual 245, 3) := by decide +kernel
theorem dX10_isAbout_30 : decode cX10_isAbout 30 = .ok (.ifCond .ne 12, 3) := by decide +kernel
theorem dX10_isAbout_33 : decode cX10_isAbout 33 = .ok (.iload_n 1, 1) := by decide +kernel
theorem dX10_isAbout_34 : decode cX10_isAbout 34 = .ok (.iload_n 2, 1) := by decide +kernel
theorem dX10_isAbout_35 : decode cX10_isAbout 35 = .ok (.if_icmp .ne 7, 3) := by decide +kernel
theorem dX10_isAbout_38 : decode cX10_isAbout 38 = .ok (.iconst 1, 1) := by decide +kernel
theorem dX10_isAbout_39 : decode cX10_isAbout 39 = .ok (.goto 4, 3) := by decide +kernel
theorem dX10_isAbout_42 : decode cX10_isAbout 42 = .ok (.iconst 0, 1) := by decide +kernel
theorem dX10_isAbout_43 : decode cX10_isAbout 43 = .ok (.ireturn, 1) := by decide +kernel
theorem dX10_isBound_0 : decode cX10_isBound 0 = .ok (.aload_n 0, 1) := by decide +kernel
theorem dX10_isBound_1 : decode cX10_isBound 1 = .ok (.getfield 35, 3) := by decide +kernel
theorem dX10_isBound_4 : decode cX10_isBound 4 = .ok (.bipush 6, 2) := by decide +kernel
theorem dX10_isBound_6 : decode cX10_isBound 6 = .ok (.iload_n 1, 1) := by decide +kernel
theorem dX10_isBound_7 : decode cX10_isBound 7 = .ok (.imul, 1) := by decide +kernel
theorem dX10_isBound_8 : decode cX10_isBound 8 = .ok (.iload_n 2, 1) := by decide +kernel
theorem dX10_isBound_9 : decode cX10_isBound 9 = .ok (.iadd, 1) := by decide +kernel
theorem dX10_isBound_10 : decode cX10_isBound 10 = .ok (.iaload, 1) := by decide +kernel
theorem dX10_isBound_11 : decode cX10_isBound 11 = .ok (.ifCond .lt 25, 3) := by decide +kernel
theorem dX10_isBound_14 : decode cX10_isBound 14 = .ok (.aload_n 0, 1) := by decide +kernel
theorem dX10_isBound_15 : decode cX10_isBound 15 = .ok (.getfield 138, 3) := by decide +kernel
theorem dX10_isBound_18 : decode cX10_isBound 18 = .ok (.aload_n 0, 1) := by decide +kernel
theorem dX10_isBound_19 : decode cX10_isBound 19 = .ok (.getfield 38, 3) := by decide +kernel
theorem dX10_isBound_22 : decode cX10_isBound 22 = .ok (.bipush 6, 2) := by decide +kernel
theorem dX10_isBound_24 : decode cX10_isBound 24 = .ok (.iload_n 1, 1) := by decide +kernel
theorem dX10_isBound_25 : decode cX10_isBound 25 = .ok (.imul, 1) := by decide +kernel
theorem dX10_isBound_26 : decode cX10_isBound 26 = .ok (.iload_n 2, 1) := by decide +kernel
theorem dX10_isBound_27 : decode cX10_isBound 27 = .ok (.iadd, 1) := by decide +kernel
theorem dX10_isBound_28 : decode cX10_isBound 28 = .ok (.iaload, 1) := by decide +kernel
theorem dX10_isBound_29 : decode cX10_isBound 29 = .ok (.if_icmp .ge 7, 3) := by decide +kernel
theorem dX10_isBound_32 : decode cX10_isBound 32 = .ok (.iconst 1, 1) := by decide +kernel
theorem dX10_isBound_33 : decode cX10_isBound 33 = .ok (.goto 4, 3) := by decide +kernel
theorem dX10_isBound_36 : decode cX10_isBound 36 = .ok (.iconst 0, 1) := by decide +kernel
theorem dX10_isBound_37 : decode cX10_isBound 37 = .ok (.ireturn, 1) := by decide +kernel
theorem dX10_bound_0 : decode cX10_bound 0 = .ok (.aload_n 0, 1) := by decide +kernel
theorem dX10_bound_1 : decode cX10_bound 1 = .ok (.iload_n 1, 1) := by decide +kernel
theorem dX10_bound_2 : decode cX10_bound 2 = .ok (.iload_n 2, 1) := by decide +kernel
theorem dX10_bound_3 : decode cX10_bound 3 = .ok (.invokevirtual 274, 3) := by decide +kernel
theorem dX10_bound_6 : decode cX10_bound 6 = .ok (.ifCond .ne 7, 3) := by decide +kernel
theorem dX10_bound_9 : decode cX10_bound 9 = .ok (.ldc_w 264, 3) := by decide +kernel
theorem dX10_bound_12 : decode cX10_bound 12 = .ok (.ireturn, 1) := by decide +kernel
theorem dX10_bound_13 : decode cX10_bound 13 = .ok (.iload_n 3, 1) := by decide +kernel
theorem dX10_bound_14 : decode cX10_bound 14 = .ok (.i2l, 1) := by decide +kernel
theorem dX10_bound_15 : decode cX10_bound 15 = .ok (.lconst 0, 1) := by decide +kernel
theorem dX10_bound_16 : decode cX10_bound 16 = .ok (.lconst 1, 1) := by decide +kernel
theorem dX10_bound_17 : decode cX10_bound 17 = .ok (.invokestatic 134, 3) := by decide +kernel
theorem dX10_bound_20 : decode cX10_bound 20 = .ok (.ifCond .ne 6, 3) := by decide +kernel
theorem dX10_bound_23 : decode cX10_bound 23 = .ok (.ldc 143, 2) := by decide +kernel
theorem dX10_bound_25 : decode cX10_bound 25 = .ok (.ireturn, 1) := by decide +kernel
theorem dX10_bound_26 : decode cX10_bound 26 = .ok (.aload_n 0, 1) := by decide +kernel
theorem dX10_bound_27 : decode cX10_bound 27 = .ok (.iload_n 1, 1) := by decide +kernel
theorem dX10_bound_28 : decode cX10_bound 28 = .ok (.iload_n 2, 1) := by decide +kernel
theorem dX10_bound_29 : decode cX10_bound 29 = .ok (.invokevirtual 278, 3) := by decide +kernel
theorem dX10_bound_32 : decode cX10_bound 32 = .ok (.ifCond .ne 7, 3) := by decide +kernel
theorem dX10_bound_35 : decode cX10_bound 35 = .ok (.iconst (-1), 1) := by decide +kernel
theorem dX10_bound_36 : decode cX10_bound 36 = .ok (.goto 32, 3) := by decide +kernel
theorem dX10_bound_39 : decode cX10_bound 39 = .ok (.iload_n 3, 1) := by decide +kernel
theorem dX10_bound_40 : decode cX10_bound 40 = .ok (.ifCond .ne 17, 3) := by decide +kernel
theorem dX10_bound_43 : decode cX10_bound 43 = .ok (.aload_n 0, 1) := by decide +kernel
theorem dX10_bound_44 : decode cX10_bound 44 = .ok (.getfield 35, 3) := by decide +kernel
theorem dX10_bound_47 : decode cX10_bound 47 = .ok (.bipush 6, 2) := by decide +kernel
theorem dX10_bound_49 : decode cX10_bound 49 = .ok (.iload_n 1, 1) := by decide +kernel
theorem dX10_bound_50 : decode cX10_bound 50 = .ok (.imul, 1) := by decide +kernel
theorem dX10_bound_51 : decode cX10_bound 51 = .ok (.iload_n 2, 1) := by decide +kernel
theorem dX10_bound_52 : decode cX10_bound 52 = .ok (.iadd, 1) := by decide +kernel
theorem dX10_bound_53 : decode cX10_bound 53 = .ok (.iaload, 1) := by decide +kernel
theorem dX10_bound_54 : decode cX10_bound 54 = .ok (.goto 14, 3) := by decide +kernel
theorem dX10_bound_57 : decode cX10_bound 57 = .ok (.aload_n 0, 1) := by decide +kernel
theorem dX10_bound_58 : decode cX10_bound 58 = .ok (.getfield 38, 3) := by decide +kernel
theorem dX10_bound_61 : decode cX10_bound 61 = .ok (.bipush 6, 2) := by decide +kernel
theorem dX10_bound_63 : decode cX10_bound 63 = .ok (.iload_n 1, 1) := by decide +kernel
theorem dX10_bound_64 : decode cX10_bound 64 = .ok (.imul, 1) := by decide +kernel
theorem dX10_bound_65 : decode cX10_bound 65 = .ok (.iload_n 2, 1) := by decide +kernel
theorem dX10_bound_66 : decode cX10_bound 66 = .ok (.iadd, 1) := by decide +kernel
theorem dX10_bound_67 : decode cX10_bound 67 = .ok (.iaload, 1) := by decide +kernel
theorem dX10_bound_68 : decode cX10_bound 68 = .ok (.ireturn, 1) := by decide +kernel
theorem dX10_lot_0 : decode cX10_lot 0 = .ok (.aload_n 0, 1) := by decide +kernel
theorem dX10_lot_1 : decode cX10_lot 1 = .ok (.iload_n 1, 1) := by decide +kernel
theorem dX10_lot_2 : decode cX10_lot 2 = .ok (.invokevirtual 271, 3) := by decide +kernel
theorem dX10_lot_5 : decode cX10_lot 5 = .ok (.ifCond .ne 7, 3) := by decide +kernel
theorem dX10_lot_8 : decode cX10_lot 8 = .ok (.ldc_w 264, 3) := by decide +kernel
theorem dX10_lot_11 : decode cX10_lot 11 = .ok (.ireturn, 1) := by decide +kernel
theorem dX10_lot_12 : decode cX10_lot 12 = .ok (.iload_n 2, 1) := by decide +kernel
theorem dX10_lot_13 : decode cX10_lot 13 = .ok (.ifCond .ne 12, 3) := by decide +kernel
theorem dX10_lot_16 : decode cX10_lot 16 = .ok (.aload_n 0, 1) := by decide +kernel
theorem dX10_lot_17 : decode cX10_lot 17 = .ok (.getfield 41, 3) := by decide +kernel
theorem dX10_lot_20 : decode cX10_lot 20 = .ok (.iload_n 1, 1) := by decide +kernel
theorem dX10_lot_21 : decode cX10_lot 21 = .ok (.iaload, 1) := by decide +kernel
theorem dX10_lot_22 : decode cX10_lot 22 = .ok (.goto 19, 3) := by decide +kernel
theorem dX10_lot_25 : decode cX10_lot 25 = .ok (.iload_n 2, 1) := by decide +kernel
theorem dX10_lot_26 : decode cX10_lot 26 = .ok (.iconst 1, 1) := by decide +kernel
theorem dX10_lot_27 : decode cX10_lot 27 = .ok (.if_icmp .ne 12, 3) := by decide +kernel
theorem dX10_lot_30 : decode cX10_lot 30 = .ok (.aload_n 0, 1) := by decide +kernel
theorem dX10_lot_31 : decode cX10_lot 31 = .ok (.getfield 44, 3) := by decide +kernel
theorem dX10_lot_34 : decode cX10_lot 34 = .ok (.iload_n 1, 1) := by decide +kernel
theorem dX10_lot_35 : decode cX10_lot 35 = .ok (.iaload, 1) := by decide +kernel
theorem dX10_lot_36 : decode cX10_lot 36 = .ok (.goto 5, 3) := by decide +kernel
theorem dX10_lot_39 : decode cX10_lot 39 = .ok (.ldc 143, 2) := by decide +kernel
theorem dX10_lot_41 : decode cX10_lot 41 = .ok (.ireturn, 1) := by decide +kernel
theorem dX10_hold_0 : decode cX10_hold 0 = .ok (.aload_n 0, 1) := by decide +kernel
theorem dX10_hold_1 : decode cX10_hold 1 = .ok (.iload_n 1, 1) := by decide +kernel
theorem dX10_hold_2 : decode cX10_hold 2 = .ok (.invokevirtual 261, 3) := by decide +kernel
theorem dX10_hold_5 : decode cX10_hold 5 = .ok (.ifCond .eq 16, 3) := by decide +kernel
theorem dX10_hold_8 : decode cX10_hold 8 = .ok (.aload_n 0, 1) := by decide +kernel
theorem dX10_hold_9 : decode cX10_hold 9 = .ok (.iload_n 2, 1) := by decide +kernel
theorem dX10_hold_10 : decode cX10_hold 10 = .ok (.invokevirtual 261, 3) := by decide +kernel
theorem dX10_hold_13 : decode cX10_hold 13 = .ok (.ifCond .eq 8, 3) := by decide +kernel
theorem dX10_hold_16 : decode cX10_hold 16 = .ok (.iload_n 1, 1) := by decide +kernel
theorem dX10_hold_17 : decode cX10_hold 17 = .ok (.iload_n 2, 1) := by decide +kernel
theorem dX10_hold_18 : decode cX10_hold 18 = .ok (.if_icmp .ne 7, 3) := by decide +kernel
theorem dX10_hold_21 : decode cX10_hold 21 = .ok (.ldc_w 264, 3) := by decide +kernel
theorem dX10_hold_24 : decode cX10_hold 24 = .ok (.ireturn, 1) := by decide +kernel
theorem dX10_hold_25 : decode cX10_hold 25 = .ok (.aload_n 0, 1) := by decide +kernel
theorem dX10_hold_26 : decode cX10_hold 26 = .ok (.iload_n 1, 1) := by decide +kernel
theorem dX10_hold_27 : decode cX10_hold 27 = .ok (.invokevirtual 245, 3) := by decide +kernel
theorem dX10_hold_30 : decode cX10_hold 30 = .ok (.aload_n 0, 1) := by decide +kernel
theorem dX10_hold_31 : decode cX10_hold 31 = .ok (.iload_n 2, 1) := by decide +kernel
theorem dX10_hold_32 : decode cX10_hold 32 = .ok (.invokevirtual 245, 3) := by decide +kernel
theorem dX10_hold_35 : decode cX10_hold 35 = .ok (.if_icmp .eq 32, 3) := by decide +kernel
theorem dX10_hold_38 : decode cX10_hold 38 = .ok (.aload_n 0, 1) := by decide +kernel
theorem dX10_hold_39 : decode cX10_hold 39 = .ok (.getfield 32, 3) := by decide +kernel
theorem dX10_hold_42 : decode cX10_hold 42 = .ok (.iload_n 1, 1) := by decide +kernel
theorem dX10_hold_43 : decode cX10_hold 43 = .ok (.iaload, 1) := by decide +kernel
theorem dX10_hold_44 : decode cX10_hold 44 = .ok (.iload_n 2, 1) := by decide +kernel
theorem dX10_hold_45 : decode cX10_hold 45 = .ok (.invokestatic 281, 3) := by decide +kernel
theorem dX10_hold_48 : decode cX10_hold 48 = .ok (.ifCond .ne 19, 3) := by decide +kernel
theorem dX10_hold_51 : decode cX10_hold 51 = .ok (.aload_n 0, 1) := by decide +kernel
theorem dX10_hold_52 : decode cX10_hold 52 = .ok (.iload_n 1, 1) := by decide +kernel
theorem dX10_hold_53 : decode cX10_hold 53 = .ok (.invokevirtual 265, 3) := by decide +kernel
theorem dX10_hold_56 : decode cX10_hold 56 = .ok (.ifCond .eq 11, 3) := by decide +kernel
theorem dX10_hold_59 : decode cX10_hold 59 = .ok (.aload_n 0, 1) := by decide +kernel
theorem dX10_hold_60 : decode cX10_hold 60 = .ok (.iload_n 2, 1) := by decide +kernel
theorem dX10_hold_61 : decode cX10_hold 61 = .ok (.invokevirtual 265, 3) := by decide +kernel
theorem dX10_hold_64 : decode cX10_hold 64 = .ok (.ifCond .ne 7, 3) := by decide +kernel
theorem dX10_hold_67 : decode cX10_hold 67 = .ok (.ldc_w 284, 3) := by decide +kernel
theorem dX10_hold_70 : decode cX10_hold 70 = .ok (.ireturn, 1) := by decide +kernel
theorem dX10_hold_71 : decode cX10_hold 71 = .ok (.aload_n 0, 1) := by decide +kernel
theorem dX10_hold_72 : decode cX10_hold 72 = .ok (.getfield 32, 3) := by decide +kernel
theorem dX10_hold_75 : decode cX10_hold 75 = .ok (.iload_n 1, 1) := by decide +kernel
theorem dX10_hold_76 : decode cX10_hold 76 = .ok (.dup2, 1) := by decide +kernel
theorem dX10_hold_77 : decode cX10_hold 77 = .ok (.iaload, 1) := by decide +kernel
theorem dX10_hold_78 : decode cX10_hold 78 = .ok (.iconst 1, 1) := by decide +kernel
theorem dX10_hold_79 : decode cX10_hold 79 = .ok (.iload_n 2, 1) := by decide +kernel
theorem dX10_hold_80 : decode cX10_hold 80 = .ok (.ishl, 1) := by decide +kernel
theorem dX10_hold_81 : decode cX10_hold 81 = .ok (.ior, 1) := by decide +kernel
theorem dX10_hold_82 : decode cX10_hold 82 = .ok (.iastore, 1) := by decide +kernel
theorem dX10_hold_83 : decode cX10_hold 83 = .ok (.aload_n 0, 1) := by decide +kernel
theorem dX10_hold_84 : decode cX10_hold 84 = .ok (.getfield 32, 3) := by decide +kernel
theorem dX10_hold_87 : decode cX10_hold 87 = .ok (.iload_n 2, 1) := by decide +kernel
theorem dX10_hold_88 : decode cX10_hold 88 = .ok (.dup2, 1) := by decide +kernel
theorem dX10_hold_89 : decode cX10_hold 89 = .ok (.iaload, 1) := by decide +kernel
theorem dX10_hold_90 : decode cX10_hold 90 = .ok (.iconst 1, 1) := by decide +kernel
theorem dX10_hold_91 : decode cX10_hold 91 = .ok (.iload_n 1, 1) := by decide +kernel
theorem dX10_hold_92 : decode cX10_hold 92 = .ok (.ishl, 1) := by decide +kernel
theorem dX10_hold_93 : decode cX10_hold 93 = .ok (.ior, 1) := by decide +kernel
theorem dX10_hold_94 : decode cX10_hold 94 = .ok (.iastore, 1) := by decide +kernel
theorem dX10_hold_95 : decode cX10_hold 95 = .ok (.iconst 1, 1) := by decide +kernel
theorem dX10_hold_96 : decode cX10_hold 96 = .ok (.ireturn, 1) := by decide +kernel
theorem dX10_loose_0 : decode cX10_loose 0 = .ok (.aload_n 0, 1) := by decide +kernel
theorem dX10_loose_1 : decode cX10_loose 1 = .ok (.iload_n 1, 1) := by decide +kernel
theorem dX10_loose_2 : decode cX10_loose 2 = .ok (.invokevirtual 261, 3) := by decide +kernel
theorem dX10_loose_5 : decode cX10_loose 5 = .ok (.ifCond .eq 16, 3) := by decide +kernel
theorem dX10_loose_8 : decode cX10_loose 8 = .ok (.aload_n 0, 1) := by decide +kernel
theorem dX10_loose_9 : decode cX10_loose 9 = .ok (.iload_n 2, 1) := by decide +kernel
theorem dX10_loose_10 : decode cX10_loose 10 = .ok (.invokevirtual 261, 3) := by decide +kernel
theorem dX10_loose_13 : decode cX10_loose 13 = .ok (.ifCond .eq 8, 3) := by decide +kernel
theorem dX10_loose_16 : decode cX10_loose 16 = .ok (.iload_n 1, 1) := by decide +kernel
theorem dX10_loose_17 : decode cX10_loose 17 = .ok (.iload_n 2, 1) := by decide +kernel
theorem dX10_loose_18 : decode cX10_loose 18 = .ok (.if_icmp .ne 7, 3) := by decide +kernel
theorem dX10_loose_21 : decode cX10_loose 21 = .ok (.ldc_w 264, 3) := by decide +kernel
theorem dX10_loose_24 : decode cX10_loose 24 = .ok (.ireturn, 1) := by decide +kernel
theorem dX10_loose_25 : decode cX10_loose 25 = .ok (.aload_n 0, 1) := by decide +kernel
theorem dX10_loose_26 : decode cX10_loose 26 = .ok (.getfield 32, 3) := by decide +kernel
theorem dX10_loose_29 : decode cX10_loose 29 = .ok (.iload_n 1, 1) := by decide +kernel
theorem dX10_loose_30 : decode cX10_loose 30 = .ok (.iaload, 1) := by decide +kernel
theorem dX10_loose_31 : decode cX10_loose 31 = .ok (.iload_n 2, 1) := by decide +kernel
theorem dX10_loose_32 : decode cX10_loose 32 = .ok (.invokestatic 281, 3) := by decide +kernel
theorem dX10_loose_35 : decode cX10_loose 35 = .ok (.ifCond .ne 7, 3) := by decide +kernel
theorem dX10_loose_38 : decode cX10_loose 38 = .ok (.ldc_w 284, 3) := by decide +kernel
theorem dX10_loose_41 : decode cX10_loose 41 = .ok (.ireturn, 1) := by decide +kernel
theorem dX10_loose_42 : decode cX10_loose 42 = .ok (.aload_n 0, 1) := by decide +kernel
theorem dX10_loose_43 : decode cX10_loose 43 = .ok (.getfield 32, 3) := by decide +kernel
theorem dX10_loose_46 : decode cX10_loose 46 = .ok (.iload_n 1, 1) := by decide +kernel
theorem dX10_loose_47 : decode cX10_loose 47 = .ok (.dup2, 1) := by decide +kernel
theorem dX10_loose_48 : decode cX10_loose 48 = .ok (.iaload, 1) := by decide +kernel
theorem dX10_loose_49 : decode cX10_loose 49 = .ok (.iconst 1, 1) := by decide +kernel
theorem dX10_loose_50 : decode cX10_loose 50 = .ok (.iload_n 2, 1) := by decide +kernel
theorem dX10_loose_51 : decode cX10_loose 51 = .ok (.ishl, 1) := by decide +kernel
theorem dX10_loose_52 : decode cX10_loose 52 = .ok (.iconst (-1), 1) := by decide +kernel
theorem dX10_loose_53 : decode cX10_loose 53 = .ok (.ixor, 1) := by decide +kernel
theorem dX10_loose_54 : decode cX10_loose 54 = .ok (.iand, 1) := by decide +kernel
theorem dX10_loose_55 : decode cX10_loose 55 = .ok (.iastore, 1) := by decide +kernel
theorem dX10_loose_56 : decode cX10_loose 56 = .ok (.aload_n 0, 1) := by decide +kernel
theorem dX10_loose_57 : decode cX10_loose 57 = .ok (.getfield 32, 3) := by decide +kernel
theorem dX10_loose_60 : decode cX10_loose 60 = .ok (.iload_n 2, 1) := by decide +kernel
theorem dX10_loose_61 : decode cX10_loose 61 = .ok (.dup2, 1) := by decide +kernel
theorem dX10_loose_62 : decode cX10_loose 62 = .ok (.iaload, 1) := by decide +kernel
theorem dX10_loose_63 : decode cX10_loose 63 = .ok (.iconst 1, 1) := by decide +kernel
theorem dX10_loose_64 : decode cX10_loose 64 = .ok (.iload_n 1, 1) := by decide +kernel
theorem dX10_loose_65 : decode cX10_loose 65 = .ok (.ishl, 1) := by decide +kernel
theorem dX10_loose_66 : decode cX10_loose 66 = .ok (.iconst (-1), 1) := by decide +kernel
theorem dX10_loose_67 : decode cX10_loose 67 = .ok (.ixor, 1) := by decide +kernel
theorem dX10_loose_68 : decode cX10_loose 68 = .ok (.iand, 1) := by decide +kernel
theorem dX10_loose_69 : decode cX10_loose 69 = .ok (.iastore, 1) := by decide +kernel
theorem dX10_loose_70 : decode cX10_loose 70 = .ok (.iconst 1, 1) := by decide +kernel
theorem dX10_loose_71 : decode cX10_loose 71 = .ok (.ireturn, 1) := by decide +kernel
theorem dX10_pressed_0 : decode cX10_pressed 0 = .ok (.aload_n 0, 1) := by decide +kernel
theorem dX10_pressed_1 : decode cX10_pressed 1 = .ok (.getfield 144, 3) := by decide +kernel
theorem dX10_pressed_4 : decode cX10_pressed 4 = .ok (.bipush 20, 2) := by decide +kernel
theorem dX10_pressed_6 : decode cX10_pressed 6 = .ok (.if_icmp .le 5, 3) := by decide +kernel
theorem dX10_pressed_9 : decode cX10_pressed 9 = .ok (.iconst (-1), 1) := by decide +kernel
theorem dX10_pressed_10 : decode cX10_pressed 10 = .ok (.ireturn, 1) := by decide +kernel
theorem dX10_pressed_11 : decode cX10_pressed 11 = .ok (.iconst 0, 1) := by decide +kernel
theorem dX10_pressed_12 : decode cX10_pressed 12 = .ok (.istore_n 1, 1) := by decide +kernel
theorem dX10_pressed_13 : decode cX10_pressed 13 = .ok (.iconst 0, 1) := by decide +kernel
theorem dX10_pressed_14 : decode cX10_pressed 14 = .ok (.istore_n 2, 1) := by decide +kernel
theorem dX10_pressed_15 : decode cX10_pressed 15 = .ok (.iload_n 2, 1) := by decide +kernel
theorem dX10_pressed_16 : decode cX10_pressed 16 = .ok (.aload_n 0, 1) := by decide +kernel
theorem dX10_pressed_17 : decode cX10_pressed 17 = .ok (.getfield 144, 3) := by decide +kernel
theorem dX10_pressed_20 : decode cX10_pressed 20 = .ok (.if_icmp .ge 100, 3) := by decide +kernel
theorem dX10_pressed_23 : decode cX10_pressed 23 = .ok (.aload_n 0, 1) := by decide +kernel
theorem dX10_pressed_24 : decode cX10_pressed 24 = .ok (.getfield 50, 3) := by decide +kernel
theorem dX10_pressed_27 : decode cX10_pressed 27 = .ok (.iload_n 2, 1) := by decide +kernel
theorem dX10_pressed_28 : decode cX10_pressed 28 = .ok (.iaload, 1) := by decide +kernel
theorem dX10_pressed_29 : decode cX10_pressed 29 = .ok (.istore_n 3, 1) := by decide +kernel
theorem dX10_pressed_30 : decode cX10_pressed 30 = .ok (.iload_n 3, 1) := by decide +kernel
theorem dX10_pressed_31 : decode cX10_pressed 31 = .ok (.bipush 104, 2) := by decide +kernel
theorem dX10_pressed_33 : decode cX10_pressed 33 = .ok (.if_icmp .ne 11, 3) := by decide +kernel
theorem dX10_pressed_36 : decode cX10_pressed 36 = .ok (.iload_n 1, 1) := by decide +kernel
theorem dX10_pressed_37 : decode cX10_pressed 37 = .ok (.iconst 2, 1) := by decide +kernel
theorem dX10_pressed_38 : decode cX10_pressed 38 = .ok (.irem, 1) := by decide +kernel
theorem dX10_pressed_39 : decode cX10_pressed 39 = .ok (.ifCond .eq 5, 3) := by decide +kernel
theorem dX10_pressed_42 : decode cX10_pressed 42 = .ok (.iconst (-1), 1) := by decide +kernel
theorem dX10_pressed_43 : decode cX10_pressed 43 = .ok (.ireturn, 1) := by decide +kernel
theorem dX10_pressed_44 : decode cX10_pressed 44 = .ok (.iload_n 3, 1) := by decide +kernel
theorem dX10_pressed_45 : decode cX10_pressed 45 = .ok (.bipush 99, 2) := by decide +kernel
theorem dX10_pressed_47 : decode cX10_pressed 47 = .ok (.if_icmp .ne 10, 3) := by decide +kernel
theorem dX10_pressed_50 : decode cX10_pressed 50 = .ok (.iload_n 1, 1) := by decide +kernel
theorem dX10_pressed_51 : decode cX10_pressed 51 = .ok (.bipush 100, 2) := by decide +kernel
theorem dX10_pressed_53 : decode cX10_pressed 53 = .ok (.iadd, 1) := by decide +kernel
theorem dX10_pressed_54 : decode cX10_pressed 54 = .ok (.goto 53, 3) := by decide +kernel
theorem dX10_pressed_57 : decode cX10_pressed 57 = .ok (.iload_n 3, 1) := by decide +kernel
theorem dX10_pressed_58 : decode cX10_pressed 58 = .ok (.bipush 120, 2) := by decide +kernel
theorem dX10_pressed_60 : decode cX10_pressed 60 = .ok (.if_icmp .ne 10, 3) := by decide +kernel
theorem dX10_pressed_63 : decode cX10_pressed 63 = .ok (.iload_n 1, 1) := by decide +kernel
theorem dX10_pressed_64 : decode cX10_pressed 64 = .ok (.bipush 10, 2) := by decide +kernel
theorem dX10_pressed_66 : decode cX10_pressed 66 = .ok (.iadd, 1) := by decide +kernel
theorem dX10_pressed_67 : decode cX10_pressed 67 = .ok (.goto 40, 3) := by decide +kernel
theorem dX10_pressed_70 : decode cX10_pressed 70 = .ok (.iload_n 3, 1) := by decide +kernel
theorem dX10_pressed_71 : decode cX10_pressed 71 = .ok (.bipush 105, 2) := by decide +kernel
theorem dX10_pressed_73 : decode cX10_pressed 73 = .ok (.if_icmp .ne 9, 3) := by decide +kernel
theorem dX10_pressed_76 : decode cX10_pressed 76 = .ok (.iload_n 1, 1) := by decide +kernel
theorem dX10_pressed_77 : decode cX10_pressed 77 = .ok (.iconst 1, 1) := by decide +kernel
theorem dX10_pressed_78 : decode cX10_pressed 78 = .ok (.iadd, 1) := by decide +kernel
theorem dX10_pressed_79 : decode cX10_pressed 79 = .ok (.goto 28, 3) := by decide +kernel
theorem dX10_pressed_82 : decode cX10_pressed 82 = .ok (.iload_n 3, 1) := by decide +kernel
theorem dX10_pressed_83 : decode cX10_pressed 83 = .ok (.bipush 100, 2) := by decide +kernel
theorem dX10_pressed_85 : decode cX10_pressed 85 = .ok (.if_icmp .ne 9, 3) := by decide +kernel
theorem dX10_pressed_88 : decode cX10_pressed 88 = .ok (.iconst 2, 1) := by decide +kernel
theorem dX10_pressed_89 : decode cX10_pressed 89 = .ok (.iload_n 1, 1) := by decide +kernel
theorem dX10_pressed_90 : decode cX10_pressed 90 = .ok (.imul, 1) := by decide +kernel
theorem dX10_pressed_91 : decode cX10_pressed 91 = .ok (.goto 16, 3) := by decide +kernel
theorem dX10_pressed_94 : decode cX10_pressed 94 = .ok (.iload_n 3, 1) := by decide +kernel
theorem dX10_pressed_95 : decode cX10_pressed 95 = .ok (.bipush 104, 2) := by decide +kernel
theorem dX10_pressed_97 : decode cX10_pressed 97 = .ok (.if_icmp .ne 9, 3) := by decide +kernel
theorem dX10_pressed_100 : decode cX10_pressed 100 = .ok (.iload_n 1, 1) := by decide +kernel
theorem dX10_pressed_101 : decode cX10_pressed 101 = .ok (.iconst 2, 1) := by decide +kernel
theorem dX10_pressed_102 : decode cX10_pressed 102 = .ok (.idiv, 1) := by decide +kernel
theorem dX10_pressed_103 : decode cX10_pressed 103 = .ok (.goto 4, 3) := by decide +kernel
theorem dX10_pressed_106 : decode cX10_pressed 106 = .ok (.iconst (-1), 1) := by decide +kernel
theorem dX10_pressed_107 : decode cX10_pressed 107 = .ok (.istore_n 1, 1) := by decide +kernel
theorem dX10_pressed_108 : decode cX10_pressed 108 = .ok (.iload_n 1, 1) := by decide +kernel
theorem dX10_pressed_109 : decode cX10_pressed 109 = .ok (.ifCond .ge 5, 3) := by decide +kernel
theorem dX10_pressed_112 : decode cX10_pressed 112 = .ok (.iconst (-1), 1) := by decide +kernel
theorem dX10_pressed_113 : decode cX10_pressed 113 = .ok (.ireturn, 1) := by decide +kernel
theorem dX10_pressed_114 : decode cX10_pressed 114 = .ok (.iinc 2 1, 3) := by decide +kernel
theorem dX10_pressed_117 : decode cX10_pressed 117 = .ok (.goto (-102), 3) := by decide +kernel
theorem dX10_pressed_120 : decode cX10_pressed 120 = .ok (.iload_n 1, 1) := by decide +kernel
theorem dX10_pressed_121 : decode cX10_pressed 121 = .ok (.i2l, 1) := by decide +kernel
theorem dX10_pressed_122 : decode cX10_pressed 122 = .ok (.lconst 1, 1) := by decide +kernel
theorem dX10_pressed_123 : decode cX10_pressed 123 = .ok (.ldc2_w 285, 3) := by decide +kernel
theorem dX10_pressed_126 : decode cX10_pressed 126 = .ok (.invokestatic 134, 3) := by decide +kernel
theorem dX10_pressed_129 : decode cX10_pressed 129 = .ok (.ifCond .eq 7, 3) := by decide +kernel
theorem dX10_pressed_132 : decode cX10_pressed 132 = .ok (.iload_n 1, 1) := by decide +kernel
theorem dX10_pressed_133 : decode cX10_pressed 133 = .ok (.goto 4, 3) := by decide +kernel
theorem dX10_pressed_136 : decode cX10_pressed 136 = .ok (.iconst (-1), 1) := by decide +kernel
theorem dX10_pressed_137 : decode cX10_pressed 137 = .ok (.ireturn, 1) := by decide +kernel
theorem dX10_price_0 : decode cX10_price 0 = .ok (.aload_n 0, 1) := by decide +kernel
theorem dX10_price_1 : decode cX10_price 1 = .ok (.invokevirtual 287, 3) := by decide +kernel
theorem dX10_price_4 : decode cX10_price 4 = .ok (.ireturn, 1) := by decide +kernel
theorem dX10_boundBesides_0 : decode cX10_boundBesides 0 = .ok (.iconst 0, 1) := by decide +kernel
theorem dX10_boundBesides_1 : decode cX10_boundBesides 1 = .ok (.istore_n 3, 1) := by decide +kernel
theorem dX10_boundBesides_2 : decode cX10_boundBesides 2 = .ok (.iconst 0, 1) := by decide +kernel
theorem dX10_boundBesides_3 : decode cX10_boundBesides 3 = .ok (.istore 4, 2) := by decide +kernel
theorem dX10_boundBesides_5 : decode cX10_boundBesides 5 = .ok (.iload 4, 2) := by decide +kernel
theorem dX10_boundBesides_7 : decode cX10_boundBesides 7 = .ok (.aload_n 0, 1) := by decide +kernel
theorem dX10_boundBesides_8 : decode cX10_boundBesides 8 = .ok (.getfield 121, 3) := by decide +kernel
theorem dX10_boundBesides_11 : decode cX10_boundBesides 11 = .ok (.if_icmp .ge 44, 3) := by decide +kernel
theorem dX10_boundBesides_14 : decode cX10_boundBesides 14 = .ok (.iload_n 3, 1) := by decide +kernel
theorem dX10_boundBesides_15 : decode cX10_boundBesides 15 = .ok (.iload 4, 2) := by decide +kernel
theorem dX10_boundBesides_17 : decode cX10_boundBesides 17 = .ok (.iload_n 2, 1) := by decide +kernel
theorem dX10_boundBesides_18 : decode cX10_boundBesides 18 = .ok (.if_icmp .eq 28, 3) := by decide +kernel
theorem dX10_boundBesides_21 : decode cX10_boundBesides 21 = .ok (.aload_n 0, 1) := by decide +kernel
theorem dX10_boundBesides_22 : decode cX10_boundBesides 22 = .ok (.iload_n 1, 1) := by decide +kernel
theorem dX10_boundBesides_23 : decode cX10_boundBesides 23 = .ok (.iload 4, 2) := by decide +kernel
theorem dX10_boundBesides_25 : decode cX10_boundBesides 25 = .ok (.invokevirtual 278, 3) := by decide +kernel
theorem dX10_boundBesides_28 : decode cX10_boundBesides 28 = .ok (.ifCond .eq 18, 3) := by decide +kernel
theorem dX10_boundBesides_31 : decode cX10_boundBesides 31 = .ok (.aload_n 0, 1) := by decide +kernel
theorem dX10_boundBesides_32 : decode cX10_boundBesides 32 = .ok (.getfield 35, 3) := by decide +kernel
theorem dX10_boundBesides_35 : decode cX10_boundBesides 35 = .ok (.bipush 6, 2) := by decide +kernel
theorem dX10_boundBesides_37 : decode cX10_boundBesides 37 = .ok (.iload_n 1, 1) := by decide +kernel
theorem dX10_boundBesides_38 : decode cX10_boundBesides 38 = .ok (.imul, 1) := by decide +kernel
theorem dX10_boundBesides_39 : decode cX10_boundBesides 39 = .ok (.iload 4, 2) := by decide +kernel
theorem dX10_boundBesides_41 : decode cX10_boundBesides 41 = .ok (.iadd, 1) := by decide +kernel
theorem dX10_boundBesides_42 : decode cX10_boundBesides 42 = .ok (.iaload, 1) := by decide +kernel
theorem dX10_boundBesides_43 : decode cX10_boundBesides 43 = .ok (.goto 4, 3) := by decide +kernel
theorem dX10_boundBesides_46 : decode cX10_boundBesides 46 = .ok (.iconst 0, 1) := by decide +kernel
theorem dX10_boundBesides_47 : decode cX10_boundBesides 47 = .ok (.iadd, 1) := by decide +kernel
theorem dX10_boundBesides_48 : decode cX10_boundBesides 48 = .ok (.istore_n 3, 1) := by decide +kernel
theorem dX10_boundBesides_49 : decode cX10_boundBesides 49 = .ok (.iinc 4 1, 3) := by decide +kernel
theorem dX10_boundBesides_52 : decode cX10_boundBesides 52 = .ok (.goto (-47), 3) := by decide +kernel
theorem dX10_boundBesides_55 : decode cX10_boundBesides 55 = .ok (.iload_n 3, 1) := by decide +kernel
theorem dX10_boundBesides_56 : decode cX10_boundBesides 56 = .ok (.ireturn, 1) := by decide +kernel
theorem dX10_canBind_0 : decode cX10_canBind 0 = .ok (.aload_n 0, 1) := by decide +kernel
theorem dX10_canBind_1 : decode cX10_canBind 1 = .ok (.iload_n 1, 1) := by decide +kernel
theorem dX10_canBind_2 : decode cX10_canBind 2 = .ok (.iload_n 2, 1) := by decide +kernel
theorem dX10_canBind_3 : decode cX10_canBind 3 = .ok (.invokevirtual 278, 3) := by decide +kernel
theorem dX10_canBind_6 : decode cX10_canBind 6 = .ok (.ifCond .eq 5, 3) := by decide +kernel
theorem dX10_canBind_9 : decode cX10_canBind 9 = .ok (.iconst 0, 1) := by decide +kernel
theorem dX10_canBind_10 : decode cX10_canBind 10 = .ok (.ireturn, 1) := by decide +kernel
theorem dX10_canBind_11 : decode cX10_canBind 11 = .ok (.aload_n 0, 1) := by decide +kernel
theorem dX10_canBind_12 : decode cX10_canBind 12 = .ok (.iload_n 1, 1) := by decide +kernel
theorem dX10_canBind_13 : decode cX10_canBind 13 = .ok (.invokevirtual 245, 3) := by decide +kernel
theorem dX10_canBind_16 : decode cX10_canBind 16 = .ok (.ifCond .eq 32, 3) := by decide +kernel
theorem dX10_canBind_19 : decode cX10_canBind 19 = .ok (.iload_n 3, 1) := by decide +kernel
theorem dX10_canBind_20 : decode cX10_canBind 20 = .ok (.aload_n 0, 1) := by decide +kernel
theorem dX10_canBind_21 : decode cX10_canBind 21 = .ok (.getfield 13, 3) := by decide +kernel
theorem dX10_canBind_24 : decode cX10_canBind 24 = .ok (.iload_n 1, 1) := by decide +kernel
theorem dX10_canBind_25 : decode cX10_canBind 25 = .ok (.aload_n 0, 1) := by decide +kernel
theorem dX10_canBind_26 : decode cX10_canBind 26 = .ok (.getfield 121, 3) := by decide +kernel
theorem dX10_canBind_29 : decode cX10_canBind 29 = .ok (.isub, 1) := by decide +kernel
theorem dX10_canBind_30 : decode cX10_canBind 30 = .ok (.iaload, 1) := by decide +kernel
theorem dX10_canBind_31 : decode cX10_canBind 31 = .ok (.aload_n 0, 1) := by decide +kernel
theorem dX10_canBind_32 : decode cX10_canBind 32 = .ok (.iload_n 1, 1) := by decide +kernel
theorem dX10_canBind_33 : decode cX10_canBind 33 = .ok (.iload_n 2, 1) := by decide +kernel
theorem dX10_canBind_34 : decode cX10_canBind 34 = .ok (.invokevirtual 290, 3) := by decide +kernel
theorem dX10_canBind_37 : decode cX10_canBind 37 = .ok (.isub, 1) := by decide +kernel
theorem dX10_canBind_38 : decode cX10_canBind 38 = .ok (.aload_n 0, 1) := by decide +kernel
theorem dX10_canBind_39 : decode cX10_canBind 39 = .ok (.getfield 47, 3) := by decide +kernel
theorem dX10_canBind_42 : decode cX10_canBind 42 = .ok (.iload_n 1, 1) := by decide +kernel
theorem dX10_canBind_43 : decode cX10_canBind 43 = .ok (.iaload, 1) := by decide +kernel
theorem dX10_canBind_44 : decode cX10_canBind 44 = .ok (.isub, 1) := by decide +kernel
theorem dX10_canBind_45 : decode cX10_canBind 45 = .ok (.if_icmp .gt 7, 3) := by decide +kernel
theorem dX10_canBind_48 : decode cX10_canBind 48 = .ok (.iconst 1, 1) := by decide +kernel
theorem dX10_canBind_49 : decode cX10_canBind 49 = .ok (.goto 4, 3) := by decide +kernel
theorem dX10_canBind_52 : decode cX10_canBind 52 = .ok (.iconst 0, 1) := by decide +kernel
theorem dX10_canBind_53 : decode cX10_canBind 53 = .ok (.ireturn, 1) := by decide +kernel
theorem dX10_bind_0 : decode cX10_bind 0 = .ok (.aload_n 0, 1) := by decide +kernel
theorem dX10_bind_1 : decode cX10_bind 1 = .ok (.getfield 35, 3) := by decide +kernel
theorem dX10_bind_4 : decode cX10_bind 4 = .ok (.bipush 6, 2) := by decide +kernel
theorem dX10_bind_6 : decode cX10_bind 6 = .ok (.iload_n 1, 1) := by decide +kernel
theorem dX10_bind_7 : decode cX10_bind 7 = .ok (.imul, 1) := by decide +kernel
theorem dX10_bind_8 : decode cX10_bind 8 = .ok (.iload_n 2, 1) := by decide +kernel
theorem dX10_bind_9 : decode cX10_bind 9 = .ok (.iadd, 1) := by decide +kernel
theorem dX10_bind_10 : decode cX10_bind 10 = .ok (.iload_n 3, 1) := by decide +kernel
theorem dX10_bind_11 : decode cX10_bind 11 = .ok (.iastore, 1) := by decide +kernel
theorem dX10_bind_12 : decode cX10_bind 12 = .ok (.aload_n 0, 1) := by decide +kernel
theorem dX10_bind_13 : decode cX10_bind 13 = .ok (.getfield 38, 3) := by decide +kernel
theorem dX10_bind_16 : decode cX10_bind 16 = .ok (.bipush 6, 2) := by decide +kernel
theorem dX10_bind_18 : decode cX10_bind 18 = .ok (.iload_n 1, 1) := by decide +kernel
theorem dX10_bind_19 : decode cX10_bind 19 = .ok (.imul, 1) := by decide +kernel
theorem dX10_bind_20 : decode cX10_bind 20 = .ok (.iload_n 2, 1) := by decide +kernel
theorem dX10_bind_21 : decode cX10_bind 21 = .ok (.iadd, 1) := by decide +kernel
theorem dX10_bind_22 : decode cX10_bind 22 = .ok (.aload_n 0, 1) := by decide +kernel
theorem dX10_bind_23 : decode cX10_bind 23 = .ok (.getfield 138, 3) := by decide +kernel
theorem dX10_bind_26 : decode cX10_bind 26 = .ok (.aload_n 0, 1) := by decide +kernel
theorem dX10_bind_27 : decode cX10_bind 27 = .ok (.getfield 25, 3) := by decide +kernel
theorem dX10_bind_30 : decode cX10_bind 30 = .ok (.iadd, 1) := by decide +kernel
theorem dX10_bind_31 : decode cX10_bind 31 = .ok (.iastore, 1) := by decide +kernel
theorem dX10_bind_32 : decode cX10_bind 32 = .ok (.aload_n 0, 1) := by decide +kernel
theorem dX10_bind_33 : decode cX10_bind 33 = .ok (.iload_n 2, 1) := by decide +kernel
theorem dX10_bind_34 : decode cX10_bind 34 = .ok (.invokevirtual 293, 3) := by decide +kernel
theorem dX10_bind_37 : decode cX10_bind 37 = .ok (.return_, 1) := by decide +kernel
theorem dX10_sell_0 : decode cX10_sell 0 = .ok (.aload_n 0, 1) := by decide +kernel
theorem dX10_sell_1 : decode cX10_sell 1 = .ok (.iload_n 1, 1) := by decide +kernel
theorem dX10_sell_2 : decode cX10_sell 2 = .ok (.iload_n 1, 1) := by decide +kernel
theorem dX10_sell_3 : decode cX10_sell 3 = .ok (.invokevirtual 278, 3) := by decide +kernel
theorem dX10_sell_6 : decode cX10_sell 6 = .ok (.ifCond .ne 4, 3) := by decide +kernel
theorem dX10_sell_9 : decode cX10_sell 9 = .ok (.return_, 1) := by decide +kernel
theorem dX10_sell_10 : decode cX10_sell 10 = .ok (.aload_n 0, 1) := by decide +kernel
theorem dX10_sell_11 : decode cX10_sell 11 = .ok (.getfield 35, 3) := by decide +kernel
theorem dX10_sell_14 : decode cX10_sell 14 = .ok (.bipush 6, 2) := by decide +kernel
theorem dX10_sell_16 : decode cX10_sell 16 = .ok (.iload_n 1, 1) := by decide +kernel
theorem dX10_sell_17 : decode cX10_sell 17 = .ok (.imul, 1) := by decide +kernel
theorem dX10_sell_18 : decode cX10_sell 18 = .ok (.iload_n 1, 1) := by decide +kernel
theorem dX10_sell_19 : decode cX10_sell 19 = .ok (.iadd, 1) := by decide +kernel
theorem dX10_sell_20 : decode cX10_sell 20 = .ok (.iaload, 1) := by decide +kernel
theorem dX10_sell_21 : decode cX10_sell 21 = .ok (.istore_n 2, 1) := by decide +kernel
theorem dX10_sell_22 : decode cX10_sell 22 = .ok (.iconst (-1), 1) := by decide +kernel
theorem dX10_sell_23 : decode cX10_sell 23 = .ok (.istore_n 3, 1) := by decide +kernel
theorem dX10_sell_24 : decode cX10_sell 24 = .ok (.iconst 0, 1) := by decide +kernel
theorem dX10_sell_25 : decode cX10_sell 25 = .ok (.istore 4, 2) := by decide +kernel
theorem dX10_sell_27 : decode cX10_sell 27 = .ok (.iload 4, 2) := by decide +kernel
theorem dX10_sell_29 : decode cX10_sell 29 = .ok (.aload_n 0, 1) := by decide +kernel
theorem dX10_sell_30 : decode cX10_sell 30 = .ok (.getfield 124, 3) := by decide +kernel
theorem dX10_sell_33 : decode cX10_sell 33 = .ok (.if_icmp .ge 93, 3) := by decide +kernel
theorem dX10_sell_36 : decode cX10_sell 36 = .ok (.aload_n 0, 1) := by decide +kernel
theorem dX10_sell_37 : decode cX10_sell 37 = .ok (.getfield 121, 3) := by decide +kernel
theorem dX10_sell_40 : decode cX10_sell 40 = .ok (.iload 4, 2) := by decide +kernel
theorem dX10_sell_42 : decode cX10_sell 42 = .ok (.iadd, 1) := by decide +kernel
theorem dX10_sell_43 : decode cX10_sell 43 = .ok (.istore 5, 2) := by decide +kernel
theorem dX10_sell_45 : decode cX10_sell 45 = .ok (.aload_n 0, 1) := by decide +kernel
theorem dX10_sell_46 : decode cX10_sell 46 = .ok (.iload 5, 2) := by decide +kernel
theorem dX10_sell_48 : decode cX10_sell 48 = .ok (.iload_n 1, 1) := by decide +kernel
theorem dX10_sell_49 : decode cX10_sell 49 = .ok (.invokevirtual 278, 3) := by decide +kernel
theorem dX10_sell_52 : decode cX10_sell 52 = .ok (.ifCond .eq 23, 3) := by decide +kernel
theorem dX10_sell_55 : decode cX10_sell 55 = .ok (.aload_n 0, 1) := by decide +kernel
theorem dX10_sell_56 : decode cX10_sell 56 = .ok (.getfield 35, 3) := by decide +kernel
theorem dX10_sell_59 : decode cX10_sell 59 = .ok (.bipush 6, 2) := by decide +kernel
theorem dX10_sell_61 : decode cX10_sell 61 = .ok (.iload 5, 2) := by decide +kernel
theorem dX10_sell_63 : decode cX10_sell 63 = .ok (.imul, 1) := by decide +kernel
theorem dX10_sell_64 : decode cX10_sell 64 = .ok (.iload_n 1, 1) := by decide +kernel
theorem dX10_sell_65 : decode cX10_sell 65 = .ok (.iadd, 1) := by decide +kernel
theorem dX10_sell_66 : decode cX10_sell 66 = .ok (.iaload, 1) := by decide +kernel
theorem dX10_sell_67 : decode cX10_sell 67 = .ok (.iload_n 2, 1) := by decide +kernel
theorem dX10_sell_68 : decode cX10_sell 68 = .ok (.if_icmp .lt 7, 3) := by decide +kernel
theorem dX10_sell_71 : decode cX10_sell 71 = .ok (.iconst 1, 1) := by decide +kernel
theorem dX10_sell_72 : decode cX10_sell 72 = .ok (.goto 4, 3) := by decide +kernel
theorem dX10_sell_75 : decode cX10_sell 75 = .ok (.iconst 0, 1) := by decide +kernel
theorem dX10_sell_76 : decode cX10_sell 76 = .ok (.istore 6, 2) := by decide +kernel
theorem dX10_sell_78 : decode cX10_sell 78 = .ok (.iload 6, 2) := by decide +kernel
theorem dX10_sell_80 : decode cX10_sell 80 = .ok (.ifCond .eq 38, 3) := by decide +kernel
theorem dX10_sell_83 : decode cX10_sell 83 = .ok (.iload_n 3, 1) := by decide +kernel
theorem dX10_sell_84 : decode cX10_sell 84 = .ok (.ifCond .lt 29, 3) := by decide +kernel
theorem dX10_sell_87 : decode cX10_sell 87 = .ok (.aload_n 0, 1) := by decide +kernel
theorem dX10_sell_88 : decode cX10_sell 88 = .ok (.getfield 35, 3) := by decide +kernel
theorem dX10_sell_91 : decode cX10_sell 91 = .ok (.bipush 6, 2) := by decide +kernel
theorem dX10_sell_93 : decode cX10_sell 93 = .ok (.iload 5, 2) := by decide +kernel
theorem dX10_sell_95 : decode cX10_sell 95 = .ok (.imul, 1) := by decide +kernel
theorem dX10_sell_96 : decode cX10_sell 96 = .ok (.iload_n 1, 1) := by decide +kernel
theorem dX10_sell_97 : decode cX10_sell 97 = .ok (.iadd, 1) := by decide +kernel
theorem dX10_sell_98 : decode cX10_sell 98 = .ok (.iaload, 1) := by decide +kernel
theorem dX10_sell_99 : decode cX10_sell 99 = .ok (.aload_n 0, 1) := by decide +kernel
theorem dX10_sell_100 : decode cX10_sell 100 = .ok (.getfield 35, 3) := by decide +kernel
theorem dX10_sell_103 : decode cX10_sell 103 = .ok (.bipush 6, 2) := by decide +kernel
theorem dX10_sell_105 : decode cX10_sell 105 = .ok (.iload_n 3, 1) := by decide +kernel
theorem dX10_sell_106 : decode cX10_sell 106 = .ok (.imul, 1) := by decide +kernel
theorem dX10_sell_107 : decode cX10_sell 107 = .ok (.iload_n 1, 1) := by decide +kernel
theorem dX10_sell_108 : decode cX10_sell 108 = .ok (.iadd, 1) := by decide +kernel
theorem dX10_sell_109 : decode cX10_sell 109 = .ok (.iaload, 1) := by decide +kernel
theorem dX10_sell_110 : decode cX10_sell 110 = .ok (.if_icmp .le 8, 3) := by decide +kernel
theorem dX10_sell_113 : decode cX10_sell 113 = .ok (.iload 5, 2) := by decide +kernel
theorem dX10_sell_115 : decode cX10_sell 115 = .ok (.goto 4, 3) := by decide +kernel
theorem dX10_sell_118 : decode cX10_sell 118 = .ok (.iload_n 3, 1) := by decide +kernel
theorem dX10_sell_119 : decode cX10_sell 119 = .ok (.istore_n 3, 1) := by decide +kernel
theorem dX10_sell_120 : decode cX10_sell 120 = .ok (.iinc 4 1, 3) := by decide +kernel
theorem dX10_sell_123 : decode cX10_sell 123 = .ok (.goto (-96), 3) := by decide +kernel
theorem dX10_sell_126 : decode cX10_sell 126 = .ok (.iload_n 3, 1) := by decide +kernel
theorem dX10_sell_127 : decode cX10_sell 127 = .ok (.ifCond .ge 4, 3) := by decide +kernel
theorem dX10_sell_130 : decode cX10_sell 130 = .ok (.return_, 1) := by decide +kernel
theorem dX10_sell_131 : decode cX10_sell 131 = .ok (.iconst (-1), 1) := by decide +kernel
theorem dX10_sell_132 : decode cX10_sell 132 = .ok (.istore 4, 2) := by decide +kernel
theorem dX10_sell_134 : decode cX10_sell 134 = .ok (.aload_n 0, 1) := by decide +kernel
theorem dX10_sell_135 : decode cX10_sell 135 = .ok (.invokevirtual 130, 3) := by decide +kernel
theorem dX10_sell_138 : decode cX10_sell 138 = .ok (.iconst 1, 1) := by decide +kernel
theorem dX10_sell_139 : decode cX10_sell 139 = .ok (.isub, 1) := by decide +kernel
theorem dX10_sell_140 : decode cX10_sell 140 = .ok (.istore 5, 2) := by decide +kernel
theorem dX10_sell_142 : decode cX10_sell 142 = .ok (.iload 5, 2) := by decide +kernel
theorem dX10_sell_144 : decode cX10_sell 144 = .ok (.aload_n 0, 1) := by decide +kernel
theorem dX10_sell_145 : decode cX10_sell 145 = .ok (.getfield 121, 3) := by decide +kernel
theorem dX10_sell_148 : decode cX10_sell 148 = .ok (.aload_n 0, 1) := by decide +kernel
theorem dX10_sell_149 : decode cX10_sell 149 = .ok (.getfield 124, 3) := by decide +kernel
theorem dX10_sell_152 : decode cX10_sell 152 = .ok (.iadd, 1) := by decide +kernel
theorem dX10_sell_153 : decode cX10_sell 153 = .ok (.if_icmp .lt 46, 3) := by decide +kernel
theorem dX10_sell_156 : decode cX10_sell 156 = .ok (.aload_n 0, 1) := by decide +kernel
theorem dX10_sell_157 : decode cX10_sell 157 = .ok (.getfield 32, 3) := by decide +kernel
theorem dX10_sell_160 : decode cX10_sell 160 = .ok (.iload 5, 2) := by decide +kernel
theorem dX10_sell_162 : decode cX10_sell 162 = .ok (.iaload, 1) := by decide +kernel
theorem dX10_sell_163 : decode cX10_sell 163 = .ok (.iload_n 1, 1) := by decide +kernel
theorem dX10_sell_164 : decode cX10_sell 164 = .ok (.invokestatic 281, 3) := by decide +kernel
theorem dX10_sell_167 : decode cX10_sell 167 = .ok (.ifCond .eq 22, 3) := by decide +kernel
theorem dX10_sell_170 : decode cX10_sell 170 = .ok (.aload_n 0, 1) := by decide +kernel
theorem dX10_sell_171 : decode cX10_sell 171 = .ok (.getfield 32, 3) := by decide +kernel
theorem dX10_sell_174 : decode cX10_sell 174 = .ok (.iload 5, 2) := by decide +kernel
theorem dX10_sell_176 : decode cX10_sell 176 = .ok (.iaload, 1) := by decide +kernel
theorem dX10_sell_177 : decode cX10_sell 177 = .ok (.iload_n 3, 1) := by decide +kernel
theorem dX10_sell_178 : decode cX10_sell 178 = .ok (.invokestatic 281, 3) := by decide +kernel
theorem dX10_sell_181 : decode cX10_sell 181 = .ok (.ifCond .eq 8, 3) := by decide +kernel
theorem dX10_sell_184 : decode cX10_sell 184 = .ok (.iload 5, 2) := by decide +kernel
theorem dX10_sell_186 : decode cX10_sell 186 = .ok (.goto 5, 3) := by decide +kernel
theorem dX10_sell_189 : decode cX10_sell 189 = .ok (.iload 4, 2) := by decide +kernel
theorem dX10_sell_191 : decode cX10_sell 191 = .ok (.istore 4, 2) := by decide +kernel
theorem dX10_sell_193 : decode cX10_sell 193 = .ok (.iinc 5 (-1), 3) := by decide +kernel
theorem dX10_sell_196 : decode cX10_sell 196 = .ok (.goto (-54), 3) := by decide +kernel
theorem dX10_sell_199 : decode cX10_sell 199 = .ok (.iload 4, 2) := by decide +kernel
theorem dX10_sell_201 : decode cX10_sell 201 = .ok (.ifCond .ge 7, 3) := by decide +kernel
theorem dX10_sell_204 : decode cX10_sell 204 = .ok (.iconst 0, 1) := by decide +kernel
theorem dX10_sell_205 : decode cX10_sell 205 = .ok (.goto 25, 3) := by decide +kernel
theorem dX10_sell_208 : decode cX10_sell 208 = .ok (.iload_n 2, 1) := by decide +kernel
theorem dX10_sell_209 : decode cX10_sell 209 = .ok (.aload_n 0, 1) := by decide +kernel
theorem dX10_sell_210 : decode cX10_sell 210 = .ok (.getfield 19, 3) := by decide +kernel
theorem dX10_sell_213 : decode cX10_sell 213 = .ok (.iload 4, 2) := by decide +kernel
theorem dX10_sell_215 : decode cX10_sell 215 = .ok (.aload_n 0, 1) := by decide +kernel
theorem dX10_sell_216 : decode cX10_sell 216 = .ok (.getfield 121, 3) := by decide +kernel
theorem dX10_sell_219 : decode cX10_sell 219 = .ok (.isub, 1) := by decide +kernel
theorem dX10_sell_220 : decode cX10_sell 220 = .ok (.aload_n 0, 1) := by decide +kernel
theorem dX10_sell_221 : decode cX10_sell 221 = .ok (.getfield 124, 3) := by decide +kernel
theorem dX10_sell_224 : decode cX10_sell 224 = .ok (.isub, 1) := by decide +kernel
theorem dX10_sell_225 : decode cX10_sell 225 = .ok (.iaload, 1) := by decide +kernel
theorem dX10_sell_226 : decode cX10_sell 226 = .ok (.imul, 1) := by decide +kernel
theorem dX10_sell_227 : decode cX10_sell 227 = .ok (.bipush 100, 2) := by decide +kernel
theorem dX10_sell_229 : decode cX10_sell 229 = .ok (.idiv, 1) := by decide +kernel
theorem dX10_sell_230 : decode cX10_sell 230 = .ok (.istore 5, 2) := by decide +kernel
theorem dX10_sell_232 : decode cX10_sell 232 = .ok (.iload 4, 2) := by decide +kernel
theorem dX10_sell_234 : decode cX10_sell 234 = .ok (.ifCond .lt 15, 3) := by decide +kernel
theorem dX10_sell_237 : decode cX10_sell 237 = .ok (.aload_n 0, 1) := by decide +kernel
theorem dX10_sell_238 : decode cX10_sell 238 = .ok (.getfield 47, 3) := by decide +kernel
theorem dX10_sell_241 : decode cX10_sell 241 = .ok (.iload 4, 2) := by decide +kernel
theorem dX10_sell_243 : decode cX10_sell 243 = .ok (.dup2, 1) := by decide +kernel
theorem dX10_sell_244 : decode cX10_sell 244 = .ok (.iaload, 1) := by decide +kernel
theorem dX10_sell_245 : decode cX10_sell 245 = .ok (.iload 5, 2) := by decide +kernel
theorem dX10_sell_247 : decode cX10_sell 247 = .ok (.iadd, 1) := by decide +kernel
theorem dX10_sell_248 : decode cX10_sell 248 = .ok (.iastore, 1) := by decide +kernel
theorem dX10_sell_249 : decode cX10_sell 249 = .ok (.aload_n 0, 1) := by decide +kernel
theorem dX10_sell_250 : decode cX10_sell 250 = .ok (.getfield 47, 3) := by decide +kernel
theorem dX10_sell_253 : decode cX10_sell 253 = .ok (.iload_n 1, 1) := by decide +kernel
theorem dX10_sell_254 : decode cX10_sell 254 = .ok (.dup2, 1) := by decide +kernel
theorem dX10_sell_255 : decode cX10_sell 255 = .ok (.iaload, 1) := by decide +kernel
theorem dX10_sell_256 : decode cX10_sell 256 = .ok (.iload_n 2, 1) := by decide +kernel
theorem dX10_sell_257 : decode cX10_sell 257 = .ok (.iload 5, 2) := by decide +kernel
theorem dX10_sell_259 : decode cX10_sell 259 = .ok (.isub, 1) := by decide +kernel
theorem dX10_sell_260 : decode cX10_sell 260 = .ok (.iadd, 1) := by decide +kernel
theorem dX10_sell_261 : decode cX10_sell 261 = .ok (.iastore, 1) := by decide +kernel
theorem dX10_sell_262 : decode cX10_sell 262 = .ok (.aload_n 0, 1) := by decide +kernel
theorem dX10_sell_263 : decode cX10_sell 263 = .ok (.getfield 47, 3) := by decide +kernel
theorem dX10_sell_266 : decode cX10_sell 266 = .ok (.iload_n 3, 1) := by decide +kernel
theorem dX10_sell_267 : decode cX10_sell 267 = .ok (.dup2, 1) := by decide +kernel
theorem dX10_sell_268 : decode cX10_sell 268 = .ok (.iaload, 1) := by decide +kernel
theorem dX10_sell_269 : decode cX10_sell 269 = .ok (.iload_n 2, 1) := by decide +kernel
theorem dX10_sell_270 : decode cX10_sell 270 = .ok (.iadd, 1) := by decide +kernel
theorem dX10_sell_271 : decode cX10_sell 271 = .ok (.iastore, 1) := by decide +kernel
theorem dX10_sell_272 : decode cX10_sell 272 = .ok (.aload_n 0, 1) := by decide +kernel
theorem dX10_sell_273 : decode cX10_sell 273 = .ok (.getfield 41, 3) := by decide +kernel
theorem dX10_sell_276 : decode cX10_sell 276 = .ok (.iload_n 1, 1) := by decide +kernel
theorem dX10_sell_277 : decode cX10_sell 277 = .ok (.iload_n 3, 1) := by decide +kernel
theorem dX10_sell_278 : decode cX10_sell 278 = .ok (.aload_n 0, 1) := by decide +kernel
theorem dX10_sell_279 : decode cX10_sell 279 = .ok (.getfield 121, 3) := by decide +kernel
theorem dX10_sell_282 : decode cX10_sell 282 = .ok (.isub, 1) := by decide +kernel
theorem dX10_sell_283 : decode cX10_sell 283 = .ok (.iastore, 1) := by decide +kernel
theorem dX10_sell_284 : decode cX10_sell 284 = .ok (.aload_n 0, 1) := by decide +kernel
theorem dX10_sell_285 : decode cX10_sell 285 = .ok (.getfield 44, 3) := by decide +kernel
theorem dX10_sell_288 : decode cX10_sell 288 = .ok (.iload_n 1, 1) := by decide +kernel
theorem dX10_sell_289 : decode cX10_sell 289 = .ok (.iload_n 2, 1) := by decide +kernel
theorem dX10_sell_290 : decode cX10_sell 290 = .ok (.iastore, 1) := by decide +kernel
theorem dX10_sell_291 : decode cX10_sell 291 = .ok (.iconst 0, 1) := by decide +kernel
theorem dX10_sell_292 : decode cX10_sell 292 = .ok (.istore 6, 2) := by decide +kernel
theorem dX10_sell_294 : decode cX10_sell 294 = .ok (.iload 6, 2) := by decide +kernel
theorem dX10_sell_296 : decode cX10_sell 296 = .ok (.aload_n 0, 1) := by decide +kernel
theorem dX10_sell_297 : decode cX10_sell 297 = .ok (.invokevirtual 130, 3) := by decide +kernel
theorem dX10_sell_300 : decode cX10_sell 300 = .ok (.if_icmp .ge 35, 3) := by decide +kernel
theorem dX10_sell_303 : decode cX10_sell 303 = .ok (.aload_n 0, 1) := by decide +kernel
theorem dX10_sell_304 : decode cX10_sell 304 = .ok (.getfield 35, 3) := by decide +kernel
theorem dX10_sell_307 : decode cX10_sell 307 = .ok (.bipush 6, 2) := by decide +kernel
theorem dX10_sell_309 : decode cX10_sell 309 = .ok (.iload 6, 2) := by decide +kernel
theorem dX10_sell_311 : decode cX10_sell 311 = .ok (.imul, 1) := by decide +kernel
theorem dX10_sell_312 : decode cX10_sell 312 = .ok (.iload_n 1, 1) := by decide +kernel
theorem dX10_sell_313 : decode cX10_sell 313 = .ok (.iadd, 1) := by decide +kernel
theorem dX10_sell_314 : decode cX10_sell 314 = .ok (.iconst (-1), 1) := by decide +kernel
theorem dX10_sell_315 : decode cX10_sell 315 = .ok (.iastore, 1) := by decide +kernel
theorem dX10_sell_316 : decode cX10_sell 316 = .ok (.aload_n 0, 1) := by decide +kernel
theorem dX10_sell_317 : decode cX10_sell 317 = .ok (.getfield 38, 3) := by decide +kernel
theorem dX10_sell_320 : decode cX10_sell 320 = .ok (.bipush 6, 2) := by decide +kernel
theorem dX10_sell_322 : decode cX10_sell 322 = .ok (.iload 6, 2) := by decide +kernel
theorem dX10_sell_324 : decode cX10_sell 324 = .ok (.imul, 1) := by decide +kernel
theorem dX10_sell_325 : decode cX10_sell 325 = .ok (.iload_n 1, 1) := by decide +kernel
theorem dX10_sell_326 : decode cX10_sell 326 = .ok (.iadd, 1) := by decide +kernel
theorem dX10_sell_327 : decode cX10_sell 327 = .ok (.iconst (-1), 1) := by decide +kernel
theorem dX10_sell_328 : decode cX10_sell 328 = .ok (.iastore, 1) := by decide +kernel
theorem dX10_sell_329 : decode cX10_sell 329 = .ok (.iinc 6 1, 3) := by decide +kernel
theorem dX10_sell_332 : decode cX10_sell 332 = .ok (.goto (-38), 3) := by decide +kernel
theorem dX10_sell_335 : decode cX10_sell 335 = .ok (.return_, 1) := by decide +kernel
theorem dX10_isAsTold_0 : decode cX10_isAsTold 0 = .ok (.aload_n 0, 1) := by decide +kernel
theorem dX10_isAsTold_1 : decode cX10_isAsTold 1 = .ok (.iload_n 1, 1) := by decide +kernel
theorem dX10_isAsTold_2 : decode cX10_isAsTold 2 = .ok (.invokevirtual 245, 3) := by decide +kernel
theorem dX10_isAsTold_5 : decode cX10_isAsTold 5 = .ok (.istore 5, 2) := by decide +kernel
theorem dX10_isAsTold_7 : decode cX10_isAsTold 7 = .ok (.iload 4, 2) := by decide +kernel
theorem dX10_isAsTold_9 : decode cX10_isAsTold 9 = .ok (.iconst (-1), 1) := by decide +kernel
theorem dX10_isAsTold_10 : decode cX10_isAsTold 10 = .ok (.if_icmp .ne 7, 3) := by decide +kernel
theorem dX10_isAsTold_13 : decode cX10_isAsTold 13 = .ok (.iload_n 1, 1) := by decide +kernel
theorem dX10_isAsTold_14 : decode cX10_isAsTold 14 = .ok (.goto 5, 3) := by decide +kernel
theorem dX10_isAsTold_17 : decode cX10_isAsTold 17 = .ok (.iload 4, 2) := by decide +kernel
theorem dX10_isAsTold_19 : decode cX10_isAsTold 19 = .ok (.istore 6, 2) := by decide +kernel
theorem dX10_isAsTold_21 : decode cX10_isAsTold 21 = .ok (.iload 5, 2) := by decide +kernel
theorem dX10_isAsTold_23 : decode cX10_isAsTold 23 = .ok (.iconst 2, 1) := by decide +kernel
theorem dX10_isAsTold_24 : decode cX10_isAsTold 24 = .ok (.if_icmp .ge 17, 3) := by decide +kernel
theorem dX10_isAsTold_27 : decode cX10_isAsTold 27 = .ok (.iload 4, 2) := by decide +kernel
theorem dX10_isAsTold_29 : decode cX10_isAsTold 29 = .ok (.iconst (-1), 1) := by decide +kernel
theorem dX10_isAsTold_30 : decode cX10_isAsTold 30 = .ok (.if_icmp .ne 7, 3) := by decide +kernel
theorem dX10_isAsTold_33 : decode cX10_isAsTold 33 = .ok (.iconst 1, 1) := by decide +kernel
theorem dX10_isAsTold_34 : decode cX10_isAsTold 34 = .ok (.goto 32, 3) := by decide +kernel
theorem dX10_isAsTold_37 : decode cX10_isAsTold 37 = .ok (.iconst 0, 1) := by decide +kernel
theorem dX10_isAsTold_38 : decode cX10_isAsTold 38 = .ok (.goto 28, 3) := by decide +kernel
theorem dX10_isAsTold_41 : decode cX10_isAsTold 41 = .ok (.iload 4, 2) := by decide +kernel
theorem dX10_isAsTold_43 : decode cX10_isAsTold 43 = .ok (.iconst (-1), 1) := by decide +kernel
theorem dX10_isAsTold_44 : decode cX10_isAsTold 44 = .ok (.if_icmp .eq 21, 3) := by decide +kernel
theorem dX10_isAsTold_47 : decode cX10_isAsTold 47 = .ok (.aload_n 0, 1) := by decide +kernel
theorem dX10_isAsTold_48 : decode cX10_isAsTold 48 = .ok (.getfield 32, 3) := by decide +kernel
theorem dX10_isAsTold_51 : decode cX10_isAsTold 51 = .ok (.iload_n 1, 1) := by decide +kernel
theorem dX10_isAsTold_52 : decode cX10_isAsTold 52 = .ok (.iaload, 1) := by decide +kernel
theorem dX10_isAsTold_53 : decode cX10_isAsTold 53 = .ok (.iload 4, 2) := by decide +kernel
theorem dX10_isAsTold_55 : decode cX10_isAsTold 55 = .ok (.invokestatic 281, 3) := by decide +kernel
theorem dX10_isAsTold_58 : decode cX10_isAsTold 58 = .ok (.ifCond .eq 7, 3) := by decide +kernel
theorem dX10_isAsTold_61 : decode cX10_isAsTold 61 = .ok (.iconst 1, 1) := by decide +kernel
theorem dX10_isAsTold_62 : decode cX10_isAsTold 62 = .ok (.goto 4, 3) := by decide +kernel
theorem dX10_isAsTold_65 : decode cX10_isAsTold 65 = .ok (.iconst 0, 1) := by decide +kernel
theorem dX10_isAsTold_66 : decode cX10_isAsTold 66 = .ok (.istore 7, 2) := by decide +kernel
theorem dX10_isAsTold_68 : decode cX10_isAsTold 68 = .ok (.iload 7, 2) := by decide +kernel
theorem dX10_isAsTold_70 : decode cX10_isAsTold 70 = .ok (.ifCond .eq 25, 3) := by decide +kernel
theorem dX10_isAsTold_73 : decode cX10_isAsTold 73 = .ok (.aload_n 0, 1) := by decide +kernel
theorem dX10_isAsTold_74 : decode cX10_isAsTold 74 = .ok (.getfield 32, 3) := by decide +kernel
theorem dX10_isAsTold_77 : decode cX10_isAsTold 77 = .ok (.iload_n 1, 1) := by decide +kernel
theorem dX10_isAsTold_78 : decode cX10_isAsTold 78 = .ok (.iaload, 1) := by decide +kernel
theorem dX10_isAsTold_79 : decode cX10_isAsTold 79 = .ok (.iload_n 2, 1) := by decide +kernel
theorem dX10_isAsTold_80 : decode cX10_isAsTold 80 = .ok (.invokestatic 281, 3) := by decide +kernel
theorem dX10_isAsTold_83 : decode cX10_isAsTold 83 = .ok (.ifCond .eq 12, 3) := by decide +kernel
theorem dX10_isAsTold_86 : decode cX10_isAsTold 86 = .ok (.aload_n 0, 1) := by decide +kernel
theorem dX10_isAsTold_87 : decode cX10_isAsTold 87 = .ok (.getfield 41, 3) := by decide +kernel
theorem dX10_isAsTold_90 : decode cX10_isAsTold 90 = .ok (.iload_n 3, 1) := by decide +kernel
theorem dX10_isAsTold_91 : decode cX10_isAsTold 91 = .ok (.iaload, 1) := by decide +kernel
theorem dX10_isAsTold_92 : decode cX10_isAsTold 92 = .ok (.ifCond .lt 5, 3) := by decide +kernel
theorem dX10_isAsTold_95 : decode cX10_isAsTold 95 = .ok (.iconst 0, 1) := by decide +kernel
theorem dX10_isAsTold_96 : decode cX10_isAsTold 96 = .ok (.ireturn, 1) := by decide +kernel
theorem dX10_isAsTold_97 : decode cX10_isAsTold 97 = .ok (.aload_n 0, 1) := by decide +kernel
theorem dX10_isAsTold_98 : decode cX10_isAsTold 98 = .ok (.iload 6, 2) := by decide +kernel
theorem dX10_isAsTold_100 : decode cX10_isAsTold 100 = .ok (.invokevirtual 245, 3) := by decide +kernel
theorem dX10_isAsTold_103 : decode cX10_isAsTold 103 = .ok (.ifCond .ne 17, 3) := by decide +kernel
theorem dX10_isAsTold_106 : decode cX10_isAsTold 106 = .ok (.iload 6, 2) := by decide +kernel
theorem dX10_isAsTold_108 : decode cX10_isAsTold 108 = .ok (.iload_n 3, 1) := by decide +kernel
theorem dX10_isAsTold_109 : decode cX10_isAsTold 109 = .ok (.if_icmp .ne 7, 3) := by decide +kernel
theorem dX10_isAsTold_112 : decode cX10_isAsTold 112 = .ok (.iconst 1, 1) := by decide +kernel
theorem dX10_isAsTold_113 : decode cX10_isAsTold 113 = .ok (.goto 25, 3) := by decide +kernel
theorem dX10_isAsTold_116 : decode cX10_isAsTold 116 = .ok (.iconst 0, 1) := by decide +kernel
theorem dX10_isAsTold_117 : decode cX10_isAsTold 117 = .ok (.goto 21, 3) := by decide +kernel
theorem dX10_isAsTold_120 : decode cX10_isAsTold 120 = .ok (.aload_n 0, 1) := by decide +kernel
theorem dX10_isAsTold_121 : decode cX10_isAsTold 121 = .ok (.iload_n 2, 1) := by decide +kernel
theorem dX10_isAsTold_122 : decode cX10_isAsTold 122 = .ok (.invokevirtual 245, 3) := by decide +kernel
theorem dX10_isAsTold_125 : decode cX10_isAsTold 125 = .ok (.ifCond .ne 8, 3) := by decide +kernel
theorem dX10_isAsTold_128 : decode cX10_isAsTold 128 = .ok (.iload_n 2, 1) := by decide +kernel
theorem dX10_isAsTold_129 : decode cX10_isAsTold 129 = .ok (.iload_n 3, 1) := by decide +kernel
theorem dX10_isAsTold_130 : decode cX10_isAsTold 130 = .ok (.if_icmp .ne 7, 3) := by decide +kernel
theorem dX10_isAsTold_133 : decode cX10_isAsTold 133 = .ok (.iconst 1, 1) := by decide +kernel
theorem dX10_isAsTold_134 : decode cX10_isAsTold 134 = .ok (.goto 4, 3) := by decide +kernel
theorem dX10_isAsTold_137 : decode cX10_isAsTold 137 = .ok (.iconst 0, 1) := by decide +kernel
theorem dX10_isAsTold_138 : decode cX10_isAsTold 138 = .ok (.ireturn, 1) := by decide +kernel
theorem dX10_press_0 : decode cX10_press 0 = .ok (.aload_n 0, 1) := by decide +kernel
theorem dX10_press_1 : decode cX10_press 1 = .ok (.iload_n 1, 1) := by decide +kernel
theorem dX10_press_2 : decode cX10_press 2 = .ok (.invokevirtual 261, 3) := by decide +kernel
theorem dX10_press_5 : decode cX10_press 5 = .ok (.ifCond .eq 24, 3) := by decide +kernel
theorem dX10_press_8 : decode cX10_press 8 = .ok (.aload_n 0, 1) := by decide +kernel
theorem dX10_press_9 : decode cX10_press 9 = .ok (.iload_n 2, 1) := by decide +kernel
theorem dX10_press_10 : decode cX10_press 10 = .ok (.invokevirtual 261, 3) := by decide +kernel
theorem dX10_press_13 : decode cX10_press 13 = .ok (.ifCond .eq 16, 3) := by decide +kernel
theorem dX10_press_16 : decode cX10_press 16 = .ok (.iload_n 1, 1) := by decide +kernel
theorem dX10_press_17 : decode cX10_press 17 = .ok (.iload_n 2, 1) := by decide +kernel
theorem dX10_press_18 : decode cX10_press 18 = .ok (.if_icmp .eq 11, 3) := by decide +kernel
theorem dX10_press_21 : decode cX10_press 21 = .ok (.aload_n 0, 1) := by decide +kernel
theorem dX10_press_22 : decode cX10_press 22 = .ok (.iload_n 3, 1) := by decide +kernel
theorem dX10_press_23 : decode cX10_press 23 = .ok (.invokevirtual 271, 3) := by decide +kernel
theorem dX10_press_26 : decode cX10_press 26 = .ok (.ifCond .ne 7, 3) := by decide +kernel
theorem dX10_press_29 : decode cX10_press 29 = .ok (.ldc_w 264, 3) := by decide +kernel
theorem dX10_press_32 : decode cX10_press 32 = .ok (.ireturn, 1) := by decide +kernel
theorem dX10_press_33 : decode cX10_press 33 = .ok (.iload 5, 2) := by decide +kernel
theorem dX10_press_35 : decode cX10_press 35 = .ok (.iconst (-1), 1) := by decide +kernel
theorem dX10_press_36 : decode cX10_press 36 = .ok (.if_icmp .eq 38, 3) := by decide +kernel
theorem dX10_press_39 : decode cX10_press 39 = .ok (.aload_n 0, 1) := by decide +kernel
theorem dX10_press_40 : decode cX10_press 40 = .ok (.iload 5, 2) := by decide +kernel
theorem dX10_press_42 : decode cX10_press 42 = .ok (.invokevirtual 261, 3) := by decide +kernel
theorem dX10_press_45 : decode cX10_press 45 = .ok (.ifCond .eq 25, 3) := by decide +kernel
theorem dX10_press_48 : decode cX10_press 48 = .ok (.aload_n 0, 1) := by decide +kernel
theorem dX10_press_49 : decode cX10_press 49 = .ok (.iload 5, 2) := by decide +kernel
theorem dX10_press_51 : decode cX10_press 51 = .ok (.invokevirtual 245, 3) := by decide +kernel
theorem dX10_press_54 : decode cX10_press 54 = .ok (.iconst 2, 1) := by decide +kernel
theorem dX10_press_55 : decode cX10_press 55 = .ok (.if_icmp .eq 15, 3) := by decide +kernel
theorem dX10_press_58 : decode cX10_press 58 = .ok (.iload 5, 2) := by decide +kernel
theorem dX10_press_60 : decode cX10_press 60 = .ok (.iload_n 1, 1) := by decide +kernel
theorem dX10_press_61 : decode cX10_press 61 = .ok (.if_icmp .eq 9, 3) := by decide +kernel
theorem dX10_press_64 : decode cX10_press 64 = .ok (.iload 5, 2) := by decide +kernel
theorem dX10_press_66 : decode cX10_press 66 = .ok (.iload_n 2, 1) := by decide +kernel
theorem dX10_press_67 : decode cX10_press 67 = .ok (.if_icmp .ne 7, 3) := by decide +kernel
theorem dX10_press_70 : decode cX10_press 70 = .ok (.ldc_w 264, 3) := by decide +kernel
theorem dX10_press_73 : decode cX10_press 73 = .ok (.ireturn, 1) := by decide +kernel
theorem dX10_press_74 : decode cX10_press 74 = .ok (.iload 4, 2) := by decide +kernel
theorem dX10_press_76 : decode cX10_press 76 = .ok (.i2l, 1) := by decide +kernel
theorem dX10_press_77 : decode cX10_press 77 = .ok (.lconst 0, 1) := by decide +kernel
theorem dX10_press_78 : decode cX10_press 78 = .ok (.ldc2_w 297, 3) := by decide +kernel
theorem dX10_press_81 : decode cX10_press 81 = .ok (.invokestatic 134, 3) := by decide +kernel
theorem dX10_press_84 : decode cX10_press 84 = .ok (.ifCond .ne 6, 3) := by decide +kernel
theorem dX10_press_87 : decode cX10_press 87 = .ok (.ldc 143, 2) := by decide +kernel
theorem dX10_press_89 : decode cX10_press 89 = .ok (.ireturn, 1) := by decide +kernel
theorem dX10_press_90 : decode cX10_press 90 = .ok (.aload_n 0, 1) := by decide +kernel
theorem dX10_press_91 : decode cX10_press 91 = .ok (.invokevirtual 287, 3) := by decide +kernel
theorem dX10_press_94 : decode cX10_press 94 = .ok (.istore 6, 2) := by decide +kernel
theorem dX10_press_96 : decode cX10_press 96 = .ok (.aload_n 0, 1) := by decide +kernel
theorem dX10_press_97 : decode cX10_press 97 = .ok (.iconst 0, 1) := by decide +kernel
theorem dX10_press_98 : decode cX10_press 98 = .ok (.putfield 144, 3) := by decide +kernel
theorem dX10_press_101 : decode cX10_press 101 = .ok (.iload 6, 2) := by decide +kernel
theorem dX10_press_103 : decode cX10_press 103 = .ok (.ifCond .ge 7, 3) := by decide +kernel
theorem dX10_press_106 : decode cX10_press 106 = .ok (.iconst (-1), 1) := by decide +kernel
theorem dX10_press_107 : decode cX10_press 107 = .ok (.goto 18, 3) := by decide +kernel
theorem dX10_press_110 : decode cX10_press 110 = .ok (.iload 4, 2) := by decide +kernel
theorem dX10_press_112 : decode cX10_press 112 = .ok (.iconst 2, 1) := by decide +kernel
theorem dX10_press_113 : decode cX10_press 113 = .ok (.if_icmp .ne 10, 3) := by decide +kernel
theorem dX10_press_116 : decode cX10_press 116 = .ok (.iconst 2, 1) := by decide +kernel
theorem dX10_press_117 : decode cX10_press 117 = .ok (.iload 6, 2) := by decide +kernel
theorem dX10_press_119 : decode cX10_press 119 = .ok (.imul, 1) := by decide +kernel
theorem dX10_press_120 : decode cX10_press 120 = .ok (.goto 5, 3) := by decide +kernel
theorem dX10_press_123 : decode cX10_press 123 = .ok (.iload 6, 2) := by decide +kernel
theorem dX10_press_125 : decode cX10_press 125 = .ok (.istore 6, 2) := by decide +kernel
theorem dX10_press_127 : decode cX10_press 127 = .ok (.iload 6, 2) := by decide +kernel
theorem dX10_press_129 : decode cX10_press 129 = .ok (.ifCond .lt 23, 3) := by decide +kernel
theorem dX10_press_132 : decode cX10_press 132 = .ok (.iload 6, 2) := by decide +kernel
theorem dX10_press_134 : decode cX10_press 134 = .ok (.sipush 999, 3) := by decide +kernel
theorem dX10_press_137 : decode cX10_press 137 = .ok (.if_icmp .gt 15, 3) := by decide +kernel
theorem dX10_press_140 : decode cX10_press 140 = .ok (.aload_n 0, 1) := by decide +kernel
theorem dX10_press_141 : decode cX10_press 141 = .ok (.iload_n 1, 1) := by decide +kernel
theorem dX10_press_142 : decode cX10_press 142 = .ok (.iload_n 2, 1) := by decide +kernel
theorem dX10_press_143 : decode cX10_press 143 = .ok (.iload_n 3, 1) := by decide +kernel
theorem dX10_press_144 : decode cX10_press 144 = .ok (.iload 5, 2) := by decide +kernel
theorem dX10_press_146 : decode cX10_press 146 = .ok (.invokevirtual 299, 3) := by decide +kernel
theorem dX10_press_149 : decode cX10_press 149 = .ok (.ifCond .ne 7, 3) := by decide +kernel
theorem dX10_press_152 : decode cX10_press 152 = .ok (.ldc_w 284, 3) := by decide +kernel
theorem dX10_press_155 : decode cX10_press 155 = .ok (.ireturn, 1) := by decide +kernel
theorem dX10_press_156 : decode cX10_press 156 = .ok (.iload 5, 2) := by decide +kernel
theorem dX10_press_158 : decode cX10_press 158 = .ok (.iconst (-1), 1) := by decide +kernel
theorem dX10_press_159 : decode cX10_press 159 = .ok (.if_icmp .ne 7, 3) := by decide +kernel
theorem dX10_press_162 : decode cX10_press 162 = .ok (.iload_n 1, 1) := by decide +kernel
theorem dX10_press_163 : decode cX10_press 163 = .ok (.goto 5, 3) := by decide +kernel
theorem dX10_press_166 : decode cX10_press 166 = .ok (.iload 5, 2) := by decide +kernel
theorem dX10_press_168 : decode cX10_press 168 = .ok (.istore 7, 2) := by decide +kernel
theorem dX10_press_170 : decode cX10_press 170 = .ok (.iload 4, 2) := by decide +kernel
theorem dX10_press_172 : decode cX10_press 172 = .ok (.iconst 1, 1) := by decide +kernel
theorem dX10_press_173 : decode cX10_press 173 = .ok (.if_icmp .eq 28, 3) := by decide +kernel
theorem dX10_press_176 : decode cX10_press 176 = .ok (.aload_n 0, 1) := by decide +kernel
theorem dX10_press_177 : decode cX10_press 177 = .ok (.iload 7, 2) := by decide +kernel
theorem dX10_press_179 : decode cX10_press 179 = .ok (.iload_n 3, 1) := by decide +kernel
theorem dX10_press_180 : decode cX10_press 180 = .ok (.iload 6, 2) := by decide +kernel
theorem dX10_press_182 : decode cX10_press 182 = .ok (.invokevirtual 303, 3) := by decide +kernel
theorem dX10_press_185 : decode cX10_press 185 = .ok (.ifCond .ne 7, 3) := by decide +kernel
theorem dX10_press_188 : decode cX10_press 188 = .ok (.ldc_w 284, 3) := by decide +kernel
theorem dX10_press_191 : decode cX10_press 191 = .ok (.ireturn, 1) := by decide +kernel
theorem dX10_press_192 : decode cX10_press 192 = .ok (.aload_n 0, 1) := by decide +kernel
theorem dX10_press_193 : decode cX10_press 193 = .ok (.iload 7, 2) := by decide +kernel
theorem dX10_press_195 : decode cX10_press 195 = .ok (.iload_n 3, 1) := by decide +kernel
theorem dX10_press_196 : decode cX10_press 196 = .ok (.iload 6, 2) := by decide +kernel
theorem dX10_press_198 : decode cX10_press 198 = .ok (.invokevirtual 307, 3) := by decide +kernel
theorem dX10_press_201 : decode cX10_press 201 = .ok (.iload 6, 2) := by decide +kernel
theorem dX10_press_203 : decode cX10_press 203 = .ok (.ireturn, 1) := by decide +kernel
theorem dX10_plain_0 : decode cX10_plain 0 = .ok (.iload_n 0, 1) := by decide +kernel
theorem dX10_plain_1 : decode cX10_plain 1 = .ok (.bipush 100, 2) := by decide +kernel
theorem dX10_plain_3 : decode cX10_plain 3 = .ok (.idiv, 1) := by decide +kernel
theorem dX10_plain_4 : decode cX10_plain 4 = .ok (.iload_n 0, 1) := by decide +kernel
theorem dX10_plain_5 : decode cX10_plain 5 = .ok (.bipush 10, 2) := by decide +kernel
theorem dX10_plain_7 : decode cX10_plain 7 = .ok (.idiv, 1) := by decide +kernel
theorem dX10_plain_8 : decode cX10_plain 8 = .ok (.bipush 10, 2) := by decide +kernel
theorem dX10_plain_10 : decode cX10_plain 10 = .ok (.irem, 1) := by decide +kernel
theorem dX10_plain_11 : decode cX10_plain 11 = .ok (.iadd, 1) := by decide +kernel
theorem dX10_plain_12 : decode cX10_plain 12 = .ok (.iload_n 0, 1) := by decide +kernel
theorem dX10_plain_13 : decode cX10_plain 13 = .ok (.bipush 10, 2) := by decide +kernel
theorem dX10_plain_15 : decode cX10_plain 15 = .ok (.irem, 1) := by decide +kernel
theorem dX10_plain_16 : decode cX10_plain 16 = .ok (.iadd, 1) := by decide +kernel
theorem dX10_plain_17 : decode cX10_plain 17 = .ok (.ireturn, 1) := by decide +kernel
theorem dX10_twitches_0 : decode cX10_twitches 0 = .ok (.iload_n 1, 1) := by decide +kernel
theorem dX10_twitches_1 : decode cX10_twitches 1 = .ok (.i2l, 1) := by decide +kernel
theorem dX10_twitches_2 : decode cX10_twitches 2 = .ok (.lconst 1, 1) := by decide +kernel
theorem dX10_twitches_3 : decode cX10_twitches 3 = .ok (.ldc2_w 285, 3) := by decide +kernel
theorem dX10_twitches_6 : decode cX10_twitches 6 = .ok (.invokestatic 134, 3) := by decide +kernel
theorem dX10_twitches_9 : decode cX10_twitches 9 = .ok (.ifCond .eq 10, 3) := by decide +kernel
theorem dX10_twitches_12 : decode cX10_twitches 12 = .ok (.iload_n 1, 1) := by decide +kernel
theorem dX10_twitches_13 : decode cX10_twitches 13 = .ok (.invokestatic 311, 3) := by decide +kernel
theorem dX10_twitches_16 : decode cX10_twitches 16 = .ok (.goto 5, 3) := by decide +kernel
theorem dX10_twitches_19 : decode cX10_twitches 19 = .ok (.ldc 143, 2) := by decide +kernel
theorem dX10_twitches_21 : decode cX10_twitches 21 = .ok (.ireturn, 1) := by decide +kernel
theorem dX10_beat_0 : decode cX10_beat 0 = .ok (.iload_n 1, 1) := by decide +kernel
theorem dX10_beat_1 : decode cX10_beat 1 = .ok (.i2l, 1) := by decide +kernel
theorem dX10_beat_2 : decode cX10_beat 2 = .ok (.lconst 1, 1) := by decide +kernel
theorem dX10_beat_3 : decode cX10_beat 3 = .ok (.ldc2_w 314, 3) := by decide +kernel
theorem dX10_beat_6 : decode cX10_beat 6 = .ok (.invokestatic 134, 3) := by decide +kernel
theorem dX10_beat_9 : decode cX10_beat 9 = .ok (.ifCond .ne 6, 3) := by decide +kernel
theorem dX10_beat_12 : decode cX10_beat 12 = .ok (.ldc 143, 2) := by decide +kernel
theorem dX10_beat_14 : decode cX10_beat 14 = .ok (.ireturn, 1) := by decide +kernel
theorem dX10_beat_15 : decode cX10_beat 15 = .ok (.aload_n 0, 1) := by decide +kernel
theorem dX10_beat_16 : decode cX10_beat 16 = .ok (.dup, 1) := by decide +kernel
theorem dX10_beat_17 : decode cX10_beat 17 = .ok (.getfield 138, 3) := by decide +kernel
theorem dX10_beat_20 : decode cX10_beat 20 = .ok (.iload_n 1, 1) := by decide +kernel
theorem dX10_beat_21 : decode cX10_beat 21 = .ok (.iadd, 1) := by decide +kernel
theorem dX10_beat_22 : decode cX10_beat 22 = .ok (.putfield 138, 3) := by decide +kernel
theorem dX10_beat_25 : decode cX10_beat 25 = .ok (.aload_n 0, 1) := by decide +kernel
theorem dX10_beat_26 : decode cX10_beat 26 = .ok (.getfield 138, 3) := by decide +kernel
theorem dX10_beat_29 : decode cX10_beat 29 = .ok (.ireturn, 1) := by decide +kernel
theorem dX10_draw_0 : decode cX10_draw 0 = .ok (.aload_n 0, 1) := by decide +kernel
theorem dX10_draw_1 : decode cX10_draw 1 = .ok (.aload_n 0, 1) := by decide +kernel
theorem dX10_draw_2 : decode cX10_draw 2 = .ok (.getfield 316, 3) := by decide +kernel
theorem dX10_draw_5 : decode cX10_draw 5 = .ok (.i2l, 1) := by decide +kernel
theorem dX10_draw_6 : decode cX10_draw 6 = .ok (.ldc2_w 319, 3) := by decide +kernel
theorem dX10_draw_9 : decode cX10_draw 9 = .ok (.lmul, 1) := by decide +kernel
theorem dX10_draw_10 : decode cX10_draw 10 = .ok (.ldc2_w 321, 3) := by decide +kernel
theorem dX10_draw_13 : decode cX10_draw 13 = .ok (.ladd, 1) := by decide +kernel
theorem dX10_draw_14 : decode cX10_draw 14 = .ok (.ldc2_w 323, 3) := by decide +kernel
theorem dX10_draw_17 : decode cX10_draw 17 = .ok (.lrem, 1) := by decide +kernel
theorem dX10_draw_18 : decode cX10_draw 18 = .ok (.l2i, 1) := by decide +kernel
theorem dX10_draw_19 : decode cX10_draw 19 = .ok (.putfield 316, 3) := by decide +kernel
theorem dX10_draw_22 : decode cX10_draw 22 = .ok (.aload_n 0, 1) := by decide +kernel
theorem dX10_draw_23 : decode cX10_draw 23 = .ok (.getfield 316, 3) := by decide +kernel
theorem dX10_draw_26 : decode cX10_draw 26 = .ok (.ldc_w 325, 3) := by decide +kernel
theorem dX10_draw_29 : decode cX10_draw 29 = .ok (.idiv, 1) := by decide +kernel
theorem dX10_draw_30 : decode cX10_draw 30 = .ok (.iload_n 1, 1) := by decide +kernel
theorem dX10_draw_31 : decode cX10_draw 31 = .ok (.irem, 1) := by decide +kernel
theorem dX10_draw_32 : decode cX10_draw 32 = .ok (.ireturn, 1) := by decide +kernel
theorem dX10_tryBind_0 : decode cX10_tryBind 0 = .ok (.iload_n 3, 1) := by decide +kernel
theorem dX10_tryBind_1 : decode cX10_tryBind 1 = .ok (.i2l, 1) := by decide +kernel
theorem dX10_tryBind_2 : decode cX10_tryBind 2 = .ok (.lconst 1, 1) := by decide +kernel
theorem dX10_tryBind_3 : decode cX10_tryBind 3 = .ok (.ldc2_w 285, 3) := by decide +kernel
theorem dX10_tryBind_6 : decode cX10_tryBind 6 = .ok (.invokestatic 134, 3) := by decide +kernel
theorem dX10_tryBind_9 : decode cX10_tryBind 9 = .ok (.ifCond .eq 29, 3) := by decide +kernel
theorem dX10_tryBind_12 : decode cX10_tryBind 12 = .ok (.aload_n 0, 1) := by decide +kernel
theorem dX10_tryBind_13 : decode cX10_tryBind 13 = .ok (.getfield 41, 3) := by decide +kernel
theorem dX10_tryBind_16 : decode cX10_tryBind 16 = .ok (.iload_n 2, 1) := by decide +kernel
theorem dX10_tryBind_17 : decode cX10_tryBind 17 = .ok (.iaload, 1) := by decide +kernel
theorem dX10_tryBind_18 : decode cX10_tryBind 18 = .ok (.ifCond .ge 20, 3) := by decide +kernel
theorem dX10_tryBind_21 : decode cX10_tryBind 21 = .ok (.aload_n 0, 1) := by decide +kernel
theorem dX10_tryBind_22 : decode cX10_tryBind 22 = .ok (.iload_n 1, 1) := by decide +kernel
theorem dX10_tryBind_23 : decode cX10_tryBind 23 = .ok (.iload_n 2, 1) := by decide +kernel
theorem dX10_tryBind_24 : decode cX10_tryBind 24 = .ok (.iload_n 3, 1) := by decide +kernel
theorem dX10_tryBind_25 : decode cX10_tryBind 25 = .ok (.invokevirtual 303, 3) := by decide +kernel
theorem dX10_tryBind_28 : decode cX10_tryBind 28 = .ok (.ifCond .eq 10, 3) := by decide +kernel
theorem dX10_tryBind_31 : decode cX10_tryBind 31 = .ok (.aload_n 0, 1) := by decide +kernel
theorem dX10_tryBind_32 : decode cX10_tryBind 32 = .ok (.iload_n 1, 1) := by decide +kernel
theorem dX10_tryBind_33 : decode cX10_tryBind 33 = .ok (.iload_n 2, 1) := by decide +kernel
theorem dX10_tryBind_34 : decode cX10_tryBind 34 = .ok (.iload_n 3, 1) := by decide +kernel
theorem dX10_tryBind_35 : decode cX10_tryBind 35 = .ok (.invokevirtual 307, 3) := by decide +kernel
theorem dX10_tryBind_38 : decode cX10_tryBind 38 = .ok (.return_, 1) := by decide +kernel
theorem dX10_drift_0 : decode cX10_drift 0 = .ok (.iload_n 1, 1) := by decide +kernel
theorem dX10_drift_1 : decode cX10_drift 1 = .ok (.i2l, 1) := by decide +kernel
theorem dX10_drift_2 : decode cX10_drift 2 = .ok (.lconst 1, 1) := by decide +kernel
theorem dX10_drift_3 : decode cX10_drift 3 = .ok (.ldc2_w 326, 3) := by decide +kernel
theorem dX10_drift_6 : decode cX10_drift 6 = .ok (.invokestatic 134, 3) := by decide +kernel
theorem dX10_drift_9 : decode cX10_drift 9 = .ok (.ifCond .ne 6, 3) := by decide +kernel
theorem dX10_drift_12 : decode cX10_drift 12 = .ok (.ldc 143, 2) := by decide +kernel
theorem dX10_drift_14 : decode cX10_drift 14 = .ok (.ireturn, 1) := by decide +kernel
theorem dX10_drift_15 : decode cX10_drift 15 = .ok (.iconst 0, 1) := by decide +kernel
theorem dX10_drift_16 : decode cX10_drift 16 = .ok (.istore_n 2, 1) := by decide +kernel
theorem dX10_drift_17 : decode cX10_drift 17 = .ok (.iload_n 2, 1) := by decide +kernel
theorem dX10_drift_18 : decode cX10_drift 18 = .ok (.iload_n 1, 1) := by decide +kernel
theorem dX10_drift_19 : decode cX10_drift 19 = .ok (.if_icmp .ge 111, 3) := by decide +kernel
theorem dX10_drift_22 : decode cX10_drift 22 = .ok (.iconst 0, 1) := by decide +kernel
theorem dX10_drift_23 : decode cX10_drift 23 = .ok (.istore_n 3, 1) := by decide +kernel
theorem dX10_drift_24 : decode cX10_drift 24 = .ok (.iload_n 3, 1) := by decide +kernel
theorem dX10_drift_25 : decode cX10_drift 25 = .ok (.aload_n 0, 1) := by decide +kernel
theorem dX10_drift_26 : decode cX10_drift 26 = .ok (.getfield 121, 3) := by decide +kernel
theorem dX10_drift_29 : decode cX10_drift 29 = .ok (.if_icmp .ge 28, 3) := by decide +kernel
theorem dX10_drift_32 : decode cX10_drift 32 = .ok (.aload_n 0, 1) := by decide +kernel
theorem dX10_drift_33 : decode cX10_drift 33 = .ok (.iload_n 3, 1) := by decide +kernel
theorem dX10_drift_34 : decode cX10_drift 34 = .ok (.iload_n 3, 1) := by decide +kernel
theorem dX10_drift_35 : decode cX10_drift 35 = .ok (.aload_n 0, 1) := by decide +kernel
theorem dX10_drift_36 : decode cX10_drift 36 = .ok (.getfield 7, 3) := by decide +kernel
theorem dX10_drift_39 : decode cX10_drift 39 = .ok (.iload_n 3, 1) := by decide +kernel
theorem dX10_drift_40 : decode cX10_drift 40 = .ok (.iaload, 1) := by decide +kernel
theorem dX10_drift_41 : decode cX10_drift 41 = .ok (.aload_n 0, 1) := by decide +kernel
theorem dX10_drift_42 : decode cX10_drift 42 = .ok (.bipush 50, 2) := by decide +kernel
theorem dX10_drift_44 : decode cX10_drift 44 = .ok (.invokevirtual 328, 3) := by decide +kernel
theorem dX10_drift_47 : decode cX10_drift 47 = .ok (.iadd, 1) := by decide +kernel
theorem dX10_drift_48 : decode cX10_drift 48 = .ok (.invokevirtual 331, 3) := by decide +kernel
theorem dX10_drift_51 : decode cX10_drift 51 = .ok (.iinc 3 1, 3) := by decide +kernel
theorem dX10_drift_54 : decode cX10_drift 54 = .ok (.goto (-30), 3) := by decide +kernel
theorem dX10_drift_57 : decode cX10_drift 57 = .ok (.iconst 0, 1) := by decide +kernel
theorem dX10_drift_58 : decode cX10_drift 58 = .ok (.istore_n 3, 1) := by decide +kernel
theorem dX10_drift_59 : decode cX10_drift 59 = .ok (.iload_n 3, 1) := by decide +kernel
theorem dX10_drift_60 : decode cX10_drift 60 = .ok (.aload_n 0, 1) := by decide +kernel
theorem dX10_drift_61 : decode cX10_drift 61 = .ok (.getfield 124, 3) := by decide +kernel
theorem dX10_drift_64 : decode cX10_drift 64 = .ok (.if_icmp .ge 50, 3) := by decide +kernel
theorem dX10_drift_67 : decode cX10_drift 67 = .ok (.aload_n 0, 1) := by decide +kernel
theorem dX10_drift_68 : decode cX10_drift 68 = .ok (.aload_n 0, 1) := by decide +kernel
theorem dX10_drift_69 : decode cX10_drift 69 = .ok (.getfield 121, 3) := by decide +kernel
theorem dX10_drift_72 : decode cX10_drift 72 = .ok (.invokevirtual 328, 3) := by decide +kernel
theorem dX10_drift_75 : decode cX10_drift 75 = .ok (.istore 4, 2) := by decide +kernel
theorem dX10_drift_77 : decode cX10_drift 77 = .ok (.aload_n 0, 1) := by decide +kernel
theorem dX10_drift_78 : decode cX10_drift 78 = .ok (.aload_n 0, 1) := by decide +kernel
theorem dX10_drift_79 : decode cX10_drift 79 = .ok (.getfield 121, 3) := by decide +kernel
theorem dX10_drift_82 : decode cX10_drift 82 = .ok (.iload_n 3, 1) := by decide +kernel
theorem dX10_drift_83 : decode cX10_drift 83 = .ok (.iadd, 1) := by decide +kernel
theorem dX10_drift_84 : decode cX10_drift 84 = .ok (.iload 4, 2) := by decide +kernel
theorem dX10_drift_86 : decode cX10_drift 86 = .ok (.aload_n 0, 1) := by decide +kernel
theorem dX10_drift_87 : decode cX10_drift 87 = .ok (.getfield 16, 3) := by decide +kernel
theorem dX10_drift_90 : decode cX10_drift 90 = .ok (.bipush 6, 2) := by decide +kernel
theorem dX10_drift_92 : decode cX10_drift 92 = .ok (.iload_n 3, 1) := by decide +kernel
theorem dX10_drift_93 : decode cX10_drift 93 = .ok (.imul, 1) := by decide +kernel
theorem dX10_drift_94 : decode cX10_drift 94 = .ok (.iload 4, 2) := by decide +kernel
theorem dX10_drift_96 : decode cX10_drift 96 = .ok (.iadd, 1) := by decide +kernel
theorem dX10_drift_97 : decode cX10_drift 97 = .ok (.iaload, 1) := by decide +kernel
theorem dX10_drift_98 : decode cX10_drift 98 = .ok (.aload_n 0, 1) := by decide +kernel
theorem dX10_drift_99 : decode cX10_drift 99 = .ok (.bipush 50, 2) := by decide +kernel
theorem dX10_drift_101 : decode cX10_drift 101 = .ok (.invokevirtual 328, 3) := by decide +kernel
theorem dX10_drift_104 : decode cX10_drift 104 = .ok (.isub, 1) := by decide +kernel
theorem dX10_drift_105 : decode cX10_drift 105 = .ok (.invokevirtual 331, 3) := by decide +kernel
theorem dX10_drift_108 : decode cX10_drift 108 = .ok (.iinc 3 1, 3) := by decide +kernel
theorem dX10_drift_111 : decode cX10_drift 111 = .ok (.goto (-52), 3) := by decide +kernel
theorem dX10_drift_114 : decode cX10_drift 114 = .ok (.aload_n 0, 1) := by decide +kernel
theorem dX10_drift_115 : decode cX10_drift 115 = .ok (.dup, 1) := by decide +kernel
theorem dX10_drift_116 : decode cX10_drift 116 = .ok (.getfield 138, 3) := by decide +kernel
theorem dX10_drift_119 : decode cX10_drift 119 = .ok (.iconst 1, 1) := by decide +kernel
theorem dX10_drift_120 : decode cX10_drift 120 = .ok (.iadd, 1) := by decide +kernel
theorem dX10_drift_121 : decode cX10_drift 121 = .ok (.putfield 138, 3) := by decide +kernel
theorem dX10_drift_124 : decode cX10_drift 124 = .ok (.iinc 2 1, 3) := by decide +kernel
theorem dX10_drift_127 : decode cX10_drift 127 = .ok (.goto (-110), 3) := by decide +kernel
theorem dX10_drift_130 : decode cX10_drift 130 = .ok (.aload_n 0, 1) := by decide +kernel
theorem dX10_drift_131 : decode cX10_drift 131 = .ok (.invokevirtual 255, 3) := by decide +kernel
theorem dX10_drift_134 : decode cX10_drift 134 = .ok (.invokestatic 258, 3) := by decide +kernel
theorem dX10_drift_137 : decode cX10_drift 137 = .ok (.ireturn, 1) := by decide +kernel
theorem dX10_bargain_0 : decode cX10_bargain 0 = .ok (.aload_n 0, 1) := by decide +kernel
theorem dX10_bargain_1 : decode cX10_bargain 1 = .ok (.iload_n 1, 1) := by decide +kernel
theorem dX10_bargain_2 : decode cX10_bargain 2 = .ok (.invokevirtual 271, 3) := by decide +kernel
theorem dX10_bargain_5 : decode cX10_bargain 5 = .ok (.ifCond .eq 11, 3) := by decide +kernel
theorem dX10_bargain_8 : decode cX10_bargain 8 = .ok (.aload_n 0, 1) := by decide +kernel
theorem dX10_bargain_9 : decode cX10_bargain 9 = .ok (.iload_n 2, 1) := by decide +kernel
theorem dX10_bargain_10 : decode cX10_bargain 10 = .ok (.invokevirtual 268, 3) := by decide +kernel
theorem dX10_bargain_13 : decode cX10_bargain 13 = .ok (.ifCond .ne 7, 3) := by decide +kernel
theorem dX10_bargain_16 : decode cX10_bargain 16 = .ok (.ldc_w 264, 3) := by decide +kernel
theorem dX10_bargain_19 : decode cX10_bargain 19 = .ok (.ireturn, 1) := by decide +kernel
theorem dX10_bargain_20 : decode cX10_bargain 20 = .ok (.iload_n 3, 1) := by decide +kernel
theorem dX10_bargain_21 : decode cX10_bargain 21 = .ok (.i2l, 1) := by decide +kernel
theorem dX10_bargain_22 : decode cX10_bargain 22 = .ok (.lconst 1, 1) := by decide +kernel
theorem dX10_bargain_23 : decode cX10_bargain 23 = .ok (.ldc2_w 334, 3) := by decide +kernel
theorem dX10_bargain_26 : decode cX10_bargain 26 = .ok (.invokestatic 134, 3) := by decide +kernel
theorem dX10_bargain_29 : decode cX10_bargain 29 = .ok (.ifCond .ne 6, 3) := by decide +kernel
