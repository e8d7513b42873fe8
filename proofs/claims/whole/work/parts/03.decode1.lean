theorem dX4_readBuyer_129 : decode cX4_readBuyer 129 = .ok (.getfield 12, 3) := by decide +kernel
theorem dX4_readBuyer_132 : decode cX4_readBuyer 132 = .ok (.getfield 98, 3) := by decide +kernel
theorem dX4_readBuyer_135 : decode cX4_readBuyer 135 = .ok (.bipush 6, 2) := by decide +kernel
theorem dX4_readBuyer_137 : decode cX4_readBuyer 137 = .ok (.imul, 1) := by decide +kernel
theorem dX4_readBuyer_138 : decode cX4_readBuyer 138 = .ok (.iload 4, 2) := by decide +kernel
theorem dX4_readBuyer_140 : decode cX4_readBuyer 140 = .ok (.iadd, 1) := by decide +kernel
theorem dX4_readBuyer_141 : decode cX4_readBuyer 141 = .ok (.aload_n 0, 1) := by decide +kernel
theorem dX4_readBuyer_142 : decode cX4_readBuyer 142 = .ok (.iconst 0, 1) := by decide +kernel
theorem dX4_readBuyer_143 : decode cX4_readBuyer 143 = .ok (.sipush 999, 3) := by decide +kernel
theorem dX4_readBuyer_146 : decode cX4_readBuyer 146 = .ok (.invokevirtual 82, 3) := by decide +kernel
theorem dX4_readBuyer_149 : decode cX4_readBuyer 149 = .ok (.iastore, 1) := by decide +kernel
theorem dX4_readBuyer_150 : decode cX4_readBuyer 150 = .ok (.iinc 4 1, 3) := by decide +kernel
theorem dX4_readBuyer_153 : decode cX4_readBuyer 153 = .ok (.goto (-62), 3) := by decide +kernel
theorem dX4_readBuyer_156 : decode cX4_readBuyer 156 = .ok (.aload_n 0, 1) := by decide +kernel
theorem dX4_readBuyer_157 : decode cX4_readBuyer 157 = .ok (.bipush 59, 2) := by decide +kernel
theorem dX4_readBuyer_159 : decode cX4_readBuyer 159 = .ok (.invokevirtual 88, 3) := by decide +kernel
theorem dX4_readBuyer_162 : decode cX4_readBuyer 162 = .ok (.aload_n 0, 1) := by decide +kernel
theorem dX4_readBuyer_163 : decode cX4_readBuyer 163 = .ok (.getfield 25, 3) := by decide +kernel
theorem dX4_readBuyer_166 : decode cX4_readBuyer 166 = .ok (.ifCond .ne 22, 3) := by decide +kernel
theorem dX4_readBuyer_169 : decode cX4_readBuyer 169 = .ok (.aload_n 0, 1) := by decide +kernel
theorem dX4_readBuyer_170 : decode cX4_readBuyer 170 = .ok (.iload_n 2, 1) := by decide +kernel
theorem dX4_readBuyer_171 : decode cX4_readBuyer 171 = .ok (.iload_n 3, 1) := by decide +kernel
theorem dX4_readBuyer_172 : decode cX4_readBuyer 172 = .ok (.invokevirtual 104, 3) := by decide +kernel
theorem dX4_readBuyer_175 : decode cX4_readBuyer 175 = .ok (.aload_n 0, 1) := by decide +kernel
theorem dX4_readBuyer_176 : decode cX4_readBuyer 176 = .ok (.getfield 12, 3) := by decide +kernel
theorem dX4_readBuyer_179 : decode cX4_readBuyer 179 = .ok (.dup, 1) := by decide +kernel
theorem dX4_readBuyer_180 : decode cX4_readBuyer 180 = .ok (.getfield 98, 3) := by decide +kernel
theorem dX4_readBuyer_183 : decode cX4_readBuyer 183 = .ok (.iconst 1, 1) := by decide +kernel
theorem dX4_readBuyer_184 : decode cX4_readBuyer 184 = .ok (.iadd, 1) := by decide +kernel
theorem dX4_readBuyer_185 : decode cX4_readBuyer 185 = .ok (.putfield 98, 3) := by decide +kernel
theorem dX4_readBuyer_188 : decode cX4_readBuyer 188 = .ok (.return_, 1) := by decide +kernel
theorem dX4_readBroker_0 : decode cX4_readBroker 0 = .ok (.aload_n 0, 1) := by decide +kernel
theorem dX4_readBroker_1 : decode cX4_readBroker 1 = .ok (.aload_n 0, 1) := by decide +kernel
theorem dX4_readBroker_2 : decode cX4_readBroker 2 = .ok (.getfield 12, 3) := by decide +kernel
theorem dX4_readBroker_5 : decode cX4_readBroker 5 = .ok (.getfield 101, 3) := by decide +kernel
theorem dX4_readBroker_8 : decode cX4_readBroker 8 = .ok (.iconst 2, 1) := by decide +kernel
theorem dX4_readBroker_9 : decode cX4_readBroker 9 = .ok (.if_icmp .lt 7, 3) := by decide +kernel
theorem dX4_readBroker_12 : decode cX4_readBroker 12 = .ok (.iconst 1, 1) := by decide +kernel
theorem dX4_readBroker_13 : decode cX4_readBroker 13 = .ok (.goto 4, 3) := by decide +kernel
theorem dX4_readBroker_16 : decode cX4_readBroker 16 = .ok (.iconst 0, 1) := by decide +kernel
theorem dX4_readBroker_17 : decode cX4_readBroker 17 = .ok (.iconst 3, 1) := by decide +kernel
theorem dX4_readBroker_18 : decode cX4_readBroker 18 = .ok (.iload_n 1, 1) := by decide +kernel
theorem dX4_readBroker_19 : decode cX4_readBroker 19 = .ok (.invokevirtual 78, 3) := by decide +kernel
theorem dX4_readBroker_22 : decode cX4_readBroker 22 = .ok (.aload_n 0, 1) := by decide +kernel
theorem dX4_readBroker_23 : decode cX4_readBroker 23 = .ok (.iconst 1, 1) := by decide +kernel
theorem dX4_readBroker_24 : decode cX4_readBroker 24 = .ok (.iconst 2, 1) := by decide +kernel
theorem dX4_readBroker_25 : decode cX4_readBroker 25 = .ok (.invokevirtual 82, 3) := by decide +kernel
theorem dX4_readBroker_28 : decode cX4_readBroker 28 = .ok (.istore_n 2, 1) := by decide +kernel
theorem dX4_readBroker_29 : decode cX4_readBroker 29 = .ok (.aload_n 0, 1) := by decide +kernel
theorem dX4_readBroker_30 : decode cX4_readBroker 30 = .ok (.iconst 0, 1) := by decide +kernel
theorem dX4_readBroker_31 : decode cX4_readBroker 31 = .ok (.bipush 50, 2) := by decide +kernel
theorem dX4_readBroker_33 : decode cX4_readBroker 33 = .ok (.invokevirtual 82, 3) := by decide +kernel
theorem dX4_readBroker_36 : decode cX4_readBroker 36 = .ok (.istore_n 3, 1) := by decide +kernel
theorem dX4_readBroker_37 : decode cX4_readBroker 37 = .ok (.aload_n 0, 1) := by decide +kernel
theorem dX4_readBroker_38 : decode cX4_readBroker 38 = .ok (.bipush 59, 2) := by decide +kernel
theorem dX4_readBroker_40 : decode cX4_readBroker 40 = .ok (.invokevirtual 88, 3) := by decide +kernel
theorem dX4_readBroker_43 : decode cX4_readBroker 43 = .ok (.aload_n 0, 1) := by decide +kernel
theorem dX4_readBroker_44 : decode cX4_readBroker 44 = .ok (.getfield 25, 3) := by decide +kernel
theorem dX4_readBroker_47 : decode cX4_readBroker 47 = .ok (.ifCond .ne 22, 3) := by decide +kernel
theorem dX4_readBroker_50 : decode cX4_readBroker 50 = .ok (.aload_n 0, 1) := by decide +kernel
theorem dX4_readBroker_51 : decode cX4_readBroker 51 = .ok (.iload_n 2, 1) := by decide +kernel
theorem dX4_readBroker_52 : decode cX4_readBroker 52 = .ok (.iload_n 3, 1) := by decide +kernel
theorem dX4_readBroker_53 : decode cX4_readBroker 53 = .ok (.invokevirtual 104, 3) := by decide +kernel
theorem dX4_readBroker_56 : decode cX4_readBroker 56 = .ok (.aload_n 0, 1) := by decide +kernel
theorem dX4_readBroker_57 : decode cX4_readBroker 57 = .ok (.getfield 12, 3) := by decide +kernel
theorem dX4_readBroker_60 : decode cX4_readBroker 60 = .ok (.dup, 1) := by decide +kernel
theorem dX4_readBroker_61 : decode cX4_readBroker 61 = .ok (.getfield 101, 3) := by decide +kernel
theorem dX4_readBroker_64 : decode cX4_readBroker 64 = .ok (.iconst 1, 1) := by decide +kernel
theorem dX4_readBroker_65 : decode cX4_readBroker 65 = .ok (.iadd, 1) := by decide +kernel
theorem dX4_readBroker_66 : decode cX4_readBroker 66 = .ok (.putfield 101, 3) := by decide +kernel
theorem dX4_readBroker_69 : decode cX4_readBroker 69 = .ok (.return_, 1) := by decide +kernel
theorem dX4_addPerson_0 : decode cX4_addPerson 0 = .ok (.aload_n 0, 1) := by decide +kernel
theorem dX4_addPerson_1 : decode cX4_addPerson 1 = .ok (.getfield 12, 3) := by decide +kernel
theorem dX4_addPerson_4 : decode cX4_addPerson 4 = .ok (.invokevirtual 112, 3) := by decide +kernel
theorem dX4_addPerson_7 : decode cX4_addPerson 7 = .ok (.istore_n 3, 1) := by decide +kernel
theorem dX4_addPerson_8 : decode cX4_addPerson 8 = .ok (.iload_n 3, 1) := by decide +kernel
theorem dX4_addPerson_9 : decode cX4_addPerson 9 = .ok (.bipush 14, 2) := by decide +kernel
theorem dX4_addPerson_11 : decode cX4_addPerson 11 = .ok (.if_icmp .ge 23, 3) := by decide +kernel
theorem dX4_addPerson_14 : decode cX4_addPerson 14 = .ok (.aload_n 0, 1) := by decide +kernel
theorem dX4_addPerson_15 : decode cX4_addPerson 15 = .ok (.getfield 12, 3) := by decide +kernel
theorem dX4_addPerson_18 : decode cX4_addPerson 18 = .ok (.getfield 116, 3) := by decide +kernel
theorem dX4_addPerson_21 : decode cX4_addPerson 21 = .ok (.iload_n 3, 1) := by decide +kernel
theorem dX4_addPerson_22 : decode cX4_addPerson 22 = .ok (.iload_n 1, 1) := by decide +kernel
theorem dX4_addPerson_23 : decode cX4_addPerson 23 = .ok (.iastore, 1) := by decide +kernel
theorem dX4_addPerson_24 : decode cX4_addPerson 24 = .ok (.aload_n 0, 1) := by decide +kernel
theorem dX4_addPerson_25 : decode cX4_addPerson 25 = .ok (.getfield 12, 3) := by decide +kernel
theorem dX4_addPerson_28 : decode cX4_addPerson 28 = .ok (.getfield 119, 3) := by decide +kernel
theorem dX4_addPerson_31 : decode cX4_addPerson 31 = .ok (.iload_n 3, 1) := by decide +kernel
theorem dX4_addPerson_32 : decode cX4_addPerson 32 = .ok (.iload_n 2, 1) := by decide +kernel
theorem dX4_addPerson_33 : decode cX4_addPerson 33 = .ok (.iastore, 1) := by decide +kernel
theorem dX4_addPerson_34 : decode cX4_addPerson 34 = .ok (.return_, 1) := by decide +kernel
theorem dX4_readNumber_0 : decode cX4_readNumber 0 = .ok (.aload_n 0, 1) := by decide +kernel
theorem dX4_readNumber_1 : decode cX4_readNumber 1 = .ok (.invokevirtual 42, 3) := by decide +kernel
theorem dX4_readNumber_4 : decode cX4_readNumber 4 = .ok (.aload_n 0, 1) := by decide +kernel
theorem dX4_readNumber_5 : decode cX4_readNumber 5 = .ok (.getfield 32, 3) := by decide +kernel
theorem dX4_readNumber_8 : decode cX4_readNumber 8 = .ok (.istore_n 3, 1) := by decide +kernel
theorem dX4_readNumber_9 : decode cX4_readNumber 9 = .ok (.iconst 0, 1) := by decide +kernel
theorem dX4_readNumber_10 : decode cX4_readNumber 10 = .ok (.istore 4, 2) := by decide +kernel
theorem dX4_readNumber_12 : decode cX4_readNumber 12 = .ok (.aload_n 0, 1) := by decide +kernel
theorem dX4_readNumber_13 : decode cX4_readNumber 13 = .ok (.getfield 32, 3) := by decide +kernel
theorem dX4_readNumber_16 : decode cX4_readNumber 16 = .ok (.aload_n 0, 1) := by decide +kernel
theorem dX4_readNumber_17 : decode cX4_readNumber 17 = .ok (.getfield 18, 3) := by decide +kernel
theorem dX4_readNumber_20 : decode cX4_readNumber 20 = .ok (.getfield 45, 3) := by decide +kernel
theorem dX4_readNumber_23 : decode cX4_readNumber 23 = .ok (.if_icmp .ge 65, 3) := by decide +kernel
theorem dX4_readNumber_26 : decode cX4_readNumber 26 = .ok (.aload_n 0, 1) := by decide +kernel
theorem dX4_readNumber_27 : decode cX4_readNumber 27 = .ok (.getfield 18, 3) := by decide +kernel
theorem dX4_readNumber_30 : decode cX4_readNumber 30 = .ok (.aload_n 0, 1) := by decide +kernel
theorem dX4_readNumber_31 : decode cX4_readNumber 31 = .ok (.getfield 32, 3) := by decide +kernel
theorem dX4_readNumber_34 : decode cX4_readNumber 34 = .ok (.invokevirtual 122, 3) := by decide +kernel
theorem dX4_readNumber_37 : decode cX4_readNumber 37 = .ok (.invokestatic 126, 3) := by decide +kernel
theorem dX4_readNumber_40 : decode cX4_readNumber 40 = .ok (.ifCond .eq 48, 3) := by decide +kernel
theorem dX4_readNumber_43 : decode cX4_readNumber 43 = .ok (.aload_n 0, 1) := by decide +kernel
theorem dX4_readNumber_44 : decode cX4_readNumber 44 = .ok (.getfield 32, 3) := by decide +kernel
theorem dX4_readNumber_47 : decode cX4_readNumber 47 = .ok (.iload_n 3, 1) := by decide +kernel
theorem dX4_readNumber_48 : decode cX4_readNumber 48 = .ok (.isub, 1) := by decide +kernel
theorem dX4_readNumber_49 : decode cX4_readNumber 49 = .ok (.iconst 4, 1) := by decide +kernel
theorem dX4_readNumber_50 : decode cX4_readNumber 50 = .ok (.if_icmp .ge 25, 3) := by decide +kernel
theorem dX4_readNumber_53 : decode cX4_readNumber 53 = .ok (.iload 4, 2) := by decide +kernel
theorem dX4_readNumber_55 : decode cX4_readNumber 55 = .ok (.bipush 10, 2) := by decide +kernel
theorem dX4_readNumber_57 : decode cX4_readNumber 57 = .ok (.imul, 1) := by decide +kernel
theorem dX4_readNumber_58 : decode cX4_readNumber 58 = .ok (.aload_n 0, 1) := by decide +kernel
theorem dX4_readNumber_59 : decode cX4_readNumber 59 = .ok (.getfield 18, 3) := by decide +kernel
theorem dX4_readNumber_62 : decode cX4_readNumber 62 = .ok (.aload_n 0, 1) := by decide +kernel
theorem dX4_readNumber_63 : decode cX4_readNumber 63 = .ok (.getfield 32, 3) := by decide +kernel
theorem dX4_readNumber_66 : decode cX4_readNumber 66 = .ok (.invokevirtual 122, 3) := by decide +kernel
theorem dX4_readNumber_69 : decode cX4_readNumber 69 = .ok (.iadd, 1) := by decide +kernel
theorem dX4_readNumber_70 : decode cX4_readNumber 70 = .ok (.bipush 48, 2) := by decide +kernel
theorem dX4_readNumber_72 : decode cX4_readNumber 72 = .ok (.isub, 1) := by decide +kernel
theorem dX4_readNumber_73 : decode cX4_readNumber 73 = .ok (.istore 4, 2) := by decide +kernel
theorem dX4_readNumber_75 : decode cX4_readNumber 75 = .ok (.aload_n 0, 1) := by decide +kernel
theorem dX4_readNumber_76 : decode cX4_readNumber 76 = .ok (.dup, 1) := by decide +kernel
theorem dX4_readNumber_77 : decode cX4_readNumber 77 = .ok (.getfield 32, 3) := by decide +kernel
theorem dX4_readNumber_80 : decode cX4_readNumber 80 = .ok (.iconst 1, 1) := by decide +kernel
theorem dX4_readNumber_81 : decode cX4_readNumber 81 = .ok (.iadd, 1) := by decide +kernel
theorem dX4_readNumber_82 : decode cX4_readNumber 82 = .ok (.putfield 32, 3) := by decide +kernel
theorem dX4_readNumber_85 : decode cX4_readNumber 85 = .ok (.goto (-73), 3) := by decide +kernel
theorem dX4_readNumber_88 : decode cX4_readNumber 88 = .ok (.aload_n 0, 1) := by decide +kernel
theorem dX4_readNumber_89 : decode cX4_readNumber 89 = .ok (.aload_n 0, 1) := by decide +kernel
theorem dX4_readNumber_90 : decode cX4_readNumber 90 = .ok (.getfield 32, 3) := by decide +kernel
theorem dX4_readNumber_93 : decode cX4_readNumber 93 = .ok (.iload_n 3, 1) := by decide +kernel
theorem dX4_readNumber_94 : decode cX4_readNumber 94 = .ok (.if_icmp .ne 7, 3) := by decide +kernel
theorem dX4_readNumber_97 : decode cX4_readNumber 97 = .ok (.iconst 1, 1) := by decide +kernel
theorem dX4_readNumber_98 : decode cX4_readNumber 98 = .ok (.goto 4, 3) := by decide +kernel
theorem dX4_readNumber_101 : decode cX4_readNumber 101 = .ok (.iconst 0, 1) := by decide +kernel
theorem dX4_readNumber_102 : decode cX4_readNumber 102 = .ok (.iconst 1, 1) := by decide +kernel
theorem dX4_readNumber_103 : decode cX4_readNumber 103 = .ok (.iload_n 3, 1) := by decide +kernel
theorem dX4_readNumber_104 : decode cX4_readNumber 104 = .ok (.invokevirtual 78, 3) := by decide +kernel
theorem dX4_readNumber_107 : decode cX4_readNumber 107 = .ok (.aload_n 0, 1) := by decide +kernel
theorem dX4_readNumber_108 : decode cX4_readNumber 108 = .ok (.aload_n 0, 1) := by decide +kernel
theorem dX4_readNumber_109 : decode cX4_readNumber 109 = .ok (.getfield 32, 3) := by decide +kernel
theorem dX4_readNumber_112 : decode cX4_readNumber 112 = .ok (.iload_n 3, 1) := by decide +kernel
theorem dX4_readNumber_113 : decode cX4_readNumber 113 = .ok (.isub, 1) := by decide +kernel
theorem dX4_readNumber_114 : decode cX4_readNumber 114 = .ok (.iconst 4, 1) := by decide +kernel
theorem dX4_readNumber_115 : decode cX4_readNumber 115 = .ok (.if_icmp .gt 13, 3) := by decide +kernel
theorem dX4_readNumber_118 : decode cX4_readNumber 118 = .ok (.iload 4, 2) := by decide +kernel
theorem dX4_readNumber_120 : decode cX4_readNumber 120 = .ok (.iload_n 1, 1) := by decide +kernel
theorem dX4_readNumber_121 : decode cX4_readNumber 121 = .ok (.iload_n 2, 1) := by decide +kernel
theorem dX4_readNumber_122 : decode cX4_readNumber 122 = .ok (.invokestatic 130, 3) := by decide +kernel
theorem dX4_readNumber_125 : decode cX4_readNumber 125 = .ok (.ifCond .ne 7, 3) := by decide +kernel
theorem dX4_readNumber_128 : decode cX4_readNumber 128 = .ok (.iconst 1, 1) := by decide +kernel
theorem dX4_readNumber_129 : decode cX4_readNumber 129 = .ok (.goto 4, 3) := by decide +kernel
theorem dX4_readNumber_132 : decode cX4_readNumber 132 = .ok (.iconst 0, 1) := by decide +kernel
theorem dX4_readNumber_133 : decode cX4_readNumber 133 = .ok (.iconst 2, 1) := by decide +kernel
theorem dX4_readNumber_134 : decode cX4_readNumber 134 = .ok (.iload_n 3, 1) := by decide +kernel
theorem dX4_readNumber_135 : decode cX4_readNumber 135 = .ok (.invokevirtual 78, 3) := by decide +kernel
theorem dX4_readNumber_138 : decode cX4_readNumber 138 = .ok (.iload 4, 2) := by decide +kernel
theorem dX4_readNumber_140 : decode cX4_readNumber 140 = .ok (.ireturn, 1) := by decide +kernel
theorem dX4_readSign_0 : decode cX4_readSign 0 = .ok (.aload_n 0, 1) := by decide +kernel
theorem dX4_readSign_1 : decode cX4_readSign 1 = .ok (.invokevirtual 42, 3) := by decide +kernel
theorem dX4_readSign_4 : decode cX4_readSign 4 = .ok (.aload_n 0, 1) := by decide +kernel
theorem dX4_readSign_5 : decode cX4_readSign 5 = .ok (.aload_n 0, 1) := by decide +kernel
theorem dX4_readSign_6 : decode cX4_readSign 6 = .ok (.getfield 18, 3) := by decide +kernel
theorem dX4_readSign_9 : decode cX4_readSign 9 = .ok (.aload_n 0, 1) := by decide +kernel
theorem dX4_readSign_10 : decode cX4_readSign 10 = .ok (.getfield 32, 3) := by decide +kernel
theorem dX4_readSign_13 : decode cX4_readSign 13 = .ok (.invokevirtual 122, 3) := by decide +kernel
theorem dX4_readSign_16 : decode cX4_readSign 16 = .ok (.iload_n 1, 1) := by decide +kernel
theorem dX4_readSign_17 : decode cX4_readSign 17 = .ok (.if_icmp .eq 7, 3) := by decide +kernel
theorem dX4_readSign_20 : decode cX4_readSign 20 = .ok (.iconst 1, 1) := by decide +kernel
theorem dX4_readSign_21 : decode cX4_readSign 21 = .ok (.goto 4, 3) := by decide +kernel
theorem dX4_readSign_24 : decode cX4_readSign 24 = .ok (.iconst 0, 1) := by decide +kernel
theorem dX4_readSign_25 : decode cX4_readSign 25 = .ok (.iconst 1, 1) := by decide +kernel
theorem dX4_readSign_26 : decode cX4_readSign 26 = .ok (.aload_n 0, 1) := by decide +kernel
theorem dX4_readSign_27 : decode cX4_readSign 27 = .ok (.getfield 32, 3) := by decide +kernel
theorem dX4_readSign_30 : decode cX4_readSign 30 = .ok (.invokevirtual 78, 3) := by decide +kernel
theorem dX4_readSign_33 : decode cX4_readSign 33 = .ok (.aload_n 0, 1) := by decide +kernel
theorem dX4_readSign_34 : decode cX4_readSign 34 = .ok (.dup, 1) := by decide +kernel
theorem dX4_readSign_35 : decode cX4_readSign 35 = .ok (.getfield 32, 3) := by decide +kernel
theorem dX4_readSign_38 : decode cX4_readSign 38 = .ok (.iconst 1, 1) := by decide +kernel
theorem dX4_readSign_39 : decode cX4_readSign 39 = .ok (.iadd, 1) := by decide +kernel
theorem dX4_readSign_40 : decode cX4_readSign 40 = .ok (.putfield 32, 3) := by decide +kernel
theorem dX4_readSign_43 : decode cX4_readSign 43 = .ok (.return_, 1) := by decide +kernel
theorem dX4_isWord_0 : decode cX4_isWord 0 = .ok (.aload_n 0, 1) := by decide +kernel
theorem dX4_isWord_1 : decode cX4_isWord 1 = .ok (.getfield 32, 3) := by decide +kernel
theorem dX4_isWord_4 : decode cX4_isWord 4 = .ok (.iload_n 1, 1) := by decide +kernel
theorem dX4_isWord_5 : decode cX4_isWord 5 = .ok (.isub, 1) := by decide +kernel
theorem dX4_isWord_6 : decode cX4_isWord 6 = .ok (.aload_n 2, 1) := by decide +kernel
theorem dX4_isWord_7 : decode cX4_isWord 7 = .ok (.invokevirtual 134, 3) := by decide +kernel
theorem dX4_isWord_10 : decode cX4_isWord 10 = .ok (.if_icmp .eq 5, 3) := by decide +kernel
theorem dX4_isWord_13 : decode cX4_isWord 13 = .ok (.iconst 0, 1) := by decide +kernel
theorem dX4_isWord_14 : decode cX4_isWord 14 = .ok (.ireturn, 1) := by decide +kernel
theorem dX4_isWord_15 : decode cX4_isWord 15 = .ok (.iconst 0, 1) := by decide +kernel
theorem dX4_isWord_16 : decode cX4_isWord 16 = .ok (.istore_n 3, 1) := by decide +kernel
theorem dX4_isWord_17 : decode cX4_isWord 17 = .ok (.iload_n 3, 1) := by decide +kernel
theorem dX4_isWord_18 : decode cX4_isWord 18 = .ok (.aload_n 2, 1) := by decide +kernel
theorem dX4_isWord_19 : decode cX4_isWord 19 = .ok (.invokevirtual 134, 3) := by decide +kernel
theorem dX4_isWord_22 : decode cX4_isWord 22 = .ok (.if_icmp .ge 29, 3) := by decide +kernel
theorem dX4_isWord_25 : decode cX4_isWord 25 = .ok (.aload_n 0, 1) := by decide +kernel
theorem dX4_isWord_26 : decode cX4_isWord 26 = .ok (.getfield 18, 3) := by decide +kernel
theorem dX4_isWord_29 : decode cX4_isWord 29 = .ok (.iload_n 1, 1) := by decide +kernel
theorem dX4_isWord_30 : decode cX4_isWord 30 = .ok (.iload_n 3, 1) := by decide +kernel
theorem dX4_isWord_31 : decode cX4_isWord 31 = .ok (.iadd, 1) := by decide +kernel
theorem dX4_isWord_32 : decode cX4_isWord 32 = .ok (.invokevirtual 122, 3) := by decide +kernel
theorem dX4_isWord_35 : decode cX4_isWord 35 = .ok (.aload_n 2, 1) := by decide +kernel
theorem dX4_isWord_36 : decode cX4_isWord 36 = .ok (.iload_n 3, 1) := by decide +kernel
theorem dX4_isWord_37 : decode cX4_isWord 37 = .ok (.invokevirtual 139, 3) := by decide +kernel
theorem dX4_isWord_40 : decode cX4_isWord 40 = .ok (.if_icmp .eq 5, 3) := by decide +kernel
theorem dX4_isWord_43 : decode cX4_isWord 43 = .ok (.iconst 0, 1) := by decide +kernel
theorem dX4_isWord_44 : decode cX4_isWord 44 = .ok (.ireturn, 1) := by decide +kernel
theorem dX4_isWord_45 : decode cX4_isWord 45 = .ok (.iinc 3 1, 3) := by decide +kernel
theorem dX4_isWord_48 : decode cX4_isWord 48 = .ok (.goto (-31), 3) := by decide +kernel
theorem dX4_isWord_51 : decode cX4_isWord 51 = .ok (.iconst 1, 1) := by decide +kernel
theorem dX4_isWord_52 : decode cX4_isWord 52 = .ok (.ireturn, 1) := by decide +kernel
theorem dX4_refuseIf_0 : decode cX4_refuseIf 0 = .ok (.iload_n 1, 1) := by decide +kernel
theorem dX4_refuseIf_1 : decode cX4_refuseIf 1 = .ok (.ifCond .eq 20, 3) := by decide +kernel
theorem dX4_refuseIf_4 : decode cX4_refuseIf 4 = .ok (.aload_n 0, 1) := by decide +kernel
theorem dX4_refuseIf_5 : decode cX4_refuseIf 5 = .ok (.getfield 25, 3) := by decide +kernel
theorem dX4_refuseIf_8 : decode cX4_refuseIf 8 = .ok (.ifCond .ne 13, 3) := by decide +kernel
theorem dX4_refuseIf_11 : decode cX4_refuseIf 11 = .ok (.aload_n 0, 1) := by decide +kernel
theorem dX4_refuseIf_12 : decode cX4_refuseIf 12 = .ok (.iload_n 2, 1) := by decide +kernel
theorem dX4_refuseIf_13 : decode cX4_refuseIf 13 = .ok (.putfield 25, 3) := by decide +kernel
theorem dX4_refuseIf_16 : decode cX4_refuseIf 16 = .ok (.aload_n 0, 1) := by decide +kernel
theorem dX4_refuseIf_17 : decode cX4_refuseIf 17 = .ok (.iload_n 3, 1) := by decide +kernel
theorem dX4_refuseIf_18 : decode cX4_refuseIf 18 = .ok (.putfield 29, 3) := by decide +kernel
theorem dX4_refuseIf_21 : decode cX4_refuseIf 21 = .ok (.return_, 1) := by decide +kernel
theorem dX4_skipBlanks_0 : decode cX4_skipBlanks 0 = .ok (.aload_n 0, 1) := by decide +kernel
theorem dX4_skipBlanks_1 : decode cX4_skipBlanks 1 = .ok (.getfield 32, 3) := by decide +kernel
theorem dX4_skipBlanks_4 : decode cX4_skipBlanks 4 = .ok (.aload_n 0, 1) := by decide +kernel
theorem dX4_skipBlanks_5 : decode cX4_skipBlanks 5 = .ok (.getfield 18, 3) := by decide +kernel
theorem dX4_skipBlanks_8 : decode cX4_skipBlanks 8 = .ok (.getfield 45, 3) := by decide +kernel
theorem dX4_skipBlanks_11 : decode cX4_skipBlanks 11 = .ok (.if_icmp .ge 32, 3) := by decide +kernel
theorem dX4_skipBlanks_14 : decode cX4_skipBlanks 14 = .ok (.aload_n 0, 1) := by decide +kernel
theorem dX4_skipBlanks_15 : decode cX4_skipBlanks 15 = .ok (.getfield 18, 3) := by decide +kernel
theorem dX4_skipBlanks_18 : decode cX4_skipBlanks 18 = .ok (.aload_n 0, 1) := by decide +kernel
theorem dX4_skipBlanks_19 : decode cX4_skipBlanks 19 = .ok (.getfield 32, 3) := by decide +kernel
theorem dX4_skipBlanks_22 : decode cX4_skipBlanks 22 = .ok (.invokevirtual 122, 3) := by decide +kernel
theorem dX4_skipBlanks_25 : decode cX4_skipBlanks 25 = .ok (.bipush 32, 2) := by decide +kernel
theorem dX4_skipBlanks_27 : decode cX4_skipBlanks 27 = .ok (.if_icmp .ne 16, 3) := by decide +kernel
theorem dX4_skipBlanks_30 : decode cX4_skipBlanks 30 = .ok (.aload_n 0, 1) := by decide +kernel
theorem dX4_skipBlanks_31 : decode cX4_skipBlanks 31 = .ok (.dup, 1) := by decide +kernel
theorem dX4_skipBlanks_32 : decode cX4_skipBlanks 32 = .ok (.getfield 32, 3) := by decide +kernel
theorem dX4_skipBlanks_35 : decode cX4_skipBlanks 35 = .ok (.iconst 1, 1) := by decide +kernel
theorem dX4_skipBlanks_36 : decode cX4_skipBlanks 36 = .ok (.iadd, 1) := by decide +kernel
theorem dX4_skipBlanks_37 : decode cX4_skipBlanks 37 = .ok (.putfield 32, 3) := by decide +kernel
theorem dX4_skipBlanks_40 : decode cX4_skipBlanks 40 = .ok (.goto (-40), 3) := by decide +kernel
theorem dX4_skipBlanks_43 : decode cX4_skipBlanks 43 = .ok (.return_, 1) := by decide +kernel
theorem dX4_skipLetters_0 : decode cX4_skipLetters 0 = .ok (.aload_n 0, 1) := by decide +kernel
theorem dX4_skipLetters_1 : decode cX4_skipLetters 1 = .ok (.getfield 32, 3) := by decide +kernel
theorem dX4_skipLetters_4 : decode cX4_skipLetters 4 = .ok (.aload_n 0, 1) := by decide +kernel
theorem dX4_skipLetters_5 : decode cX4_skipLetters 5 = .ok (.getfield 18, 3) := by decide +kernel
theorem dX4_skipLetters_8 : decode cX4_skipLetters 8 = .ok (.getfield 45, 3) := by decide +kernel
theorem dX4_skipLetters_11 : decode cX4_skipLetters 11 = .ok (.if_icmp .ge 37, 3) := by decide +kernel
theorem dX4_skipLetters_14 : decode cX4_skipLetters 14 = .ok (.aload_n 0, 1) := by decide +kernel
theorem dX4_skipLetters_15 : decode cX4_skipLetters 15 = .ok (.getfield 18, 3) := by decide +kernel
theorem dX4_skipLetters_18 : decode cX4_skipLetters 18 = .ok (.aload_n 0, 1) := by decide +kernel
theorem dX4_skipLetters_19 : decode cX4_skipLetters 19 = .ok (.getfield 32, 3) := by decide +kernel
theorem dX4_skipLetters_22 : decode cX4_skipLetters 22 = .ok (.invokevirtual 122, 3) := by decide +kernel
theorem dX4_skipLetters_25 : decode cX4_skipLetters 25 = .ok (.bipush 97, 2) := by decide +kernel
theorem dX4_skipLetters_27 : decode cX4_skipLetters 27 = .ok (.bipush 122, 2) := by decide +kernel
theorem dX4_skipLetters_29 : decode cX4_skipLetters 29 = .ok (.invokestatic 130, 3) := by decide +kernel
theorem dX4_skipLetters_32 : decode cX4_skipLetters 32 = .ok (.ifCond .eq 16, 3) := by decide +kernel
theorem dX4_skipLetters_35 : decode cX4_skipLetters 35 = .ok (.aload_n 0, 1) := by decide +kernel
theorem dX4_skipLetters_36 : decode cX4_skipLetters 36 = .ok (.dup, 1) := by decide +kernel
theorem dX4_skipLetters_37 : decode cX4_skipLetters 37 = .ok (.getfield 32, 3) := by decide +kernel
theorem dX4_skipLetters_40 : decode cX4_skipLetters 40 = .ok (.iconst 1, 1) := by decide +kernel
theorem dX4_skipLetters_41 : decode cX4_skipLetters 41 = .ok (.iadd, 1) := by decide +kernel
theorem dX4_skipLetters_42 : decode cX4_skipLetters 42 = .ok (.putfield 32, 3) := by decide +kernel
theorem dX4_skipLetters_45 : decode cX4_skipLetters 45 = .ok (.goto (-45), 3) := by decide +kernel
theorem dX4_skipLetters_48 : decode cX4_skipLetters 48 = .ok (.return_, 1) := by decide +kernel
theorem dX4_isFigure_0 : decode cX4_isFigure 0 = .ok (.iload_n 0, 1) := by decide +kernel
theorem dX4_isFigure_1 : decode cX4_isFigure 1 = .ok (.bipush 48, 2) := by decide +kernel
theorem dX4_isFigure_3 : decode cX4_isFigure 3 = .ok (.bipush 57, 2) := by decide +kernel
theorem dX4_isFigure_5 : decode cX4_isFigure 5 = .ok (.invokestatic 130, 3) := by decide +kernel
theorem dX4_isFigure_8 : decode cX4_isFigure 8 = .ok (.ireturn, 1) := by decide +kernel
theorem dX5_init_0 : decode cX5_init 0 = .ok (.aload_n 0, 1) := by decide +kernel
theorem dX5_init_1 : decode cX5_init 1 = .ok (.invokespecial 5, 3) := by decide +kernel
theorem dX5_init_4 : decode cX5_init 4 = .ok (.aload_n 0, 1) := by decide +kernel
theorem dX5_init_5 : decode cX5_init 5 = .ok (.sipush 752, 3) := by decide +kernel
theorem dX5_init_8 : decode cX5_init 8 = .ok (.newarray .long, 2) := by decide +kernel
theorem dX5_init_10 : decode cX5_init 10 = .ok (.putfield 11, 3) := by decide +kernel
theorem dX5_init_13 : decode cX5_init 13 = .ok (.aload_n 0, 1) := by decide +kernel
theorem dX5_init_14 : decode cX5_init 14 = .ok (.iconst 1, 1) := by decide +kernel
theorem dX5_init_15 : decode cX5_init 15 = .ok (.putfield 15, 3) := by decide +kernel
theorem dX5_init_18 : decode cX5_init 18 = .ok (.aload_n 0, 1) := by decide +kernel
theorem dX5_init_19 : decode cX5_init 19 = .ok (.aload_n 1, 1) := by decide +kernel
theorem dX5_init_20 : decode cX5_init 20 = .ok (.putfield 19, 3) := by decide +kernel
theorem dX5_init_23 : decode cX5_init 23 = .ok (.return_, 1) := by decide +kernel
theorem dX5_refresh_0 : decode cX5_refresh 0 = .ok (.aload_n 0, 1) := by decide +kernel
theorem dX5_refresh_1 : decode cX5_refresh 1 = .ok (.getfield 15, 3) := by decide +kernel
theorem dX5_refresh_4 : decode cX5_refresh 4 = .ok (.ifCond .ne 4, 3) := by decide +kernel
theorem dX5_refresh_7 : decode cX5_refresh 7 = .ok (.return_, 1) := by decide +kernel
theorem dX5_refresh_8 : decode cX5_refresh 8 = .ok (.aload_n 0, 1) := by decide +kernel
theorem dX5_refresh_9 : decode cX5_refresh 9 = .ok (.iconst 0, 1) := by decide +kernel
theorem dX5_refresh_10 : decode cX5_refresh 10 = .ok (.putfield 15, 3) := by decide +kernel
theorem dX5_refresh_13 : decode cX5_refresh 13 = .ok (.aload_n 0, 1) := by decide +kernel
theorem dX5_refresh_14 : decode cX5_refresh 14 = .ok (.getfield 11, 3) := by decide +kernel
theorem dX5_refresh_17 : decode cX5_refresh 17 = .ok (.lconst 0, 1) := by decide +kernel
theorem dX5_refresh_18 : decode cX5_refresh 18 = .ok (.invokestatic 23, 3) := by decide +kernel
theorem dX5_refresh_21 : decode cX5_refresh 21 = .ok (.aload_n 0, 1) := by decide +kernel
theorem dX5_refresh_22 : decode cX5_refresh 22 = .ok (.iconst 0, 1) := by decide +kernel
theorem dX5_refresh_23 : decode cX5_refresh 23 = .ok (.iconst 0, 1) := by decide +kernel
theorem dX5_refresh_24 : decode cX5_refresh 24 = .ok (.iload_n 1, 1) := by decide +kernel
theorem dX5_refresh_25 : decode cX5_refresh 25 = .ok (.iconst 3, 1) := by decide +kernel
theorem dX5_refresh_26 : decode cX5_refresh 26 = .ok (.invokestatic 29, 3) := by decide +kernel
theorem dX5_refresh_29 : decode cX5_refresh 29 = .ok (.invokevirtual 35, 3) := by decide +kernel
theorem dX5_refresh_32 : decode cX5_refresh 32 = .ok (.aload_n 0, 1) := by decide +kernel
theorem dX5_refresh_33 : decode cX5_refresh 33 = .ok (.bipush 8, 2) := by decide +kernel
theorem dX5_refresh_35 : decode cX5_refresh 35 = .ok (.iconst 3, 1) := by decide +kernel
theorem dX5_refresh_36 : decode cX5_refresh 36 = .ok (.iconst 0, 1) := by decide +kernel
theorem dX5_refresh_37 : decode cX5_refresh 37 = .ok (.iload_n 1, 1) := by decide +kernel
theorem dX5_refresh_38 : decode cX5_refresh 38 = .ok (.iconst 3, 1) := by decide +kernel
theorem dX5_refresh_39 : decode cX5_refresh 39 = .ok (.isub, 1) := by decide +kernel
theorem dX5_refresh_40 : decode cX5_refresh 40 = .ok (.invokestatic 39, 3) := by decide +kernel
theorem dX5_refresh_43 : decode cX5_refresh 43 = .ok (.invokevirtual 35, 3) := by decide +kernel
theorem dX5_refresh_46 : decode cX5_refresh 46 = .ok (.return_, 1) := by decide +kernel
theorem dX5_fillHalf_0 : decode cX5_fillHalf 0 = .ok (.aload_n 0, 1) := by decide +kernel
theorem dX5_fillHalf_1 : decode cX5_fillHalf 1 = .ok (.getfield 11, 3) := by decide +kernel
theorem dX5_fillHalf_4 : decode cX5_fillHalf 4 = .ok (.iload_n 1, 1) := by decide +kernel
theorem dX5_fillHalf_5 : decode cX5_fillHalf 5 = .ok (.bipush 47, 2) := by decide +kernel
theorem dX5_fillHalf_7 : decode cX5_fillHalf 7 = .ok (.imul, 1) := by decide +kernel
theorem dX5_fillHalf_8 : decode cX5_fillHalf 8 = .ok (.lconst 1, 1) := by decide +kernel
theorem dX5_fillHalf_9 : decode cX5_fillHalf 9 = .ok (.lastore, 1) := by decide +kernel
theorem dX5_fillHalf_10 : decode cX5_fillHalf 10 = .ok (.iconst 0, 1) := by decide +kernel
theorem dX5_fillHalf_11 : decode cX5_fillHalf 11 = .ok (.istore 4, 2) := by decide +kernel
theorem dX5_fillHalf_13 : decode cX5_fillHalf 13 = .ok (.iload 4, 2) := by decide +kernel
theorem dX5_fillHalf_15 : decode cX5_fillHalf 15 = .ok (.iload_n 3, 1) := by decide +kernel
theorem dX5_fillHalf_16 : decode cX5_fillHalf 16 = .ok (.if_icmp .ge 57, 3) := by decide +kernel
theorem dX5_fillHalf_19 : decode cX5_fillHalf 19 = .ok (.iload 4, 2) := by decide +kernel
theorem dX5_fillHalf_21 : decode cX5_fillHalf 21 = .ok (.iconst 3, 1) := by decide +kernel
theorem dX5_fillHalf_22 : decode cX5_fillHalf 22 = .ok (.if_icmp .ge 51, 3) := by decide +kernel
theorem dX5_fillHalf_25 : decode cX5_fillHalf 25 = .ok (.iconst 1, 1) := by decide +kernel
theorem dX5_fillHalf_26 : decode cX5_fillHalf 26 = .ok (.istore 5, 2) := by decide +kernel
theorem dX5_fillHalf_28 : decode cX5_fillHalf 28 = .ok (.iload 5, 2) := by decide +kernel
theorem dX5_fillHalf_30 : decode cX5_fillHalf 30 = .ok (.sipush 999, 3) := by decide +kernel
theorem dX5_fillHalf_33 : decode cX5_fillHalf 33 = .ok (.if_icmp .gt 34, 3) := by decide +kernel
theorem dX5_fillHalf_36 : decode cX5_fillHalf 36 = .ok (.aload_n 0, 1) := by decide +kernel
theorem dX5_fillHalf_37 : decode cX5_fillHalf 37 = .ok (.getfield 19, 3) := by decide +kernel
theorem dX5_fillHalf_40 : decode cX5_fillHalf 40 = .ok (.iload_n 2, 1) := by decide +kernel
theorem dX5_fillHalf_41 : decode cX5_fillHalf 41 = .ok (.iload 4, 2) := by decide +kernel
theorem dX5_fillHalf_43 : decode cX5_fillHalf 43 = .ok (.iadd, 1) := by decide +kernel
theorem dX5_fillHalf_44 : decode cX5_fillHalf 44 = .ok (.iload 5, 2) := by decide +kernel
theorem dX5_fillHalf_46 : decode cX5_fillHalf 46 = .ok (.invokevirtual 42, 3) := by decide +kernel
theorem dX5_fillHalf_49 : decode cX5_fillHalf 49 = .ok (.ifCond .eq 12, 3) := by decide +kernel
theorem dX5_fillHalf_52 : decode cX5_fillHalf 52 = .ok (.aload_n 0, 1) := by decide +kernel
theorem dX5_fillHalf_53 : decode cX5_fillHalf 53 = .ok (.iload_n 1, 1) := by decide +kernel
theorem dX5_fillHalf_54 : decode cX5_fillHalf 54 = .ok (.iload 4, 2) := by decide +kernel
theorem dX5_fillHalf_56 : decode cX5_fillHalf 56 = .ok (.iload 5, 2) := by decide +kernel
theorem dX5_fillHalf_58 : decode cX5_fillHalf 58 = .ok (.invokevirtual 48, 3) := by decide +kernel
theorem dX5_fillHalf_61 : decode cX5_fillHalf 61 = .ok (.iinc 5 1, 3) := by decide +kernel
theorem dX5_fillHalf_64 : decode cX5_fillHalf 64 = .ok (.goto (-36), 3) := by decide +kernel
theorem dX5_fillHalf_67 : decode cX5_fillHalf 67 = .ok (.iinc 4 1, 3) := by decide +kernel
theorem dX5_fillHalf_70 : decode cX5_fillHalf 70 = .ok (.goto (-57), 3) := by decide +kernel
theorem dX5_fillHalf_73 : decode cX5_fillHalf 73 = .ok (.return_, 1) := by decide +kernel
theorem dX5_addPrice_0 : decode cX5_addPrice 0 = .ok (.iconst 0, 1) := by decide +kernel
theorem dX5_addPrice_1 : decode cX5_addPrice 1 = .ok (.istore 4, 2) := by decide +kernel
theorem dX5_addPrice_3 : decode cX5_addPrice 3 = .ok (.iload 4, 2) := by decide +kernel
theorem dX5_addPrice_5 : decode cX5_addPrice 5 = .ok (.iconst 1, 1) := by decide +kernel
theorem dX5_addPrice_6 : decode cX5_addPrice 6 = .ok (.iload_n 2, 1) := by decide +kernel
theorem dX5_addPrice_7 : decode cX5_addPrice 7 = .ok (.ishl, 1) := by decide +kernel
theorem dX5_addPrice_8 : decode cX5_addPrice 8 = .ok (.if_icmp .ge 42, 3) := by decide +kernel
theorem dX5_addPrice_11 : decode cX5_addPrice 11 = .ok (.iconst 1, 1) := by decide +kernel
theorem dX5_addPrice_12 : decode cX5_addPrice 12 = .ok (.iload 4, 2) := by decide +kernel
theorem dX5_addPrice_14 : decode cX5_addPrice 14 = .ok (.invokestatic 51, 3) := by decide +kernel
theorem dX5_addPrice_17 : decode cX5_addPrice 17 = .ok (.bipush 16, 2) := by decide +kernel
theorem dX5_addPrice_19 : decode cX5_addPrice 19 = .ok (.imul, 1) := by decide +kernel
theorem dX5_addPrice_20 : decode cX5_addPrice 20 = .ok (.invokestatic 39, 3) := by decide +kernel
theorem dX5_addPrice_23 : decode cX5_addPrice 23 = .ok (.istore 5, 2) := by decide +kernel
theorem dX5_addPrice_25 : decode cX5_addPrice 25 = .ok (.aload_n 0, 1) := by decide +kernel
theorem dX5_addPrice_26 : decode cX5_addPrice 26 = .ok (.iload_n 1, 1) := by decide +kernel
theorem dX5_addPrice_27 : decode cX5_addPrice 27 = .ok (.iload 4, 2) := by decide +kernel
theorem dX5_addPrice_29 : decode cX5_addPrice 29 = .ok (.iadd, 1) := by decide +kernel
theorem dX5_addPrice_30 : decode cX5_addPrice 30 = .ok (.iconst 1, 1) := by decide +kernel
theorem dX5_addPrice_31 : decode cX5_addPrice 31 = .ok (.iload_n 2, 1) := by decide +kernel
theorem dX5_addPrice_32 : decode cX5_addPrice 32 = .ok (.ishl, 1) := by decide +kernel
theorem dX5_addPrice_33 : decode cX5_addPrice 33 = .ok (.iadd, 1) := by decide +kernel
theorem dX5_addPrice_34 : decode cX5_addPrice 34 = .ok (.iload_n 1, 1) := by decide +kernel
theorem dX5_addPrice_35 : decode cX5_addPrice 35 = .ok (.iload 4, 2) := by decide +kernel
theorem dX5_addPrice_37 : decode cX5_addPrice 37 = .ok (.iadd, 1) := by decide +kernel
theorem dX5_addPrice_38 : decode cX5_addPrice 38 = .ok (.iload 5, 2) := by decide +kernel
theorem dX5_addPrice_40 : decode cX5_addPrice 40 = .ok (.iload_n 3, 1) := by decide +kernel
theorem dX5_addPrice_41 : decode cX5_addPrice 41 = .ok (.invokevirtual 57, 3) := by decide +kernel
theorem dX5_addPrice_44 : decode cX5_addPrice 44 = .ok (.iinc 4 1, 3) := by decide +kernel
theorem dX5_addPrice_47 : decode cX5_addPrice 47 = .ok (.goto (-44), 3) := by decide +kernel
theorem dX5_addPrice_50 : decode cX5_addPrice 50 = .ok (.return_, 1) := by decide +kernel
theorem dX5_shiftInto_0 : decode cX5_shiftInto 0 = .ok (.iload_n 1, 1) := by decide +kernel
theorem dX5_shiftInto_1 : decode cX5_shiftInto 1 = .ok (.bipush 47, 2) := by decide +kernel
theorem dX5_shiftInto_3 : decode cX5_shiftInto 3 = .ok (.imul, 1) := by decide +kernel
theorem dX5_shiftInto_4 : decode cX5_shiftInto 4 = .ok (.iload 4, 2) := by decide +kernel
theorem dX5_shiftInto_6 : decode cX5_shiftInto 6 = .ok (.bipush 64, 2) := by decide +kernel
theorem dX5_shiftInto_8 : decode cX5_shiftInto 8 = .ok (.idiv, 1) := by decide +kernel
theorem dX5_shiftInto_9 : decode cX5_shiftInto 9 = .ok (.iadd, 1) := by decide +kernel
theorem dX5_shiftInto_10 : decode cX5_shiftInto 10 = .ok (.istore 5, 2) := by decide +kernel
theorem dX5_shiftInto_12 : decode cX5_shiftInto 12 = .ok (.iload_n 2, 1) := by decide +kernel
theorem dX5_shiftInto_13 : decode cX5_shiftInto 13 = .ok (.bipush 47, 2) := by decide +kernel
theorem dX5_shiftInto_15 : decode cX5_shiftInto 15 = .ok (.imul, 1) := by decide +kernel
theorem dX5_shiftInto_16 : decode cX5_shiftInto 16 = .ok (.istore 6, 2) := by decide +kernel
theorem dX5_shiftInto_18 : decode cX5_shiftInto 18 = .ok (.iload_n 1, 1) := by decide +kernel
theorem dX5_shiftInto_19 : decode cX5_shiftInto 19 = .ok (.bipush 47, 2) := by decide +kernel
theorem dX5_shiftInto_21 : decode cX5_shiftInto 21 = .ok (.imul, 1) := by decide +kernel
theorem dX5_shiftInto_22 : decode cX5_shiftInto 22 = .ok (.bipush 47, 2) := by decide +kernel
theorem dX5_shiftInto_24 : decode cX5_shiftInto 24 = .ok (.iadd, 1) := by decide +kernel
theorem dX5_shiftInto_25 : decode cX5_shiftInto 25 = .ok (.istore 7, 2) := by decide +kernel
theorem dX5_shiftInto_27 : decode cX5_shiftInto 27 = .ok (.iload 4, 2) := by decide +kernel
theorem dX5_shiftInto_29 : decode cX5_shiftInto 29 = .ok (.bipush 64, 2) := by decide +kernel
theorem dX5_shiftInto_31 : decode cX5_shiftInto 31 = .ok (.irem, 1) := by decide +kernel
theorem dX5_shiftInto_32 : decode cX5_shiftInto 32 = .ok (.istore 8, 2) := by decide +kernel
theorem dX5_shiftInto_34 : decode cX5_shiftInto 34 = .ok (.iconst 0, 1) := by decide +kernel
theorem dX5_shiftInto_35 : decode cX5_shiftInto 35 = .ok (.istore 9, 2) := by decide +kernel
theorem dX5_shiftInto_37 : decode cX5_shiftInto 37 = .ok (.iload 9, 2) := by decide +kernel
theorem dX5_shiftInto_39 : decode cX5_shiftInto 39 = .ok (.iload_n 3, 1) := by decide +kernel
theorem dX5_shiftInto_40 : decode cX5_shiftInto 40 = .ok (.if_icmp .ge 93, 3) := by decide +kernel
theorem dX5_shiftInto_43 : decode cX5_shiftInto 43 = .ok (.iload 5, 2) := by decide +kernel
theorem dX5_shiftInto_45 : decode cX5_shiftInto 45 = .ok (.iload 9, 2) := by decide +kernel
theorem dX5_shiftInto_47 : decode cX5_shiftInto 47 = .ok (.iadd, 1) := by decide +kernel
theorem dX5_shiftInto_48 : decode cX5_shiftInto 48 = .ok (.iload 7, 2) := by decide +kernel
theorem dX5_shiftInto_50 : decode cX5_shiftInto 50 = .ok (.if_icmp .ge 83, 3) := by decide +kernel
theorem dX5_shiftInto_53 : decode cX5_shiftInto 53 = .ok (.aload_n 0, 1) := by decide +kernel
theorem dX5_shiftInto_54 : decode cX5_shiftInto 54 = .ok (.getfield 11, 3) := by decide +kernel
theorem dX5_shiftInto_57 : decode cX5_shiftInto 57 = .ok (.iload 5, 2) := by decide +kernel
theorem dX5_shiftInto_59 : decode cX5_shiftInto 59 = .ok (.iload 9, 2) := by decide +kernel
theorem dX5_shiftInto_61 : decode cX5_shiftInto 61 = .ok (.iadd, 1) := by decide +kernel
theorem dX5_shiftInto_62 : decode cX5_shiftInto 62 = .ok (.dup2, 1) := by decide +kernel
theorem dX5_shiftInto_63 : decode cX5_shiftInto 63 = .ok (.laload, 1) := by decide +kernel
theorem dX5_shiftInto_64 : decode cX5_shiftInto 64 = .ok (.aload_n 0, 1) := by decide +kernel
theorem dX5_shiftInto_65 : decode cX5_shiftInto 65 = .ok (.getfield 11, 3) := by decide +kernel
theorem dX5_shiftInto_68 : decode cX5_shiftInto 68 = .ok (.iload 6, 2) := by decide +kernel
theorem dX5_shiftInto_70 : decode cX5_shiftInto 70 = .ok (.iload 9, 2) := by decide +kernel
theorem dX5_shiftInto_72 : decode cX5_shiftInto 72 = .ok (.iadd, 1) := by decide +kernel
theorem dX5_shiftInto_73 : decode cX5_shiftInto 73 = .ok (.laload, 1) := by decide +kernel
theorem dX5_shiftInto_74 : decode cX5_shiftInto 74 = .ok (.iload 8, 2) := by decide +kernel
theorem dX5_shiftInto_76 : decode cX5_shiftInto 76 = .ok (.lshl, 1) := by decide +kernel
theorem dX5_shiftInto_77 : decode cX5_shiftInto 77 = .ok (.lor, 1) := by decide +kernel
theorem dX5_shiftInto_78 : decode cX5_shiftInto 78 = .ok (.lastore, 1) := by decide +kernel
theorem dX5_shiftInto_79 : decode cX5_shiftInto 79 = .ok (.iload 8, 2) := by decide +kernel
theorem dX5_shiftInto_81 : decode cX5_shiftInto 81 = .ok (.ifCond .le 46, 3) := by decide +kernel
theorem dX5_shiftInto_84 : decode cX5_shiftInto 84 = .ok (.iload 5, 2) := by decide +kernel
theorem dX5_shiftInto_86 : decode cX5_shiftInto 86 = .ok (.iload 9, 2) := by decide +kernel
theorem dX5_shiftInto_88 : decode cX5_shiftInto 88 = .ok (.iadd, 1) := by decide +kernel
theorem dX5_shiftInto_89 : decode cX5_shiftInto 89 = .ok (.iconst 1, 1) := by decide +kernel
theorem dX5_shiftInto_90 : decode cX5_shiftInto 90 = .ok (.iadd, 1) := by decide +kernel
theorem dX5_shiftInto_91 : decode cX5_shiftInto 91 = .ok (.iload 7, 2) := by decide +kernel
theorem dX5_shiftInto_93 : decode cX5_shiftInto 93 = .ok (.if_icmp .ge 34, 3) := by decide +kernel
theorem dX5_shiftInto_96 : decode cX5_shiftInto 96 = .ok (.aload_n 0, 1) := by decide +kernel
theorem dX5_shiftInto_97 : decode cX5_shiftInto 97 = .ok (.getfield 11, 3) := by decide +kernel
theorem dX5_shiftInto_100 : decode cX5_shiftInto 100 = .ok (.iload 5, 2) := by decide +kernel
theorem dX5_shiftInto_102 : decode cX5_shiftInto 102 = .ok (.iload 9, 2) := by decide +kernel
theorem dX5_shiftInto_104 : decode cX5_shiftInto 104 = .ok (.iadd, 1) := by decide +kernel
theorem dX5_shiftInto_105 : decode cX5_shiftInto 105 = .ok (.iconst 1, 1) := by decide +kernel
theorem dX5_shiftInto_106 : decode cX5_shiftInto 106 = .ok (.iadd, 1) := by decide +kernel
theorem dX5_shiftInto_107 : decode cX5_shiftInto 107 = .ok (.dup2, 1) := by decide +kernel
theorem dX5_shiftInto_108 : decode cX5_shiftInto 108 = .ok (.laload, 1) := by decide +kernel
theorem dX5_shiftInto_109 : decode cX5_shiftInto 109 = .ok (.aload_n 0, 1) := by decide +kernel
theorem dX5_shiftInto_110 : decode cX5_shiftInto 110 = .ok (.getfield 11, 3) := by decide +kernel
theorem dX5_shiftInto_113 : decode cX5_shiftInto 113 = .ok (.iload 6, 2) := by decide +kernel
theorem dX5_shiftInto_115 : decode cX5_shiftInto 115 = .ok (.iload 9, 2) := by decide +kernel
theorem dX5_shiftInto_117 : decode cX5_shiftInto 117 = .ok (.iadd, 1) := by decide +kernel
theorem dX5_shiftInto_118 : decode cX5_shiftInto 118 = .ok (.laload, 1) := by decide +kernel
theorem dX5_shiftInto_119 : decode cX5_shiftInto 119 = .ok (.bipush 64, 2) := by decide +kernel
theorem dX5_shiftInto_121 : decode cX5_shiftInto 121 = .ok (.iload 8, 2) := by decide +kernel
theorem dX5_shiftInto_123 : decode cX5_shiftInto 123 = .ok (.isub, 1) := by decide +kernel
theorem dX5_shiftInto_124 : decode cX5_shiftInto 124 = .ok (.lushr, 1) := by decide +kernel
theorem dX5_shiftInto_125 : decode cX5_shiftInto 125 = .ok (.lor, 1) := by decide +kernel
theorem dX5_shiftInto_126 : decode cX5_shiftInto 126 = .ok (.lastore, 1) := by decide +kernel
theorem dX5_shiftInto_127 : decode cX5_shiftInto 127 = .ok (.iinc 9 1, 3) := by decide +kernel
theorem dX5_shiftInto_130 : decode cX5_shiftInto 130 = .ok (.goto (-93), 3) := by decide +kernel
theorem dX5_shiftInto_133 : decode cX5_shiftInto 133 = .ok (.return_, 1) := by decide +kernel
theorem dX5_setsFor_0 : decode cX5_setsFor 0 = .ok (.iconst 0, 1) := by decide +kernel
theorem dX5_setsFor_1 : decode cX5_setsFor 1 = .ok (.istore_n 3, 1) := by decide +kernel
theorem dX5_setsFor_2 : decode cX5_setsFor 2 = .ok (.iconst 0, 1) := by decide +kernel
theorem dX5_setsFor_3 : decode cX5_setsFor 3 = .ok (.istore 4, 2) := by decide +kernel
theorem dX5_setsFor_5 : decode cX5_setsFor 5 = .ok (.iload 4, 2) := by decide +kernel
theorem dX5_setsFor_7 : decode cX5_setsFor 7 = .ok (.iconst 1, 1) := by decide +kernel
theorem dX5_setsFor_8 : decode cX5_setsFor 8 = .ok (.iload_n 2, 1) := by decide +kernel
theorem dX5_setsFor_9 : decode cX5_setsFor 9 = .ok (.ishl, 1) := by decide +kernel
theorem dX5_setsFor_10 : decode cX5_setsFor 10 = .ok (.if_icmp .ge 27, 3) := by decide +kernel
theorem dX5_setsFor_13 : decode cX5_setsFor 13 = .ok (.iload_n 3, 1) := by decide +kernel
theorem dX5_setsFor_14 : decode cX5_setsFor 14 = .ok (.aload_n 0, 1) := by decide +kernel
theorem dX5_setsFor_15 : decode cX5_setsFor 15 = .ok (.iload 4, 2) := by decide +kernel
theorem dX5_setsFor_17 : decode cX5_setsFor 17 = .ok (.iload_n 1, 1) := by decide +kernel
theorem dX5_setsFor_18 : decode cX5_setsFor 18 = .ok (.invokevirtual 61, 3) := by decide +kernel
theorem dX5_setsFor_21 : decode cX5_setsFor 21 = .ok (.ifCond .eq 7, 3) := by decide +kernel
theorem dX5_setsFor_24 : decode cX5_setsFor 24 = .ok (.iconst 1, 1) := by decide +kernel
theorem dX5_setsFor_25 : decode cX5_setsFor 25 = .ok (.goto 4, 3) := by decide +kernel
theorem dX5_setsFor_28 : decode cX5_setsFor 28 = .ok (.iconst 0, 1) := by decide +kernel
theorem dX5_setsFor_29 : decode cX5_setsFor 29 = .ok (.iadd, 1) := by decide +kernel
theorem dX5_setsFor_30 : decode cX5_setsFor 30 = .ok (.istore_n 3, 1) := by decide +kernel
theorem dX5_setsFor_31 : decode cX5_setsFor 31 = .ok (.iinc 4 1, 3) := by decide +kernel
theorem dX5_setsFor_34 : decode cX5_setsFor 34 = .ok (.goto (-29), 3) := by decide +kernel
theorem dX5_setsFor_37 : decode cX5_setsFor 37 = .ok (.iload_n 3, 1) := by decide +kernel
theorem dX5_setsFor_38 : decode cX5_setsFor 38 = .ok (.ireturn, 1) := by decide +kernel
theorem dX5_lotsInAll_0 : decode cX5_lotsInAll 0 = .ok (.iconst (-1), 1) := by decide +kernel
theorem dX5_lotsInAll_1 : decode cX5_lotsInAll 1 = .ok (.istore_n 3, 1) := by decide +kernel
theorem dX5_lotsInAll_2 : decode cX5_lotsInAll 2 = .ok (.iconst 0, 1) := by decide +kernel
theorem dX5_lotsInAll_3 : decode cX5_lotsInAll 3 = .ok (.istore 4, 2) := by decide +kernel
theorem dX5_lotsInAll_5 : decode cX5_lotsInAll 5 = .ok (.iload 4, 2) := by decide +kernel
theorem dX5_lotsInAll_7 : decode cX5_lotsInAll 7 = .ok (.iconst 1, 1) := by decide +kernel
theorem dX5_lotsInAll_8 : decode cX5_lotsInAll 8 = .ok (.iload_n 2, 1) := by decide +kernel
theorem dX5_lotsInAll_9 : decode cX5_lotsInAll 9 = .ok (.ishl, 1) := by decide +kernel
theorem dX5_lotsInAll_10 : decode cX5_lotsInAll 10 = .ok (.if_icmp .ge 24, 3) := by decide +kernel
theorem dX5_lotsInAll_13 : decode cX5_lotsInAll 13 = .ok (.aload_n 0, 1) := by decide +kernel
theorem dX5_lotsInAll_14 : decode cX5_lotsInAll 14 = .ok (.iload 4, 2) := by decide +kernel
theorem dX5_lotsInAll_16 : decode cX5_lotsInAll 16 = .ok (.iload_n 1, 1) := by decide +kernel
theorem dX5_lotsInAll_17 : decode cX5_lotsInAll 17 = .ok (.invokevirtual 61, 3) := by decide +kernel
theorem dX5_lotsInAll_20 : decode cX5_lotsInAll 20 = .ok (.ifCond .eq 8, 3) := by decide +kernel
theorem dX5_lotsInAll_23 : decode cX5_lotsInAll 23 = .ok (.iload_n 3, 1) := by decide +kernel
theorem dX5_lotsInAll_24 : decode cX5_lotsInAll 24 = .ok (.iload 4, 2) := by decide +kernel
theorem dX5_lotsInAll_26 : decode cX5_lotsInAll 26 = .ok (.iand, 1) := by decide +kernel
theorem dX5_lotsInAll_27 : decode cX5_lotsInAll 27 = .ok (.istore_n 3, 1) := by decide +kernel
theorem dX5_lotsInAll_28 : decode cX5_lotsInAll 28 = .ok (.iinc 4 1, 3) := by decide +kernel
theorem dX5_lotsInAll_31 : decode cX5_lotsInAll 31 = .ok (.goto (-26), 3) := by decide +kernel
theorem dX5_lotsInAll_34 : decode cX5_lotsInAll 34 = .ok (.iload_n 3, 1) := by decide +kernel
theorem dX5_lotsInAll_35 : decode cX5_lotsInAll 35 = .ok (.ireturn, 1) := by decide +kernel
theorem dX5_canSum_0 : decode cX5_canSum 0 = .ok (.iload_n 1, 1) := by decide +kernel
theorem dX5_canSum_1 : decode cX5_canSum 1 = .ok (.bipush 8, 2) := by decide +kernel
theorem dX5_canSum_3 : decode cX5_canSum 3 = .ok (.irem, 1) := by decide +kernel
theorem dX5_canSum_4 : decode cX5_canSum 4 = .ok (.bipush 47, 2) := by decide +kernel
theorem dX5_canSum_6 : decode cX5_canSum 6 = .ok (.imul, 1) := by decide +kernel
theorem dX5_canSum_7 : decode cX5_canSum 7 = .ok (.istore_n 3, 1) := by decide +kernel
theorem dX5_canSum_8 : decode cX5_canSum 8 = .ok (.bipush 8, 2) := by decide +kernel
theorem dX5_canSum_10 : decode cX5_canSum 10 = .ok (.iload_n 1, 1) := by decide +kernel
theorem dX5_canSum_11 : decode cX5_canSum 11 = .ok (.bipush 8, 2) := by decide +kernel
theorem dX5_canSum_13 : decode cX5_canSum 13 = .ok (.idiv, 1) := by decide +kernel
theorem dX5_canSum_14 : decode cX5_canSum 14 = .ok (.iadd, 1) := by decide +kernel
theorem dX5_canSum_15 : decode cX5_canSum 15 = .ok (.bipush 47, 2) := by decide +kernel
theorem dX5_canSum_17 : decode cX5_canSum 17 = .ok (.imul, 1) := by decide +kernel
theorem dX5_canSum_18 : decode cX5_canSum 18 = .ok (.istore 4, 2) := by decide +kernel
theorem dX5_canSum_20 : decode cX5_canSum 20 = .ok (.iload_n 2, 1) := by decide +kernel
theorem dX5_canSum_21 : decode cX5_canSum 21 = .ok (.sipush 999, 3) := by decide +kernel
theorem dX5_canSum_24 : decode cX5_canSum 24 = .ok (.iload_n 1, 1) := by decide +kernel
theorem dX5_canSum_25 : decode cX5_canSum 25 = .ok (.bipush 8, 2) := by decide +kernel
theorem dX5_canSum_27 : decode cX5_canSum 27 = .ok (.irem, 1) := by decide +kernel
theorem dX5_canSum_28 : decode cX5_canSum 28 = .ok (.invokestatic 51, 3) := by decide +kernel
theorem dX5_canSum_31 : decode cX5_canSum 31 = .ok (.imul, 1) := by decide +kernel
theorem dX5_canSum_32 : decode cX5_canSum 32 = .ok (.invokestatic 29, 3) := by decide +kernel
theorem dX5_canSum_35 : decode cX5_canSum 35 = .ok (.istore 5, 2) := by decide +kernel
theorem dX5_canSum_37 : decode cX5_canSum 37 = .ok (.iconst 0, 1) := by decide +kernel
theorem dX5_canSum_38 : decode cX5_canSum 38 = .ok (.iload_n 2, 1) := by decide +kernel
theorem dX5_canSum_39 : decode cX5_canSum 39 = .ok (.sipush 999, 3) := by decide +kernel
theorem dX5_canSum_42 : decode cX5_canSum 42 = .ok (.iload_n 1, 1) := by decide +kernel
theorem dX5_canSum_43 : decode cX5_canSum 43 = .ok (.bipush 8, 2) := by decide +kernel
theorem dX5_canSum_45 : decode cX5_canSum 45 = .ok (.idiv, 1) := by decide +kernel
theorem dX5_canSum_46 : decode cX5_canSum 46 = .ok (.invokestatic 51, 3) := by decide +kernel
theorem dX5_canSum_49 : decode cX5_canSum 49 = .ok (.imul, 1) := by decide +kernel
theorem dX5_canSum_50 : decode cX5_canSum 50 = .ok (.isub, 1) := by decide +kernel
theorem dX5_canSum_51 : decode cX5_canSum 51 = .ok (.invokestatic 39, 3) := by decide +kernel
theorem dX5_canSum_54 : decode cX5_canSum 54 = .ok (.istore 6, 2) := by decide +kernel
theorem dX5_canSum_56 : decode cX5_canSum 56 = .ok (.iload 6, 2) := by decide +kernel
theorem dX5_canSum_58 : decode cX5_canSum 58 = .ok (.istore 7, 2) := by decide +kernel
theorem dX5_canSum_60 : decode cX5_canSum 60 = .ok (.iload 7, 2) := by decide +kernel
theorem dX5_canSum_62 : decode cX5_canSum 62 = .ok (.iload 5, 2) := by decide +kernel
theorem dX5_canSum_64 : decode cX5_canSum 64 = .ok (.if_icmp .gt 34, 3) := by decide +kernel
theorem dX5_canSum_67 : decode cX5_canSum 67 = .ok (.aload_n 0, 1) := by decide +kernel
theorem dX5_canSum_68 : decode cX5_canSum 68 = .ok (.iload_n 3, 1) := by decide +kernel
theorem dX5_canSum_69 : decode cX5_canSum 69 = .ok (.iload 7, 2) := by decide +kernel
theorem dX5_canSum_71 : decode cX5_canSum 71 = .ok (.invokevirtual 64, 3) := by decide +kernel
theorem dX5_canSum_74 : decode cX5_canSum 74 = .ok (.ifCond .eq 18, 3) := by decide +kernel
theorem dX5_canSum_77 : decode cX5_canSum 77 = .ok (.aload_n 0, 1) := by decide +kernel
theorem dX5_canSum_78 : decode cX5_canSum 78 = .ok (.iload 4, 2) := by decide +kernel
theorem dX5_canSum_80 : decode cX5_canSum 80 = .ok (.iload_n 2, 1) := by decide +kernel
theorem dX5_canSum_81 : decode cX5_canSum 81 = .ok (.iload 7, 2) := by decide +kernel
theorem dX5_canSum_83 : decode cX5_canSum 83 = .ok (.isub, 1) := by decide +kernel
theorem dX5_canSum_84 : decode cX5_canSum 84 = .ok (.invokevirtual 64, 3) := by decide +kernel
theorem dX5_canSum_87 : decode cX5_canSum 87 = .ok (.ifCond .eq 5, 3) := by decide +kernel
theorem dX5_canSum_90 : decode cX5_canSum 90 = .ok (.iconst 1, 1) := by decide +kernel
theorem dX5_canSum_91 : decode cX5_canSum 91 = .ok (.ireturn, 1) := by decide +kernel
theorem dX5_canSum_92 : decode cX5_canSum 92 = .ok (.iinc 7 1, 3) := by decide +kernel
theorem dX5_canSum_95 : decode cX5_canSum 95 = .ok (.goto (-35), 3) := by decide +kernel
theorem dX5_canSum_98 : decode cX5_canSum 98 = .ok (.iconst 0, 1) := by decide +kernel
theorem dX5_canSum_99 : decode cX5_canSum 99 = .ok (.ireturn, 1) := by decide +kernel
theorem dX5_hasBit_0 : decode cX5_hasBit 0 = .ok (.iload_n 2, 1) := by decide +kernel
theorem dX5_hasBit_1 : decode cX5_hasBit 1 = .ok (.ifCond .lt 37, 3) := by decide +kernel
theorem dX5_hasBit_4 : decode cX5_hasBit 4 = .ok (.iload_n 2, 1) := by decide +kernel
theorem dX5_hasBit_5 : decode cX5_hasBit 5 = .ok (.sipush 2997, 3) := by decide +kernel
theorem dX5_hasBit_8 : decode cX5_hasBit 8 = .ok (.if_icmp .gt 30, 3) := by decide +kernel
theorem dX5_hasBit_11 : decode cX5_hasBit 11 = .ok (.aload_n 0, 1) := by decide +kernel
theorem dX5_hasBit_12 : decode cX5_hasBit 12 = .ok (.getfield 11, 3) := by decide +kernel
theorem dX5_hasBit_15 : decode cX5_hasBit 15 = .ok (.iload_n 1, 1) := by decide +kernel
theorem dX5_hasBit_16 : decode cX5_hasBit 16 = .ok (.iload_n 2, 1) := by decide +kernel
theorem dX5_hasBit_17 : decode cX5_hasBit 17 = .ok (.bipush 64, 2) := by decide +kernel
theorem dX5_hasBit_19 : decode cX5_hasBit 19 = .ok (.idiv, 1) := by decide +kernel
theorem dX5_hasBit_20 : decode cX5_hasBit 20 = .ok (.iadd, 1) := by decide +kernel
theorem dX5_hasBit_21 : decode cX5_hasBit 21 = .ok (.laload, 1) := by decide +kernel
theorem dX5_hasBit_22 : decode cX5_hasBit 22 = .ok (.iload_n 2, 1) := by decide +kernel
theorem dX5_hasBit_23 : decode cX5_hasBit 23 = .ok (.bipush 64, 2) := by decide +kernel
theorem dX5_hasBit_25 : decode cX5_hasBit 25 = .ok (.irem, 1) := by decide +kernel
theorem dX5_hasBit_26 : decode cX5_hasBit 26 = .ok (.lushr, 1) := by decide +kernel
theorem dX5_hasBit_27 : decode cX5_hasBit 27 = .ok (.lconst 1, 1) := by decide +kernel
theorem dX5_hasBit_28 : decode cX5_hasBit 28 = .ok (.land, 1) := by decide +kernel
theorem dX5_hasBit_29 : decode cX5_hasBit 29 = .ok (.lconst 1, 1) := by decide +kernel
theorem dX5_hasBit_30 : decode cX5_hasBit 30 = .ok (.lcmp, 1) := by decide +kernel
theorem dX5_hasBit_31 : decode cX5_hasBit 31 = .ok (.ifCond .ne 7, 3) := by decide +kernel
theorem dX5_hasBit_34 : decode cX5_hasBit 34 = .ok (.iconst 1, 1) := by decide +kernel
theorem dX5_hasBit_35 : decode cX5_hasBit 35 = .ok (.goto 4, 3) := by decide +kernel
theorem dX5_hasBit_38 : decode cX5_hasBit 38 = .ok (.iconst 0, 1) := by decide +kernel
theorem dX5_hasBit_39 : decode cX5_hasBit 39 = .ok (.ireturn, 1) := by decide +kernel
theorem dX6_init_0 : decode cX6_init 0 = .ok (.aload_n 0, 1) := by decide +kernel
theorem dX6_init_1 : decode cX6_init 1 = .ok (.invokespecial 3, 3) := by decide +kernel
theorem dX6_init_4 : decode cX6_init 4 = .ok (.aload_n 0, 1) := by decide +kernel
theorem dX6_init_5 : decode cX6_init 5 = .ok (.sipush 500, 3) := by decide +kernel
theorem dX6_init_8 : decode cX6_init 8 = .ok (.newarray .byte, 2) := by decide +kernel
theorem dX6_init_10 : decode cX6_init 10 = .ok (.putfield 9, 3) := by decide +kernel
theorem dX6_init_13 : decode cX6_init 13 = .ok (.return_, 1) := by decide +kernel
theorem dX6_append_0 : decode cX6_append 0 = .ok (.iload_n 1, 1) := by decide +kernel
theorem dX6_append_1 : decode cX6_append 1 = .ok (.iconst 1, 1) := by decide +kernel
theorem dX6_append_2 : decode cX6_append 2 = .ok (.isub, 1) := by decide +kernel
theorem dX6_append_3 : decode cX6_append 3 = .ok (.istore 4, 2) := by decide +kernel
theorem dX6_append_5 : decode cX6_append 5 = .ok (.iload 4, 2) := by decide +kernel
theorem dX6_append_7 : decode cX6_append 7 = .ok (.ifCond .lt 47, 3) := by decide +kernel
theorem dX6_append_10 : decode cX6_append 10 = .ok (.aload_n 0, 1) := by decide +kernel
theorem dX6_append_11 : decode cX6_append 11 = .ok (.getfield 15, 3) := by decide +kernel
theorem dX6_append_14 : decode cX6_append 14 = .ok (.sipush 500, 3) := by decide +kernel
theorem dX6_append_17 : decode cX6_append 17 = .ok (.if_icmp .ge 37, 3) := by decide +kernel
theorem dX6_append_20 : decode cX6_append 20 = .ok (.aload_n 0, 1) := by decide +kernel
theorem dX6_append_21 : decode cX6_append 21 = .ok (.getfield 9, 3) := by decide +kernel
theorem dX6_append_24 : decode cX6_append 24 = .ok (.aload_n 0, 1) := by decide +kernel
theorem dX6_append_25 : decode cX6_append 25 = .ok (.getfield 15, 3) := by decide +kernel
theorem dX6_append_28 : decode cX6_append 28 = .ok (.lload_n 2, 1) := by decide +kernel
theorem dX6_append_29 : decode cX6_append 29 = .ok (.bipush 8, 2) := by decide +kernel
theorem dX6_append_31 : decode cX6_append 31 = .ok (.iload 4, 2) := by decide +kernel
theorem dX6_append_33 : decode cX6_append 33 = .ok (.imul, 1) := by decide +kernel
theorem dX6_append_34 : decode cX6_append 34 = .ok (.lushr, 1) := by decide +kernel
theorem dX6_append_35 : decode cX6_append 35 = .ok (.l2i, 1) := by decide +kernel
theorem dX6_append_36 : decode cX6_append 36 = .ok (.i2b, 1) := by decide +kernel
theorem dX6_append_37 : decode cX6_append 37 = .ok (.bastore, 1) := by decide +kernel
theorem dX6_append_38 : decode cX6_append 38 = .ok (.aload_n 0, 1) := by decide +kernel
theorem dX6_append_39 : decode cX6_append 39 = .ok (.dup, 1) := by decide +kernel
theorem dX6_append_40 : decode cX6_append 40 = .ok (.getfield 15, 3) := by decide +kernel
theorem dX6_append_43 : decode cX6_append 43 = .ok (.iconst 1, 1) := by decide +kernel
theorem dX6_append_44 : decode cX6_append 44 = .ok (.iadd, 1) := by decide +kernel
theorem dX6_append_45 : decode cX6_append 45 = .ok (.putfield 15, 3) := by decide +kernel
theorem dX6_append_48 : decode cX6_append 48 = .ok (.iinc 4 (-1), 3) := by decide +kernel
theorem dX6_append_51 : decode cX6_append 51 = .ok (.goto (-46), 3) := by decide +kernel
theorem dX6_append_54 : decode cX6_append 54 = .ok (.return_, 1) := by decide +kernel
theorem dX6_byteAt_0 : decode cX6_byteAt 0 = .ok (.iload_n 1, 1) := by decide +kernel
theorem dX6_byteAt_1 : decode cX6_byteAt 1 = .ok (.ifCond .lt 31, 3) := by decide +kernel
theorem dX6_byteAt_4 : decode cX6_byteAt 4 = .ok (.iload_n 1, 1) := by decide +kernel
theorem dX6_byteAt_5 : decode cX6_byteAt 5 = .ok (.aload_n 0, 1) := by decide +kernel
theorem dX6_byteAt_6 : decode cX6_byteAt 6 = .ok (.getfield 15, 3) := by decide +kernel
theorem dX6_byteAt_9 : decode cX6_byteAt 9 = .ok (.if_icmp .ge 23, 3) := by decide +kernel
theorem dX6_byteAt_12 : decode cX6_byteAt 12 = .ok (.iload_n 1, 1) := by decide +kernel
theorem dX6_byteAt_13 : decode cX6_byteAt 13 = .ok (.sipush 500, 3) := by decide +kernel
theorem dX6_byteAt_16 : decode cX6_byteAt 16 = .ok (.if_icmp .ge 16, 3) := by decide +kernel
theorem dX6_byteAt_19 : decode cX6_byteAt 19 = .ok (.aload_n 0, 1) := by decide +kernel
theorem dX6_byteAt_20 : decode cX6_byteAt 20 = .ok (.getfield 9, 3) := by decide +kernel
theorem dX6_byteAt_23 : decode cX6_byteAt 23 = .ok (.iload_n 1, 1) := by decide +kernel
theorem dX6_byteAt_24 : decode cX6_byteAt 24 = .ok (.baload, 1) := by decide +kernel
theorem dX6_byteAt_25 : decode cX6_byteAt 25 = .ok (.sipush 255, 3) := by decide +kernel
theorem dX6_byteAt_28 : decode cX6_byteAt 28 = .ok (.iand, 1) := by decide +kernel
theorem dX6_byteAt_29 : decode cX6_byteAt 29 = .ok (.goto 4, 3) := by decide +kernel
theorem dX6_byteAt_32 : decode cX6_byteAt 32 = .ok (.iconst (-1), 1) := by decide +kernel
theorem dX6_byteAt_33 : decode cX6_byteAt 33 = .ok (.ireturn, 1) := by decide +kernel
theorem dX6_pricePressed_0 : decode cX6_pricePressed 0 = .ok (.aload_n 0, 1) := by decide +kernel
theorem dX6_pricePressed_1 : decode cX6_pricePressed 1 = .ok (.getfield 15, 3) := by decide +kernel
theorem dX6_pricePressed_4 : decode cX6_pricePressed 4 = .ok (.bipush 20, 2) := by decide +kernel
theorem dX6_pricePressed_6 : decode cX6_pricePressed 6 = .ok (.if_icmp .le 5, 3) := by decide +kernel
theorem dX6_pricePressed_9 : decode cX6_pricePressed 9 = .ok (.iconst (-1), 1) := by decide +kernel
theorem dX6_pricePressed_10 : decode cX6_pricePressed 10 = .ok (.ireturn, 1) := by decide +kernel
theorem dX6_pricePressed_11 : decode cX6_pricePressed 11 = .ok (.iconst 0, 1) := by decide +kernel
theorem dX6_pricePressed_12 : decode cX6_pricePressed 12 = .ok (.istore_n 1, 1) := by decide +kernel
theorem dX6_pricePressed_13 : decode cX6_pricePressed 13 = .ok (.iconst 0, 1) := by decide +kernel
theorem dX6_pricePressed_14 : decode cX6_pricePressed 14 = .ok (.istore_n 2, 1) := by decide +kernel
theorem dX6_pricePressed_15 : decode cX6_pricePressed 15 = .ok (.iload_n 2, 1) := by decide +kernel
theorem dX6_pricePressed_16 : decode cX6_pricePressed 16 = .ok (.aload_n 0, 1) := by decide +kernel
theorem dX6_pricePressed_17 : decode cX6_pricePressed 17 = .ok (.getfield 15, 3) := by decide +kernel
theorem dX6_pricePressed_20 : decode cX6_pricePressed 20 = .ok (.if_icmp .ge 24, 3) := by decide +kernel
theorem dX6_pricePressed_23 : decode cX6_pricePressed 23 = .ok (.iload_n 1, 1) := by decide +kernel
theorem dX6_pricePressed_24 : decode cX6_pricePressed 24 = .ok (.iconst (-1), 1) := by decide +kernel
theorem dX6_pricePressed_25 : decode cX6_pricePressed 25 = .ok (.if_icmp .eq 19, 3) := by decide +kernel
theorem dX6_pricePressed_28 : decode cX6_pricePressed 28 = .ok (.iload_n 1, 1) := by decide +kernel
theorem dX6_pricePressed_29 : decode cX6_pricePressed 29 = .ok (.aload_n 0, 1) := by decide +kernel
theorem dX6_pricePressed_30 : decode cX6_pricePressed 30 = .ok (.iload_n 2, 1) := by decide +kernel
theorem dX6_pricePressed_31 : decode cX6_pricePressed 31 = .ok (.invokevirtual 19, 3) := by decide +kernel
theorem dX6_pricePressed_34 : decode cX6_pricePressed 34 = .ok (.invokestatic 23, 3) := by decide +kernel
theorem dX6_pricePressed_37 : decode cX6_pricePressed 37 = .ok (.istore_n 1, 1) := by decide +kernel
theorem dX6_pricePressed_38 : decode cX6_pricePressed 38 = .ok (.iinc 2 1, 3) := by decide +kernel
theorem dX6_pricePressed_41 : decode cX6_pricePressed 41 = .ok (.goto (-26), 3) := by decide +kernel
theorem dX6_pricePressed_44 : decode cX6_pricePressed 44 = .ok (.iload_n 1, 1) := by decide +kernel
theorem dX6_pricePressed_45 : decode cX6_pricePressed 45 = .ok (.iconst 1, 1) := by decide +kernel
theorem dX6_pricePressed_46 : decode cX6_pricePressed 46 = .ok (.sipush 999, 3) := by decide +kernel
theorem dX6_pricePressed_49 : decode cX6_pricePressed 49 = .ok (.invokestatic 27, 3) := by decide +kernel
theorem dX6_pricePressed_52 : decode cX6_pricePressed 52 = .ok (.ifCond .eq 7, 3) := by decide +kernel
theorem dX6_pricePressed_55 : decode cX6_pricePressed 55 = .ok (.iload_n 1, 1) := by decide +kernel
theorem dX6_pricePressed_56 : decode cX6_pricePressed 56 = .ok (.goto 4, 3) := by decide +kernel
theorem dX6_pricePressed_59 : decode cX6_pricePressed 59 = .ok (.iconst (-1), 1) := by decide +kernel
theorem dX6_pricePressed_60 : decode cX6_pricePressed 60 = .ok (.ireturn, 1) := by decide +kernel
theorem dX6_afterSign_0 : decode cX6_afterSign 0 = .ok (.iload_n 1, 1) := by decide +kernel
theorem dX6_afterSign_1 : decode cX6_afterSign 1 = .ok (.lookupswitch 83 #[(99, 51), (100, 65), (104, 69), (105, 61), (120, 56)], 51) := by decide +kernel
theorem dX6_afterSign_52 : decode cX6_afterSign 52 = .ok (.iload_n 0, 1) := by decide +kernel
theorem dX6_afterSign_53 : decode cX6_afterSign 53 = .ok (.bipush 100, 2) := by decide +kernel
theorem dX6_afterSign_55 : decode cX6_afterSign 55 = .ok (.iadd, 1) := by decide +kernel
theorem dX6_afterSign_56 : decode cX6_afterSign 56 = .ok (.ireturn, 1) := by decide +kernel
theorem dX6_afterSign_57 : decode cX6_afterSign 57 = .ok (.iload_n 0, 1) := by decide +kernel
theorem dX6_afterSign_58 : decode cX6_afterSign 58 = .ok (.bipush 10, 2) := by decide +kernel
theorem dX6_afterSign_60 : decode cX6_afterSign 60 = .ok (.iadd, 1) := by decide +kernel
theorem dX6_afterSign_61 : decode cX6_afterSign 61 = .ok (.ireturn, 1) := by decide +kernel
theorem dX6_afterSign_62 : decode cX6_afterSign 62 = .ok (.iload_n 0, 1) := by decide +kernel
theorem dX6_afterSign_63 : decode cX6_afterSign 63 = .ok (.iconst 1, 1) := by decide +kernel
theorem dX6_afterSign_64 : decode cX6_afterSign 64 = .ok (.iadd, 1) := by decide +kernel
theorem dX6_afterSign_65 : decode cX6_afterSign 65 = .ok (.ireturn, 1) := by decide +kernel
theorem dX6_afterSign_66 : decode cX6_afterSign 66 = .ok (.iload_n 0, 1) := by decide +kernel
theorem dX6_afterSign_67 : decode cX6_afterSign 67 = .ok (.iconst 2, 1) := by decide +kernel
theorem dX6_afterSign_68 : decode cX6_afterSign 68 = .ok (.imul, 1) := by decide +kernel
theorem dX6_afterSign_69 : decode cX6_afterSign 69 = .ok (.ireturn, 1) := by decide +kernel
theorem dX6_afterSign_70 : decode cX6_afterSign 70 = .ok (.iload_n 0, 1) := by decide +kernel
theorem dX6_afterSign_71 : decode cX6_afterSign 71 = .ok (.iconst 2, 1) := by decide +kernel
theorem dX6_afterSign_72 : decode cX6_afterSign 72 = .ok (.irem, 1) := by decide +kernel
theorem dX6_afterSign_73 : decode cX6_afterSign 73 = .ok (.ifCond .ne 9, 3) := by decide +kernel
theorem dX6_afterSign_76 : decode cX6_afterSign 76 = .ok (.iload_n 0, 1) := by decide +kernel
theorem dX6_afterSign_77 : decode cX6_afterSign 77 = .ok (.iconst 2, 1) := by decide +kernel
theorem dX6_afterSign_78 : decode cX6_afterSign 78 = .ok (.idiv, 1) := by decide +kernel
theorem dX6_afterSign_79 : decode cX6_afterSign 79 = .ok (.goto 4, 3) := by decide +kernel
theorem dX6_afterSign_82 : decode cX6_afterSign 82 = .ok (.iconst (-1), 1) := by decide +kernel
theorem dX6_afterSign_83 : decode cX6_afterSign 83 = .ok (.ireturn, 1) := by decide +kernel
theorem dX6_afterSign_84 : decode cX6_afterSign 84 = .ok (.iconst (-1), 1) := by decide +kernel
theorem dX6_afterSign_85 : decode cX6_afterSign 85 = .ok (.ireturn, 1) := by decide +kernel
theorem dX7_init_0 : decode cX7_init 0 = .ok (.aload_n 0, 1) := by decide +kernel
theorem dX7_init_1 : decode cX7_init 1 = .ok (.invokespecial 3, 3) := by decide +kernel
theorem dX7_init_4 : decode cX7_init 4 = .ok (.aload_n 0, 1) := by decide +kernel
theorem dX7_init_5 : decode cX7_init 5 = .ok (.bipush 6, 2) := by decide +kernel
theorem dX7_init_7 : decode cX7_init 7 = .ok (.newarray .int, 2) := by decide +kernel
theorem dX7_init_9 : decode cX7_init 9 = .ok (.putfield 9, 3) := by decide +kernel
theorem dX7_init_12 : decode cX7_init 12 = .ok (.aload_n 0, 1) := by decide +kernel
theorem dX7_init_13 : decode cX7_init 13 = .ok (.bipush 36, 2) := by decide +kernel
theorem dX7_init_15 : decode cX7_init 15 = .ok (.newarray .int, 2) := by decide +kernel
theorem dX7_init_17 : decode cX7_init 17 = .ok (.putfield 15, 3) := by decide +kernel
theorem dX7_init_20 : decode cX7_init 20 = .ok (.aload_n 0, 1) := by decide +kernel
theorem dX7_init_21 : decode cX7_init 21 = .ok (.bipush 36, 2) := by decide +kernel
theorem dX7_init_23 : decode cX7_init 23 = .ok (.newarray .long, 2) := by decide +kernel
theorem dX7_init_25 : decode cX7_init 25 = .ok (.putfield 18, 3) := by decide +kernel
theorem dX7_init_28 : decode cX7_init 28 = .ok (.aload_n 0, 1) := by decide +kernel
theorem dX7_init_29 : decode cX7_init 29 = .ok (.bipush 64, 2) := by decide +kernel
theorem dX7_init_31 : decode cX7_init 31 = .ok (.newarray .long, 2) := by decide +kernel
theorem dX7_init_33 : decode cX7_init 33 = .ok (.putfield 22, 3) := by decide +kernel
theorem dX7_init_36 : decode cX7_init 36 = .ok (.aload_n 0, 1) := by decide +kernel
theorem dX7_init_37 : decode cX7_init 37 = .ok (.bipush 64, 2) := by decide +kernel
theorem dX7_init_39 : decode cX7_init 39 = .ok (.newarray .long, 2) := by decide +kernel
theorem dX7_init_41 : decode cX7_init 41 = .ok (.putfield 25, 3) := by decide +kernel
theorem dX7_init_44 : decode cX7_init 44 = .ok (.aload_n 0, 1) := by decide +kernel
theorem dX7_init_45 : decode cX7_init 45 = .ok (.aload_n 1, 1) := by decide +kernel
theorem dX7_init_46 : decode cX7_init 46 = .ok (.putfield 28, 3) := by decide +kernel
theorem dX7_init_49 : decode cX7_init 49 = .ok (.return_, 1) := by decide +kernel
theorem dX7_gainIn_0 : decode cX7_gainIn 0 = .ok (.lload_n 0, 1) := by decide +kernel
theorem dX7_gainIn_1 : decode cX7_gainIn 1 = .ok (.invokestatic 32, 3) := by decide +kernel
theorem dX7_gainIn_4 : decode cX7_gainIn 4 = .ok (.ldc2_w 36, 3) := by decide +kernel
theorem dX7_gainIn_7 : decode cX7_gainIn 7 = .ok (.ldiv, 1) := by decide +kernel
theorem dX7_gainIn_8 : decode cX7_gainIn 8 = .ok (.l2i, 1) := by decide +kernel
theorem dX7_gainIn_9 : decode cX7_gainIn 9 = .ok (.ireturn, 1) := by decide +kernel
theorem dX7_lotsIn_0 : decode cX7_lotsIn 0 = .ok (.lload_n 0, 1) := by decide +kernel
theorem dX7_lotsIn_1 : decode cX7_lotsIn 1 = .ok (.invokestatic 32, 3) := by decide +kernel
theorem dX7_lotsIn_4 : decode cX7_lotsIn 4 = .ok (.ldc2_w 36, 3) := by decide +kernel
theorem dX7_lotsIn_7 : decode cX7_lotsIn 7 = .ok (.lrem, 1) := by decide +kernel
theorem dX7_lotsIn_8 : decode cX7_lotsIn 8 = .ok (.l2i, 1) := by decide +kernel
theorem dX7_lotsIn_9 : decode cX7_lotsIn 9 = .ok (.ireturn, 1) := by decide +kernel
theorem dX7_buyerIn_0 : decode cX7_buyerIn 0 = .ok (.lload_n 0, 1) := by decide +kernel
theorem dX7_buyerIn_1 : decode cX7_buyerIn 1 = .ok (.invokestatic 32, 3) := by decide +kernel
theorem dX7_buyerIn_4 : decode cX7_buyerIn 4 = .ok (.ldc2_w 38, 3) := by decide +kernel
theorem dX7_buyerIn_7 : decode cX7_buyerIn 7 = .ok (.lmul, 1) := by decide +kernel
theorem dX7_buyerIn_8 : decode cX7_buyerIn 8 = .ok (.lload_n 0, 1) := by decide +kernel
theorem dX7_buyerIn_9 : decode cX7_buyerIn 9 = .ok (.lsub, 1) := by decide +kernel
theorem dX7_buyerIn_10 : decode cX7_buyerIn 10 = .ok (.lstore_n 3, 1) := by decide +kernel
theorem dX7_buyerIn_11 : decode cX7_buyerIn 11 = .ok (.lload_n 3, 1) := by decide +kernel
theorem dX7_buyerIn_12 : decode cX7_buyerIn 12 = .ok (.getstatic 40, 3) := by decide +kernel
theorem dX7_buyerIn_15 : decode cX7_buyerIn 15 = .ok (.iload_n 2, 1) := by decide +kernel
theorem dX7_buyerIn_16 : decode cX7_buyerIn 16 = .ok (.iaload, 1) := by decide +kernel
theorem dX7_buyerIn_17 : decode cX7_buyerIn 17 = .ok (.i2l, 1) := by decide +kernel
theorem dX7_buyerIn_18 : decode cX7_buyerIn 18 = .ok (.ldiv, 1) := by decide +kernel
theorem dX7_buyerIn_19 : decode cX7_buyerIn 19 = .ok (.ldc2_w 43, 3) := by decide +kernel
theorem dX7_buyerIn_22 : decode cX7_buyerIn 22 = .ok (.lrem, 1) := by decide +kernel
theorem dX7_buyerIn_23 : decode cX7_buyerIn 23 = .ok (.l2i, 1) := by decide +kernel
theorem dX7_buyerIn_24 : decode cX7_buyerIn 24 = .ok (.istore 5, 2) := by decide +kernel
theorem dX7_buyerIn_26 : decode cX7_buyerIn 26 = .ok (.iload 5, 2) := by decide +kernel
theorem dX7_buyerIn_28 : decode cX7_buyerIn 28 = .ok (.bipush 6, 2) := by decide +kernel
theorem dX7_buyerIn_30 : decode cX7_buyerIn 30 = .ok (.if_icmp .ne 7, 3) := by decide +kernel
theorem dX7_buyerIn_33 : decode cX7_buyerIn 33 = .ok (.iconst (-1), 1) := by decide +kernel
theorem dX7_buyerIn_34 : decode cX7_buyerIn 34 = .ok (.goto 5, 3) := by decide +kernel
theorem dX7_buyerIn_37 : decode cX7_buyerIn 37 = .ok (.iload 5, 2) := by decide +kernel
theorem dX7_buyerIn_39 : decode cX7_buyerIn 39 = .ok (.ireturn, 1) := by decide +kernel
theorem dX7_keyIn_0 : decode cX7_keyIn 0 = .ok (.lload_n 0, 1) := by decide +kernel
theorem dX7_keyIn_1 : decode cX7_keyIn 1 = .ok (.ldc2_w 38, 3) := by decide +kernel
theorem dX7_keyIn_4 : decode cX7_keyIn 4 = .ok (.ladd, 1) := by decide +kernel
theorem dX7_keyIn_5 : decode cX7_keyIn 5 = .ok (.lconst 1, 1) := by decide +kernel
theorem dX7_keyIn_6 : decode cX7_keyIn 6 = .ok (.lsub, 1) := by decide +kernel
theorem dX7_keyIn_7 : decode cX7_keyIn 7 = .ok (.ldc2_w 38, 3) := by decide +kernel
theorem dX7_keyIn_10 : decode cX7_keyIn 10 = .ok (.ldiv, 1) := by decide +kernel
theorem dX7_keyIn_11 : decode cX7_keyIn 11 = .ok (.lreturn, 1) := by decide +kernel
theorem dX7_scoreOfAll_0 : decode cX7_scoreOfAll 0 = .ok (.aload_n 0, 1) := by decide +kernel
theorem dX7_scoreOfAll_1 : decode cX7_scoreOfAll 1 = .ok (.invokevirtual 45, 3) := by decide +kernel
theorem dX7_scoreOfAll_4 : decode cX7_scoreOfAll 4 = .ok (.aload_n 0, 1) := by decide +kernel
theorem dX7_scoreOfAll_5 : decode cX7_scoreOfAll 5 = .ok (.aload_n 0, 1) := by decide +kernel
theorem dX7_scoreOfAll_6 : decode cX7_scoreOfAll 6 = .ok (.getfield 22, 3) := by decide +kernel
theorem dX7_scoreOfAll_9 : decode cX7_scoreOfAll 9 = .ok (.iconst (-1), 1) := by decide +kernel
theorem dX7_scoreOfAll_10 : decode cX7_scoreOfAll 10 = .ok (.iconst (-1), 1) := by decide +kernel
theorem dX7_scoreOfAll_11 : decode cX7_scoreOfAll 11 = .ok (.iconst (-1), 1) := by decide +kernel
theorem dX7_scoreOfAll_12 : decode cX7_scoreOfAll 12 = .ok (.invokevirtual 48, 3) := by decide +kernel
theorem dX7_scoreOfAll_15 : decode cX7_scoreOfAll 15 = .ok (.aload_n 0, 1) := by decide +kernel
theorem dX7_scoreOfAll_16 : decode cX7_scoreOfAll 16 = .ok (.getfield 22, 3) := by decide +kernel
theorem dX7_scoreOfAll_19 : decode cX7_scoreOfAll 19 = .ok (.aload_n 0, 1) := by decide +kernel
theorem dX7_scoreOfAll_20 : decode cX7_scoreOfAll 20 = .ok (.invokevirtual 52, 3) := by decide +kernel
theorem dX7_scoreOfAll_23 : decode cX7_scoreOfAll 23 = .ok (.laload, 1) := by decide +kernel
theorem dX7_scoreOfAll_24 : decode cX7_scoreOfAll 24 = .ok (.lreturn, 1) := by decide +kernel
theorem dX7_edgePrice_0 : decode cX7_edgePrice 0 = .ok (.aload_n 0, 1) := by decide +kernel
theorem dX7_edgePrice_1 : decode cX7_edgePrice 1 = .ok (.iload_n 2, 1) := by decide +kernel
theorem dX7_edgePrice_2 : decode cX7_edgePrice 2 = .ok (.iload_n 1, 1) := by decide +kernel
theorem dX7_edgePrice_3 : decode cX7_edgePrice 3 = .ok (.iload_n 1, 1) := by decide +kernel
theorem dX7_edgePrice_4 : decode cX7_edgePrice 4 = .ok (.invokevirtual 56, 3) := by decide +kernel
theorem dX7_edgePrice_7 : decode cX7_edgePrice 7 = .ok (.aload_n 0, 1) := by decide +kernel
theorem dX7_edgePrice_8 : decode cX7_edgePrice 8 = .ok (.iload_n 1, 1) := by decide +kernel
theorem dX7_edgePrice_9 : decode cX7_edgePrice 9 = .ok (.iconst (-1), 1) := by decide +kernel
theorem dX7_edgePrice_10 : decode cX7_edgePrice 10 = .ok (.aload_n 0, 1) := by decide +kernel
theorem dX7_edgePrice_11 : decode cX7_edgePrice 11 = .ok (.invokevirtual 60, 3) := by decide +kernel
theorem dX7_edgePrice_14 : decode cX7_edgePrice 14 = .ok (.invokevirtual 64, 3) := by decide +kernel
theorem dX7_edgePrice_17 : decode cX7_edgePrice 17 = .ok (.ireturn, 1) := by decide +kernel
theorem dX7_open_0 : decode cX7_open 0 = .ok (.aload_n 0, 1) := by decide +kernel
theorem dX7_open_1 : decode cX7_open 1 = .ok (.iload_n 1, 1) := by decide +kernel
theorem dX7_open_2 : decode cX7_open 2 = .ok (.putfield 68, 3) := by decide +kernel
theorem dX7_open_5 : decode cX7_open 5 = .ok (.aload_n 0, 1) := by decide +kernel
theorem dX7_open_6 : decode cX7_open 6 = .ok (.iload_n 2, 1) := by decide +kernel
theorem dX7_open_7 : decode cX7_open 7 = .ok (.putfield 72, 3) := by decide +kernel
theorem dX7_open_10 : decode cX7_open 10 = .ok (.aload_n 0, 1) := by decide +kernel
theorem dX7_open_11 : decode cX7_open 11 = .ok (.iload_n 3, 1) := by decide +kernel
theorem dX7_open_12 : decode cX7_open 12 = .ok (.putfield 75, 3) := by decide +kernel
theorem dX7_open_15 : decode cX7_open 15 = .ok (.aload_n 0, 1) := by decide +kernel
theorem dX7_open_16 : decode cX7_open 16 = .ok (.iconst (-1), 1) := by decide +kernel
theorem dX7_open_17 : decode cX7_open 17 = .ok (.putfield 78, 3) := by decide +kernel
theorem dX7_open_20 : decode cX7_open 20 = .ok (.aload_n 0, 1) := by decide +kernel
theorem dX7_open_21 : decode cX7_open 21 = .ok (.invokevirtual 45, 3) := by decide +kernel
theorem dX7_open_24 : decode cX7_open 24 = .ok (.aload_n 0, 1) := by decide +kernel
theorem dX7_open_25 : decode cX7_open 25 = .ok (.aload_n 0, 1) := by decide +kernel
theorem dX7_open_26 : decode cX7_open 26 = .ok (.getfield 22, 3) := by decide +kernel
theorem dX7_open_29 : decode cX7_open 29 = .ok (.iload_n 3, 1) := by decide +kernel
theorem dX7_open_30 : decode cX7_open 30 = .ok (.iconst (-1), 1) := by decide +kernel
theorem dX7_open_31 : decode cX7_open 31 = .ok (.iconst (-1), 1) := by decide +kernel
theorem dX7_open_32 : decode cX7_open 32 = .ok (.invokevirtual 48, 3) := by decide +kernel
theorem dX7_open_35 : decode cX7_open 35 = .ok (.return_, 1) := by decide +kernel
theorem dX7_truth_0 : decode cX7_truth 0 = .ok (.aload_n 0, 1) := by decide +kernel
theorem dX7_truth_1 : decode cX7_truth 1 = .ok (.invokevirtual 81, 3) := by decide +kernel
theorem dX7_truth_4 : decode cX7_truth 4 = .ok (.ifCond .eq 18, 3) := by decide +kernel
theorem dX7_truth_7 : decode cX7_truth 7 = .ok (.aload_n 0, 1) := by decide +kernel
theorem dX7_truth_8 : decode cX7_truth 8 = .ok (.getfield 28, 3) := by decide +kernel
theorem dX7_truth_11 : decode cX7_truth 11 = .ok (.getfield 85, 3) := by decide +kernel
theorem dX7_truth_14 : decode cX7_truth 14 = .ok (.aload_n 0, 1) := by decide +kernel
theorem dX7_truth_15 : decode cX7_truth 15 = .ok (.getfield 75, 3) := by decide +kernel
theorem dX7_truth_18 : decode cX7_truth 18 = .ok (.iaload, 1) := by decide +kernel
theorem dX7_truth_19 : decode cX7_truth 19 = .ok (.goto 26, 3) := by decide +kernel
theorem dX7_truth_22 : decode cX7_truth 22 = .ok (.aload_n 0, 1) := by decide +kernel
theorem dX7_truth_23 : decode cX7_truth 23 = .ok (.getfield 28, 3) := by decide +kernel
theorem dX7_truth_26 : decode cX7_truth 26 = .ok (.aload_n 0, 1) := by decide +kernel
theorem dX7_truth_27 : decode cX7_truth 27 = .ok (.getfield 72, 3) := by decide +kernel
theorem dX7_truth_30 : decode cX7_truth 30 = .ok (.aload_n 0, 1) := by decide +kernel
theorem dX7_truth_31 : decode cX7_truth 31 = .ok (.getfield 28, 3) := by decide +kernel
theorem dX7_truth_34 : decode cX7_truth 34 = .ok (.getfield 90, 3) := by decide +kernel
theorem dX7_truth_37 : decode cX7_truth 37 = .ok (.isub, 1) := by decide +kernel
theorem dX7_truth_38 : decode cX7_truth 38 = .ok (.aload_n 0, 1) := by decide +kernel
theorem dX7_truth_39 : decode cX7_truth 39 = .ok (.getfield 75, 3) := by decide +kernel
theorem dX7_truth_42 : decode cX7_truth 42 = .ok (.invokevirtual 93, 3) := by decide +kernel
theorem dX7_truth_45 : decode cX7_truth 45 = .ok (.ireturn, 1) := by decide +kernel
theorem dX7_gainsIfTold_0 : decode cX7_gainsIfTold 0 = .ok (.aload_n 0, 1) := by decide +kernel
theorem dX7_gainsIfTold_1 : decode cX7_gainsIfTold 1 = .ok (.iload_n 1, 1) := by decide +kernel
theorem dX7_gainsIfTold_2 : decode cX7_gainsIfTold 2 = .ok (.invokevirtual 97, 3) := by decide +kernel
theorem dX7_gainsIfTold_5 : decode cX7_gainsIfTold 5 = .ok (.aload_n 0, 1) := by decide +kernel
theorem dX7_gainsIfTold_6 : decode cX7_gainsIfTold 6 = .ok (.invokevirtual 60, 3) := by decide +kernel
theorem dX7_gainsIfTold_9 : decode cX7_gainsIfTold 9 = .ok (.lstore_n 2, 1) := by decide +kernel
theorem dX7_gainsIfTold_10 : decode cX7_gainsIfTold 10 = .ok (.aload_n 0, 1) := by decide +kernel
theorem dX7_gainsIfTold_11 : decode cX7_gainsIfTold 11 = .ok (.invokevirtual 81, 3) := by decide +kernel
theorem dX7_gainsIfTold_14 : decode cX7_gainsIfTold 14 = .ok (.ifCond .eq 48, 3) := by decide +kernel
theorem dX7_gainsIfTold_17 : decode cX7_gainsIfTold 17 = .ok (.lload_n 2, 1) := by decide +kernel
theorem dX7_gainsIfTold_18 : decode cX7_gainsIfTold 18 = .ok (.aload_n 0, 1) := by decide +kernel
theorem dX7_gainsIfTold_19 : decode cX7_gainsIfTold 19 = .ok (.getfield 75, 3) := by decide +kernel
theorem dX7_gainsIfTold_22 : decode cX7_gainsIfTold 22 = .ok (.invokestatic 101, 3) := by decide +kernel
theorem dX7_gainsIfTold_25 : decode cX7_gainsIfTold 25 = .ok (.istore 4, 2) := by decide +kernel
theorem dX7_gainsIfTold_27 : decode cX7_gainsIfTold 27 = .ok (.iload 4, 2) := by decide +kernel
theorem dX7_gainsIfTold_29 : decode cX7_gainsIfTold 29 = .ok (.iconst (-1), 1) := by decide +kernel
theorem dX7_gainsIfTold_30 : decode cX7_gainsIfTold 30 = .ok (.if_icmp .ne 7, 3) := by decide +kernel
theorem dX7_gainsIfTold_33 : decode cX7_gainsIfTold 33 = .ok (.iconst 0, 1) := by decide +kernel
theorem dX7_gainsIfTold_34 : decode cX7_gainsIfTold 34 = .ok (.goto 27, 3) := by decide +kernel
theorem dX7_gainsIfTold_37 : decode cX7_gainsIfTold 37 = .ok (.aload_n 0, 1) := by decide +kernel
theorem dX7_gainsIfTold_38 : decode cX7_gainsIfTold 38 = .ok (.aload_n 0, 1) := by decide +kernel
theorem dX7_gainsIfTold_39 : decode cX7_gainsIfTold 39 = .ok (.getfield 75, 3) := by decide +kernel
theorem dX7_gainsIfTold_42 : decode cX7_gainsIfTold 42 = .ok (.iload 4, 2) := by decide +kernel
theorem dX7_gainsIfTold_44 : decode cX7_gainsIfTold 44 = .ok (.lload_n 2, 1) := by decide +kernel
theorem dX7_gainsIfTold_45 : decode cX7_gainsIfTold 45 = .ok (.invokevirtual 64, 3) := by decide +kernel
theorem dX7_gainsIfTold_48 : decode cX7_gainsIfTold 48 = .ok (.aload_n 0, 1) := by decide +kernel
theorem dX7_gainsIfTold_49 : decode cX7_gainsIfTold 49 = .ok (.getfield 28, 3) := by decide +kernel
theorem dX7_gainsIfTold_52 : decode cX7_gainsIfTold 52 = .ok (.getfield 85, 3) := by decide +kernel
theorem dX7_gainsIfTold_55 : decode cX7_gainsIfTold 55 = .ok (.aload_n 0, 1) := by decide +kernel
theorem dX7_gainsIfTold_56 : decode cX7_gainsIfTold 56 = .ok (.getfield 75, 3) := by decide +kernel
theorem dX7_gainsIfTold_59 : decode cX7_gainsIfTold 59 = .ok (.iaload, 1) := by decide +kernel
theorem dX7_gainsIfTold_60 : decode cX7_gainsIfTold 60 = .ok (.isub, 1) := by decide +kernel
theorem dX7_gainsIfTold_61 : decode cX7_gainsIfTold 61 = .ok (.ireturn, 1) := by decide +kernel
theorem dX7_gainsIfTold_62 : decode cX7_gainsIfTold 62 = .ok (.aload_n 0, 1) := by decide +kernel
theorem dX7_gainsIfTold_63 : decode cX7_gainsIfTold 63 = .ok (.getfield 72, 3) := by decide +kernel
theorem dX7_gainsIfTold_66 : decode cX7_gainsIfTold 66 = .ok (.aload_n 0, 1) := by decide +kernel
theorem dX7_gainsIfTold_67 : decode cX7_gainsIfTold 67 = .ok (.getfield 28, 3) := by decide +kernel
theorem dX7_gainsIfTold_70 : decode cX7_gainsIfTold 70 = .ok (.getfield 90, 3) := by decide +kernel
theorem dX7_gainsIfTold_73 : decode cX7_gainsIfTold 73 = .ok (.isub, 1) := by decide +kernel
theorem dX7_gainsIfTold_74 : decode cX7_gainsIfTold 74 = .ok (.istore 4, 2) := by decide +kernel
theorem dX7_gainsIfTold_76 : decode cX7_gainsIfTold 76 = .ok (.aload_n 0, 1) := by decide +kernel
theorem dX7_gainsIfTold_77 : decode cX7_gainsIfTold 77 = .ok (.iload 4, 2) := by decide +kernel
theorem dX7_gainsIfTold_79 : decode cX7_gainsIfTold 79 = .ok (.lload_n 2, 1) := by decide +kernel
theorem dX7_gainsIfTold_80 : decode cX7_gainsIfTold 80 = .ok (.invokevirtual 105, 3) := by decide +kernel
theorem dX7_gainsIfTold_83 : decode cX7_gainsIfTold 83 = .ok (.istore 5, 2) := by decide +kernel
theorem dX7_gainsIfTold_85 : decode cX7_gainsIfTold 85 = .ok (.iload 5, 2) := by decide +kernel
theorem dX7_gainsIfTold_87 : decode cX7_gainsIfTold 87 = .ok (.iconst (-1), 1) := by decide +kernel
theorem dX7_gainsIfTold_88 : decode cX7_gainsIfTold 88 = .ok (.if_icmp .ne 7, 3) := by decide +kernel
theorem dX7_gainsIfTold_91 : decode cX7_gainsIfTold 91 = .ok (.iconst 0, 1) := by decide +kernel
theorem dX7_gainsIfTold_92 : decode cX7_gainsIfTold 92 = .ok (.goto 24, 3) := by decide +kernel
theorem dX7_gainsIfTold_95 : decode cX7_gainsIfTold 95 = .ok (.aload_n 0, 1) := by decide +kernel
theorem dX7_gainsIfTold_96 : decode cX7_gainsIfTold 96 = .ok (.getfield 28, 3) := by decide +kernel
theorem dX7_gainsIfTold_99 : decode cX7_gainsIfTold 99 = .ok (.iload 4, 2) := by decide +kernel
theorem dX7_gainsIfTold_101 : decode cX7_gainsIfTold 101 = .ok (.iload 5, 2) := by decide +kernel
theorem dX7_gainsIfTold_103 : decode cX7_gainsIfTold 103 = .ok (.invokevirtual 93, 3) := by decide +kernel
theorem dX7_gainsIfTold_106 : decode cX7_gainsIfTold 106 = .ok (.aload_n 0, 1) := by decide +kernel
theorem dX7_gainsIfTold_107 : decode cX7_gainsIfTold 107 = .ok (.iload 5, 2) := by decide +kernel
theorem dX7_gainsIfTold_109 : decode cX7_gainsIfTold 109 = .ok (.iload 4, 2) := by decide +kernel
theorem dX7_gainsIfTold_111 : decode cX7_gainsIfTold 111 = .ok (.lload_n 2, 1) := by decide +kernel
theorem dX7_gainsIfTold_112 : decode cX7_gainsIfTold 112 = .ok (.invokevirtual 64, 3) := by decide +kernel
theorem dX7_gainsIfTold_115 : decode cX7_gainsIfTold 115 = .ok (.isub, 1) := by decide +kernel
theorem dX7_gainsIfTold_116 : decode cX7_gainsIfTold 116 = .ok (.ireturn, 1) := by decide +kernel
theorem dX7_isSeller_0 : decode cX7_isSeller 0 = .ok (.aload_n 0, 1) := by decide +kernel
theorem dX7_isSeller_1 : decode cX7_isSeller 1 = .ok (.getfield 72, 3) := by decide +kernel
theorem dX7_isSeller_4 : decode cX7_isSeller 4 = .ok (.aload_n 0, 1) := by decide +kernel
theorem dX7_isSeller_5 : decode cX7_isSeller 5 = .ok (.getfield 28, 3) := by decide +kernel
theorem dX7_isSeller_8 : decode cX7_isSeller 8 = .ok (.getfield 90, 3) := by decide +kernel
theorem dX7_isSeller_11 : decode cX7_isSeller 11 = .ok (.if_icmp .ge 7, 3) := by decide +kernel
theorem dX7_isSeller_14 : decode cX7_isSeller 14 = .ok (.iconst 1, 1) := by decide +kernel
theorem dX7_isSeller_15 : decode cX7_isSeller 15 = .ok (.goto 4, 3) := by decide +kernel
theorem dX7_isSeller_18 : decode cX7_isSeller 18 = .ok (.iconst 0, 1) := by decide +kernel
theorem dX7_isSeller_19 : decode cX7_isSeller 19 = .ok (.ireturn, 1) := by decide +kernel
theorem dX7_tell_0 : decode cX7_tell 0 = .ok (.aload_n 0, 1) := by decide +kernel
theorem dX7_tell_1 : decode cX7_tell 1 = .ok (.invokevirtual 81, 3) := by decide +kernel
theorem dX7_tell_4 : decode cX7_tell 4 = .ok (.ifCond .eq 44, 3) := by decide +kernel
theorem dX7_tell_7 : decode cX7_tell 7 = .ok (.aload_n 0, 1) := by decide +kernel
theorem dX7_tell_8 : decode cX7_tell 8 = .ok (.getfield 9, 3) := by decide +kernel
theorem dX7_tell_11 : decode cX7_tell 11 = .ok (.aload_n 0, 1) := by decide +kernel
theorem dX7_tell_12 : decode cX7_tell 12 = .ok (.getfield 75, 3) := by decide +kernel
theorem dX7_tell_15 : decode cX7_tell 15 = .ok (.iload_n 1, 1) := by decide +kernel
theorem dX7_tell_16 : decode cX7_tell 16 = .ok (.iastore, 1) := by decide +kernel
theorem dX7_tell_17 : decode cX7_tell 17 = .ok (.iconst 0, 1) := by decide +kernel
theorem dX7_tell_18 : decode cX7_tell 18 = .ok (.istore_n 2, 1) := by decide +kernel
theorem dX7_tell_19 : decode cX7_tell 19 = .ok (.iload_n 2, 1) := by decide +kernel
theorem dX7_tell_20 : decode cX7_tell 20 = .ok (.aload_n 0, 1) := by decide +kernel
theorem dX7_tell_21 : decode cX7_tell 21 = .ok (.getfield 28, 3) := by decide +kernel
theorem dX7_tell_24 : decode cX7_tell 24 = .ok (.getfield 109, 3) := by decide +kernel
theorem dX7_tell_27 : decode cX7_tell 27 = .ok (.if_icmp .ge 18, 3) := by decide +kernel
theorem dX7_tell_30 : decode cX7_tell 30 = .ok (.aload_n 0, 1) := by decide +kernel
theorem dX7_tell_31 : decode cX7_tell 31 = .ok (.iload_n 2, 1) := by decide +kernel
theorem dX7_tell_32 : decode cX7_tell 32 = .ok (.aload_n 0, 1) := by decide +kernel
theorem dX7_tell_33 : decode cX7_tell 33 = .ok (.getfield 75, 3) := by decide +kernel
theorem dX7_tell_36 : decode cX7_tell 36 = .ok (.invokevirtual 112, 3) := by decide +kernel
theorem dX7_tell_39 : decode cX7_tell 39 = .ok (.iinc 2 1, 3) := by decide +kernel
theorem dX7_tell_42 : decode cX7_tell 42 = .ok (.goto (-23), 3) := by decide +kernel
theorem dX7_tell_45 : decode cX7_tell 45 = .ok (.goto 40, 3) := by decide +kernel
theorem dX7_tell_48 : decode cX7_tell 48 = .ok (.aload_n 0, 1) := by decide +kernel
theorem dX7_tell_49 : decode cX7_tell 49 = .ok (.getfield 72, 3) := by decide +kernel
theorem dX7_tell_52 : decode cX7_tell 52 = .ok (.aload_n 0, 1) := by decide +kernel
theorem dX7_tell_53 : decode cX7_tell 53 = .ok (.getfield 28, 3) := by decide +kernel
theorem dX7_tell_56 : decode cX7_tell 56 = .ok (.getfield 90, 3) := by decide +kernel
theorem dX7_tell_59 : decode cX7_tell 59 = .ok (.isub, 1) := by decide +kernel
theorem dX7_tell_60 : decode cX7_tell 60 = .ok (.istore_n 2, 1) := by decide +kernel
theorem dX7_tell_61 : decode cX7_tell 61 = .ok (.aload_n 0, 1) := by decide +kernel
theorem dX7_tell_62 : decode cX7_tell 62 = .ok (.getfield 15, 3) := by decide +kernel
theorem dX7_tell_65 : decode cX7_tell 65 = .ok (.iload_n 2, 1) := by decide +kernel
theorem dX7_tell_66 : decode cX7_tell 66 = .ok (.bipush 6, 2) := by decide +kernel
theorem dX7_tell_68 : decode cX7_tell 68 = .ok (.imul, 1) := by decide +kernel
theorem dX7_tell_69 : decode cX7_tell 69 = .ok (.aload_n 0, 1) := by decide +kernel
theorem dX7_tell_70 : decode cX7_tell 70 = .ok (.getfield 75, 3) := by decide +kernel
theorem dX7_tell_73 : decode cX7_tell 73 = .ok (.iadd, 1) := by decide +kernel
theorem dX7_tell_74 : decode cX7_tell 74 = .ok (.iload_n 1, 1) := by decide +kernel
theorem dX7_tell_75 : decode cX7_tell 75 = .ok (.iastore, 1) := by decide +kernel
theorem dX7_tell_76 : decode cX7_tell 76 = .ok (.aload_n 0, 1) := by decide +kernel
theorem dX7_tell_77 : decode cX7_tell 77 = .ok (.iload_n 2, 1) := by decide +kernel
theorem dX7_tell_78 : decode cX7_tell 78 = .ok (.aload_n 0, 1) := by decide +kernel
theorem dX7_tell_79 : decode cX7_tell 79 = .ok (.getfield 75, 3) := by decide +kernel
theorem dX7_tell_82 : decode cX7_tell 82 = .ok (.invokevirtual 112, 3) := by decide +kernel
theorem dX7_tell_85 : decode cX7_tell 85 = .ok (.return_, 1) := by decide +kernel
theorem dX7_lotOf_0 : decode cX7_lotOf 0 = .ok (.iconst 0, 1) := by decide +kernel
theorem dX7_lotOf_1 : decode cX7_lotOf 1 = .ok (.istore 4, 2) := by decide +kernel
theorem dX7_lotOf_3 : decode cX7_lotOf 3 = .ok (.iload 4, 2) := by decide +kernel
theorem dX7_lotOf_5 : decode cX7_lotOf 5 = .ok (.aload_n 0, 1) := by decide +kernel
theorem dX7_lotOf_6 : decode cX7_lotOf 6 = .ok (.getfield 28, 3) := by decide +kernel
theorem dX7_lotOf_9 : decode cX7_lotOf 9 = .ok (.getfield 90, 3) := by decide +kernel
theorem dX7_lotOf_12 : decode cX7_lotOf 12 = .ok (.if_icmp .ge 22, 3) := by decide +kernel
theorem dX7_lotOf_15 : decode cX7_lotOf 15 = .ok (.lload_n 2, 1) := by decide +kernel
theorem dX7_lotOf_16 : decode cX7_lotOf 16 = .ok (.iload 4, 2) := by decide +kernel
theorem dX7_lotOf_18 : decode cX7_lotOf 18 = .ok (.invokestatic 101, 3) := by decide +kernel
theorem dX7_lotOf_21 : decode cX7_lotOf 21 = .ok (.iload_n 1, 1) := by decide +kernel
theorem dX7_lotOf_22 : decode cX7_lotOf 22 = .ok (.if_icmp .ne 6, 3) := by decide +kernel
theorem dX7_lotOf_25 : decode cX7_lotOf 25 = .ok (.iload 4, 2) := by decide +kernel
theorem dX7_lotOf_27 : decode cX7_lotOf 27 = .ok (.ireturn, 1) := by decide +kernel
theorem dX7_lotOf_28 : decode cX7_lotOf 28 = .ok (.iinc 4 1, 3) := by decide +kernel
theorem dX7_lotOf_31 : decode cX7_lotOf 31 = .ok (.goto (-28), 3) := by decide +kernel
theorem dX7_lotOf_34 : decode cX7_lotOf 34 = .ok (.iconst (-1), 1) := by decide +kernel
theorem dX7_lotOf_35 : decode cX7_lotOf 35 = .ok (.ireturn, 1) := by decide +kernel
theorem dX7_rulePrice_0 : decode cX7_rulePrice 0 = .ok (.aload_n 0, 1) := by decide +kernel
theorem dX7_rulePrice_1 : decode cX7_rulePrice 1 = .ok (.getfield 68, 3) := by decide +kernel
theorem dX7_rulePrice_4 : decode cX7_rulePrice 4 = .ok (.lookupswitch 70 #[(1, 28), (2, 49)], 28) := by decide +kernel
theorem dX7_rulePrice_32 : decode cX7_rulePrice 32 = .ok (.aload_n 0, 1) := by decide +kernel
theorem dX7_rulePrice_33 : decode cX7_rulePrice 33 = .ok (.getfield 9, 3) := by decide +kernel
theorem dX7_rulePrice_36 : decode cX7_rulePrice 36 = .ok (.iload_n 1, 1) := by decide +kernel
theorem dX7_rulePrice_37 : decode cX7_rulePrice 37 = .ok (.iaload, 1) := by decide +kernel
theorem dX7_rulePrice_38 : decode cX7_rulePrice 38 = .ok (.aload_n 0, 1) := by decide +kernel
theorem dX7_rulePrice_39 : decode cX7_rulePrice 39 = .ok (.iload_n 1, 1) := by decide +kernel
theorem dX7_rulePrice_40 : decode cX7_rulePrice 40 = .ok (.invokevirtual 116, 3) := by decide +kernel
theorem dX7_rulePrice_43 : decode cX7_rulePrice 43 = .ok (.invokestatic 120, 3) := by decide +kernel
theorem dX7_rulePrice_46 : decode cX7_rulePrice 46 = .ok (.iadd, 1) := by decide +kernel
theorem dX7_rulePrice_47 : decode cX7_rulePrice 47 = .ok (.lload_n 3, 1) := by decide +kernel
theorem dX7_rulePrice_48 : decode cX7_rulePrice 48 = .ok (.invokestatic 120, 3) := by decide +kernel
theorem dX7_rulePrice_51 : decode cX7_rulePrice 51 = .ok (.isub, 1) := by decide +kernel
theorem dX7_rulePrice_52 : decode cX7_rulePrice 52 = .ok (.ireturn, 1) := by decide +kernel
theorem dX7_rulePrice_53 : decode cX7_rulePrice 53 = .ok (.aload_n 0, 1) := by decide +kernel
theorem dX7_rulePrice_54 : decode cX7_rulePrice 54 = .ok (.getfield 9, 3) := by decide +kernel
theorem dX7_rulePrice_57 : decode cX7_rulePrice 57 = .ok (.iload_n 1, 1) := by decide +kernel
theorem dX7_rulePrice_58 : decode cX7_rulePrice 58 = .ok (.iaload, 1) := by decide +kernel
theorem dX7_rulePrice_59 : decode cX7_rulePrice 59 = .ok (.lload_n 3, 1) := by decide +kernel
theorem dX7_rulePrice_60 : decode cX7_rulePrice 60 = .ok (.invokestatic 120, 3) := by decide +kernel
theorem dX7_rulePrice_63 : decode cX7_rulePrice 63 = .ok (.iadd, 1) := by decide +kernel
theorem dX7_rulePrice_64 : decode cX7_rulePrice 64 = .ok (.aload_n 0, 1) := by decide +kernel
theorem dX7_rulePrice_65 : decode cX7_rulePrice 65 = .ok (.iload_n 1, 1) := by decide +kernel
theorem dX7_rulePrice_66 : decode cX7_rulePrice 66 = .ok (.invokevirtual 124, 3) := by decide +kernel
theorem dX7_rulePrice_69 : decode cX7_rulePrice 69 = .ok (.invokestatic 120, 3) := by decide +kernel
theorem dX7_rulePrice_72 : decode cX7_rulePrice 72 = .ok (.isub, 1) := by decide +kernel
theorem dX7_rulePrice_73 : decode cX7_rulePrice 73 = .ok (.ireturn, 1) := by decide +kernel
theorem dX7_rulePrice_74 : decode cX7_rulePrice 74 = .ok (.iload_n 2, 1) := by decide +kernel
theorem dX7_rulePrice_75 : decode cX7_rulePrice 75 = .ok (.iconst (-1), 1) := by decide +kernel
theorem dX7_rulePrice_76 : decode cX7_rulePrice 76 = .ok (.if_icmp .ne 7, 3) := by decide +kernel
theorem dX7_rulePrice_79 : decode cX7_rulePrice 79 = .ok (.iconst (-1), 1) := by decide +kernel
theorem dX7_rulePrice_80 : decode cX7_rulePrice 80 = .ok (.goto 23, 3) := by decide +kernel
theorem dX7_rulePrice_83 : decode cX7_rulePrice 83 = .ok (.aload_n 0, 1) := by decide +kernel
theorem dX7_rulePrice_84 : decode cX7_rulePrice 84 = .ok (.getfield 15, 3) := by decide +kernel
theorem dX7_rulePrice_87 : decode cX7_rulePrice 87 = .ok (.iload_n 2, 1) := by decide +kernel
theorem dX7_rulePrice_88 : decode cX7_rulePrice 88 = .ok (.bipush 6, 2) := by decide +kernel
theorem dX7_rulePrice_90 : decode cX7_rulePrice 90 = .ok (.imul, 1) := by decide +kernel
theorem dX7_rulePrice_91 : decode cX7_rulePrice 91 = .ok (.iload_n 1, 1) := by decide +kernel
theorem dX7_rulePrice_92 : decode cX7_rulePrice 92 = .ok (.iadd, 1) := by decide +kernel
theorem dX7_rulePrice_93 : decode cX7_rulePrice 93 = .ok (.iaload, 1) := by decide +kernel
theorem dX7_rulePrice_94 : decode cX7_rulePrice 94 = .ok (.aload_n 0, 1) := by decide +kernel
theorem dX7_rulePrice_95 : decode cX7_rulePrice 95 = .ok (.getfield 9, 3) := by decide +kernel
theorem dX7_rulePrice_98 : decode cX7_rulePrice 98 = .ok (.iload_n 1, 1) := by decide +kernel
theorem dX7_rulePrice_99 : decode cX7_rulePrice 99 = .ok (.iaload, 1) := by decide +kernel
theorem dX7_rulePrice_100 : decode cX7_rulePrice 100 = .ok (.iadd, 1) := by decide +kernel
theorem dX7_rulePrice_101 : decode cX7_rulePrice 101 = .ok (.iconst 2, 1) := by decide +kernel
theorem dX7_rulePrice_102 : decode cX7_rulePrice 102 = .ok (.idiv, 1) := by decide +kernel
theorem dX7_rulePrice_103 : decode cX7_rulePrice 103 = .ok (.ireturn, 1) := by decide +kernel
theorem dX7_scoreAsTold_0 : decode cX7_scoreAsTold 0 = .ok (.aload_n 0, 1) := by decide +kernel
theorem dX7_scoreAsTold_1 : decode cX7_scoreAsTold 1 = .ok (.aload_n 0, 1) := by decide +kernel
theorem dX7_scoreAsTold_2 : decode cX7_scoreAsTold 2 = .ok (.getfield 22, 3) := by decide +kernel
theorem dX7_scoreAsTold_5 : decode cX7_scoreAsTold 5 = .ok (.aload_n 0, 1) := by decide +kernel
theorem dX7_scoreAsTold_6 : decode cX7_scoreAsTold 6 = .ok (.invokevirtual 52, 3) := by decide +kernel
theorem dX7_scoreAsTold_9 : decode cX7_scoreAsTold 9 = .ok (.aload_n 0, 1) := by decide +kernel
theorem dX7_scoreAsTold_10 : decode cX7_scoreAsTold 10 = .ok (.getfield 75, 3) := by decide +kernel
theorem dX7_scoreAsTold_13 : decode cX7_scoreAsTold 13 = .ok (.invokevirtual 127, 3) := by decide +kernel
theorem dX7_scoreAsTold_16 : decode cX7_scoreAsTold 16 = .ok (.lreturn, 1) := by decide +kernel
theorem dX7_scoreWithout_0 : decode cX7_scoreWithout 0 = .ok (.iload_n 1, 1) := by decide +kernel
theorem dX7_scoreWithout_1 : decode cX7_scoreWithout 1 = .ok (.aload_n 0, 1) := by decide +kernel
theorem dX7_scoreWithout_2 : decode cX7_scoreWithout 2 = .ok (.getfield 75, 3) := by decide +kernel
theorem dX7_scoreWithout_5 : decode cX7_scoreWithout 5 = .ok (.if_icmp .ne 13, 3) := by decide +kernel
theorem dX7_scoreWithout_8 : decode cX7_scoreWithout 8 = .ok (.aload_n 0, 1) := by decide +kernel
theorem dX7_scoreWithout_9 : decode cX7_scoreWithout 9 = .ok (.getfield 22, 3) := by decide +kernel
theorem dX7_scoreWithout_12 : decode cX7_scoreWithout 12 = .ok (.aload_n 0, 1) := by decide +kernel
theorem dX7_scoreWithout_13 : decode cX7_scoreWithout 13 = .ok (.invokevirtual 52, 3) := by decide +kernel
theorem dX7_scoreWithout_16 : decode cX7_scoreWithout 16 = .ok (.laload, 1) := by decide +kernel
theorem dX7_scoreWithout_17 : decode cX7_scoreWithout 17 = .ok (.lreturn, 1) := by decide +kernel
theorem dX7_scoreWithout_18 : decode cX7_scoreWithout 18 = .ok (.aload_n 0, 1) := by decide +kernel
theorem dX7_scoreWithout_19 : decode cX7_scoreWithout 19 = .ok (.getfield 78, 3) := by decide +kernel
theorem dX7_scoreWithout_22 : decode cX7_scoreWithout 22 = .ok (.iload_n 1, 1) := by decide +kernel
theorem dX7_scoreWithout_23 : decode cX7_scoreWithout 23 = .ok (.if_icmp .eq 22, 3) := by decide +kernel
theorem dX7_scoreWithout_26 : decode cX7_scoreWithout 26 = .ok (.aload_n 0, 1) := by decide +kernel
theorem dX7_scoreWithout_27 : decode cX7_scoreWithout 27 = .ok (.aload_n 0, 1) := by decide +kernel
theorem dX7_scoreWithout_28 : decode cX7_scoreWithout 28 = .ok (.getfield 25, 3) := by decide +kernel
theorem dX7_scoreWithout_31 : decode cX7_scoreWithout 31 = .ok (.aload_n 0, 1) := by decide +kernel
theorem dX7_scoreWithout_32 : decode cX7_scoreWithout 32 = .ok (.getfield 75, 3) := by decide +kernel
theorem dX7_scoreWithout_35 : decode cX7_scoreWithout 35 = .ok (.iload_n 1, 1) := by decide +kernel
theorem dX7_scoreWithout_36 : decode cX7_scoreWithout 36 = .ok (.iconst (-1), 1) := by decide +kernel
theorem dX7_scoreWithout_37 : decode cX7_scoreWithout 37 = .ok (.invokevirtual 48, 3) := by decide +kernel
theorem dX7_scoreWithout_40 : decode cX7_scoreWithout 40 = .ok (.aload_n 0, 1) := by decide +kernel
theorem dX7_scoreWithout_41 : decode cX7_scoreWithout 41 = .ok (.iload_n 1, 1) := by decide +kernel
theorem dX7_scoreWithout_42 : decode cX7_scoreWithout 42 = .ok (.putfield 78, 3) := by decide +kernel
theorem dX7_scoreWithout_45 : decode cX7_scoreWithout 45 = .ok (.aload_n 0, 1) := by decide +kernel
theorem dX7_scoreWithout_46 : decode cX7_scoreWithout 46 = .ok (.aload_n 0, 1) := by decide +kernel
theorem dX7_scoreWithout_47 : decode cX7_scoreWithout 47 = .ok (.getfield 25, 3) := by decide +kernel
theorem dX7_scoreWithout_50 : decode cX7_scoreWithout 50 = .ok (.aload_n 0, 1) := by decide +kernel
theorem dX7_scoreWithout_51 : decode cX7_scoreWithout 51 = .ok (.invokevirtual 52, 3) := by decide +kernel
theorem dX7_scoreWithout_54 : decode cX7_scoreWithout 54 = .ok (.aload_n 0, 1) := by decide +kernel
theorem dX7_scoreWithout_55 : decode cX7_scoreWithout 55 = .ok (.getfield 75, 3) := by decide +kernel
theorem dX7_scoreWithout_58 : decode cX7_scoreWithout 58 = .ok (.invokevirtual 127, 3) := by decide +kernel
theorem dX7_scoreWithout_61 : decode cX7_scoreWithout 61 = .ok (.lreturn, 1) := by decide +kernel
theorem dX7_scoreWithTwo_0 : decode cX7_scoreWithTwo 0 = .ok (.iload_n 1, 1) := by decide +kernel
theorem dX7_scoreWithTwo_1 : decode cX7_scoreWithTwo 1 = .ok (.aload_n 0, 1) := by decide +kernel
theorem dX7_scoreWithTwo_2 : decode cX7_scoreWithTwo 2 = .ok (.getfield 75, 3) := by decide +kernel
theorem dX7_scoreWithTwo_5 : decode cX7_scoreWithTwo 5 = .ok (.if_icmp .ne 13, 3) := by decide +kernel
theorem dX7_scoreWithTwo_8 : decode cX7_scoreWithTwo 8 = .ok (.aload_n 0, 1) := by decide +kernel
theorem dX7_scoreWithTwo_9 : decode cX7_scoreWithTwo 9 = .ok (.aload_n 0, 1) := by decide +kernel
theorem dX7_scoreWithTwo_10 : decode cX7_scoreWithTwo 10 = .ok (.getfield 22, 3) := by decide +kernel
theorem dX7_scoreWithTwo_13 : decode cX7_scoreWithTwo 13 = .ok (.iload_n 1, 1) := by decide +kernel
theorem dX7_scoreWithTwo_14 : decode cX7_scoreWithTwo 14 = .ok (.invokevirtual 131, 3) := by decide +kernel
theorem dX7_scoreWithTwo_17 : decode cX7_scoreWithTwo 17 = .ok (.lreturn, 1) := by decide +kernel
theorem dX7_scoreWithTwo_18 : decode cX7_scoreWithTwo 18 = .ok (.aload_n 0, 1) := by decide +kernel
theorem dX7_scoreWithTwo_19 : decode cX7_scoreWithTwo 19 = .ok (.getfield 78, 3) := by decide +kernel
theorem dX7_scoreWithTwo_22 : decode cX7_scoreWithTwo 22 = .ok (.iload_n 1, 1) := by decide +kernel
theorem dX7_scoreWithTwo_23 : decode cX7_scoreWithTwo 23 = .ok (.if_icmp .eq 22, 3) := by decide +kernel
theorem dX7_scoreWithTwo_26 : decode cX7_scoreWithTwo 26 = .ok (.aload_n 0, 1) := by decide +kernel
theorem dX7_scoreWithTwo_27 : decode cX7_scoreWithTwo 27 = .ok (.aload_n 0, 1) := by decide +kernel
theorem dX7_scoreWithTwo_28 : decode cX7_scoreWithTwo 28 = .ok (.getfield 25, 3) := by decide +kernel
theorem dX7_scoreWithTwo_31 : decode cX7_scoreWithTwo 31 = .ok (.aload_n 0, 1) := by decide +kernel
theorem dX7_scoreWithTwo_32 : decode cX7_scoreWithTwo 32 = .ok (.getfield 75, 3) := by decide +kernel
theorem dX7_scoreWithTwo_35 : decode cX7_scoreWithTwo 35 = .ok (.iconst (-1), 1) := by decide +kernel
theorem dX7_scoreWithTwo_36 : decode cX7_scoreWithTwo 36 = .ok (.iload_n 1, 1) := by decide +kernel
theorem dX7_scoreWithTwo_37 : decode cX7_scoreWithTwo 37 = .ok (.invokevirtual 48, 3) := by decide +kernel
theorem dX7_scoreWithTwo_40 : decode cX7_scoreWithTwo 40 = .ok (.aload_n 0, 1) := by decide +kernel
theorem dX7_scoreWithTwo_41 : decode cX7_scoreWithTwo 41 = .ok (.iload_n 1, 1) := by decide +kernel
theorem dX7_scoreWithTwo_42 : decode cX7_scoreWithTwo 42 = .ok (.putfield 78, 3) := by decide +kernel
theorem dX7_scoreWithTwo_45 : decode cX7_scoreWithTwo 45 = .ok (.aload_n 0, 1) := by decide +kernel
theorem dX7_scoreWithTwo_46 : decode cX7_scoreWithTwo 46 = .ok (.aload_n 0, 1) := by decide +kernel
theorem dX7_scoreWithTwo_47 : decode cX7_scoreWithTwo 47 = .ok (.getfield 25, 3) := by decide +kernel
theorem dX7_scoreWithTwo_50 : decode cX7_scoreWithTwo 50 = .ok (.aload_n 0, 1) := by decide +kernel
theorem dX7_scoreWithTwo_51 : decode cX7_scoreWithTwo 51 = .ok (.invokevirtual 52, 3) := by decide +kernel
theorem dX7_scoreWithTwo_54 : decode cX7_scoreWithTwo 54 = .ok (.aload_n 0, 1) := by decide +kernel
theorem dX7_scoreWithTwo_55 : decode cX7_scoreWithTwo 55 = .ok (.getfield 75, 3) := by decide +kernel
theorem dX7_scoreWithTwo_58 : decode cX7_scoreWithTwo 58 = .ok (.invokevirtual 127, 3) := by decide +kernel
theorem dX7_scoreWithTwo_61 : decode cX7_scoreWithTwo 61 = .ok (.lreturn, 1) := by decide +kernel
theorem dX7_load_0 : decode cX7_load 0 = .ok (.aload_n 0, 1) := by decide +kernel
theorem dX7_load_1 : decode cX7_load 1 = .ok (.getfield 28, 3) := by decide +kernel
theorem dX7_load_4 : decode cX7_load 4 = .ok (.getfield 85, 3) := by decide +kernel
theorem dX7_load_7 : decode cX7_load 7 = .ok (.iconst 0, 1) := by decide +kernel
theorem dX7_load_8 : decode cX7_load 8 = .ok (.aload_n 0, 1) := by decide +kernel
theorem dX7_load_9 : decode cX7_load 9 = .ok (.getfield 9, 3) := by decide +kernel
theorem dX7_load_12 : decode cX7_load 12 = .ok (.iconst 0, 1) := by decide +kernel
theorem dX7_load_13 : decode cX7_load 13 = .ok (.bipush 6, 2) := by decide +kernel
theorem dX7_load_15 : decode cX7_load 15 = .ok (.invokestatic 135, 3) := by decide +kernel
theorem dX7_load_18 : decode cX7_load 18 = .ok (.aload_n 0, 1) := by decide +kernel
theorem dX7_load_19 : decode cX7_load 19 = .ok (.getfield 28, 3) := by decide +kernel
theorem dX7_load_22 : decode cX7_load 22 = .ok (.getfield 141, 3) := by decide +kernel
theorem dX7_load_25 : decode cX7_load 25 = .ok (.iconst 0, 1) := by decide +kernel
theorem dX7_load_26 : decode cX7_load 26 = .ok (.aload_n 0, 1) := by decide +kernel
theorem dX7_load_27 : decode cX7_load 27 = .ok (.getfield 15, 3) := by decide +kernel
theorem dX7_load_30 : decode cX7_load 30 = .ok (.iconst 0, 1) := by decide +kernel
theorem dX7_load_31 : decode cX7_load 31 = .ok (.bipush 36, 2) := by decide +kernel
theorem dX7_load_33 : decode cX7_load 33 = .ok (.invokestatic 135, 3) := by decide +kernel
theorem dX7_load_36 : decode cX7_load 36 = .ok (.iconst 0, 1) := by decide +kernel
theorem dX7_load_37 : decode cX7_load 37 = .ok (.istore_n 1, 1) := by decide +kernel
theorem dX7_load_38 : decode cX7_load 38 = .ok (.iload_n 1, 1) := by decide +kernel
theorem dX7_load_39 : decode cX7_load 39 = .ok (.aload_n 0, 1) := by decide +kernel
theorem dX7_load_40 : decode cX7_load 40 = .ok (.getfield 28, 3) := by decide +kernel
theorem dX7_load_43 : decode cX7_load 43 = .ok (.getfield 109, 3) := by decide +kernel
theorem dX7_load_46 : decode cX7_load 46 = .ok (.if_icmp .ge 34, 3) := by decide +kernel
theorem dX7_load_49 : decode cX7_load 49 = .ok (.iconst 0, 1) := by decide +kernel
theorem dX7_load_50 : decode cX7_load 50 = .ok (.istore_n 2, 1) := by decide +kernel
theorem dX7_load_51 : decode cX7_load 51 = .ok (.iload_n 2, 1) := by decide +kernel
theorem dX7_load_52 : decode cX7_load 52 = .ok (.aload_n 0, 1) := by decide +kernel
theorem dX7_load_53 : decode cX7_load 53 = .ok (.getfield 28, 3) := by decide +kernel
theorem dX7_load_56 : decode cX7_load 56 = .ok (.getfield 90, 3) := by decide +kernel
theorem dX7_load_59 : decode cX7_load 59 = .ok (.if_icmp .ge 15, 3) := by decide +kernel
theorem dX7_load_62 : decode cX7_load 62 = .ok (.aload_n 0, 1) := by decide +kernel
theorem dX7_load_63 : decode cX7_load 63 = .ok (.iload_n 1, 1) := by decide +kernel
theorem dX7_load_64 : decode cX7_load 64 = .ok (.iload_n 2, 1) := by decide +kernel
theorem dX7_load_65 : decode cX7_load 65 = .ok (.invokevirtual 112, 3) := by decide +kernel
theorem dX7_load_68 : decode cX7_load 68 = .ok (.iinc 2 1, 3) := by decide +kernel
theorem dX7_load_71 : decode cX7_load 71 = .ok (.goto (-20), 3) := by decide +kernel
theorem dX7_load_74 : decode cX7_load 74 = .ok (.iinc 1 1, 3) := by decide +kernel
theorem dX7_load_77 : decode cX7_load 77 = .ok (.goto (-39), 3) := by decide +kernel
theorem dX7_load_80 : decode cX7_load 80 = .ok (.return_, 1) := by decide +kernel
theorem dX7_putScore_0 : decode cX7_putScore 0 = .ok (.iload_n 1, 1) := by decide +kernel
theorem dX7_putScore_1 : decode cX7_putScore 1 = .ok (.bipush 6, 2) := by decide +kernel
theorem dX7_putScore_3 : decode cX7_putScore 3 = .ok (.imul, 1) := by decide +kernel
theorem dX7_putScore_4 : decode cX7_putScore 4 = .ok (.iload_n 2, 1) := by decide +kernel
theorem dX7_putScore_5 : decode cX7_putScore 5 = .ok (.iadd, 1) := by decide +kernel
theorem dX7_putScore_6 : decode cX7_putScore 6 = .ok (.istore_n 3, 1) := by decide +kernel
theorem dX7_putScore_7 : decode cX7_putScore 7 = .ok (.aload_n 0, 1) := by decide +kernel
theorem dX7_putScore_8 : decode cX7_putScore 8 = .ok (.getfield 15, 3) := by decide +kernel
theorem dX7_putScore_11 : decode cX7_putScore 11 = .ok (.iload_n 3, 1) := by decide +kernel
theorem dX7_putScore_12 : decode cX7_putScore 12 = .ok (.iaload, 1) := by decide +kernel
theorem dX7_putScore_13 : decode cX7_putScore 13 = .ok (.aload_n 0, 1) := by decide +kernel
theorem dX7_putScore_14 : decode cX7_putScore 14 = .ok (.getfield 9, 3) := by decide +kernel
theorem dX7_putScore_17 : decode cX7_putScore 17 = .ok (.iload_n 2, 1) := by decide +kernel
theorem dX7_putScore_18 : decode cX7_putScore 18 = .ok (.iaload, 1) := by decide +kernel
theorem dX7_putScore_19 : decode cX7_putScore 19 = .ok (.isub, 1) := by decide +kernel
theorem dX7_putScore_20 : decode cX7_putScore 20 = .ok (.istore 4, 2) := by decide +kernel
theorem dX7_putScore_22 : decode cX7_putScore 22 = .ok (.aload_n 0, 1) := by decide +kernel
theorem dX7_putScore_23 : decode cX7_putScore 23 = .ok (.getfield 18, 3) := by decide +kernel
theorem dX7_putScore_26 : decode cX7_putScore 26 = .ok (.iload_n 3, 1) := by decide +kernel
theorem dX7_putScore_27 : decode cX7_putScore 27 = .ok (.iload 4, 2) := by decide +kernel
theorem dX7_putScore_29 : decode cX7_putScore 29 = .ok (.ifCond .ge 9, 3) := by decide +kernel
theorem dX7_putScore_32 : decode cX7_putScore 32 = .ok (.ldc2_w 142, 3) := by decide +kernel
theorem dX7_putScore_35 : decode cX7_putScore 35 = .ok (.goto 24, 3) := by decide +kernel
theorem dX7_putScore_38 : decode cX7_putScore 38 = .ok (.iload 4, 2) := by decide +kernel
theorem dX7_putScore_40 : decode cX7_putScore 40 = .ok (.bipush 8, 2) := by decide +kernel
theorem dX7_putScore_42 : decode cX7_putScore 42 = .ok (.imul, 1) := by decide +kernel
theorem dX7_putScore_43 : decode cX7_putScore 43 = .ok (.iconst 1, 1) := by decide +kernel
theorem dX7_putScore_44 : decode cX7_putScore 44 = .ok (.iadd, 1) := by decide +kernel
theorem dX7_putScore_45 : decode cX7_putScore 45 = .ok (.i2l, 1) := by decide +kernel
theorem dX7_putScore_46 : decode cX7_putScore 46 = .ok (.ldc2_w 38, 3) := by decide +kernel
theorem dX7_putScore_49 : decode cX7_putScore 49 = .ok (.lmul, 1) := by decide +kernel
theorem dX7_putScore_50 : decode cX7_putScore 50 = .ok (.iload_n 1, 1) := by decide +kernel
theorem dX7_putScore_51 : decode cX7_putScore 51 = .ok (.getstatic 40, 3) := by decide +kernel
theorem dX7_putScore_54 : decode cX7_putScore 54 = .ok (.iload_n 2, 1) := by decide +kernel
theorem dX7_putScore_55 : decode cX7_putScore 55 = .ok (.iaload, 1) := by decide +kernel
theorem dX7_putScore_56 : decode cX7_putScore 56 = .ok (.imul, 1) := by decide +kernel
theorem dX7_putScore_57 : decode cX7_putScore 57 = .ok (.i2l, 1) := by decide +kernel
theorem dX7_putScore_58 : decode cX7_putScore 58 = .ok (.lsub, 1) := by decide +kernel
theorem dX7_putScore_59 : decode cX7_putScore 59 = .ok (.lastore, 1) := by decide +kernel
theorem dX7_putScore_60 : decode cX7_putScore 60 = .ok (.return_, 1) := by decide +kernel
theorem dX7_allBuyers_0 : decode cX7_allBuyers 0 = .ok (.iconst 1, 1) := by decide +kernel
theorem dX7_allBuyers_1 : decode cX7_allBuyers 1 = .ok (.aload_n 0, 1) := by decide +kernel
theorem dX7_allBuyers_2 : decode cX7_allBuyers 2 = .ok (.getfield 28, 3) := by decide +kernel
theorem dX7_allBuyers_5 : decode cX7_allBuyers 5 = .ok (.getfield 109, 3) := by decide +kernel
theorem dX7_allBuyers_8 : decode cX7_allBuyers 8 = .ok (.ishl, 1) := by decide +kernel
theorem dX7_allBuyers_9 : decode cX7_allBuyers 9 = .ok (.iconst 1, 1) := by decide +kernel
theorem dX7_allBuyers_10 : decode cX7_allBuyers 10 = .ok (.isub, 1) := by decide +kernel
theorem dX7_allBuyers_11 : decode cX7_allBuyers 11 = .ok (.ireturn, 1) := by decide +kernel
theorem dX7_fill_0 : decode cX7_fill 0 = .ok (.aload_n 1, 1) := by decide +kernel
theorem dX7_fill_1 : decode cX7_fill 1 = .ok (.lconst 0, 1) := by decide +kernel
theorem dX7_fill_2 : decode cX7_fill 2 = .ok (.invokestatic 144, 3) := by decide +kernel
theorem dX7_fill_5 : decode cX7_fill 5 = .ok (.iconst 0, 1) := by decide +kernel
theorem dX7_fill_6 : decode cX7_fill 6 = .ok (.istore 5, 2) := by decide +kernel
theorem dX7_fill_8 : decode cX7_fill 8 = .ok (.iload 5, 2) := by decide +kernel
theorem dX7_fill_10 : decode cX7_fill 10 = .ok (.aload_n 0, 1) := by decide +kernel
theorem dX7_fill_11 : decode cX7_fill 11 = .ok (.getfield 28, 3) := by decide +kernel
theorem dX7_fill_14 : decode cX7_fill 14 = .ok (.getfield 90, 3) := by decide +kernel
theorem dX7_fill_17 : decode cX7_fill 17 = .ok (.if_icmp .ge 28, 3) := by decide +kernel
theorem dX7_fill_20 : decode cX7_fill 20 = .ok (.iload 5, 2) := by decide +kernel
theorem dX7_fill_22 : decode cX7_fill 22 = .ok (.iload_n 2, 1) := by decide +kernel
theorem dX7_fill_23 : decode cX7_fill 23 = .ok (.if_icmp .eq 16, 3) := by decide +kernel
theorem dX7_fill_26 : decode cX7_fill 26 = .ok (.iload 5, 2) := by decide +kernel
theorem dX7_fill_28 : decode cX7_fill 28 = .ok (.iload_n 3, 1) := by decide +kernel
theorem dX7_fill_29 : decode cX7_fill 29 = .ok (.if_icmp .eq 10, 3) := by decide +kernel
theorem dX7_fill_32 : decode cX7_fill 32 = .ok (.aload_n 0, 1) := by decide +kernel
theorem dX7_fill_33 : decode cX7_fill 33 = .ok (.aload_n 1, 1) := by decide +kernel
theorem dX7_fill_34 : decode cX7_fill 34 = .ok (.iload 5, 2) := by decide +kernel
theorem dX7_fill_36 : decode cX7_fill 36 = .ok (.invokevirtual 149, 3) := by decide +kernel
theorem dX7_fill_39 : decode cX7_fill 39 = .ok (.iinc 5 1, 3) := by decide +kernel
theorem dX7_fill_42 : decode cX7_fill 42 = .ok (.goto (-34), 3) := by decide +kernel
theorem dX7_fill_45 : decode cX7_fill 45 = .ok (.iload 4, 2) := by decide +kernel
theorem dX7_fill_47 : decode cX7_fill 47 = .ok (.iconst (-1), 1) := by decide +kernel
theorem dX7_fill_48 : decode cX7_fill 48 = .ok (.if_icmp .eq 10, 3) := by decide +kernel
theorem dX7_fill_51 : decode cX7_fill 51 = .ok (.aload_n 0, 1) := by decide +kernel
theorem dX7_fill_52 : decode cX7_fill 52 = .ok (.aload_n 1, 1) := by decide +kernel
theorem dX7_fill_53 : decode cX7_fill 53 = .ok (.iload 4, 2) := by decide +kernel
theorem dX7_fill_55 : decode cX7_fill 55 = .ok (.invokevirtual 149, 3) := by decide +kernel
theorem dX7_fill_58 : decode cX7_fill 58 = .ok (.return_, 1) := by decide +kernel
theorem dX7_addLot_0 : decode cX7_addLot 0 = .ok (.aload_n 0, 1) := by decide +kernel
theorem dX7_addLot_1 : decode cX7_addLot 1 = .ok (.invokevirtual 52, 3) := by decide +kernel
theorem dX7_addLot_4 : decode cX7_addLot 4 = .ok (.istore_n 3, 1) := by decide +kernel
theorem dX7_addLot_5 : decode cX7_addLot 5 = .ok (.iload_n 3, 1) := by decide +kernel
theorem dX7_addLot_6 : decode cX7_addLot 6 = .ok (.ifCond .lt 19, 3) := by decide +kernel
theorem dX7_addLot_9 : decode cX7_addLot 9 = .ok (.aload_n 1, 1) := by decide +kernel
theorem dX7_addLot_10 : decode cX7_addLot 10 = .ok (.iload_n 3, 1) := by decide +kernel
theorem dX7_addLot_11 : decode cX7_addLot 11 = .ok (.aload_n 0, 1) := by decide +kernel
theorem dX7_addLot_12 : decode cX7_addLot 12 = .ok (.aload_n 1, 1) := by decide +kernel
theorem dX7_addLot_13 : decode cX7_addLot 13 = .ok (.iload_n 3, 1) := by decide +kernel
theorem dX7_addLot_14 : decode cX7_addLot 14 = .ok (.iload_n 2, 1) := by decide +kernel
theorem dX7_addLot_15 : decode cX7_addLot 15 = .ok (.invokevirtual 127, 3) := by decide +kernel
theorem dX7_addLot_18 : decode cX7_addLot 18 = .ok (.lastore, 1) := by decide +kernel
theorem dX7_addLot_19 : decode cX7_addLot 19 = .ok (.iinc 3 (-1), 3) := by decide +kernel
theorem dX7_addLot_22 : decode cX7_addLot 22 = .ok (.goto (-17), 3) := by decide +kernel
theorem dX7_addLot_25 : decode cX7_addLot 25 = .ok (.return_, 1) := by decide +kernel
theorem dX7_withLot_0 : decode cX7_withLot 0 = .ok (.aload_n 1, 1) := by decide +kernel
theorem dX7_withLot_1 : decode cX7_withLot 1 = .ok (.iload_n 2, 1) := by decide +kernel
theorem dX7_withLot_2 : decode cX7_withLot 2 = .ok (.laload, 1) := by decide +kernel
theorem dX7_withLot_3 : decode cX7_withLot 3 = .ok (.bipush 6, 2) := by decide +kernel
theorem dX7_withLot_5 : decode cX7_withLot 5 = .ok (.getstatic 40, 3) := by decide +kernel
theorem dX7_withLot_8 : decode cX7_withLot 8 = .ok (.iload_n 3, 1) := by decide +kernel
theorem dX7_withLot_9 : decode cX7_withLot 9 = .ok (.iaload, 1) := by decide +kernel
theorem dX7_withLot_10 : decode cX7_withLot 10 = .ok (.imul, 1) := by decide +kernel
theorem dX7_withLot_11 : decode cX7_withLot 11 = .ok (.i2l, 1) := by decide +kernel
theorem dX7_withLot_12 : decode cX7_withLot 12 = .ok (.lsub, 1) := by decide +kernel
theorem dX7_withLot_13 : decode cX7_withLot 13 = .ok (.lstore 4, 2) := by decide +kernel
theorem dX7_withLot_15 : decode cX7_withLot 15 = .ok (.iconst 0, 1) := by decide +kernel
theorem dX7_withLot_16 : decode cX7_withLot 16 = .ok (.istore 6, 2) := by decide +kernel
theorem dX7_withLot_18 : decode cX7_withLot 18 = .ok (.iload 6, 2) := by decide +kernel
theorem dX7_withLot_20 : decode cX7_withLot 20 = .ok (.aload_n 0, 1) := by decide +kernel
theorem dX7_withLot_21 : decode cX7_withLot 21 = .ok (.getfield 28, 3) := by decide +kernel
theorem dX7_withLot_24 : decode cX7_withLot 24 = .ok (.getfield 109, 3) := by decide +kernel
theorem dX7_withLot_27 : decode cX7_withLot 27 = .ok (.if_icmp .ge 59, 3) := by decide +kernel
theorem dX7_withLot_30 : decode cX7_withLot 30 = .ok (.iload_n 2, 1) := by decide +kernel
theorem dX7_withLot_31 : decode cX7_withLot 31 = .ok (.iload 6, 2) := by decide +kernel
theorem dX7_withLot_33 : decode cX7_withLot 33 = .ok (.ishr, 1) := by decide +kernel
theorem dX7_withLot_34 : decode cX7_withLot 34 = .ok (.iconst 1, 1) := by decide +kernel
theorem dX7_withLot_35 : decode cX7_withLot 35 = .ok (.iand, 1) := by decide +kernel
theorem dX7_withLot_36 : decode cX7_withLot 36 = .ok (.iconst 1, 1) := by decide +kernel
theorem dX7_withLot_37 : decode cX7_withLot 37 = .ok (.if_icmp .ne 43, 3) := by decide +kernel
theorem dX7_withLot_40 : decode cX7_withLot 40 = .ok (.aload_n 1, 1) := by decide +kernel
theorem dX7_withLot_41 : decode cX7_withLot 41 = .ok (.iload_n 2, 1) := by decide +kernel
theorem dX7_withLot_42 : decode cX7_withLot 42 = .ok (.iconst 1, 1) := by decide +kernel
theorem dX7_withLot_43 : decode cX7_withLot 43 = .ok (.iload 6, 2) := by decide +kernel
theorem dX7_withLot_45 : decode cX7_withLot 45 = .ok (.ishl, 1) := by decide +kernel
theorem dX7_withLot_46 : decode cX7_withLot 46 = .ok (.isub, 1) := by decide +kernel
theorem dX7_withLot_47 : decode cX7_withLot 47 = .ok (.laload, 1) := by decide +kernel
theorem dX7_withLot_48 : decode cX7_withLot 48 = .ok (.aload_n 0, 1) := by decide +kernel
theorem dX7_withLot_49 : decode cX7_withLot 49 = .ok (.getfield 18, 3) := by decide +kernel
theorem dX7_withLot_52 : decode cX7_withLot 52 = .ok (.iload 6, 2) := by decide +kernel
theorem dX7_withLot_54 : decode cX7_withLot 54 = .ok (.bipush 6, 2) := by decide +kernel
theorem dX7_withLot_56 : decode cX7_withLot 56 = .ok (.imul, 1) := by decide +kernel
theorem dX7_withLot_57 : decode cX7_withLot 57 = .ok (.iload_n 3, 1) := by decide +kernel
theorem dX7_withLot_58 : decode cX7_withLot 58 = .ok (.iadd, 1) := by decide +kernel
theorem dX7_withLot_59 : decode cX7_withLot 59 = .ok (.laload, 1) := by decide +kernel
theorem dX7_withLot_60 : decode cX7_withLot 60 = .ok (.ladd, 1) := by decide +kernel
theorem dX7_withLot_61 : decode cX7_withLot 61 = .ok (.lstore 7, 2) := by decide +kernel
theorem dX7_withLot_63 : decode cX7_withLot 63 = .ok (.lload 7, 2) := by decide +kernel
theorem dX7_withLot_65 : decode cX7_withLot 65 = .ok (.lload 4, 2) := by decide +kernel
theorem dX7_withLot_67 : decode cX7_withLot 67 = .ok (.lcmp, 1) := by decide +kernel
theorem dX7_withLot_68 : decode cX7_withLot 68 = .ok (.ifCond .le 8, 3) := by decide +kernel
theorem dX7_withLot_71 : decode cX7_withLot 71 = .ok (.lload 7, 2) := by decide +kernel
theorem dX7_withLot_73 : decode cX7_withLot 73 = .ok (.goto 5, 3) := by decide +kernel
theorem dX7_withLot_76 : decode cX7_withLot 76 = .ok (.lload 4, 2) := by decide +kernel
theorem dX7_withLot_78 : decode cX7_withLot 78 = .ok (.lstore 4, 2) := by decide +kernel
theorem dX7_withLot_80 : decode cX7_withLot 80 = .ok (.iinc 6 1, 3) := by decide +kernel
theorem dX7_withLot_83 : decode cX7_withLot 83 = .ok (.goto (-65), 3) := by decide +kernel
theorem dX7_withLot_86 : decode cX7_withLot 86 = .ok (.lload 4, 2) := by decide +kernel
theorem dX7_withLot_88 : decode cX7_withLot 88 = .ok (.lreturn, 1) := by decide +kernel
theorem dX7_withLotTwice_0 : decode cX7_withLotTwice 0 = .ok (.aload_n 0, 1) := by decide +kernel
theorem dX7_withLotTwice_1 : decode cX7_withLotTwice 1 = .ok (.invokevirtual 52, 3) := by decide +kernel
theorem dX7_withLotTwice_4 : decode cX7_withLotTwice 4 = .ok (.istore_n 3, 1) := by decide +kernel
theorem dX7_withLotTwice_5 : decode cX7_withLotTwice 5 = .ok (.aload_n 0, 1) := by decide +kernel
theorem dX7_withLotTwice_6 : decode cX7_withLotTwice 6 = .ok (.aload_n 1, 1) := by decide +kernel
theorem dX7_withLotTwice_7 : decode cX7_withLotTwice 7 = .ok (.iload_n 3, 1) := by decide +kernel
theorem dX7_withLotTwice_8 : decode cX7_withLotTwice 8 = .ok (.iload_n 2, 1) := by decide +kernel
theorem dX7_withLotTwice_9 : decode cX7_withLotTwice 9 = .ok (.invokevirtual 127, 3) := by decide +kernel
theorem dX7_withLotTwice_12 : decode cX7_withLotTwice 12 = .ok (.bipush 6, 2) := by decide +kernel
theorem dX7_withLotTwice_14 : decode cX7_withLotTwice 14 = .ok (.getstatic 40, 3) := by decide +kernel
theorem dX7_withLotTwice_17 : decode cX7_withLotTwice 17 = .ok (.iload_n 2, 1) := by decide +kernel
theorem dX7_withLotTwice_18 : decode cX7_withLotTwice 18 = .ok (.iaload, 1) := by decide +kernel
theorem dX7_withLotTwice_19 : decode cX7_withLotTwice 19 = .ok (.imul, 1) := by decide +kernel
theorem dX7_withLotTwice_20 : decode cX7_withLotTwice 20 = .ok (.i2l, 1) := by decide +kernel
theorem dX7_withLotTwice_21 : decode cX7_withLotTwice 21 = .ok (.lsub, 1) := by decide +kernel
theorem dX7_withLotTwice_22 : decode cX7_withLotTwice 22 = .ok (.lstore 4, 2) := by decide +kernel
theorem dX7_withLotTwice_24 : decode cX7_withLotTwice 24 = .ok (.iconst 0, 1) := by decide +kernel
theorem dX7_withLotTwice_25 : decode cX7_withLotTwice 25 = .ok (.istore 6, 2) := by decide +kernel
theorem dX7_withLotTwice_27 : decode cX7_withLotTwice 27 = .ok (.iload 6, 2) := by decide +kernel
theorem dX7_withLotTwice_29 : decode cX7_withLotTwice 29 = .ok (.aload_n 0, 1) := by decide +kernel
theorem dX7_withLotTwice_30 : decode cX7_withLotTwice 30 = .ok (.getfield 28, 3) := by decide +kernel
theorem dX7_withLotTwice_33 : decode cX7_withLotTwice 33 = .ok (.getfield 109, 3) := by decide +kernel
theorem dX7_withLotTwice_36 : decode cX7_withLotTwice 36 = .ok (.if_icmp .ge 41, 3) := by decide +kernel
theorem dX7_withLotTwice_39 : decode cX7_withLotTwice 39 = .ok (.lload 4, 2) := by decide +kernel
theorem dX7_withLotTwice_41 : decode cX7_withLotTwice 41 = .ok (.aload_n 0, 1) := by decide +kernel
theorem dX7_withLotTwice_42 : decode cX7_withLotTwice 42 = .ok (.aload_n 1, 1) := by decide +kernel
theorem dX7_withLotTwice_43 : decode cX7_withLotTwice 43 = .ok (.iload_n 3, 1) := by decide +kernel
theorem dX7_withLotTwice_44 : decode cX7_withLotTwice 44 = .ok (.iconst 1, 1) := by decide +kernel
theorem dX7_withLotTwice_45 : decode cX7_withLotTwice 45 = .ok (.iload 6, 2) := by decide +kernel
theorem dX7_withLotTwice_47 : decode cX7_withLotTwice 47 = .ok (.ishl, 1) := by decide +kernel
theorem dX7_withLotTwice_48 : decode cX7_withLotTwice 48 = .ok (.isub, 1) := by decide +kernel
theorem dX7_withLotTwice_49 : decode cX7_withLotTwice 49 = .ok (.iload_n 2, 1) := by decide +kernel
theorem dX7_withLotTwice_50 : decode cX7_withLotTwice 50 = .ok (.invokevirtual 127, 3) := by decide +kernel
theorem dX7_withLotTwice_53 : decode cX7_withLotTwice 53 = .ok (.aload_n 0, 1) := by decide +kernel
theorem dX7_withLotTwice_54 : decode cX7_withLotTwice 54 = .ok (.getfield 18, 3) := by decide +kernel
theorem dX7_withLotTwice_57 : decode cX7_withLotTwice 57 = .ok (.iload 6, 2) := by decide +kernel
theorem dX7_withLotTwice_59 : decode cX7_withLotTwice 59 = .ok (.bipush 6, 2) := by decide +kernel
theorem dX7_withLotTwice_61 : decode cX7_withLotTwice 61 = .ok (.imul, 1) := by decide +kernel
theorem dX7_withLotTwice_62 : decode cX7_withLotTwice 62 = .ok (.iload_n 2, 1) := by decide +kernel
theorem dX7_withLotTwice_63 : decode cX7_withLotTwice 63 = .ok (.iadd, 1) := by decide +kernel
theorem dX7_withLotTwice_64 : decode cX7_withLotTwice 64 = .ok (.laload, 1) := by decide +kernel
theorem dX7_withLotTwice_65 : decode cX7_withLotTwice 65 = .ok (.ladd, 1) := by decide +kernel
theorem dX7_withLotTwice_66 : decode cX7_withLotTwice 66 = .ok (.invokestatic 153, 3) := by decide +kernel
theorem dX7_withLotTwice_69 : decode cX7_withLotTwice 69 = .ok (.lstore 4, 2) := by decide +kernel
theorem dX7_withLotTwice_71 : decode cX7_withLotTwice 71 = .ok (.iinc 6 1, 3) := by decide +kernel
theorem dX7_withLotTwice_74 : decode cX7_withLotTwice 74 = .ok (.goto (-47), 3) := by decide +kernel
theorem dX7_withLotTwice_77 : decode cX7_withLotTwice 77 = .ok (.lload 4, 2) := by decide +kernel
theorem dX7_withLotTwice_79 : decode cX7_withLotTwice 79 = .ok (.lreturn, 1) := by decide +kernel
theorem dX8_init_0 : decode cX8_init 0 = .ok (.aload_n 0, 1) := by decide +kernel
theorem dX8_init_1 : decode cX8_init 1 = .ok (.invokespecial 3, 3) := by decide +kernel
theorem dX8_init_4 : decode cX8_init 4 = .ok (.aload_n 0, 1) := by decide +kernel
theorem dX8_init_5 : decode cX8_init 5 = .ok (.bipush 10, 2) := by decide +kernel
theorem dX8_init_7 : decode cX8_init 7 = .ok (.newarray .int, 2) := by decide +kernel
theorem dX8_init_9 : decode cX8_init 9 = .ok (.putfield 9, 3) := by decide +kernel
theorem dX8_init_12 : decode cX8_init 12 = .ok (.aload_n 0, 1) := by decide +kernel
theorem dX8_init_13 : decode cX8_init 13 = .ok (.bipush 10, 2) := by decide +kernel
theorem dX8_init_15 : decode cX8_init 15 = .ok (.newarray .int, 2) := by decide +kernel
theorem dX8_init_17 : decode cX8_init 17 = .ok (.putfield 15, 3) := by decide +kernel
theorem dX8_init_20 : decode cX8_init 20 = .ok (.aload_n 0, 1) := by decide +kernel
theorem dX8_init_21 : decode cX8_init 21 = .ok (.bipush 10, 2) := by decide +kernel
theorem dX8_init_23 : decode cX8_init 23 = .ok (.newarray .int, 2) := by decide +kernel
theorem dX8_init_25 : decode cX8_init 25 = .ok (.putfield 18, 3) := by decide +kernel
theorem dX8_init_28 : decode cX8_init 28 = .ok (.aload_n 0, 1) := by decide +kernel
theorem dX8_init_29 : decode cX8_init 29 = .ok (.bipush 10, 2) := by decide +kernel
theorem dX8_init_31 : decode cX8_init 31 = .ok (.newarray .boolean, 2) := by decide +kernel
theorem dX8_init_33 : decode cX8_init 33 = .ok (.putfield 21, 3) := by decide +kernel
theorem dX8_init_36 : decode cX8_init 36 = .ok (.return_, 1) := by decide +kernel
theorem dX8_note_0 : decode cX8_note 0 = .ok (.aload_n 0, 1) := by decide +kernel
theorem dX8_note_1 : decode cX8_note 1 = .ok (.getfield 25, 3) := by decide +kernel
theorem dX8_note_4 : decode cX8_note 4 = .ok (.bipush 10, 2) := by decide +kernel
theorem dX8_note_6 : decode cX8_note 6 = .ok (.if_icmp .ge 54, 3) := by decide +kernel
theorem dX8_note_9 : decode cX8_note 9 = .ok (.aload_n 0, 1) := by decide +kernel
theorem dX8_note_10 : decode cX8_note 10 = .ok (.getfield 9, 3) := by decide +kernel
theorem dX8_note_13 : decode cX8_note 13 = .ok (.aload_n 0, 1) := by decide +kernel
theorem dX8_note_14 : decode cX8_note 14 = .ok (.getfield 25, 3) := by decide +kernel
theorem dX8_note_17 : decode cX8_note 17 = .ok (.iload_n 1, 1) := by decide +kernel
theorem dX8_note_18 : decode cX8_note 18 = .ok (.iastore, 1) := by decide +kernel
theorem dX8_note_19 : decode cX8_note 19 = .ok (.aload_n 0, 1) := by decide +kernel
theorem dX8_note_20 : decode cX8_note 20 = .ok (.getfield 15, 3) := by decide +kernel
theorem dX8_note_23 : decode cX8_note 23 = .ok (.aload_n 0, 1) := by decide +kernel
theorem dX8_note_24 : decode cX8_note 24 = .ok (.getfield 25, 3) := by decide +kernel
theorem dX8_note_27 : decode cX8_note 27 = .ok (.iload_n 2, 1) := by decide +kernel
theorem dX8_note_28 : decode cX8_note 28 = .ok (.iastore, 1) := by decide +kernel
theorem dX8_note_29 : decode cX8_note 29 = .ok (.aload_n 0, 1) := by decide +kernel
theorem dX8_note_30 : decode cX8_note 30 = .ok (.getfield 18, 3) := by decide +kernel
theorem dX8_note_33 : decode cX8_note 33 = .ok (.aload_n 0, 1) := by decide +kernel
theorem dX8_note_34 : decode cX8_note 34 = .ok (.getfield 25, 3) := by decide +kernel
theorem dX8_note_37 : decode cX8_note 37 = .ok (.iload_n 3, 1) := by decide +kernel
theorem dX8_note_38 : decode cX8_note 38 = .ok (.iastore, 1) := by decide +kernel
theorem dX8_note_39 : decode cX8_note 39 = .ok (.aload_n 0, 1) := by decide +kernel
theorem dX8_note_40 : decode cX8_note 40 = .ok (.getfield 21, 3) := by decide +kernel
theorem dX8_note_43 : decode cX8_note 43 = .ok (.aload_n 0, 1) := by decide +kernel
theorem dX8_note_44 : decode cX8_note 44 = .ok (.getfield 25, 3) := by decide +kernel
theorem dX8_note_47 : decode cX8_note 47 = .ok (.iload 4, 2) := by decide +kernel
theorem dX8_note_49 : decode cX8_note 49 = .ok (.bastore, 1) := by decide +kernel
theorem dX8_note_50 : decode cX8_note 50 = .ok (.aload_n 0, 1) := by decide +kernel
theorem dX8_note_51 : decode cX8_note 51 = .ok (.dup, 1) := by decide +kernel
theorem dX8_note_52 : decode cX8_note 52 = .ok (.getfield 25, 3) := by decide +kernel
theorem dX8_note_55 : decode cX8_note 55 = .ok (.iconst 1, 1) := by decide +kernel
theorem dX8_note_56 : decode cX8_note 56 = .ok (.iadd, 1) := by decide +kernel
theorem dX8_note_57 : decode cX8_note 57 = .ok (.putfield 25, 3) := by decide +kernel
theorem dX8_note_60 : decode cX8_note 60 = .ok (.return_, 1) := by decide +kernel
theorem dX8_canBe_0 : decode cX8_canBe 0 = .ok (.iconst 0, 1) := by decide +kernel
theorem dX8_canBe_1 : decode cX8_canBe 1 = .ok (.istore_n 3, 1) := by decide +kernel
theorem dX8_canBe_2 : decode cX8_canBe 2 = .ok (.iload_n 3, 1) := by decide +kernel
theorem dX8_canBe_3 : decode cX8_canBe 3 = .ok (.aload_n 0, 1) := by decide +kernel
theorem dX8_canBe_4 : decode cX8_canBe 4 = .ok (.getfield 25, 3) := by decide +kernel
theorem dX8_canBe_7 : decode cX8_canBe 7 = .ok (.if_icmp .ge 36, 3) := by decide +kernel
theorem dX8_canBe_10 : decode cX8_canBe 10 = .ok (.iload_n 3, 1) := by decide +kernel
theorem dX8_canBe_11 : decode cX8_canBe 11 = .ok (.bipush 10, 2) := by decide +kernel
theorem dX8_canBe_13 : decode cX8_canBe 13 = .ok (.if_icmp .ge 30, 3) := by decide +kernel
theorem dX8_canBe_16 : decode cX8_canBe 16 = .ok (.aload_n 0, 1) := by decide +kernel
theorem dX8_canBe_17 : decode cX8_canBe 17 = .ok (.getfield 9, 3) := by decide +kernel
theorem dX8_canBe_20 : decode cX8_canBe 20 = .ok (.iload_n 3, 1) := by decide +kernel
theorem dX8_canBe_21 : decode cX8_canBe 21 = .ok (.iaload, 1) := by decide +kernel
theorem dX8_canBe_22 : decode cX8_canBe 22 = .ok (.iload_n 1, 1) := by decide +kernel
theorem dX8_canBe_23 : decode cX8_canBe 23 = .ok (.if_icmp .ne 14, 3) := by decide +kernel
theorem dX8_canBe_26 : decode cX8_canBe 26 = .ok (.aload_n 0, 1) := by decide +kernel
theorem dX8_canBe_27 : decode cX8_canBe 27 = .ok (.iload_n 3, 1) := by decide +kernel
theorem dX8_canBe_28 : decode cX8_canBe 28 = .ok (.iload_n 2, 1) := by decide +kernel
theorem dX8_canBe_29 : decode cX8_canBe 29 = .ok (.invokevirtual 29, 3) := by decide +kernel
theorem dX8_canBe_32 : decode cX8_canBe 32 = .ok (.ifCond .ne 5, 3) := by decide +kernel
theorem dX8_canBe_35 : decode cX8_canBe 35 = .ok (.iconst 0, 1) := by decide +kernel
theorem dX8_canBe_36 : decode cX8_canBe 36 = .ok (.ireturn, 1) := by decide +kernel
theorem dX8_canBe_37 : decode cX8_canBe 37 = .ok (.iinc 3 1, 3) := by decide +kernel
theorem dX8_canBe_40 : decode cX8_canBe 40 = .ok (.goto (-38), 3) := by decide +kernel
theorem dX8_canBe_43 : decode cX8_canBe 43 = .ok (.iconst 1, 1) := by decide +kernel
theorem dX8_canBe_44 : decode cX8_canBe 44 = .ok (.ireturn, 1) := by decide +kernel
theorem dX8_isNear_0 : decode cX8_isNear 0 = .ok (.aload_n 0, 1) := by decide +kernel
theorem dX8_isNear_1 : decode cX8_isNear 1 = .ok (.getfield 21, 3) := by decide +kernel
theorem dX8_isNear_4 : decode cX8_isNear 4 = .ok (.iload_n 1, 1) := by decide +kernel
theorem dX8_isNear_5 : decode cX8_isNear 5 = .ok (.baload, 1) := by decide +kernel
theorem dX8_isNear_6 : decode cX8_isNear 6 = .ok (.ifCond .eq 11, 3) := by decide +kernel
theorem dX8_isNear_9 : decode cX8_isNear 9 = .ok (.iload_n 2, 1) := by decide +kernel
theorem dX8_isNear_10 : decode cX8_isNear 10 = .ok (.iconst 2, 1) := by decide +kernel
theorem dX8_isNear_11 : decode cX8_isNear 11 = .ok (.irem, 1) := by decide +kernel
theorem dX8_isNear_12 : decode cX8_isNear 12 = .ok (.ifCond .eq 5, 3) := by decide +kernel
theorem dX8_isNear_15 : decode cX8_isNear 15 = .ok (.iconst 0, 1) := by decide +kernel
theorem dX8_isNear_16 : decode cX8_isNear 16 = .ok (.ireturn, 1) := by decide +kernel
theorem dX8_isNear_17 : decode cX8_isNear 17 = .ok (.aload_n 0, 1) := by decide +kernel
theorem dX8_isNear_18 : decode cX8_isNear 18 = .ok (.getfield 21, 3) := by decide +kernel
theorem dX8_isNear_21 : decode cX8_isNear 21 = .ok (.iload_n 1, 1) := by decide +kernel
theorem dX8_isNear_22 : decode cX8_isNear 22 = .ok (.baload, 1) := by decide +kernel
theorem dX8_isNear_23 : decode cX8_isNear 23 = .ok (.ifCond .eq 9, 3) := by decide +kernel
theorem dX8_isNear_26 : decode cX8_isNear 26 = .ok (.iload_n 2, 1) := by decide +kernel
theorem dX8_isNear_27 : decode cX8_isNear 27 = .ok (.iconst 2, 1) := by decide +kernel
theorem dX8_isNear_28 : decode cX8_isNear 28 = .ok (.idiv, 1) := by decide +kernel
theorem dX8_isNear_29 : decode cX8_isNear 29 = .ok (.goto 4, 3) := by decide +kernel
theorem dX8_isNear_32 : decode cX8_isNear 32 = .ok (.iload_n 2, 1) := by decide +kernel
theorem dX8_isNear_33 : decode cX8_isNear 33 = .ok (.istore_n 3, 1) := by decide +kernel
theorem dX8_isNear_34 : decode cX8_isNear 34 = .ok (.iload_n 3, 1) := by decide +kernel
theorem dX8_isNear_35 : decode cX8_isNear 35 = .ok (.invokestatic 33, 3) := by decide +kernel
theorem dX8_isNear_38 : decode cX8_isNear 38 = .ok (.aload_n 0, 1) := by decide +kernel
theorem dX8_isNear_39 : decode cX8_isNear 39 = .ok (.getfield 15, 3) := by decide +kernel
theorem dX8_isNear_42 : decode cX8_isNear 42 = .ok (.iload_n 1, 1) := by decide +kernel
theorem dX8_isNear_43 : decode cX8_isNear 43 = .ok (.iaload, 1) := by decide +kernel
theorem dX8_isNear_44 : decode cX8_isNear 44 = .ok (.isub, 1) := by decide +kernel
theorem dX8_isNear_45 : decode cX8_isNear 45 = .ok (.invokestatic 37, 3) := by decide +kernel
theorem dX8_isNear_48 : decode cX8_isNear 48 = .ok (.aload_n 0, 1) := by decide +kernel
theorem dX8_isNear_49 : decode cX8_isNear 49 = .ok (.getfield 18, 3) := by decide +kernel
theorem dX8_isNear_52 : decode cX8_isNear 52 = .ok (.iload_n 1, 1) := by decide +kernel
theorem dX8_isNear_53 : decode cX8_isNear 53 = .ok (.iaload, 1) := by decide +kernel
theorem dX8_isNear_54 : decode cX8_isNear 54 = .ok (.if_icmp .gt 7, 3) := by decide +kernel
theorem dX8_isNear_57 : decode cX8_isNear 57 = .ok (.iconst 1, 1) := by decide +kernel
theorem dX8_isNear_58 : decode cX8_isNear 58 = .ok (.goto 4, 3) := by decide +kernel
theorem dX8_isNear_61 : decode cX8_isNear 61 = .ok (.iconst 0, 1) := by decide +kernel
theorem dX8_isNear_62 : decode cX8_isNear 62 = .ok (.ireturn, 1) := by decide +kernel
theorem dX8_howMany_0 : decode cX8_howMany 0 = .ok (.iconst 0, 1) := by decide +kernel
theorem dX8_howMany_1 : decode cX8_howMany 1 = .ok (.istore_n 2, 1) := by decide +kernel
theorem dX8_howMany_2 : decode cX8_howMany 2 = .ok (.iconst 1, 1) := by decide +kernel
theorem dX8_howMany_3 : decode cX8_howMany 3 = .ok (.istore_n 3, 1) := by decide +kernel
theorem dX8_howMany_4 : decode cX8_howMany 4 = .ok (.iload_n 3, 1) := by decide +kernel
theorem dX8_howMany_5 : decode cX8_howMany 5 = .ok (.sipush 999, 3) := by decide +kernel
theorem dX8_howMany_8 : decode cX8_howMany 8 = .ok (.if_icmp .gt 26, 3) := by decide +kernel
theorem dX8_howMany_11 : decode cX8_howMany 11 = .ok (.iload_n 2, 1) := by decide +kernel
theorem dX8_howMany_12 : decode cX8_howMany 12 = .ok (.aload_n 0, 1) := by decide +kernel
theorem dX8_howMany_13 : decode cX8_howMany 13 = .ok (.iload_n 1, 1) := by decide +kernel
theorem dX8_howMany_14 : decode cX8_howMany 14 = .ok (.iload_n 3, 1) := by decide +kernel
theorem dX8_howMany_15 : decode cX8_howMany 15 = .ok (.invokevirtual 42, 3) := by decide +kernel
theorem dX8_howMany_18 : decode cX8_howMany 18 = .ok (.ifCond .eq 7, 3) := by decide +kernel
theorem dX8_howMany_21 : decode cX8_howMany 21 = .ok (.iconst 1, 1) := by decide +kernel
theorem dX8_howMany_22 : decode cX8_howMany 22 = .ok (.goto 4, 3) := by decide +kernel
theorem dX8_howMany_25 : decode cX8_howMany 25 = .ok (.iconst 0, 1) := by decide +kernel
theorem dX8_howMany_26 : decode cX8_howMany 26 = .ok (.iadd, 1) := by decide +kernel
theorem dX8_howMany_27 : decode cX8_howMany 27 = .ok (.istore_n 2, 1) := by decide +kernel
theorem dX8_howMany_28 : decode cX8_howMany 28 = .ok (.iinc 3 1, 3) := by decide +kernel
theorem dX8_howMany_31 : decode cX8_howMany 31 = .ok (.goto (-27), 3) := by decide +kernel
theorem dX8_howMany_34 : decode cX8_howMany 34 = .ok (.iload_n 2, 1) := by decide +kernel
theorem dX8_howMany_35 : decode cX8_howMany 35 = .ok (.ireturn, 1) := by decide +kernel
theorem dX8_least_0 : decode cX8_least 0 = .ok (.iconst 1, 1) := by decide +kernel
theorem dX8_least_1 : decode cX8_least 1 = .ok (.istore_n 2, 1) := by decide +kernel
theorem dX8_least_2 : decode cX8_least 2 = .ok (.iload_n 2, 1) := by decide +kernel
theorem dX8_least_3 : decode cX8_least 3 = .ok (.sipush 999, 3) := by decide +kernel
theorem dX8_least_6 : decode cX8_least 6 = .ok (.if_icmp .gt 20, 3) := by decide +kernel
theorem dX8_least_9 : decode cX8_least 9 = .ok (.aload_n 0, 1) := by decide +kernel
theorem dX8_least_10 : decode cX8_least 10 = .ok (.iload_n 1, 1) := by decide +kernel
theorem dX8_least_11 : decode cX8_least 11 = .ok (.iload_n 2, 1) := by decide +kernel
theorem dX8_least_12 : decode cX8_least 12 = .ok (.invokevirtual 42, 3) := by decide +kernel
theorem dX8_least_15 : decode cX8_least 15 = .ok (.ifCond .eq 5, 3) := by decide +kernel
theorem dX8_least_18 : decode cX8_least 18 = .ok (.iload_n 2, 1) := by decide +kernel
theorem dX8_least_19 : decode cX8_least 19 = .ok (.ireturn, 1) := by decide +kernel
theorem dX8_least_20 : decode cX8_least 20 = .ok (.iinc 2 1, 3) := by decide +kernel
theorem dX8_least_23 : decode cX8_least 23 = .ok (.goto (-21), 3) := by decide +kernel
theorem dX8_least_26 : decode cX8_least 26 = .ok (.iconst (-1), 1) := by decide +kernel
theorem dX8_least_27 : decode cX8_least 27 = .ok (.ireturn, 1) := by decide +kernel
theorem dX8_greatest_0 : decode cX8_greatest 0 = .ok (.sipush 999, 3) := by decide +kernel
theorem dX8_greatest_3 : decode cX8_greatest 3 = .ok (.istore_n 2, 1) := by decide +kernel
theorem dX8_greatest_4 : decode cX8_greatest 4 = .ok (.iload_n 2, 1) := by decide +kernel
theorem dX8_greatest_5 : decode cX8_greatest 5 = .ok (.iconst 1, 1) := by decide +kernel
theorem dX8_greatest_6 : decode cX8_greatest 6 = .ok (.if_icmp .lt 20, 3) := by decide +kernel
theorem dX8_greatest_9 : decode cX8_greatest 9 = .ok (.aload_n 0, 1) := by decide +kernel
theorem dX8_greatest_10 : decode cX8_greatest 10 = .ok (.iload_n 1, 1) := by decide +kernel
theorem dX8_greatest_11 : decode cX8_greatest 11 = .ok (.iload_n 2, 1) := by decide +kernel
theorem dX8_greatest_12 : decode cX8_greatest 12 = .ok (.invokevirtual 42, 3) := by decide +kernel
theorem dX8_greatest_15 : decode cX8_greatest 15 = .ok (.ifCond .eq 5, 3) := by decide +kernel
theorem dX8_greatest_18 : decode cX8_greatest 18 = .ok (.iload_n 2, 1) := by decide +kernel
theorem dX8_greatest_19 : decode cX8_greatest 19 = .ok (.ireturn, 1) := by decide +kernel
theorem dX8_greatest_20 : decode cX8_greatest 20 = .ok (.iinc 2 (-1), 3) := by decide +kernel
theorem dX8_greatest_23 : decode cX8_greatest 23 = .ok (.goto (-19), 3) := by decide +kernel
theorem dX8_greatest_26 : decode cX8_greatest 26 = .ok (.iconst (-1), 1) := by decide +kernel
theorem dX8_greatest_27 : decode cX8_greatest 27 = .ok (.ireturn, 1) := by decide +kernel
theorem dX9_init_0 : decode cX9_init 0 = .ok (.aload_n 0, 1) := by decide +kernel
theorem dX9_init_1 : decode cX9_init 1 = .ok (.invokespecial 1, 3) := by decide +kernel
theorem dX9_init_4 : decode cX9_init 4 = .ok (.aload_n 0, 1) := by decide +kernel
theorem dX9_init_5 : decode cX9_init 5 = .ok (.new 7, 3) := by decide +kernel
theorem dX9_init_8 : decode cX9_init 8 = .ok (.dup, 1) := by decide +kernel
theorem dX9_init_9 : decode cX9_init 9 = .ok (.invokespecial 9, 3) := by decide +kernel
theorem dX9_init_12 : decode cX9_init 12 = .ok (.putfield 10, 3) := by decide +kernel
theorem dX9_init_15 : decode cX9_init 15 = .ok (.aload_n 0, 1) := by decide +kernel
theorem dX9_init_16 : decode cX9_init 16 = .ok (.new 16, 3) := by decide +kernel
theorem dX9_init_19 : decode cX9_init 19 = .ok (.dup, 1) := by decide +kernel
theorem dX9_init_20 : decode cX9_init 20 = .ok (.invokespecial 18, 3) := by decide +kernel
theorem dX9_init_23 : decode cX9_init 23 = .ok (.putfield 19, 3) := by decide +kernel
theorem dX9_init_26 : decode cX9_init 26 = .ok (.aload_n 0, 1) := by decide +kernel
theorem dX9_init_27 : decode cX9_init 27 = .ok (.new 23, 3) := by decide +kernel
theorem dX9_init_30 : decode cX9_init 30 = .ok (.dup, 1) := by decide +kernel
theorem dX9_init_31 : decode cX9_init 31 = .ok (.aload_n 0, 1) := by decide +kernel
theorem dX9_init_32 : decode cX9_init 32 = .ok (.getfield 10, 3) := by decide +kernel
theorem dX9_init_35 : decode cX9_init 35 = .ok (.invokespecial 25, 3) := by decide +kernel
theorem dX9_init_38 : decode cX9_init 38 = .ok (.putfield 28, 3) := by decide +kernel
theorem dX9_init_41 : decode cX9_init 41 = .ok (.aload_n 0, 1) := by decide +kernel
theorem dX9_init_42 : decode cX9_init 42 = .ok (.new 32, 3) := by decide +kernel
theorem dX9_init_45 : decode cX9_init 45 = .ok (.dup, 1) := by decide +kernel
theorem dX9_init_46 : decode cX9_init 46 = .ok (.aload_n 0, 1) := by decide +kernel
theorem dX9_init_47 : decode cX9_init 47 = .ok (.getfield 19, 3) := by decide +kernel
theorem dX9_init_50 : decode cX9_init 50 = .ok (.invokespecial 34, 3) := by decide +kernel
theorem dX9_init_53 : decode cX9_init 53 = .ok (.putfield 37, 3) := by decide +kernel
theorem dX9_init_56 : decode cX9_init 56 = .ok (.aload_n 0, 1) := by decide +kernel
theorem dX9_init_57 : decode cX9_init 57 = .ok (.iconst 2, 1) := by decide +kernel
theorem dX9_init_58 : decode cX9_init 58 = .ok (.anewarray 32, 3) := by decide +kernel
theorem dX9_init_61 : decode cX9_init 61 = .ok (.putfield 41, 3) := by decide +kernel
theorem dX9_init_64 : decode cX9_init 64 = .ok (.iconst 0, 1) := by decide +kernel
theorem dX9_init_65 : decode cX9_init 65 = .ok (.istore_n 1, 1) := by decide +kernel
theorem dX9_init_66 : decode cX9_init 66 = .ok (.iload_n 1, 1) := by decide +kernel
theorem dX9_init_67 : decode cX9_init 67 = .ok (.iconst 2, 1) := by decide +kernel
theorem dX9_init_68 : decode cX9_init 68 = .ok (.if_icmp .ge 26, 3) := by decide +kernel
theorem dX9_init_71 : decode cX9_init 71 = .ok (.aload_n 0, 1) := by decide +kernel
theorem dX9_init_72 : decode cX9_init 72 = .ok (.getfield 41, 3) := by decide +kernel
theorem dX9_init_75 : decode cX9_init 75 = .ok (.iload_n 1, 1) := by decide +kernel
theorem dX9_init_76 : decode cX9_init 76 = .ok (.new 32, 3) := by decide +kernel
theorem dX9_init_79 : decode cX9_init 79 = .ok (.dup, 1) := by decide +kernel
theorem dX9_init_80 : decode cX9_init 80 = .ok (.aload_n 0, 1) := by decide +kernel
theorem dX9_init_81 : decode cX9_init 81 = .ok (.getfield 19, 3) := by decide +kernel
theorem dX9_init_84 : decode cX9_init 84 = .ok (.invokespecial 34, 3) := by decide +kernel
theorem dX9_init_87 : decode cX9_init 87 = .ok (.aastore, 1) := by decide +kernel
theorem dX9_init_88 : decode cX9_init 88 = .ok (.iinc 1 1, 3) := by decide +kernel
theorem dX9_init_91 : decode cX9_init 91 = .ok (.goto (-25), 3) := by decide +kernel
theorem dX9_init_94 : decode cX9_init 94 = .ok (.aload_n 0, 1) := by decide +kernel
theorem dX9_init_95 : decode cX9_init 95 = .ok (.iconst 2, 1) := by decide +kernel
theorem dX9_init_96 : decode cX9_init 96 = .ok (.newarray .boolean, 2) := by decide +kernel
theorem dX9_init_98 : decode cX9_init 98 = .ok (.putfield 45, 3) := by decide +kernel
theorem dX9_init_101 : decode cX9_init 101 = .ok (.aload_n 0, 1) := by decide +kernel
theorem dX9_init_102 : decode cX9_init 102 = .ok (.new 49, 3) := by decide +kernel
theorem dX9_init_105 : decode cX9_init 105 = .ok (.dup, 1) := by decide +kernel
theorem dX9_init_106 : decode cX9_init 106 = .ok (.aload_n 0, 1) := by decide +kernel
theorem dX9_init_107 : decode cX9_init 107 = .ok (.getfield 19, 3) := by decide +kernel
theorem dX9_init_110 : decode cX9_init 110 = .ok (.invokespecial 51, 3) := by decide +kernel
theorem dX9_init_113 : decode cX9_init 113 = .ok (.putfield 52, 3) := by decide +kernel
theorem dX9_init_116 : decode cX9_init 116 = .ok (.aload_n 0, 1) := by decide +kernel
theorem dX9_init_117 : decode cX9_init 117 = .ok (.new 56, 3) := by decide +kernel
theorem dX9_init_120 : decode cX9_init 120 = .ok (.dup, 1) := by decide +kernel
theorem dX9_init_121 : decode cX9_init 121 = .ok (.invokespecial 58, 3) := by decide +kernel
