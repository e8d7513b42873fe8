theorem dX10_bargain_32 : decode cX10_bargain 32 = .ok (.ldc 143, 2) := by decide +kernel
theorem dX10_bargain_34 : decode cX10_bargain 34 = .ok (.ireturn, 1) := by decide +kernel
theorem dX10_bargain_35 : decode cX10_bargain 35 = .ok (.aload_n 0, 1) := by decide +kernel
theorem dX10_bargain_36 : decode cX10_bargain 36 = .ok (.getfield 16, 3) := by decide +kernel
theorem dX10_bargain_39 : decode cX10_bargain 39 = .ok (.bipush 6, 2) := by decide +kernel
theorem dX10_bargain_41 : decode cX10_bargain 41 = .ok (.iload_n 2, 1) := by decide +kernel
theorem dX10_bargain_42 : decode cX10_bargain 42 = .ok (.imul, 1) := by decide +kernel
theorem dX10_bargain_43 : decode cX10_bargain 43 = .ok (.iload_n 1, 1) := by decide +kernel
theorem dX10_bargain_44 : decode cX10_bargain 44 = .ok (.iadd, 1) := by decide +kernel
theorem dX10_bargain_45 : decode cX10_bargain 45 = .ok (.iaload, 1) := by decide +kernel
theorem dX10_bargain_46 : decode cX10_bargain 46 = .ok (.aload_n 0, 1) := by decide +kernel
theorem dX10_bargain_47 : decode cX10_bargain 47 = .ok (.getfield 7, 3) := by decide +kernel
theorem dX10_bargain_50 : decode cX10_bargain 50 = .ok (.iload_n 1, 1) := by decide +kernel
theorem dX10_bargain_51 : decode cX10_bargain 51 = .ok (.iaload, 1) := by decide +kernel
theorem dX10_bargain_52 : decode cX10_bargain 52 = .ok (.isub, 1) := by decide +kernel
theorem dX10_bargain_53 : decode cX10_bargain 53 = .ok (.istore 4, 2) := by decide +kernel
theorem dX10_bargain_55 : decode cX10_bargain 55 = .ok (.iload 4, 2) := by decide +kernel
theorem dX10_bargain_57 : decode cX10_bargain 57 = .ok (.ifCond .ge 5, 3) := by decide +kernel
theorem dX10_bargain_60 : decode cX10_bargain 60 = .ok (.iconst (-1), 1) := by decide +kernel
theorem dX10_bargain_61 : decode cX10_bargain 61 = .ok (.ireturn, 1) := by decide +kernel
theorem dX10_bargain_62 : decode cX10_bargain 62 = .ok (.iconst 0, 1) := by decide +kernel
theorem dX10_bargain_63 : decode cX10_bargain 63 = .ok (.istore 5, 2) := by decide +kernel
theorem dX10_bargain_65 : decode cX10_bargain 65 = .ok (.iload_n 3, 1) := by decide +kernel
theorem dX10_bargain_66 : decode cX10_bargain 66 = .ok (.iconst 1, 1) := by decide +kernel
theorem dX10_bargain_67 : decode cX10_bargain 67 = .ok (.isub, 1) := by decide +kernel
theorem dX10_bargain_68 : decode cX10_bargain 68 = .ok (.istore 6, 2) := by decide +kernel
theorem dX10_bargain_70 : decode cX10_bargain 70 = .ok (.iload 6, 2) := by decide +kernel
theorem dX10_bargain_72 : decode cX10_bargain 72 = .ok (.ifCond .lt 53, 3) := by decide +kernel
theorem dX10_bargain_75 : decode cX10_bargain 75 = .ok (.iload 4, 2) := by decide +kernel
theorem dX10_bargain_77 : decode cX10_bargain 77 = .ok (.iload 6, 2) := by decide +kernel
theorem dX10_bargain_79 : decode cX10_bargain 79 = .ok (.aload_n 0, 1) := by decide +kernel
theorem dX10_bargain_80 : decode cX10_bargain 80 = .ok (.getfield 29, 3) := by decide +kernel
theorem dX10_bargain_83 : decode cX10_bargain 83 = .ok (.imul, 1) := by decide +kernel
theorem dX10_bargain_84 : decode cX10_bargain 84 = .ok (.isub, 1) := by decide +kernel
theorem dX10_bargain_85 : decode cX10_bargain 85 = .ok (.istore 7, 2) := by decide +kernel
theorem dX10_bargain_87 : decode cX10_bargain 87 = .ok (.iload 7, 2) := by decide +kernel
theorem dX10_bargain_89 : decode cX10_bargain 89 = .ok (.ifCond .ge 7, 3) := by decide +kernel
theorem dX10_bargain_92 : decode cX10_bargain 92 = .ok (.iconst 0, 1) := by decide +kernel
theorem dX10_bargain_93 : decode cX10_bargain 93 = .ok (.goto 5, 3) := by decide +kernel
theorem dX10_bargain_96 : decode cX10_bargain 96 = .ok (.iload 7, 2) := by decide +kernel
theorem dX10_bargain_98 : decode cX10_bargain 98 = .ok (.istore 7, 2) := by decide +kernel
theorem dX10_bargain_100 : decode cX10_bargain 100 = .ok (.iload 7, 2) := by decide +kernel
theorem dX10_bargain_102 : decode cX10_bargain 102 = .ok (.iload 5, 2) := by decide +kernel
theorem dX10_bargain_104 : decode cX10_bargain 104 = .ok (.isub, 1) := by decide +kernel
theorem dX10_bargain_105 : decode cX10_bargain 105 = .ok (.ifCond .ge 7, 3) := by decide +kernel
theorem dX10_bargain_108 : decode cX10_bargain 108 = .ok (.iconst 0, 1) := by decide +kernel
theorem dX10_bargain_109 : decode cX10_bargain 109 = .ok (.goto 8, 3) := by decide +kernel
theorem dX10_bargain_112 : decode cX10_bargain 112 = .ok (.iload 7, 2) := by decide +kernel
theorem dX10_bargain_114 : decode cX10_bargain 114 = .ok (.iload 5, 2) := by decide +kernel
theorem dX10_bargain_116 : decode cX10_bargain 116 = .ok (.isub, 1) := by decide +kernel
theorem dX10_bargain_117 : decode cX10_bargain 117 = .ok (.istore 5, 2) := by decide +kernel
theorem dX10_bargain_119 : decode cX10_bargain 119 = .ok (.iinc 6 (-1), 3) := by decide +kernel
theorem dX10_bargain_122 : decode cX10_bargain 122 = .ok (.goto (-52), 3) := by decide +kernel
theorem dX10_bargain_125 : decode cX10_bargain 125 = .ok (.aload_n 0, 1) := by decide +kernel
theorem dX10_bargain_126 : decode cX10_bargain 126 = .ok (.getfield 7, 3) := by decide +kernel
theorem dX10_bargain_129 : decode cX10_bargain 129 = .ok (.iload_n 1, 1) := by decide +kernel
theorem dX10_bargain_130 : decode cX10_bargain 130 = .ok (.iaload, 1) := by decide +kernel
theorem dX10_bargain_131 : decode cX10_bargain 131 = .ok (.iload 5, 2) := by decide +kernel
theorem dX10_bargain_133 : decode cX10_bargain 133 = .ok (.iadd, 1) := by decide +kernel
theorem dX10_bargain_134 : decode cX10_bargain 134 = .ok (.ireturn, 1) := by decide +kernel
theorem dX10_byBuyer_0 : decode cX10_byBuyer 0 = .ok (.aload_n 0, 1) := by decide +kernel
theorem dX10_byBuyer_1 : decode cX10_byBuyer 1 = .ok (.getfield 71, 3) := by decide +kernel
theorem dX10_byBuyer_4 : decode cX10_byBuyer 4 = .ok (.iload_n 1, 1) := by decide +kernel
theorem dX10_byBuyer_5 : decode cX10_byBuyer 5 = .ok (.iaload, 1) := by decide +kernel
theorem dX10_byBuyer_6 : decode cX10_byBuyer 6 = .ok (.istore 4, 2) := by decide +kernel
theorem dX10_byBuyer_8 : decode cX10_byBuyer 8 = .ok (.aload_n 0, 1) := by decide +kernel
theorem dX10_byBuyer_9 : decode cX10_byBuyer 9 = .ok (.getfield 16, 3) := by decide +kernel
theorem dX10_byBuyer_12 : decode cX10_byBuyer 12 = .ok (.bipush 6, 2) := by decide +kernel
theorem dX10_byBuyer_14 : decode cX10_byBuyer 14 = .ok (.iload_n 3, 1) := by decide +kernel
theorem dX10_byBuyer_15 : decode cX10_byBuyer 15 = .ok (.imul, 1) := by decide +kernel
theorem dX10_byBuyer_16 : decode cX10_byBuyer 16 = .ok (.iload 4, 2) := by decide +kernel
theorem dX10_byBuyer_18 : decode cX10_byBuyer 18 = .ok (.iadd, 1) := by decide +kernel
theorem dX10_byBuyer_19 : decode cX10_byBuyer 19 = .ok (.iaload, 1) := by decide +kernel
theorem dX10_byBuyer_20 : decode cX10_byBuyer 20 = .ok (.aload_n 0, 1) := by decide +kernel
theorem dX10_byBuyer_21 : decode cX10_byBuyer 21 = .ok (.getfield 7, 3) := by decide +kernel
theorem dX10_byBuyer_24 : decode cX10_byBuyer 24 = .ok (.iload 4, 2) := by decide +kernel
theorem dX10_byBuyer_26 : decode cX10_byBuyer 26 = .ok (.iaload, 1) := by decide +kernel
theorem dX10_byBuyer_27 : decode cX10_byBuyer 27 = .ok (.isub, 1) := by decide +kernel
theorem dX10_byBuyer_28 : decode cX10_byBuyer 28 = .ok (.istore 5, 2) := by decide +kernel
theorem dX10_byBuyer_30 : decode cX10_byBuyer 30 = .ok (.iload_n 2, 1) := by decide +kernel
theorem dX10_byBuyer_31 : decode cX10_byBuyer 31 = .ok (.iload_n 3, 1) := by decide +kernel
theorem dX10_byBuyer_32 : decode cX10_byBuyer 32 = .ok (.invokestatic 281, 3) := by decide +kernel
theorem dX10_byBuyer_35 : decode cX10_byBuyer 35 = .ok (.ifCond .ne 8, 3) := by decide +kernel
theorem dX10_byBuyer_38 : decode cX10_byBuyer 38 = .ok (.iload 5, 2) := by decide +kernel
theorem dX10_byBuyer_40 : decode cX10_byBuyer 40 = .ok (.ifCond .ge 7, 3) := by decide +kernel
theorem dX10_byBuyer_43 : decode cX10_byBuyer 43 = .ok (.iconst (-1), 1) := by decide +kernel
theorem dX10_byBuyer_44 : decode cX10_byBuyer 44 = .ok (.goto 28, 3) := by decide +kernel
theorem dX10_byBuyer_47 : decode cX10_byBuyer 47 = .ok (.bipush 16, 2) := by decide +kernel
theorem dX10_byBuyer_49 : decode cX10_byBuyer 49 = .ok (.iload 5, 2) := by decide +kernel
theorem dX10_byBuyer_51 : decode cX10_byBuyer 51 = .ok (.imul, 1) := by decide +kernel
theorem dX10_byBuyer_52 : decode cX10_byBuyer 52 = .ok (.iconst 1, 1) := by decide +kernel
theorem dX10_byBuyer_53 : decode cX10_byBuyer 53 = .ok (.iadd, 1) := by decide +kernel
theorem dX10_byBuyer_54 : decode cX10_byBuyer 54 = .ok (.aload_n 0, 1) := by decide +kernel
theorem dX10_byBuyer_55 : decode cX10_byBuyer 55 = .ok (.getfield 74, 3) := by decide +kernel
theorem dX10_byBuyer_58 : decode cX10_byBuyer 58 = .ok (.bipush 64, 2) := by decide +kernel
theorem dX10_byBuyer_60 : decode cX10_byBuyer 60 = .ok (.iload_n 1, 1) := by decide +kernel
theorem dX10_byBuyer_61 : decode cX10_byBuyer 61 = .ok (.iconst 1, 1) := by decide +kernel
theorem dX10_byBuyer_62 : decode cX10_byBuyer 62 = .ok (.iadd, 1) := by decide +kernel
theorem dX10_byBuyer_63 : decode cX10_byBuyer 63 = .ok (.imul, 1) := by decide +kernel
theorem dX10_byBuyer_64 : decode cX10_byBuyer 64 = .ok (.iload_n 2, 1) := by decide +kernel
theorem dX10_byBuyer_65 : decode cX10_byBuyer 65 = .ok (.iconst 1, 1) := by decide +kernel
theorem dX10_byBuyer_66 : decode cX10_byBuyer 66 = .ok (.iload_n 3, 1) := by decide +kernel
theorem dX10_byBuyer_67 : decode cX10_byBuyer 67 = .ok (.ishl, 1) := by decide +kernel
theorem dX10_byBuyer_68 : decode cX10_byBuyer 68 = .ok (.ior, 1) := by decide +kernel
theorem dX10_byBuyer_69 : decode cX10_byBuyer 69 = .ok (.iadd, 1) := by decide +kernel
theorem dX10_byBuyer_70 : decode cX10_byBuyer 70 = .ok (.iaload, 1) := by decide +kernel
theorem dX10_byBuyer_71 : decode cX10_byBuyer 71 = .ok (.iadd, 1) := by decide +kernel
theorem dX10_byBuyer_72 : decode cX10_byBuyer 72 = .ok (.ireturn, 1) := by decide +kernel
theorem dX10_findRest_0 : decode cX10_findRest 0 = .ok (.aload_n 0, 1) := by decide +kernel
theorem dX10_findRest_1 : decode cX10_findRest 1 = .ok (.getfield 336, 3) := by decide +kernel
theorem dX10_findRest_4 : decode cX10_findRest 4 = .ok (.istore_n 1, 1) := by decide +kernel
theorem dX10_findRest_5 : decode cX10_findRest 5 = .ok (.iload_n 1, 1) := by decide +kernel
theorem dX10_findRest_6 : decode cX10_findRest 6 = .ok (.ifCond .lt 110, 3) := by decide +kernel
theorem dX10_findRest_9 : decode cX10_findRest 9 = .ok (.iconst 0, 1) := by decide +kernel
theorem dX10_findRest_10 : decode cX10_findRest 10 = .ok (.istore_n 2, 1) := by decide +kernel
theorem dX10_findRest_11 : decode cX10_findRest 11 = .ok (.iload_n 2, 1) := by decide +kernel
theorem dX10_findRest_12 : decode cX10_findRest 12 = .ok (.bipush 64, 2) := by decide +kernel
theorem dX10_findRest_14 : decode cX10_findRest 14 = .ok (.if_icmp .ge 96, 3) := by decide +kernel
theorem dX10_findRest_17 : decode cX10_findRest 17 = .ok (.iload_n 1, 1) := by decide +kernel
theorem dX10_findRest_18 : decode cX10_findRest 18 = .ok (.aload_n 0, 1) := by decide +kernel
theorem dX10_findRest_19 : decode cX10_findRest 19 = .ok (.getfield 336, 3) := by decide +kernel
theorem dX10_findRest_22 : decode cX10_findRest 22 = .ok (.if_icmp .ne 7, 3) := by decide +kernel
theorem dX10_findRest_25 : decode cX10_findRest 25 = .ok (.iconst 0, 1) := by decide +kernel
theorem dX10_findRest_26 : decode cX10_findRest 26 = .ok (.goto 16, 3) := by decide +kernel
theorem dX10_findRest_29 : decode cX10_findRest 29 = .ok (.aload_n 0, 1) := by decide +kernel
theorem dX10_findRest_30 : decode cX10_findRest 30 = .ok (.getfield 74, 3) := by decide +kernel
theorem dX10_findRest_33 : decode cX10_findRest 33 = .ok (.bipush 64, 2) := by decide +kernel
theorem dX10_findRest_35 : decode cX10_findRest 35 = .ok (.iload_n 1, 1) := by decide +kernel
theorem dX10_findRest_36 : decode cX10_findRest 36 = .ok (.iconst 1, 1) := by decide +kernel
theorem dX10_findRest_37 : decode cX10_findRest 37 = .ok (.iadd, 1) := by decide +kernel
theorem dX10_findRest_38 : decode cX10_findRest 38 = .ok (.imul, 1) := by decide +kernel
theorem dX10_findRest_39 : decode cX10_findRest 39 = .ok (.iload_n 2, 1) := by decide +kernel
theorem dX10_findRest_40 : decode cX10_findRest 40 = .ok (.iadd, 1) := by decide +kernel
theorem dX10_findRest_41 : decode cX10_findRest 41 = .ok (.iaload, 1) := by decide +kernel
theorem dX10_findRest_42 : decode cX10_findRest 42 = .ok (.istore_n 3, 1) := by decide +kernel
theorem dX10_findRest_43 : decode cX10_findRest 43 = .ok (.iconst 0, 1) := by decide +kernel
theorem dX10_findRest_44 : decode cX10_findRest 44 = .ok (.istore 4, 2) := by decide +kernel
theorem dX10_findRest_46 : decode cX10_findRest 46 = .ok (.iload 4, 2) := by decide +kernel
theorem dX10_findRest_48 : decode cX10_findRest 48 = .ok (.aload_n 0, 1) := by decide +kernel
theorem dX10_findRest_49 : decode cX10_findRest 49 = .ok (.getfield 124, 3) := by decide +kernel
theorem dX10_findRest_52 : decode cX10_findRest 52 = .ok (.if_icmp .ge 40, 3) := by decide +kernel
theorem dX10_findRest_55 : decode cX10_findRest 55 = .ok (.iload_n 1, 1) := by decide +kernel
theorem dX10_findRest_56 : decode cX10_findRest 56 = .ok (.aload_n 0, 1) := by decide +kernel
theorem dX10_findRest_57 : decode cX10_findRest 57 = .ok (.getfield 336, 3) := by decide +kernel
theorem dX10_findRest_60 : decode cX10_findRest 60 = .ok (.if_icmp .ge 32, 3) := by decide +kernel
theorem dX10_findRest_63 : decode cX10_findRest 63 = .ok (.aload_n 0, 1) := by decide +kernel
theorem dX10_findRest_64 : decode cX10_findRest 64 = .ok (.iload_n 1, 1) := by decide +kernel
theorem dX10_findRest_65 : decode cX10_findRest 65 = .ok (.iload_n 2, 1) := by decide +kernel
theorem dX10_findRest_66 : decode cX10_findRest 66 = .ok (.iload 4, 2) := by decide +kernel
theorem dX10_findRest_68 : decode cX10_findRest 68 = .ok (.invokevirtual 339, 3) := by decide +kernel
theorem dX10_findRest_71 : decode cX10_findRest 71 = .ok (.istore 5, 2) := by decide +kernel
theorem dX10_findRest_73 : decode cX10_findRest 73 = .ok (.iload 5, 2) := by decide +kernel
theorem dX10_findRest_75 : decode cX10_findRest 75 = .ok (.iload_n 3, 1) := by decide +kernel
theorem dX10_findRest_76 : decode cX10_findRest 76 = .ok (.if_icmp .le 8, 3) := by decide +kernel
theorem dX10_findRest_79 : decode cX10_findRest 79 = .ok (.iload 5, 2) := by decide +kernel
theorem dX10_findRest_81 : decode cX10_findRest 81 = .ok (.goto 4, 3) := by decide +kernel
theorem dX10_findRest_84 : decode cX10_findRest 84 = .ok (.iload_n 3, 1) := by decide +kernel
theorem dX10_findRest_85 : decode cX10_findRest 85 = .ok (.istore_n 3, 1) := by decide +kernel
theorem dX10_findRest_86 : decode cX10_findRest 86 = .ok (.iinc 4 1, 3) := by decide +kernel
theorem dX10_findRest_89 : decode cX10_findRest 89 = .ok (.goto (-43), 3) := by decide +kernel
theorem dX10_findRest_92 : decode cX10_findRest 92 = .ok (.aload_n 0, 1) := by decide +kernel
theorem dX10_findRest_93 : decode cX10_findRest 93 = .ok (.getfield 74, 3) := by decide +kernel
theorem dX10_findRest_96 : decode cX10_findRest 96 = .ok (.bipush 64, 2) := by decide +kernel
theorem dX10_findRest_98 : decode cX10_findRest 98 = .ok (.iload_n 1, 1) := by decide +kernel
theorem dX10_findRest_99 : decode cX10_findRest 99 = .ok (.imul, 1) := by decide +kernel
theorem dX10_findRest_100 : decode cX10_findRest 100 = .ok (.iload_n 2, 1) := by decide +kernel
theorem dX10_findRest_101 : decode cX10_findRest 101 = .ok (.iadd, 1) := by decide +kernel
theorem dX10_findRest_102 : decode cX10_findRest 102 = .ok (.iload_n 3, 1) := by decide +kernel
theorem dX10_findRest_103 : decode cX10_findRest 103 = .ok (.iastore, 1) := by decide +kernel
theorem dX10_findRest_104 : decode cX10_findRest 104 = .ok (.iinc 2 1, 3) := by decide +kernel
theorem dX10_findRest_107 : decode cX10_findRest 107 = .ok (.goto (-96), 3) := by decide +kernel
theorem dX10_findRest_110 : decode cX10_findRest 110 = .ok (.iinc 1 (-1), 3) := by decide +kernel
theorem dX10_findRest_113 : decode cX10_findRest 113 = .ok (.goto (-108), 3) := by decide +kernel
theorem dX10_findRest_116 : decode cX10_findRest 116 = .ok (.return_, 1) := by decide +kernel
theorem dX10_gainWith_0 : decode cX10_gainWith 0 = .ok (.aload_n 0, 1) := by decide +kernel
theorem dX10_gainWith_1 : decode cX10_gainWith 1 = .ok (.iconst 0, 1) := by decide +kernel
theorem dX10_gainWith_2 : decode cX10_gainWith 2 = .ok (.putfield 336, 3) := by decide +kernel
theorem dX10_gainWith_5 : decode cX10_gainWith 5 = .ok (.iconst 0, 1) := by decide +kernel
theorem dX10_gainWith_6 : decode cX10_gainWith 6 = .ok (.istore_n 3, 1) := by decide +kernel
theorem dX10_gainWith_7 : decode cX10_gainWith 7 = .ok (.iload_n 3, 1) := by decide +kernel
theorem dX10_gainWith_8 : decode cX10_gainWith 8 = .ok (.aload_n 0, 1) := by decide +kernel
theorem dX10_gainWith_9 : decode cX10_gainWith 9 = .ok (.getfield 121, 3) := by decide +kernel
theorem dX10_gainWith_12 : decode cX10_gainWith 12 = .ok (.if_icmp .ge 34, 3) := by decide +kernel
theorem dX10_gainWith_15 : decode cX10_gainWith 15 = .ok (.iload_n 3, 1) := by decide +kernel
theorem dX10_gainWith_16 : decode cX10_gainWith 16 = .ok (.iload_n 2, 1) := by decide +kernel
theorem dX10_gainWith_17 : decode cX10_gainWith 17 = .ok (.if_icmp .eq 23, 3) := by decide +kernel
theorem dX10_gainWith_20 : decode cX10_gainWith 20 = .ok (.aload_n 0, 1) := by decide +kernel
theorem dX10_gainWith_21 : decode cX10_gainWith 21 = .ok (.getfield 71, 3) := by decide +kernel
theorem dX10_gainWith_24 : decode cX10_gainWith 24 = .ok (.aload_n 0, 1) := by decide +kernel
theorem dX10_gainWith_25 : decode cX10_gainWith 25 = .ok (.getfield 336, 3) := by decide +kernel
theorem dX10_gainWith_28 : decode cX10_gainWith 28 = .ok (.iload_n 3, 1) := by decide +kernel
theorem dX10_gainWith_29 : decode cX10_gainWith 29 = .ok (.iastore, 1) := by decide +kernel
theorem dX10_gainWith_30 : decode cX10_gainWith 30 = .ok (.aload_n 0, 1) := by decide +kernel
theorem dX10_gainWith_31 : decode cX10_gainWith 31 = .ok (.dup, 1) := by decide +kernel
theorem dX10_gainWith_32 : decode cX10_gainWith 32 = .ok (.getfield 336, 3) := by decide +kernel
theorem dX10_gainWith_35 : decode cX10_gainWith 35 = .ok (.iconst 1, 1) := by decide +kernel
theorem dX10_gainWith_36 : decode cX10_gainWith 36 = .ok (.iadd, 1) := by decide +kernel
theorem dX10_gainWith_37 : decode cX10_gainWith 37 = .ok (.putfield 336, 3) := by decide +kernel
theorem dX10_gainWith_40 : decode cX10_gainWith 40 = .ok (.iinc 3 1, 3) := by decide +kernel
theorem dX10_gainWith_43 : decode cX10_gainWith 43 = .ok (.goto (-36), 3) := by decide +kernel
theorem dX10_gainWith_46 : decode cX10_gainWith 46 = .ok (.iload_n 1, 1) := by decide +kernel
theorem dX10_gainWith_47 : decode cX10_gainWith 47 = .ok (.ifCond .lt 23, 3) := by decide +kernel
theorem dX10_gainWith_50 : decode cX10_gainWith 50 = .ok (.aload_n 0, 1) := by decide +kernel
theorem dX10_gainWith_51 : decode cX10_gainWith 51 = .ok (.getfield 71, 3) := by decide +kernel
theorem dX10_gainWith_54 : decode cX10_gainWith 54 = .ok (.aload_n 0, 1) := by decide +kernel
theorem dX10_gainWith_55 : decode cX10_gainWith 55 = .ok (.getfield 336, 3) := by decide +kernel
theorem dX10_gainWith_58 : decode cX10_gainWith 58 = .ok (.iload_n 1, 1) := by decide +kernel
theorem dX10_gainWith_59 : decode cX10_gainWith 59 = .ok (.iastore, 1) := by decide +kernel
theorem dX10_gainWith_60 : decode cX10_gainWith 60 = .ok (.aload_n 0, 1) := by decide +kernel
theorem dX10_gainWith_61 : decode cX10_gainWith 61 = .ok (.dup, 1) := by decide +kernel
theorem dX10_gainWith_62 : decode cX10_gainWith 62 = .ok (.getfield 336, 3) := by decide +kernel
theorem dX10_gainWith_65 : decode cX10_gainWith 65 = .ok (.iconst 1, 1) := by decide +kernel
theorem dX10_gainWith_66 : decode cX10_gainWith 66 = .ok (.iadd, 1) := by decide +kernel
theorem dX10_gainWith_67 : decode cX10_gainWith 67 = .ok (.putfield 336, 3) := by decide +kernel
theorem dX10_gainWith_70 : decode cX10_gainWith 70 = .ok (.aload_n 0, 1) := by decide +kernel
theorem dX10_gainWith_71 : decode cX10_gainWith 71 = .ok (.invokevirtual 343, 3) := by decide +kernel
theorem dX10_gainWith_74 : decode cX10_gainWith 74 = .ok (.aload_n 0, 1) := by decide +kernel
theorem dX10_gainWith_75 : decode cX10_gainWith 75 = .ok (.getfield 74, 3) := by decide +kernel
theorem dX10_gainWith_78 : decode cX10_gainWith 78 = .ok (.iconst 0, 1) := by decide +kernel
theorem dX10_gainWith_79 : decode cX10_gainWith 79 = .ok (.iaload, 1) := by decide +kernel
theorem dX10_gainWith_80 : decode cX10_gainWith 80 = .ok (.bipush 16, 2) := by decide +kernel
theorem dX10_gainWith_82 : decode cX10_gainWith 82 = .ok (.idiv, 1) := by decide +kernel
theorem dX10_gainWith_83 : decode cX10_gainWith 83 = .ok (.ireturn, 1) := by decide +kernel
theorem dX10_findBest_0 : decode cX10_findBest 0 = .ok (.aload_n 0, 1) := by decide +kernel
theorem dX10_findBest_1 : decode cX10_findBest 1 = .ok (.iconst (-1), 1) := by decide +kernel
theorem dX10_findBest_2 : decode cX10_findBest 2 = .ok (.iconst (-1), 1) := by decide +kernel
theorem dX10_findBest_3 : decode cX10_findBest 3 = .ok (.invokevirtual 346, 3) := by decide +kernel
theorem dX10_findBest_6 : decode cX10_findBest 6 = .ok (.istore_n 1, 1) := by decide +kernel
theorem dX10_findBest_7 : decode cX10_findBest 7 = .ok (.iconst 0, 1) := by decide +kernel
theorem dX10_findBest_8 : decode cX10_findBest 8 = .ok (.istore_n 2, 1) := by decide +kernel
theorem dX10_findBest_9 : decode cX10_findBest 9 = .ok (.iconst 0, 1) := by decide +kernel
theorem dX10_findBest_10 : decode cX10_findBest 10 = .ok (.istore_n 3, 1) := by decide +kernel
theorem dX10_findBest_11 : decode cX10_findBest 11 = .ok (.iload_n 3, 1) := by decide +kernel
theorem dX10_findBest_12 : decode cX10_findBest 12 = .ok (.aload_n 0, 1) := by decide +kernel
theorem dX10_findBest_13 : decode cX10_findBest 13 = .ok (.getfield 121, 3) := by decide +kernel
theorem dX10_findBest_16 : decode cX10_findBest 16 = .ok (.if_icmp .ge 98, 3) := by decide +kernel
theorem dX10_findBest_19 : decode cX10_findBest 19 = .ok (.aload_n 0, 1) := by decide +kernel
theorem dX10_findBest_20 : decode cX10_findBest 20 = .ok (.getfield 77, 3) := by decide +kernel
theorem dX10_findBest_23 : decode cX10_findBest 23 = .ok (.iload_n 3, 1) := by decide +kernel
theorem dX10_findBest_24 : decode cX10_findBest 24 = .ok (.iconst (-1), 1) := by decide +kernel
theorem dX10_findBest_25 : decode cX10_findBest 25 = .ok (.iastore, 1) := by decide +kernel
theorem dX10_findBest_26 : decode cX10_findBest 26 = .ok (.aload_n 0, 1) := by decide +kernel
theorem dX10_findBest_27 : decode cX10_findBest 27 = .ok (.getfield 124, 3) := by decide +kernel
theorem dX10_findBest_30 : decode cX10_findBest 30 = .ok (.iconst 1, 1) := by decide +kernel
theorem dX10_findBest_31 : decode cX10_findBest 31 = .ok (.isub, 1) := by decide +kernel
theorem dX10_findBest_32 : decode cX10_findBest 32 = .ok (.istore 4, 2) := by decide +kernel
theorem dX10_findBest_34 : decode cX10_findBest 34 = .ok (.iload 4, 2) := by decide +kernel
theorem dX10_findBest_36 : decode cX10_findBest 36 = .ok (.ifCond .lt 48, 3) := by decide +kernel
theorem dX10_findBest_39 : decode cX10_findBest 39 = .ok (.aload_n 0, 1) := by decide +kernel
theorem dX10_findBest_40 : decode cX10_findBest 40 = .ok (.getfield 77, 3) := by decide +kernel
theorem dX10_findBest_43 : decode cX10_findBest 43 = .ok (.iload_n 3, 1) := by decide +kernel
theorem dX10_findBest_44 : decode cX10_findBest 44 = .ok (.aload_n 0, 1) := by decide +kernel
theorem dX10_findBest_45 : decode cX10_findBest 45 = .ok (.iload_n 3, 1) := by decide +kernel
theorem dX10_findBest_46 : decode cX10_findBest 46 = .ok (.iload_n 2, 1) := by decide +kernel
theorem dX10_findBest_47 : decode cX10_findBest 47 = .ok (.iload 4, 2) := by decide +kernel
theorem dX10_findBest_49 : decode cX10_findBest 49 = .ok (.invokevirtual 339, 3) := by decide +kernel
theorem dX10_findBest_52 : decode cX10_findBest 52 = .ok (.aload_n 0, 1) := by decide +kernel
theorem dX10_findBest_53 : decode cX10_findBest 53 = .ok (.getfield 74, 3) := by decide +kernel
theorem dX10_findBest_56 : decode cX10_findBest 56 = .ok (.bipush 64, 2) := by decide +kernel
theorem dX10_findBest_58 : decode cX10_findBest 58 = .ok (.iload_n 3, 1) := by decide +kernel
theorem dX10_findBest_59 : decode cX10_findBest 59 = .ok (.imul, 1) := by decide +kernel
theorem dX10_findBest_60 : decode cX10_findBest 60 = .ok (.iload_n 2, 1) := by decide +kernel
theorem dX10_findBest_61 : decode cX10_findBest 61 = .ok (.iadd, 1) := by decide +kernel
theorem dX10_findBest_62 : decode cX10_findBest 62 = .ok (.iaload, 1) := by decide +kernel
theorem dX10_findBest_63 : decode cX10_findBest 63 = .ok (.if_icmp .ne 8, 3) := by decide +kernel
theorem dX10_findBest_66 : decode cX10_findBest 66 = .ok (.iload 4, 2) := by decide +kernel
theorem dX10_findBest_68 : decode cX10_findBest 68 = .ok (.goto 9, 3) := by decide +kernel
theorem dX10_findBest_71 : decode cX10_findBest 71 = .ok (.aload_n 0, 1) := by decide +kernel
theorem dX10_findBest_72 : decode cX10_findBest 72 = .ok (.getfield 77, 3) := by decide +kernel
theorem dX10_findBest_75 : decode cX10_findBest 75 = .ok (.iload_n 3, 1) := by decide +kernel
theorem dX10_findBest_76 : decode cX10_findBest 76 = .ok (.iaload, 1) := by decide +kernel
theorem dX10_findBest_77 : decode cX10_findBest 77 = .ok (.iastore, 1) := by decide +kernel
theorem dX10_findBest_78 : decode cX10_findBest 78 = .ok (.iinc 4 (-1), 3) := by decide +kernel
theorem dX10_findBest_81 : decode cX10_findBest 81 = .ok (.goto (-47), 3) := by decide +kernel
theorem dX10_findBest_84 : decode cX10_findBest 84 = .ok (.iload_n 2, 1) := by decide +kernel
theorem dX10_findBest_85 : decode cX10_findBest 85 = .ok (.aload_n 0, 1) := by decide +kernel
theorem dX10_findBest_86 : decode cX10_findBest 86 = .ok (.getfield 77, 3) := by decide +kernel
theorem dX10_findBest_89 : decode cX10_findBest 89 = .ok (.iload_n 3, 1) := by decide +kernel
theorem dX10_findBest_90 : decode cX10_findBest 90 = .ok (.iaload, 1) := by decide +kernel
theorem dX10_findBest_91 : decode cX10_findBest 91 = .ok (.ifCond .lt 14, 3) := by decide +kernel
theorem dX10_findBest_94 : decode cX10_findBest 94 = .ok (.iconst 1, 1) := by decide +kernel
theorem dX10_findBest_95 : decode cX10_findBest 95 = .ok (.aload_n 0, 1) := by decide +kernel
theorem dX10_findBest_96 : decode cX10_findBest 96 = .ok (.getfield 77, 3) := by decide +kernel
theorem dX10_findBest_99 : decode cX10_findBest 99 = .ok (.iload_n 3, 1) := by decide +kernel
theorem dX10_findBest_100 : decode cX10_findBest 100 = .ok (.iaload, 1) := by decide +kernel
theorem dX10_findBest_101 : decode cX10_findBest 101 = .ok (.ishl, 1) := by decide +kernel
theorem dX10_findBest_102 : decode cX10_findBest 102 = .ok (.goto 4, 3) := by decide +kernel
theorem dX10_findBest_105 : decode cX10_findBest 105 = .ok (.iconst 0, 1) := by decide +kernel
theorem dX10_findBest_106 : decode cX10_findBest 106 = .ok (.ior, 1) := by decide +kernel
theorem dX10_findBest_107 : decode cX10_findBest 107 = .ok (.istore_n 2, 1) := by decide +kernel
theorem dX10_findBest_108 : decode cX10_findBest 108 = .ok (.iinc 3 1, 3) := by decide +kernel
theorem dX10_findBest_111 : decode cX10_findBest 111 = .ok (.goto (-100), 3) := by decide +kernel
theorem dX10_findBest_114 : decode cX10_findBest 114 = .ok (.return_, 1) := by decide +kernel
theorem dX10_best_0 : decode cX10_best 0 = .ok (.iload_n 1, 1) := by decide +kernel
theorem dX10_best_1 : decode cX10_best 1 = .ok (.i2l, 1) := by decide +kernel
theorem dX10_best_2 : decode cX10_best 2 = .ok (.lconst 0, 1) := by decide +kernel
theorem dX10_best_3 : decode cX10_best 3 = .ok (.iconst 1, 1) := by decide +kernel
theorem dX10_best_4 : decode cX10_best 4 = .ok (.aload_n 0, 1) := by decide +kernel
theorem dX10_best_5 : decode cX10_best 5 = .ok (.getfield 121, 3) := by decide +kernel
theorem dX10_best_8 : decode cX10_best 8 = .ok (.iadd, 1) := by decide +kernel
theorem dX10_best_9 : decode cX10_best 9 = .ok (.i2l, 1) := by decide +kernel
theorem dX10_best_10 : decode cX10_best 10 = .ok (.invokestatic 134, 3) := by decide +kernel
theorem dX10_best_13 : decode cX10_best 13 = .ok (.ifCond .ne 6, 3) := by decide +kernel
theorem dX10_best_16 : decode cX10_best 16 = .ok (.ldc 143, 2) := by decide +kernel
theorem dX10_best_18 : decode cX10_best 18 = .ok (.ireturn, 1) := by decide +kernel
theorem dX10_best_19 : decode cX10_best 19 = .ok (.aload_n 0, 1) := by decide +kernel
theorem dX10_best_20 : decode cX10_best 20 = .ok (.invokevirtual 349, 3) := by decide +kernel
theorem dX10_best_23 : decode cX10_best 23 = .ok (.aload_n 0, 1) := by decide +kernel
theorem dX10_best_24 : decode cX10_best 24 = .ok (.getfield 74, 3) := by decide +kernel
theorem dX10_best_27 : decode cX10_best 27 = .ok (.iconst 0, 1) := by decide +kernel
theorem dX10_best_28 : decode cX10_best 28 = .ok (.iaload, 1) := by decide +kernel
theorem dX10_best_29 : decode cX10_best 29 = .ok (.bipush 16, 2) := by decide +kernel
theorem dX10_best_31 : decode cX10_best 31 = .ok (.idiv, 1) := by decide +kernel
theorem dX10_best_32 : decode cX10_best 32 = .ok (.istore_n 2, 1) := by decide +kernel
theorem dX10_best_33 : decode cX10_best 33 = .ok (.iload_n 1, 1) := by decide +kernel
theorem dX10_best_34 : decode cX10_best 34 = .ok (.ifCond .ne 7, 3) := by decide +kernel
theorem dX10_best_37 : decode cX10_best 37 = .ok (.iload_n 2, 1) := by decide +kernel
theorem dX10_best_38 : decode cX10_best 38 = .ok (.goto 28, 3) := by decide +kernel
theorem dX10_best_41 : decode cX10_best 41 = .ok (.iload_n 1, 1) := by decide +kernel
theorem dX10_best_42 : decode cX10_best 42 = .ok (.iconst 1, 1) := by decide +kernel
theorem dX10_best_43 : decode cX10_best 43 = .ok (.if_icmp .ne 15, 3) := by decide +kernel
theorem dX10_best_46 : decode cX10_best 46 = .ok (.aload_n 0, 1) := by decide +kernel
theorem dX10_best_47 : decode cX10_best 47 = .ok (.getfield 74, 3) := by decide +kernel
theorem dX10_best_50 : decode cX10_best 50 = .ok (.iconst 0, 1) := by decide +kernel
theorem dX10_best_51 : decode cX10_best 51 = .ok (.iaload, 1) := by decide +kernel
theorem dX10_best_52 : decode cX10_best 52 = .ok (.bipush 16, 2) := by decide +kernel
theorem dX10_best_54 : decode cX10_best 54 = .ok (.irem, 1) := by decide +kernel
theorem dX10_best_55 : decode cX10_best 55 = .ok (.goto 11, 3) := by decide +kernel
theorem dX10_best_58 : decode cX10_best 58 = .ok (.aload_n 0, 1) := by decide +kernel
theorem dX10_best_59 : decode cX10_best 59 = .ok (.getfield 77, 3) := by decide +kernel
theorem dX10_best_62 : decode cX10_best 62 = .ok (.iload_n 1, 1) := by decide +kernel
theorem dX10_best_63 : decode cX10_best 63 = .ok (.iconst 2, 1) := by decide +kernel
theorem dX10_best_64 : decode cX10_best 64 = .ok (.isub, 1) := by decide +kernel
theorem dX10_best_65 : decode cX10_best 65 = .ok (.iaload, 1) := by decide +kernel
theorem dX10_best_66 : decode cX10_best 66 = .ok (.ireturn, 1) := by decide +kernel
theorem dX10_spanOf_0 : decode cX10_spanOf 0 = .ok (.aload_n 0, 1) := by decide +kernel
theorem dX10_spanOf_1 : decode cX10_spanOf 1 = .ok (.iconst (-1), 1) := by decide +kernel
theorem dX10_spanOf_2 : decode cX10_spanOf 2 = .ok (.iconst (-1), 1) := by decide +kernel
theorem dX10_spanOf_3 : decode cX10_spanOf 3 = .ok (.invokevirtual 346, 3) := by decide +kernel
theorem dX10_spanOf_6 : decode cX10_spanOf 6 = .ok (.istore_n 3, 1) := by decide +kernel
theorem dX10_spanOf_7 : decode cX10_spanOf 7 = .ok (.aload_n 0, 1) := by decide +kernel
theorem dX10_spanOf_8 : decode cX10_spanOf 8 = .ok (.getfield 7, 3) := by decide +kernel
theorem dX10_spanOf_11 : decode cX10_spanOf 11 = .ok (.iload_n 1, 1) := by decide +kernel
theorem dX10_spanOf_12 : decode cX10_spanOf 12 = .ok (.iaload, 1) := by decide +kernel
theorem dX10_spanOf_13 : decode cX10_spanOf 13 = .ok (.iload_n 2, 1) := by decide +kernel
theorem dX10_spanOf_14 : decode cX10_spanOf 14 = .ok (.ifCond .ne 14, 3) := by decide +kernel
theorem dX10_spanOf_17 : decode cX10_spanOf 17 = .ok (.aload_n 0, 1) := by decide +kernel
theorem dX10_spanOf_18 : decode cX10_spanOf 18 = .ok (.iload_n 1, 1) := by decide +kernel
theorem dX10_spanOf_19 : decode cX10_spanOf 19 = .ok (.iconst (-1), 1) := by decide +kernel
theorem dX10_spanOf_20 : decode cX10_spanOf 20 = .ok (.invokevirtual 346, 3) := by decide +kernel
theorem dX10_spanOf_23 : decode cX10_spanOf 23 = .ok (.iload_n 3, 1) := by decide +kernel
theorem dX10_spanOf_24 : decode cX10_spanOf 24 = .ok (.isub, 1) := by decide +kernel
theorem dX10_spanOf_25 : decode cX10_spanOf 25 = .ok (.goto 11, 3) := by decide +kernel
theorem dX10_spanOf_28 : decode cX10_spanOf 28 = .ok (.iload_n 3, 1) := by decide +kernel
theorem dX10_spanOf_29 : decode cX10_spanOf 29 = .ok (.aload_n 0, 1) := by decide +kernel
theorem dX10_spanOf_30 : decode cX10_spanOf 30 = .ok (.iconst (-1), 1) := by decide +kernel
theorem dX10_spanOf_31 : decode cX10_spanOf 31 = .ok (.iload_n 1, 1) := by decide +kernel
theorem dX10_spanOf_32 : decode cX10_spanOf 32 = .ok (.invokevirtual 346, 3) := by decide +kernel
theorem dX10_spanOf_35 : decode cX10_spanOf 35 = .ok (.isub, 1) := by decide +kernel
theorem dX10_spanOf_36 : decode cX10_spanOf 36 = .ok (.iadd, 1) := by decide +kernel
theorem dX10_spanOf_37 : decode cX10_spanOf 37 = .ok (.ireturn, 1) := by decide +kernel
theorem dX10_span_0 : decode cX10_span 0 = .ok (.aload_n 0, 1) := by decide +kernel
theorem dX10_span_1 : decode cX10_span 1 = .ok (.iload_n 1, 1) := by decide +kernel
theorem dX10_span_2 : decode cX10_span 2 = .ok (.invokevirtual 271, 3) := by decide +kernel
theorem dX10_span_5 : decode cX10_span 5 = .ok (.ifCond .ne 7, 3) := by decide +kernel
theorem dX10_span_8 : decode cX10_span 8 = .ok (.ldc_w 264, 3) := by decide +kernel
theorem dX10_span_11 : decode cX10_span 11 = .ok (.ireturn, 1) := by decide +kernel
theorem dX10_span_12 : decode cX10_span 12 = .ok (.iload_n 2, 1) := by decide +kernel
theorem dX10_span_13 : decode cX10_span 13 = .ok (.i2l, 1) := by decide +kernel
theorem dX10_span_14 : decode cX10_span 14 = .ok (.lconst 0, 1) := by decide +kernel
theorem dX10_span_15 : decode cX10_span 15 = .ok (.lconst 1, 1) := by decide +kernel
theorem dX10_span_16 : decode cX10_span 16 = .ok (.invokestatic 134, 3) := by decide +kernel
theorem dX10_span_19 : decode cX10_span 19 = .ok (.ifCond .eq 12, 3) := by decide +kernel
theorem dX10_span_22 : decode cX10_span 22 = .ok (.aload_n 0, 1) := by decide +kernel
theorem dX10_span_23 : decode cX10_span 23 = .ok (.iload_n 1, 1) := by decide +kernel
theorem dX10_span_24 : decode cX10_span 24 = .ok (.iload_n 2, 1) := by decide +kernel
theorem dX10_span_25 : decode cX10_span 25 = .ok (.invokevirtual 352, 3) := by decide +kernel
theorem dX10_span_28 : decode cX10_span 28 = .ok (.goto 5, 3) := by decide +kernel
theorem dX10_span_31 : decode cX10_span 31 = .ok (.ldc 143, 2) := by decide +kernel
theorem dX10_span_33 : decode cX10_span 33 = .ok (.ireturn, 1) := by decide +kernel
theorem dX10_priceBy_0 : decode cX10_priceBy 0 = .ok (.iload_n 1, 1) := by decide +kernel
theorem dX10_priceBy_1 : decode cX10_priceBy 1 = .ok (.ifCond .ne 31, 3) := by decide +kernel
theorem dX10_priceBy_4 : decode cX10_priceBy 4 = .ok (.aload_n 0, 1) := by decide +kernel
theorem dX10_priceBy_5 : decode cX10_priceBy 5 = .ok (.getfield 16, 3) := by decide +kernel
theorem dX10_priceBy_8 : decode cX10_priceBy 8 = .ok (.bipush 6, 2) := by decide +kernel
theorem dX10_priceBy_10 : decode cX10_priceBy 10 = .ok (.aload_n 0, 1) := by decide +kernel
theorem dX10_priceBy_11 : decode cX10_priceBy 11 = .ok (.getfield 77, 3) := by decide +kernel
theorem dX10_priceBy_14 : decode cX10_priceBy 14 = .ok (.iload_n 2, 1) := by decide +kernel
theorem dX10_priceBy_15 : decode cX10_priceBy 15 = .ok (.iaload, 1) := by decide +kernel
theorem dX10_priceBy_16 : decode cX10_priceBy 16 = .ok (.imul, 1) := by decide +kernel
theorem dX10_priceBy_17 : decode cX10_priceBy 17 = .ok (.iload_n 2, 1) := by decide +kernel
theorem dX10_priceBy_18 : decode cX10_priceBy 18 = .ok (.iadd, 1) := by decide +kernel
theorem dX10_priceBy_19 : decode cX10_priceBy 19 = .ok (.iaload, 1) := by decide +kernel
theorem dX10_priceBy_20 : decode cX10_priceBy 20 = .ok (.aload_n 0, 1) := by decide +kernel
theorem dX10_priceBy_21 : decode cX10_priceBy 21 = .ok (.getfield 7, 3) := by decide +kernel
theorem dX10_priceBy_24 : decode cX10_priceBy 24 = .ok (.iload_n 2, 1) := by decide +kernel
theorem dX10_priceBy_25 : decode cX10_priceBy 25 = .ok (.iaload, 1) := by decide +kernel
theorem dX10_priceBy_26 : decode cX10_priceBy 26 = .ok (.iadd, 1) := by decide +kernel
theorem dX10_priceBy_27 : decode cX10_priceBy 27 = .ok (.iconst 2, 1) := by decide +kernel
theorem dX10_priceBy_28 : decode cX10_priceBy 28 = .ok (.idiv, 1) := by decide +kernel
theorem dX10_priceBy_29 : decode cX10_priceBy 29 = .ok (.goto 11, 3) := by decide +kernel
theorem dX10_priceBy_32 : decode cX10_priceBy 32 = .ok (.aload_n 0, 1) := by decide +kernel
theorem dX10_priceBy_33 : decode cX10_priceBy 33 = .ok (.iload_n 2, 1) := by decide +kernel
theorem dX10_priceBy_34 : decode cX10_priceBy 34 = .ok (.iload_n 1, 1) := by decide +kernel
theorem dX10_priceBy_35 : decode cX10_priceBy 35 = .ok (.iconst 1, 1) := by decide +kernel
theorem dX10_priceBy_36 : decode cX10_priceBy 36 = .ok (.isub, 1) := by decide +kernel
theorem dX10_priceBy_37 : decode cX10_priceBy 37 = .ok (.invokevirtual 352, 3) := by decide +kernel
theorem dX10_priceBy_40 : decode cX10_priceBy 40 = .ok (.ireturn, 1) := by decide +kernel
theorem dX10_gainBy_0 : decode cX10_gainBy 0 = .ok (.aload_n 0, 1) := by decide +kernel
theorem dX10_gainBy_1 : decode cX10_gainBy 1 = .ok (.iload_n 2, 1) := by decide +kernel
theorem dX10_gainBy_2 : decode cX10_gainBy 2 = .ok (.invokevirtual 245, 3) := by decide +kernel
theorem dX10_gainBy_5 : decode cX10_gainBy 5 = .ok (.istore 5, 2) := by decide +kernel
theorem dX10_gainBy_7 : decode cX10_gainBy 7 = .ok (.iload_n 2, 1) := by decide +kernel
theorem dX10_gainBy_8 : decode cX10_gainBy 8 = .ok (.aload_n 0, 1) := by decide +kernel
theorem dX10_gainBy_9 : decode cX10_gainBy 9 = .ok (.getfield 121, 3) := by decide +kernel
theorem dX10_gainBy_12 : decode cX10_gainBy 12 = .ok (.isub, 1) := by decide +kernel
theorem dX10_gainBy_13 : decode cX10_gainBy 13 = .ok (.istore 6, 2) := by decide +kernel
theorem dX10_gainBy_15 : decode cX10_gainBy 15 = .ok (.iload 5, 2) := by decide +kernel
theorem dX10_gainBy_17 : decode cX10_gainBy 17 = .ok (.ifCond .ne 12, 3) := by decide +kernel
theorem dX10_gainBy_20 : decode cX10_gainBy 20 = .ok (.aload_n 0, 1) := by decide +kernel
theorem dX10_gainBy_21 : decode cX10_gainBy 21 = .ok (.getfield 7, 3) := by decide +kernel
theorem dX10_gainBy_24 : decode cX10_gainBy 24 = .ok (.iload_n 3, 1) := by decide +kernel
theorem dX10_gainBy_25 : decode cX10_gainBy 25 = .ok (.iaload, 1) := by decide +kernel
theorem dX10_gainBy_26 : decode cX10_gainBy 26 = .ok (.goto 15, 3) := by decide +kernel
theorem dX10_gainBy_29 : decode cX10_gainBy 29 = .ok (.aload_n 0, 1) := by decide +kernel
theorem dX10_gainBy_30 : decode cX10_gainBy 30 = .ok (.getfield 16, 3) := by decide +kernel
theorem dX10_gainBy_33 : decode cX10_gainBy 33 = .ok (.bipush 6, 2) := by decide +kernel
theorem dX10_gainBy_35 : decode cX10_gainBy 35 = .ok (.iload 6, 2) := by decide +kernel
theorem dX10_gainBy_37 : decode cX10_gainBy 37 = .ok (.imul, 1) := by decide +kernel
theorem dX10_gainBy_38 : decode cX10_gainBy 38 = .ok (.iload_n 3, 1) := by decide +kernel
theorem dX10_gainBy_39 : decode cX10_gainBy 39 = .ok (.iadd, 1) := by decide +kernel
theorem dX10_gainBy_40 : decode cX10_gainBy 40 = .ok (.iaload, 1) := by decide +kernel
theorem dX10_gainBy_41 : decode cX10_gainBy 41 = .ok (.istore 7, 2) := by decide +kernel
theorem dX10_gainBy_43 : decode cX10_gainBy 43 = .ok (.aload_n 0, 1) := by decide +kernel
theorem dX10_gainBy_44 : decode cX10_gainBy 44 = .ok (.iload_n 2, 1) := by decide +kernel
theorem dX10_gainBy_45 : decode cX10_gainBy 45 = .ok (.iload_n 3, 1) := by decide +kernel
theorem dX10_gainBy_46 : decode cX10_gainBy 46 = .ok (.iload 4, 2) := by decide +kernel
theorem dX10_gainBy_48 : decode cX10_gainBy 48 = .ok (.invokevirtual 355, 3) := by decide +kernel
theorem dX10_gainBy_51 : decode cX10_gainBy 51 = .ok (.aload_n 0, 1) := by decide +kernel
theorem dX10_gainBy_52 : decode cX10_gainBy 52 = .ok (.invokevirtual 349, 3) := by decide +kernel
theorem dX10_gainBy_55 : decode cX10_gainBy 55 = .ok (.iload 5, 2) := by decide +kernel
theorem dX10_gainBy_57 : decode cX10_gainBy 57 = .ok (.ifCond .ne 20, 3) := by decide +kernel
theorem dX10_gainBy_60 : decode cX10_gainBy 60 = .ok (.aload_n 0, 1) := by decide +kernel
theorem dX10_gainBy_61 : decode cX10_gainBy 61 = .ok (.getfield 77, 3) := by decide +kernel
theorem dX10_gainBy_64 : decode cX10_gainBy 64 = .ok (.iload_n 3, 1) := by decide +kernel
theorem dX10_gainBy_65 : decode cX10_gainBy 65 = .ok (.iaload, 1) := by decide +kernel
theorem dX10_gainBy_66 : decode cX10_gainBy 66 = .ok (.ifCond .ge 7, 3) := by decide +kernel
theorem dX10_gainBy_69 : decode cX10_gainBy 69 = .ok (.iconst (-1), 1) := by decide +kernel
theorem dX10_gainBy_70 : decode cX10_gainBy 70 = .ok (.goto 8, 3) := by decide +kernel
theorem dX10_gainBy_73 : decode cX10_gainBy 73 = .ok (.iload_n 3, 1) := by decide +kernel
theorem dX10_gainBy_74 : decode cX10_gainBy 74 = .ok (.goto 4, 3) := by decide +kernel
theorem dX10_gainBy_77 : decode cX10_gainBy 77 = .ok (.iconst (-1), 1) := by decide +kernel
theorem dX10_gainBy_78 : decode cX10_gainBy 78 = .ok (.istore 8, 2) := by decide +kernel
theorem dX10_gainBy_80 : decode cX10_gainBy 80 = .ok (.iconst 0, 1) := by decide +kernel
theorem dX10_gainBy_81 : decode cX10_gainBy 81 = .ok (.istore 9, 2) := by decide +kernel
theorem dX10_gainBy_83 : decode cX10_gainBy 83 = .ok (.iload 9, 2) := by decide +kernel
theorem dX10_gainBy_85 : decode cX10_gainBy 85 = .ok (.aload_n 0, 1) := by decide +kernel
theorem dX10_gainBy_86 : decode cX10_gainBy 86 = .ok (.getfield 121, 3) := by decide +kernel
theorem dX10_gainBy_89 : decode cX10_gainBy 89 = .ok (.if_icmp .ge 36, 3) := by decide +kernel
theorem dX10_gainBy_92 : decode cX10_gainBy 92 = .ok (.iload 5, 2) := by decide +kernel
theorem dX10_gainBy_94 : decode cX10_gainBy 94 = .ok (.iconst 1, 1) := by decide +kernel
theorem dX10_gainBy_95 : decode cX10_gainBy 95 = .ok (.if_icmp .ne 30, 3) := by decide +kernel
theorem dX10_gainBy_98 : decode cX10_gainBy 98 = .ok (.aload_n 0, 1) := by decide +kernel
theorem dX10_gainBy_99 : decode cX10_gainBy 99 = .ok (.getfield 77, 3) := by decide +kernel
theorem dX10_gainBy_102 : decode cX10_gainBy 102 = .ok (.iload 9, 2) := by decide +kernel
theorem dX10_gainBy_104 : decode cX10_gainBy 104 = .ok (.iaload, 1) := by decide +kernel
theorem dX10_gainBy_105 : decode cX10_gainBy 105 = .ok (.iload 6, 2) := by decide +kernel
theorem dX10_gainBy_107 : decode cX10_gainBy 107 = .ok (.if_icmp .ne 8, 3) := by decide +kernel
theorem dX10_gainBy_110 : decode cX10_gainBy 110 = .ok (.iload 9, 2) := by decide +kernel
theorem dX10_gainBy_112 : decode cX10_gainBy 112 = .ok (.goto 5, 3) := by decide +kernel
theorem dX10_gainBy_115 : decode cX10_gainBy 115 = .ok (.iload 8, 2) := by decide +kernel
theorem dX10_gainBy_117 : decode cX10_gainBy 117 = .ok (.istore 8, 2) := by decide +kernel
theorem dX10_gainBy_119 : decode cX10_gainBy 119 = .ok (.iinc 9 1, 3) := by decide +kernel
theorem dX10_gainBy_122 : decode cX10_gainBy 122 = .ok (.goto (-39), 3) := by decide +kernel
theorem dX10_gainBy_125 : decode cX10_gainBy 125 = .ok (.iload 8, 2) := by decide +kernel
theorem dX10_gainBy_127 : decode cX10_gainBy 127 = .ok (.ifCond .ge 7, 3) := by decide +kernel
theorem dX10_gainBy_130 : decode cX10_gainBy 130 = .ok (.iconst 0, 1) := by decide +kernel
theorem dX10_gainBy_131 : decode cX10_gainBy 131 = .ok (.goto 10, 3) := by decide +kernel
theorem dX10_gainBy_134 : decode cX10_gainBy 134 = .ok (.aload_n 0, 1) := by decide +kernel
theorem dX10_gainBy_135 : decode cX10_gainBy 135 = .ok (.iload_n 1, 1) := by decide +kernel
theorem dX10_gainBy_136 : decode cX10_gainBy 136 = .ok (.iload 8, 2) := by decide +kernel
theorem dX10_gainBy_138 : decode cX10_gainBy 138 = .ok (.invokevirtual 358, 3) := by decide +kernel
theorem dX10_gainBy_141 : decode cX10_gainBy 141 = .ok (.istore 9, 2) := by decide +kernel
theorem dX10_gainBy_143 : decode cX10_gainBy 143 = .ok (.aload_n 0, 1) := by decide +kernel
theorem dX10_gainBy_144 : decode cX10_gainBy 144 = .ok (.iload_n 2, 1) := by decide +kernel
theorem dX10_gainBy_145 : decode cX10_gainBy 145 = .ok (.iload_n 3, 1) := by decide +kernel
theorem dX10_gainBy_146 : decode cX10_gainBy 146 = .ok (.iload 7, 2) := by decide +kernel
theorem dX10_gainBy_148 : decode cX10_gainBy 148 = .ok (.invokevirtual 355, 3) := by decide +kernel
theorem dX10_gainBy_151 : decode cX10_gainBy 151 = .ok (.iload 8, 2) := by decide +kernel
theorem dX10_gainBy_153 : decode cX10_gainBy 153 = .ok (.ifCond .ge 7, 3) := by decide +kernel
theorem dX10_gainBy_156 : decode cX10_gainBy 156 = .ok (.iconst 0, 1) := by decide +kernel
theorem dX10_gainBy_157 : decode cX10_gainBy 157 = .ok (.goto 36, 3) := by decide +kernel
theorem dX10_gainBy_160 : decode cX10_gainBy 160 = .ok (.iload 5, 2) := by decide +kernel
theorem dX10_gainBy_162 : decode cX10_gainBy 162 = .ok (.ifCond .ne 15, 3) := by decide +kernel
theorem dX10_gainBy_165 : decode cX10_gainBy 165 = .ok (.iload 9, 2) := by decide +kernel
theorem dX10_gainBy_167 : decode cX10_gainBy 167 = .ok (.aload_n 0, 1) := by decide +kernel
theorem dX10_gainBy_168 : decode cX10_gainBy 168 = .ok (.getfield 7, 3) := by decide +kernel
theorem dX10_gainBy_171 : decode cX10_gainBy 171 = .ok (.iload_n 3, 1) := by decide +kernel
theorem dX10_gainBy_172 : decode cX10_gainBy 172 = .ok (.iaload, 1) := by decide +kernel
theorem dX10_gainBy_173 : decode cX10_gainBy 173 = .ok (.isub, 1) := by decide +kernel
theorem dX10_gainBy_174 : decode cX10_gainBy 174 = .ok (.goto 19, 3) := by decide +kernel
theorem dX10_gainBy_177 : decode cX10_gainBy 177 = .ok (.aload_n 0, 1) := by decide +kernel
theorem dX10_gainBy_178 : decode cX10_gainBy 178 = .ok (.getfield 16, 3) := by decide +kernel
theorem dX10_gainBy_181 : decode cX10_gainBy 181 = .ok (.bipush 6, 2) := by decide +kernel
theorem dX10_gainBy_183 : decode cX10_gainBy 183 = .ok (.iload 6, 2) := by decide +kernel
theorem dX10_gainBy_185 : decode cX10_gainBy 185 = .ok (.imul, 1) := by decide +kernel
theorem dX10_gainBy_186 : decode cX10_gainBy 186 = .ok (.iload 8, 2) := by decide +kernel
theorem dX10_gainBy_188 : decode cX10_gainBy 188 = .ok (.iadd, 1) := by decide +kernel
theorem dX10_gainBy_189 : decode cX10_gainBy 189 = .ok (.iaload, 1) := by decide +kernel
theorem dX10_gainBy_190 : decode cX10_gainBy 190 = .ok (.iload 9, 2) := by decide +kernel
theorem dX10_gainBy_192 : decode cX10_gainBy 192 = .ok (.isub, 1) := by decide +kernel
theorem dX10_gainBy_193 : decode cX10_gainBy 193 = .ok (.ireturn, 1) := by decide +kernel
theorem dX10_tell_0 : decode cX10_tell 0 = .ok (.aload_n 0, 1) := by decide +kernel
theorem dX10_tell_1 : decode cX10_tell 1 = .ok (.iload_n 1, 1) := by decide +kernel
theorem dX10_tell_2 : decode cX10_tell 2 = .ok (.invokevirtual 245, 3) := by decide +kernel
theorem dX10_tell_5 : decode cX10_tell 5 = .ok (.ifCond .ne 13, 3) := by decide +kernel
theorem dX10_tell_8 : decode cX10_tell 8 = .ok (.aload_n 0, 1) := by decide +kernel
theorem dX10_tell_9 : decode cX10_tell 9 = .ok (.getfield 7, 3) := by decide +kernel
theorem dX10_tell_12 : decode cX10_tell 12 = .ok (.iload_n 2, 1) := by decide +kernel
theorem dX10_tell_13 : decode cX10_tell 13 = .ok (.iload_n 3, 1) := by decide +kernel
theorem dX10_tell_14 : decode cX10_tell 14 = .ok (.iastore, 1) := by decide +kernel
theorem dX10_tell_15 : decode cX10_tell 15 = .ok (.goto 20, 3) := by decide +kernel
theorem dX10_tell_18 : decode cX10_tell 18 = .ok (.aload_n 0, 1) := by decide +kernel
theorem dX10_tell_19 : decode cX10_tell 19 = .ok (.getfield 16, 3) := by decide +kernel
theorem dX10_tell_22 : decode cX10_tell 22 = .ok (.bipush 6, 2) := by decide +kernel
theorem dX10_tell_24 : decode cX10_tell 24 = .ok (.iload_n 1, 1) := by decide +kernel
theorem dX10_tell_25 : decode cX10_tell 25 = .ok (.aload_n 0, 1) := by decide +kernel
theorem dX10_tell_26 : decode cX10_tell 26 = .ok (.getfield 121, 3) := by decide +kernel
theorem dX10_tell_29 : decode cX10_tell 29 = .ok (.isub, 1) := by decide +kernel
theorem dX10_tell_30 : decode cX10_tell 30 = .ok (.imul, 1) := by decide +kernel
theorem dX10_tell_31 : decode cX10_tell 31 = .ok (.iload_n 2, 1) := by decide +kernel
theorem dX10_tell_32 : decode cX10_tell 32 = .ok (.iadd, 1) := by decide +kernel
theorem dX10_tell_33 : decode cX10_tell 33 = .ok (.iload_n 3, 1) := by decide +kernel
theorem dX10_tell_34 : decode cX10_tell 34 = .ok (.iastore, 1) := by decide +kernel
theorem dX10_tell_35 : decode cX10_tell 35 = .ok (.return_, 1) := by decide +kernel
theorem dX10_lieOf_0 : decode cX10_lieOf 0 = .ok (.aload_n 0, 1) := by decide +kernel
theorem dX10_lieOf_1 : decode cX10_lieOf 1 = .ok (.iload_n 2, 1) := by decide +kernel
theorem dX10_lieOf_2 : decode cX10_lieOf 2 = .ok (.invokevirtual 245, 3) := by decide +kernel
theorem dX10_lieOf_5 : decode cX10_lieOf 5 = .ok (.ifCond .ne 12, 3) := by decide +kernel
theorem dX10_lieOf_8 : decode cX10_lieOf 8 = .ok (.aload_n 0, 1) := by decide +kernel
theorem dX10_lieOf_9 : decode cX10_lieOf 9 = .ok (.getfield 7, 3) := by decide +kernel
theorem dX10_lieOf_12 : decode cX10_lieOf 12 = .ok (.iload_n 3, 1) := by decide +kernel
theorem dX10_lieOf_13 : decode cX10_lieOf 13 = .ok (.iaload, 1) := by decide +kernel
theorem dX10_lieOf_14 : decode cX10_lieOf 14 = .ok (.goto 19, 3) := by decide +kernel
theorem dX10_lieOf_17 : decode cX10_lieOf 17 = .ok (.aload_n 0, 1) := by decide +kernel
theorem dX10_lieOf_18 : decode cX10_lieOf 18 = .ok (.getfield 16, 3) := by decide +kernel
theorem dX10_lieOf_21 : decode cX10_lieOf 21 = .ok (.bipush 6, 2) := by decide +kernel
theorem dX10_lieOf_23 : decode cX10_lieOf 23 = .ok (.iload_n 2, 1) := by decide +kernel
theorem dX10_lieOf_24 : decode cX10_lieOf 24 = .ok (.aload_n 0, 1) := by decide +kernel
theorem dX10_lieOf_25 : decode cX10_lieOf 25 = .ok (.getfield 121, 3) := by decide +kernel
theorem dX10_lieOf_28 : decode cX10_lieOf 28 = .ok (.isub, 1) := by decide +kernel
theorem dX10_lieOf_29 : decode cX10_lieOf 29 = .ok (.imul, 1) := by decide +kernel
theorem dX10_lieOf_30 : decode cX10_lieOf 30 = .ok (.iload_n 3, 1) := by decide +kernel
theorem dX10_lieOf_31 : decode cX10_lieOf 31 = .ok (.iadd, 1) := by decide +kernel
theorem dX10_lieOf_32 : decode cX10_lieOf 32 = .ok (.iaload, 1) := by decide +kernel
theorem dX10_lieOf_33 : decode cX10_lieOf 33 = .ok (.istore 5, 2) := by decide +kernel
theorem dX10_lieOf_35 : decode cX10_lieOf 35 = .ok (.aload_n 0, 1) := by decide +kernel
theorem dX10_lieOf_36 : decode cX10_lieOf 36 = .ok (.iload_n 1, 1) := by decide +kernel
theorem dX10_lieOf_37 : decode cX10_lieOf 37 = .ok (.iload_n 2, 1) := by decide +kernel
theorem dX10_lieOf_38 : decode cX10_lieOf 38 = .ok (.iload_n 3, 1) := by decide +kernel
theorem dX10_lieOf_39 : decode cX10_lieOf 39 = .ok (.iload 4, 2) := by decide +kernel
theorem dX10_lieOf_41 : decode cX10_lieOf 41 = .ok (.invokevirtual 361, 3) := by decide +kernel
theorem dX10_lieOf_44 : decode cX10_lieOf 44 = .ok (.aload_n 0, 1) := by decide +kernel
theorem dX10_lieOf_45 : decode cX10_lieOf 45 = .ok (.iload_n 1, 1) := by decide +kernel
theorem dX10_lieOf_46 : decode cX10_lieOf 46 = .ok (.iload_n 2, 1) := by decide +kernel
theorem dX10_lieOf_47 : decode cX10_lieOf 47 = .ok (.iload_n 3, 1) := by decide +kernel
theorem dX10_lieOf_48 : decode cX10_lieOf 48 = .ok (.iload 5, 2) := by decide +kernel
theorem dX10_lieOf_50 : decode cX10_lieOf 50 = .ok (.invokevirtual 361, 3) := by decide +kernel
theorem dX10_lieOf_53 : decode cX10_lieOf 53 = .ok (.isub, 1) := by decide +kernel
theorem dX10_lieOf_54 : decode cX10_lieOf 54 = .ok (.ireturn, 1) := by decide +kernel
theorem dX10_isRule_0 : decode cX10_isRule 0 = .ok (.iload_n 0, 1) := by decide +kernel
theorem dX10_isRule_1 : decode cX10_isRule 1 = .ok (.i2l, 1) := by decide +kernel
theorem dX10_isRule_2 : decode cX10_isRule 2 = .ok (.lconst 0, 1) := by decide +kernel
theorem dX10_isRule_3 : decode cX10_isRule 3 = .ok (.ldc2_w 297, 3) := by decide +kernel
theorem dX10_isRule_6 : decode cX10_isRule 6 = .ok (.invokestatic 134, 3) := by decide +kernel
theorem dX10_isRule_9 : decode cX10_isRule 9 = .ok (.ireturn, 1) := by decide +kernel
theorem dX10_lie_0 : decode cX10_lie 0 = .ok (.aload_n 0, 1) := by decide +kernel
theorem dX10_lie_1 : decode cX10_lie 1 = .ok (.iload_n 2, 1) := by decide +kernel
theorem dX10_lie_2 : decode cX10_lie 2 = .ok (.iload_n 3, 1) := by decide +kernel
theorem dX10_lie_3 : decode cX10_lie 3 = .ok (.invokevirtual 274, 3) := by decide +kernel
theorem dX10_lie_6 : decode cX10_lie 6 = .ok (.ifCond .ne 7, 3) := by decide +kernel
theorem dX10_lie_9 : decode cX10_lie 9 = .ok (.ldc_w 264, 3) := by decide +kernel
theorem dX10_lie_12 : decode cX10_lie 12 = .ok (.ireturn, 1) := by decide +kernel
theorem dX10_lie_13 : decode cX10_lie 13 = .ok (.iload_n 1, 1) := by decide +kernel
theorem dX10_lie_14 : decode cX10_lie 14 = .ok (.invokestatic 365, 3) := by decide +kernel
theorem dX10_lie_17 : decode cX10_lie 17 = .ok (.ifCond .eq 28, 3) := by decide +kernel
theorem dX10_lie_20 : decode cX10_lie 20 = .ok (.iload 4, 2) := by decide +kernel
theorem dX10_lie_22 : decode cX10_lie 22 = .ok (.i2l, 1) := by decide +kernel
theorem dX10_lie_23 : decode cX10_lie 23 = .ok (.lconst 0, 1) := by decide +kernel
theorem dX10_lie_24 : decode cX10_lie 24 = .ok (.ldc2_w 285, 3) := by decide +kernel
theorem dX10_lie_27 : decode cX10_lie 27 = .ok (.invokestatic 134, 3) := by decide +kernel
theorem dX10_lie_30 : decode cX10_lie 30 = .ok (.ifCond .eq 15, 3) := by decide +kernel
theorem dX10_lie_33 : decode cX10_lie 33 = .ok (.aload_n 0, 1) := by decide +kernel
theorem dX10_lie_34 : decode cX10_lie 34 = .ok (.iload_n 1, 1) := by decide +kernel
theorem dX10_lie_35 : decode cX10_lie 35 = .ok (.iload_n 2, 1) := by decide +kernel
theorem dX10_lie_36 : decode cX10_lie 36 = .ok (.iload_n 3, 1) := by decide +kernel
theorem dX10_lie_37 : decode cX10_lie 37 = .ok (.iload 4, 2) := by decide +kernel
theorem dX10_lie_39 : decode cX10_lie 39 = .ok (.invokevirtual 368, 3) := by decide +kernel
theorem dX10_lie_42 : decode cX10_lie 42 = .ok (.goto 5, 3) := by decide +kernel
theorem dX10_lie_45 : decode cX10_lie 45 = .ok (.ldc 143, 2) := by decide +kernel
theorem dX10_lie_47 : decode cX10_lie 47 = .ok (.ireturn, 1) := by decide +kernel
theorem dX10_bestLie_0 : decode cX10_bestLie 0 = .ok (.aload_n 0, 1) := by decide +kernel
theorem dX10_bestLie_1 : decode cX10_bestLie 1 = .ok (.iload_n 2, 1) := by decide +kernel
theorem dX10_bestLie_2 : decode cX10_bestLie 2 = .ok (.iload_n 3, 1) := by decide +kernel
theorem dX10_bestLie_3 : decode cX10_bestLie 3 = .ok (.invokevirtual 274, 3) := by decide +kernel
theorem dX10_bestLie_6 : decode cX10_bestLie 6 = .ok (.ifCond .ne 7, 3) := by decide +kernel
theorem dX10_bestLie_9 : decode cX10_bestLie 9 = .ok (.ldc_w 264, 3) := by decide +kernel
theorem dX10_bestLie_12 : decode cX10_bestLie 12 = .ok (.ireturn, 1) := by decide +kernel
theorem dX10_bestLie_13 : decode cX10_bestLie 13 = .ok (.iload_n 1, 1) := by decide +kernel
theorem dX10_bestLie_14 : decode cX10_bestLie 14 = .ok (.invokestatic 365, 3) := by decide +kernel
theorem dX10_bestLie_17 : decode cX10_bestLie 17 = .ok (.ifCond .eq 14, 3) := by decide +kernel
theorem dX10_bestLie_20 : decode cX10_bestLie 20 = .ok (.iload 4, 2) := by decide +kernel
theorem dX10_bestLie_22 : decode cX10_bestLie 22 = .ok (.i2l, 1) := by decide +kernel
theorem dX10_bestLie_23 : decode cX10_bestLie 23 = .ok (.lconst 0, 1) := by decide +kernel
theorem dX10_bestLie_24 : decode cX10_bestLie 24 = .ok (.lconst 1, 1) := by decide +kernel
theorem dX10_bestLie_25 : decode cX10_bestLie 25 = .ok (.invokestatic 134, 3) := by decide +kernel
theorem dX10_bestLie_28 : decode cX10_bestLie 28 = .ok (.ifCond .ne 6, 3) := by decide +kernel
theorem dX10_bestLie_31 : decode cX10_bestLie 31 = .ok (.ldc 143, 2) := by decide +kernel
theorem dX10_bestLie_33 : decode cX10_bestLie 33 = .ok (.ireturn, 1) := by decide +kernel
theorem dX10_bestLie_34 : decode cX10_bestLie 34 = .ok (.aload_n 0, 1) := by decide +kernel
theorem dX10_bestLie_35 : decode cX10_bestLie 35 = .ok (.iload_n 2, 1) := by decide +kernel
theorem dX10_bestLie_36 : decode cX10_bestLie 36 = .ok (.invokevirtual 245, 3) := by decide +kernel
theorem dX10_bestLie_39 : decode cX10_bestLie 39 = .ok (.ifCond .ne 12, 3) := by decide +kernel
theorem dX10_bestLie_42 : decode cX10_bestLie 42 = .ok (.aload_n 0, 1) := by decide +kernel
theorem dX10_bestLie_43 : decode cX10_bestLie 43 = .ok (.getfield 7, 3) := by decide +kernel
theorem dX10_bestLie_46 : decode cX10_bestLie 46 = .ok (.iload_n 3, 1) := by decide +kernel
theorem dX10_bestLie_47 : decode cX10_bestLie 47 = .ok (.iaload, 1) := by decide +kernel
theorem dX10_bestLie_48 : decode cX10_bestLie 48 = .ok (.goto 19, 3) := by decide +kernel
theorem dX10_bestLie_51 : decode cX10_bestLie 51 = .ok (.aload_n 0, 1) := by decide +kernel
theorem dX10_bestLie_52 : decode cX10_bestLie 52 = .ok (.getfield 16, 3) := by decide +kernel
theorem dX10_bestLie_55 : decode cX10_bestLie 55 = .ok (.bipush 6, 2) := by decide +kernel
theorem dX10_bestLie_57 : decode cX10_bestLie 57 = .ok (.iload_n 2, 1) := by decide +kernel
theorem dX10_bestLie_58 : decode cX10_bestLie 58 = .ok (.aload_n 0, 1) := by decide +kernel
theorem dX10_bestLie_59 : decode cX10_bestLie 59 = .ok (.getfield 121, 3) := by decide +kernel
theorem dX10_bestLie_62 : decode cX10_bestLie 62 = .ok (.isub, 1) := by decide +kernel
theorem dX10_bestLie_63 : decode cX10_bestLie 63 = .ok (.imul, 1) := by decide +kernel
theorem dX10_bestLie_64 : decode cX10_bestLie 64 = .ok (.iload_n 3, 1) := by decide +kernel
theorem dX10_bestLie_65 : decode cX10_bestLie 65 = .ok (.iadd, 1) := by decide +kernel
theorem dX10_bestLie_66 : decode cX10_bestLie 66 = .ok (.iaload, 1) := by decide +kernel
theorem dX10_bestLie_67 : decode cX10_bestLie 67 = .ok (.istore 5, 2) := by decide +kernel
theorem dX10_bestLie_69 : decode cX10_bestLie 69 = .ok (.aload_n 0, 1) := by decide +kernel
theorem dX10_bestLie_70 : decode cX10_bestLie 70 = .ok (.iload_n 1, 1) := by decide +kernel
theorem dX10_bestLie_71 : decode cX10_bestLie 71 = .ok (.iload_n 2, 1) := by decide +kernel
theorem dX10_bestLie_72 : decode cX10_bestLie 72 = .ok (.iload_n 3, 1) := by decide +kernel
theorem dX10_bestLie_73 : decode cX10_bestLie 73 = .ok (.iload 5, 2) := by decide +kernel
theorem dX10_bestLie_75 : decode cX10_bestLie 75 = .ok (.invokevirtual 361, 3) := by decide +kernel
theorem dX10_bestLie_78 : decode cX10_bestLie 78 = .ok (.istore 6, 2) := by decide +kernel
theorem dX10_bestLie_80 : decode cX10_bestLie 80 = .ok (.iconst 0, 1) := by decide +kernel
theorem dX10_bestLie_81 : decode cX10_bestLie 81 = .ok (.istore 7, 2) := by decide +kernel
theorem dX10_bestLie_83 : decode cX10_bestLie 83 = .ok (.aload_n 0, 1) := by decide +kernel
theorem dX10_bestLie_84 : decode cX10_bestLie 84 = .ok (.iload_n 1, 1) := by decide +kernel
theorem dX10_bestLie_85 : decode cX10_bestLie 85 = .ok (.iload_n 2, 1) := by decide +kernel
theorem dX10_bestLie_86 : decode cX10_bestLie 86 = .ok (.iload_n 3, 1) := by decide +kernel
theorem dX10_bestLie_87 : decode cX10_bestLie 87 = .ok (.iconst 0, 1) := by decide +kernel
theorem dX10_bestLie_88 : decode cX10_bestLie 88 = .ok (.invokevirtual 361, 3) := by decide +kernel
theorem dX10_bestLie_91 : decode cX10_bestLie 91 = .ok (.iload 6, 2) := by decide +kernel
theorem dX10_bestLie_93 : decode cX10_bestLie 93 = .ok (.isub, 1) := by decide +kernel
theorem dX10_bestLie_94 : decode cX10_bestLie 94 = .ok (.istore 8, 2) := by decide +kernel
theorem dX10_bestLie_96 : decode cX10_bestLie 96 = .ok (.iconst 1, 1) := by decide +kernel
theorem dX10_bestLie_97 : decode cX10_bestLie 97 = .ok (.istore 9, 2) := by decide +kernel
theorem dX10_bestLie_99 : decode cX10_bestLie 99 = .ok (.iload 9, 2) := by decide +kernel
theorem dX10_bestLie_101 : decode cX10_bestLie 101 = .ok (.sipush 999, 3) := by decide +kernel
theorem dX10_bestLie_104 : decode cX10_bestLie 104 = .ok (.if_icmp .gt 55, 3) := by decide +kernel
theorem dX10_bestLie_107 : decode cX10_bestLie 107 = .ok (.aload_n 0, 1) := by decide +kernel
theorem dX10_bestLie_108 : decode cX10_bestLie 108 = .ok (.iload_n 1, 1) := by decide +kernel
theorem dX10_bestLie_109 : decode cX10_bestLie 109 = .ok (.iload_n 2, 1) := by decide +kernel
theorem dX10_bestLie_110 : decode cX10_bestLie 110 = .ok (.iload_n 3, 1) := by decide +kernel
theorem dX10_bestLie_111 : decode cX10_bestLie 111 = .ok (.iload 9, 2) := by decide +kernel
theorem dX10_bestLie_113 : decode cX10_bestLie 113 = .ok (.invokevirtual 361, 3) := by decide +kernel
theorem dX10_bestLie_116 : decode cX10_bestLie 116 = .ok (.iload 6, 2) := by decide +kernel
theorem dX10_bestLie_118 : decode cX10_bestLie 118 = .ok (.isub, 1) := by decide +kernel
theorem dX10_bestLie_119 : decode cX10_bestLie 119 = .ok (.istore 10, 2) := by decide +kernel
theorem dX10_bestLie_121 : decode cX10_bestLie 121 = .ok (.iload 10, 2) := by decide +kernel
theorem dX10_bestLie_123 : decode cX10_bestLie 123 = .ok (.iload 8, 2) := by decide +kernel
theorem dX10_bestLie_125 : decode cX10_bestLie 125 = .ok (.if_icmp .le 8, 3) := by decide +kernel
theorem dX10_bestLie_128 : decode cX10_bestLie 128 = .ok (.iload 9, 2) := by decide +kernel
theorem dX10_bestLie_130 : decode cX10_bestLie 130 = .ok (.goto 5, 3) := by decide +kernel
theorem dX10_bestLie_133 : decode cX10_bestLie 133 = .ok (.iload 7, 2) := by decide +kernel
theorem dX10_bestLie_135 : decode cX10_bestLie 135 = .ok (.istore 7, 2) := by decide +kernel
theorem dX10_bestLie_137 : decode cX10_bestLie 137 = .ok (.iload 10, 2) := by decide +kernel
theorem dX10_bestLie_139 : decode cX10_bestLie 139 = .ok (.iload 8, 2) := by decide +kernel
theorem dX10_bestLie_141 : decode cX10_bestLie 141 = .ok (.if_icmp .le 8, 3) := by decide +kernel
theorem dX10_bestLie_144 : decode cX10_bestLie 144 = .ok (.iload 10, 2) := by decide +kernel
theorem dX10_bestLie_146 : decode cX10_bestLie 146 = .ok (.goto 5, 3) := by decide +kernel
theorem dX10_bestLie_149 : decode cX10_bestLie 149 = .ok (.iload 8, 2) := by decide +kernel
theorem dX10_bestLie_151 : decode cX10_bestLie 151 = .ok (.istore 8, 2) := by decide +kernel
theorem dX10_bestLie_153 : decode cX10_bestLie 153 = .ok (.iinc 9 1, 3) := by decide +kernel
theorem dX10_bestLie_156 : decode cX10_bestLie 156 = .ok (.goto (-57), 3) := by decide +kernel
theorem dX10_bestLie_159 : decode cX10_bestLie 159 = .ok (.iload 4, 2) := by decide +kernel
theorem dX10_bestLie_161 : decode cX10_bestLie 161 = .ok (.ifCond .ne 8, 3) := by decide +kernel
theorem dX10_bestLie_164 : decode cX10_bestLie 164 = .ok (.iload 7, 2) := by decide +kernel
theorem dX10_bestLie_166 : decode cX10_bestLie 166 = .ok (.goto 5, 3) := by decide +kernel
theorem dX10_bestLie_169 : decode cX10_bestLie 169 = .ok (.iload 8, 2) := by decide +kernel
theorem dX10_bestLie_171 : decode cX10_bestLie 171 = .ok (.ireturn, 1) := by decide +kernel
theorem dX10_seen_0 : decode cX10_seen 0 = .ok (.aload_n 0, 1) := by decide +kernel
theorem dX10_seen_1 : decode cX10_seen 1 = .ok (.iload_n 1, 1) := by decide +kernel
theorem dX10_seen_2 : decode cX10_seen 2 = .ok (.invokevirtual 271, 3) := by decide +kernel
theorem dX10_seen_5 : decode cX10_seen 5 = .ok (.ifCond .ne 7, 3) := by decide +kernel
theorem dX10_seen_8 : decode cX10_seen 8 = .ok (.ldc_w 264, 3) := by decide +kernel
theorem dX10_seen_11 : decode cX10_seen 11 = .ok (.ireturn, 1) := by decide +kernel
theorem dX10_seen_12 : decode cX10_seen 12 = .ok (.iload_n 2, 1) := by decide +kernel
theorem dX10_seen_13 : decode cX10_seen 13 = .ok (.i2l, 1) := by decide +kernel
theorem dX10_seen_14 : decode cX10_seen 14 = .ok (.lconst 0, 1) := by decide +kernel
theorem dX10_seen_15 : decode cX10_seen 15 = .ok (.ldc2_w 326, 3) := by decide +kernel
theorem dX10_seen_18 : decode cX10_seen 18 = .ok (.invokestatic 134, 3) := by decide +kernel
theorem dX10_seen_21 : decode cX10_seen 21 = .ok (.ifCond .eq 15, 3) := by decide +kernel
theorem dX10_seen_24 : decode cX10_seen 24 = .ok (.iload_n 3, 1) := by decide +kernel
theorem dX10_seen_25 : decode cX10_seen 25 = .ok (.i2l, 1) := by decide +kernel
theorem dX10_seen_26 : decode cX10_seen 26 = .ok (.lconst 0, 1) := by decide +kernel
theorem dX10_seen_27 : decode cX10_seen 27 = .ok (.ldc2_w 371, 3) := by decide +kernel
theorem dX10_seen_30 : decode cX10_seen 30 = .ok (.invokestatic 134, 3) := by decide +kernel
theorem dX10_seen_33 : decode cX10_seen 33 = .ok (.ifCond .ne 6, 3) := by decide +kernel
theorem dX10_seen_36 : decode cX10_seen 36 = .ok (.ldc 143, 2) := by decide +kernel
theorem dX10_seen_38 : decode cX10_seen 38 = .ok (.ireturn, 1) := by decide +kernel
theorem dX10_seen_39 : decode cX10_seen 39 = .ok (.aload_n 0, 1) := by decide +kernel
theorem dX10_seen_40 : decode cX10_seen 40 = .ok (.getfield 249, 3) := by decide +kernel
theorem dX10_seen_43 : decode cX10_seen 43 = .ok (.bipush 10, 2) := by decide +kernel
theorem dX10_seen_45 : decode cX10_seen 45 = .ok (.if_icmp .ne 6, 3) := by decide +kernel
theorem dX10_seen_48 : decode cX10_seen 48 = .ok (.ldc 147, 2) := by decide +kernel
theorem dX10_seen_50 : decode cX10_seen 50 = .ok (.ireturn, 1) := by decide +kernel
theorem dX10_seen_51 : decode cX10_seen 51 = .ok (.aload_n 0, 1) := by decide +kernel
theorem dX10_seen_52 : decode cX10_seen 52 = .ok (.getfield 80, 3) := by decide +kernel
theorem dX10_seen_55 : decode cX10_seen 55 = .ok (.aload_n 0, 1) := by decide +kernel
theorem dX10_seen_56 : decode cX10_seen 56 = .ok (.getfield 249, 3) := by decide +kernel
theorem dX10_seen_59 : decode cX10_seen 59 = .ok (.iload_n 1, 1) := by decide +kernel
theorem dX10_seen_60 : decode cX10_seen 60 = .ok (.iastore, 1) := by decide +kernel
theorem dX10_seen_61 : decode cX10_seen 61 = .ok (.aload_n 0, 1) := by decide +kernel
theorem dX10_seen_62 : decode cX10_seen 62 = .ok (.getfield 83, 3) := by decide +kernel
theorem dX10_seen_65 : decode cX10_seen 65 = .ok (.aload_n 0, 1) := by decide +kernel
theorem dX10_seen_66 : decode cX10_seen 66 = .ok (.getfield 249, 3) := by decide +kernel
theorem dX10_seen_69 : decode cX10_seen 69 = .ok (.iload_n 2, 1) := by decide +kernel
theorem dX10_seen_70 : decode cX10_seen 70 = .ok (.iastore, 1) := by decide +kernel
theorem dX10_seen_71 : decode cX10_seen 71 = .ok (.aload_n 0, 1) := by decide +kernel
theorem dX10_seen_72 : decode cX10_seen 72 = .ok (.getfield 86, 3) := by decide +kernel
theorem dX10_seen_75 : decode cX10_seen 75 = .ok (.aload_n 0, 1) := by decide +kernel
theorem dX10_seen_76 : decode cX10_seen 76 = .ok (.getfield 249, 3) := by decide +kernel
theorem dX10_seen_79 : decode cX10_seen 79 = .ok (.iload_n 3, 1) := by decide +kernel
theorem dX10_seen_80 : decode cX10_seen 80 = .ok (.iastore, 1) := by decide +kernel
theorem dX10_seen_81 : decode cX10_seen 81 = .ok (.aload_n 0, 1) := by decide +kernel
theorem dX10_seen_82 : decode cX10_seen 82 = .ok (.getfield 89, 3) := by decide +kernel
theorem dX10_seen_85 : decode cX10_seen 85 = .ok (.aload_n 0, 1) := by decide +kernel
theorem dX10_seen_86 : decode cX10_seen 86 = .ok (.getfield 249, 3) := by decide +kernel
theorem dX10_seen_89 : decode cX10_seen 89 = .ok (.iload 4, 2) := by decide +kernel
theorem dX10_seen_91 : decode cX10_seen 91 = .ok (.bastore, 1) := by decide +kernel
theorem dX10_seen_92 : decode cX10_seen 92 = .ok (.aload_n 0, 1) := by decide +kernel
theorem dX10_seen_93 : decode cX10_seen 93 = .ok (.dup, 1) := by decide +kernel
theorem dX10_seen_94 : decode cX10_seen 94 = .ok (.getfield 249, 3) := by decide +kernel
theorem dX10_seen_97 : decode cX10_seen 97 = .ok (.iconst 1, 1) := by decide +kernel
theorem dX10_seen_98 : decode cX10_seen 98 = .ok (.iadd, 1) := by decide +kernel
theorem dX10_seen_99 : decode cX10_seen 99 = .ok (.putfield 249, 3) := by decide +kernel
theorem dX10_seen_102 : decode cX10_seen 102 = .ok (.aload_n 0, 1) := by decide +kernel
theorem dX10_seen_103 : decode cX10_seen 103 = .ok (.getfield 249, 3) := by decide +kernel
theorem dX10_seen_106 : decode cX10_seen 106 = .ok (.ireturn, 1) := by decide +kernel
theorem dX10_forget_0 : decode cX10_forget 0 = .ok (.aload_n 0, 1) := by decide +kernel
theorem dX10_forget_1 : decode cX10_forget 1 = .ok (.getfield 249, 3) := by decide +kernel
theorem dX10_forget_4 : decode cX10_forget 4 = .ok (.istore_n 1, 1) := by decide +kernel
theorem dX10_forget_5 : decode cX10_forget 5 = .ok (.aload_n 0, 1) := by decide +kernel
theorem dX10_forget_6 : decode cX10_forget 6 = .ok (.iconst 0, 1) := by decide +kernel
theorem dX10_forget_7 : decode cX10_forget 7 = .ok (.putfield 249, 3) := by decide +kernel
theorem dX10_forget_10 : decode cX10_forget 10 = .ok (.iload_n 1, 1) := by decide +kernel
theorem dX10_forget_11 : decode cX10_forget 11 = .ok (.ireturn, 1) := by decide +kernel
theorem dX10_isFit_0 : decode cX10_isFit 0 = .ok (.iconst 1, 1) := by decide +kernel
theorem dX10_isFit_1 : decode cX10_isFit 1 = .ok (.istore_n 3, 1) := by decide +kernel
theorem dX10_isFit_2 : decode cX10_isFit 2 = .ok (.iconst 0, 1) := by decide +kernel
theorem dX10_isFit_3 : decode cX10_isFit 3 = .ok (.istore 4, 2) := by decide +kernel
theorem dX10_isFit_5 : decode cX10_isFit 5 = .ok (.iload 4, 2) := by decide +kernel
theorem dX10_isFit_7 : decode cX10_isFit 7 = .ok (.aload_n 0, 1) := by decide +kernel
theorem dX10_isFit_8 : decode cX10_isFit 8 = .ok (.getfield 249, 3) := by decide +kernel
theorem dX10_isFit_11 : decode cX10_isFit 11 = .ok (.if_icmp .ge 122, 3) := by decide +kernel
theorem dX10_isFit_14 : decode cX10_isFit 14 = .ok (.aload_n 0, 1) := by decide +kernel
theorem dX10_isFit_15 : decode cX10_isFit 15 = .ok (.getfield 89, 3) := by decide +kernel
theorem dX10_isFit_18 : decode cX10_isFit 18 = .ok (.iload 4, 2) := by decide +kernel
theorem dX10_isFit_20 : decode cX10_isFit 20 = .ok (.baload, 1) := by decide +kernel
theorem dX10_isFit_21 : decode cX10_isFit 21 = .ok (.ifCond .eq 9, 3) := by decide +kernel
theorem dX10_isFit_24 : decode cX10_isFit 24 = .ok (.iload_n 2, 1) := by decide +kernel
theorem dX10_isFit_25 : decode cX10_isFit 25 = .ok (.iconst 2, 1) := by decide +kernel
theorem dX10_isFit_26 : decode cX10_isFit 26 = .ok (.idiv, 1) := by decide +kernel
theorem dX10_isFit_27 : decode cX10_isFit 27 = .ok (.goto 4, 3) := by decide +kernel
theorem dX10_isFit_30 : decode cX10_isFit 30 = .ok (.iload_n 2, 1) := by decide +kernel
theorem dX10_isFit_31 : decode cX10_isFit 31 = .ok (.invokestatic 311, 3) := by decide +kernel
theorem dX10_isFit_34 : decode cX10_isFit 34 = .ok (.istore 5, 2) := by decide +kernel
theorem dX10_isFit_36 : decode cX10_isFit 36 = .ok (.iload 5, 2) := by decide +kernel
theorem dX10_isFit_38 : decode cX10_isFit 38 = .ok (.i2l, 1) := by decide +kernel
theorem dX10_isFit_39 : decode cX10_isFit 39 = .ok (.aload_n 0, 1) := by decide +kernel
theorem dX10_isFit_40 : decode cX10_isFit 40 = .ok (.getfield 83, 3) := by decide +kernel
theorem dX10_isFit_43 : decode cX10_isFit 43 = .ok (.iload 4, 2) := by decide +kernel
theorem dX10_isFit_45 : decode cX10_isFit 45 = .ok (.iaload, 1) := by decide +kernel
theorem dX10_isFit_46 : decode cX10_isFit 46 = .ok (.aload_n 0, 1) := by decide +kernel
theorem dX10_isFit_47 : decode cX10_isFit 47 = .ok (.getfield 86, 3) := by decide +kernel
theorem dX10_isFit_50 : decode cX10_isFit 50 = .ok (.iload 4, 2) := by decide +kernel
theorem dX10_isFit_52 : decode cX10_isFit 52 = .ok (.iaload, 1) := by decide +kernel
theorem dX10_isFit_53 : decode cX10_isFit 53 = .ok (.isub, 1) := by decide +kernel
theorem dX10_isFit_54 : decode cX10_isFit 54 = .ok (.i2l, 1) := by decide +kernel
theorem dX10_isFit_55 : decode cX10_isFit 55 = .ok (.aload_n 0, 1) := by decide +kernel
theorem dX10_isFit_56 : decode cX10_isFit 56 = .ok (.getfield 83, 3) := by decide +kernel
theorem dX10_isFit_59 : decode cX10_isFit 59 = .ok (.iload 4, 2) := by decide +kernel
theorem dX10_isFit_61 : decode cX10_isFit 61 = .ok (.iaload, 1) := by decide +kernel
theorem dX10_isFit_62 : decode cX10_isFit 62 = .ok (.aload_n 0, 1) := by decide +kernel
theorem dX10_isFit_63 : decode cX10_isFit 63 = .ok (.getfield 86, 3) := by decide +kernel
theorem dX10_isFit_66 : decode cX10_isFit 66 = .ok (.iload 4, 2) := by decide +kernel
theorem dX10_isFit_68 : decode cX10_isFit 68 = .ok (.iaload, 1) := by decide +kernel
theorem dX10_isFit_69 : decode cX10_isFit 69 = .ok (.iadd, 1) := by decide +kernel
theorem dX10_isFit_70 : decode cX10_isFit 70 = .ok (.i2l, 1) := by decide +kernel
theorem dX10_isFit_71 : decode cX10_isFit 71 = .ok (.invokestatic 134, 3) := by decide +kernel
theorem dX10_isFit_74 : decode cX10_isFit 74 = .ok (.ifCond .eq 24, 3) := by decide +kernel
theorem dX10_isFit_77 : decode cX10_isFit 77 = .ok (.aload_n 0, 1) := by decide +kernel
theorem dX10_isFit_78 : decode cX10_isFit 78 = .ok (.getfield 89, 3) := by decide +kernel
theorem dX10_isFit_81 : decode cX10_isFit 81 = .ok (.iload 4, 2) := by decide +kernel
theorem dX10_isFit_83 : decode cX10_isFit 83 = .ok (.baload, 1) := by decide +kernel
theorem dX10_isFit_84 : decode cX10_isFit 84 = .ok (.ifCond .eq 10, 3) := by decide +kernel
theorem dX10_isFit_87 : decode cX10_isFit 87 = .ok (.iload_n 2, 1) := by decide +kernel
theorem dX10_isFit_88 : decode cX10_isFit 88 = .ok (.iconst 2, 1) := by decide +kernel
theorem dX10_isFit_89 : decode cX10_isFit 89 = .ok (.irem, 1) := by decide +kernel
theorem dX10_isFit_90 : decode cX10_isFit 90 = .ok (.iconst 1, 1) := by decide +kernel
theorem dX10_isFit_91 : decode cX10_isFit 91 = .ok (.if_icmp .eq 7, 3) := by decide +kernel
theorem dX10_isFit_94 : decode cX10_isFit 94 = .ok (.iconst 1, 1) := by decide +kernel
theorem dX10_isFit_95 : decode cX10_isFit 95 = .ok (.goto 4, 3) := by decide +kernel
theorem dX10_isFit_98 : decode cX10_isFit 98 = .ok (.iconst 0, 1) := by decide +kernel
theorem dX10_isFit_99 : decode cX10_isFit 99 = .ok (.istore 6, 2) := by decide +kernel
theorem dX10_isFit_101 : decode cX10_isFit 101 = .ok (.iload_n 3, 1) := by decide +kernel
theorem dX10_isFit_102 : decode cX10_isFit 102 = .ok (.ifCond .eq 23, 3) := by decide +kernel
theorem dX10_isFit_105 : decode cX10_isFit 105 = .ok (.aload_n 0, 1) := by decide +kernel
theorem dX10_isFit_106 : decode cX10_isFit 106 = .ok (.getfield 80, 3) := by decide +kernel
theorem dX10_isFit_109 : decode cX10_isFit 109 = .ok (.iload 4, 2) := by decide +kernel
theorem dX10_isFit_111 : decode cX10_isFit 111 = .ok (.iaload, 1) := by decide +kernel
theorem dX10_isFit_112 : decode cX10_isFit 112 = .ok (.iload_n 1, 1) := by decide +kernel
theorem dX10_isFit_113 : decode cX10_isFit 113 = .ok (.if_icmp .ne 8, 3) := by decide +kernel
theorem dX10_isFit_116 : decode cX10_isFit 116 = .ok (.iload 6, 2) := by decide +kernel
theorem dX10_isFit_118 : decode cX10_isFit 118 = .ok (.ifCond .eq 7, 3) := by decide +kernel
theorem dX10_isFit_121 : decode cX10_isFit 121 = .ok (.iconst 1, 1) := by decide +kernel
theorem dX10_isFit_122 : decode cX10_isFit 122 = .ok (.goto 4, 3) := by decide +kernel
theorem dX10_isFit_125 : decode cX10_isFit 125 = .ok (.iconst 0, 1) := by decide +kernel
theorem dX10_isFit_126 : decode cX10_isFit 126 = .ok (.istore_n 3, 1) := by decide +kernel
theorem dX10_isFit_127 : decode cX10_isFit 127 = .ok (.iinc 4 1, 3) := by decide +kernel
theorem dX10_isFit_130 : decode cX10_isFit 130 = .ok (.goto (-125), 3) := by decide +kernel
theorem dX10_isFit_133 : decode cX10_isFit 133 = .ok (.iload_n 3, 1) := by decide +kernel
theorem dX10_isFit_134 : decode cX10_isFit 134 = .ok (.ireturn, 1) := by decide +kernel
theorem dX10_fits_0 : decode cX10_fits 0 = .ok (.aload_n 0, 1) := by decide +kernel
theorem dX10_fits_1 : decode cX10_fits 1 = .ok (.iload_n 1, 1) := by decide +kernel
theorem dX10_fits_2 : decode cX10_fits 2 = .ok (.invokevirtual 271, 3) := by decide +kernel
theorem dX10_fits_5 : decode cX10_fits 5 = .ok (.ifCond .ne 7, 3) := by decide +kernel
theorem dX10_fits_8 : decode cX10_fits 8 = .ok (.ldc_w 264, 3) := by decide +kernel
theorem dX10_fits_11 : decode cX10_fits 11 = .ok (.ireturn, 1) := by decide +kernel
theorem dX10_fits_12 : decode cX10_fits 12 = .ok (.iload_n 2, 1) := by decide +kernel
theorem dX10_fits_13 : decode cX10_fits 13 = .ok (.i2l, 1) := by decide +kernel
theorem dX10_fits_14 : decode cX10_fits 14 = .ok (.lconst 0, 1) := by decide +kernel
theorem dX10_fits_15 : decode cX10_fits 15 = .ok (.ldc2_w 297, 3) := by decide +kernel
theorem dX10_fits_18 : decode cX10_fits 18 = .ok (.invokestatic 134, 3) := by decide +kernel
theorem dX10_fits_21 : decode cX10_fits 21 = .ok (.ifCond .ne 6, 3) := by decide +kernel
theorem dX10_fits_24 : decode cX10_fits 24 = .ok (.ldc 143, 2) := by decide +kernel
theorem dX10_fits_26 : decode cX10_fits 26 = .ok (.ireturn, 1) := by decide +kernel
theorem dX10_fits_27 : decode cX10_fits 27 = .ok (.iconst 0, 1) := by decide +kernel
theorem dX10_fits_28 : decode cX10_fits 28 = .ok (.istore_n 3, 1) := by decide +kernel
theorem dX10_fits_29 : decode cX10_fits 29 = .ok (.iconst (-1), 1) := by decide +kernel
theorem dX10_fits_30 : decode cX10_fits 30 = .ok (.istore 4, 2) := by decide +kernel
theorem dX10_fits_32 : decode cX10_fits 32 = .ok (.iconst (-1), 1) := by decide +kernel
theorem dX10_fits_33 : decode cX10_fits 33 = .ok (.istore 5, 2) := by decide +kernel
theorem dX10_fits_35 : decode cX10_fits 35 = .ok (.iconst 1, 1) := by decide +kernel
theorem dX10_fits_36 : decode cX10_fits 36 = .ok (.istore 6, 2) := by decide +kernel
theorem dX10_fits_38 : decode cX10_fits 38 = .ok (.iload 6, 2) := by decide +kernel
theorem dX10_fits_40 : decode cX10_fits 40 = .ok (.sipush 999, 3) := by decide +kernel
theorem dX10_fits_43 : decode cX10_fits 43 = .ok (.if_icmp .gt 40, 3) := by decide +kernel
theorem dX10_fits_46 : decode cX10_fits 46 = .ok (.aload_n 0, 1) := by decide +kernel
theorem dX10_fits_47 : decode cX10_fits 47 = .ok (.iload_n 1, 1) := by decide +kernel
theorem dX10_fits_48 : decode cX10_fits 48 = .ok (.iload 6, 2) := by decide +kernel
theorem dX10_fits_50 : decode cX10_fits 50 = .ok (.invokevirtual 373, 3) := by decide +kernel
theorem dX10_fits_53 : decode cX10_fits 53 = .ok (.ifCond .eq 24, 3) := by decide +kernel
theorem dX10_fits_56 : decode cX10_fits 56 = .ok (.iinc 3 1, 3) := by decide +kernel
theorem dX10_fits_59 : decode cX10_fits 59 = .ok (.iload 4, 2) := by decide +kernel
theorem dX10_fits_61 : decode cX10_fits 61 = .ok (.ifCond .ge 8, 3) := by decide +kernel
theorem dX10_fits_64 : decode cX10_fits 64 = .ok (.iload 6, 2) := by decide +kernel
theorem dX10_fits_66 : decode cX10_fits 66 = .ok (.goto 5, 3) := by decide +kernel
theorem dX10_fits_69 : decode cX10_fits 69 = .ok (.iload 4, 2) := by decide +kernel
theorem dX10_fits_71 : decode cX10_fits 71 = .ok (.istore 4, 2) := by decide +kernel
theorem dX10_fits_73 : decode cX10_fits 73 = .ok (.iload 6, 2) := by decide +kernel
theorem dX10_fits_75 : decode cX10_fits 75 = .ok (.istore 5, 2) := by decide +kernel
theorem dX10_fits_77 : decode cX10_fits 77 = .ok (.iinc 6 1, 3) := by decide +kernel
theorem dX10_fits_80 : decode cX10_fits 80 = .ok (.goto (-42), 3) := by decide +kernel
theorem dX10_fits_83 : decode cX10_fits 83 = .ok (.iload_n 2, 1) := by decide +kernel
theorem dX10_fits_84 : decode cX10_fits 84 = .ok (.ifCond .ne 7, 3) := by decide +kernel
theorem dX10_fits_87 : decode cX10_fits 87 = .ok (.iload_n 3, 1) := by decide +kernel
theorem dX10_fits_88 : decode cX10_fits 88 = .ok (.goto 15, 3) := by decide +kernel
theorem dX10_fits_91 : decode cX10_fits 91 = .ok (.iload_n 2, 1) := by decide +kernel
theorem dX10_fits_92 : decode cX10_fits 92 = .ok (.iconst 1, 1) := by decide +kernel
theorem dX10_fits_93 : decode cX10_fits 93 = .ok (.if_icmp .ne 8, 3) := by decide +kernel
theorem dX10_fits_96 : decode cX10_fits 96 = .ok (.iload 4, 2) := by decide +kernel
theorem dX10_fits_98 : decode cX10_fits 98 = .ok (.goto 5, 3) := by decide +kernel
theorem dX10_fits_101 : decode cX10_fits 101 = .ok (.iload 5, 2) := by decide +kernel
theorem dX10_fits_103 : decode cX10_fits 103 = .ok (.ireturn, 1) := by decide +kernel
theorem dX10_isSum_0 : decode cX10_isSum 0 = .ok (.iload_n 2, 1) := by decide +kernel
theorem dX10_isSum_1 : decode cX10_isSum 1 = .ok (.sipush 6016, 3) := by decide +kernel
theorem dX10_isSum_4 : decode cX10_isSum 4 = .ok (.if_icmp .ge 33, 3) := by decide +kernel
theorem dX10_isSum_7 : decode cX10_isSum 7 = .ok (.aload_n 0, 1) := by decide +kernel
theorem dX10_isSum_8 : decode cX10_isSum 8 = .ok (.getfield 93, 3) := by decide +kernel
theorem dX10_isSum_11 : decode cX10_isSum 11 = .ok (.bipush 94, 2) := by decide +kernel
theorem dX10_isSum_13 : decode cX10_isSum 13 = .ok (.iload_n 1, 1) := by decide +kernel
theorem dX10_isSum_14 : decode cX10_isSum 14 = .ok (.imul, 1) := by decide +kernel
theorem dX10_isSum_15 : decode cX10_isSum 15 = .ok (.iload_n 2, 1) := by decide +kernel
theorem dX10_isSum_16 : decode cX10_isSum 16 = .ok (.bipush 64, 2) := by decide +kernel
theorem dX10_isSum_18 : decode cX10_isSum 18 = .ok (.idiv, 1) := by decide +kernel
theorem dX10_isSum_19 : decode cX10_isSum 19 = .ok (.iadd, 1) := by decide +kernel
theorem dX10_isSum_20 : decode cX10_isSum 20 = .ok (.laload, 1) := by decide +kernel
theorem dX10_isSum_21 : decode cX10_isSum 21 = .ok (.iload_n 2, 1) := by decide +kernel
theorem dX10_isSum_22 : decode cX10_isSum 22 = .ok (.bipush 64, 2) := by decide +kernel
theorem dX10_isSum_24 : decode cX10_isSum 24 = .ok (.irem, 1) := by decide +kernel
theorem dX10_isSum_25 : decode cX10_isSum 25 = .ok (.lshr, 1) := by decide +kernel
theorem dX10_isSum_26 : decode cX10_isSum 26 = .ok (.lconst 1, 1) := by decide +kernel
theorem dX10_isSum_27 : decode cX10_isSum 27 = .ok (.land, 1) := by decide +kernel
theorem dX10_isSum_28 : decode cX10_isSum 28 = .ok (.lconst 1, 1) := by decide +kernel
theorem dX10_isSum_29 : decode cX10_isSum 29 = .ok (.lcmp, 1) := by decide +kernel
theorem dX10_isSum_30 : decode cX10_isSum 30 = .ok (.ifCond .ne 7, 3) := by decide +kernel
theorem dX10_isSum_33 : decode cX10_isSum 33 = .ok (.iconst 1, 1) := by decide +kernel
theorem dX10_isSum_34 : decode cX10_isSum 34 = .ok (.goto 4, 3) := by decide +kernel
theorem dX10_isSum_37 : decode cX10_isSum 37 = .ok (.iconst 0, 1) := by decide +kernel
theorem dX10_isSum_38 : decode cX10_isSum 38 = .ok (.ireturn, 1) := by decide +kernel
theorem dX10_addMoved_0 : decode cX10_addMoved 0 = .ok (.iload_n 3, 1) := by decide +kernel
theorem dX10_addMoved_1 : decode cX10_addMoved 1 = .ok (.bipush 64, 2) := by decide +kernel
theorem dX10_addMoved_3 : decode cX10_addMoved 3 = .ok (.idiv, 1) := by decide +kernel
theorem dX10_addMoved_4 : decode cX10_addMoved 4 = .ok (.istore 4, 2) := by decide +kernel
theorem dX10_addMoved_6 : decode cX10_addMoved 6 = .ok (.iload_n 3, 1) := by decide +kernel
theorem dX10_addMoved_7 : decode cX10_addMoved 7 = .ok (.bipush 64, 2) := by decide +kernel
theorem dX10_addMoved_9 : decode cX10_addMoved 9 = .ok (.irem, 1) := by decide +kernel
theorem dX10_addMoved_10 : decode cX10_addMoved 10 = .ok (.istore 5, 2) := by decide +kernel
theorem dX10_addMoved_12 : decode cX10_addMoved 12 = .ok (.bipush 93, 2) := by decide +kernel
theorem dX10_addMoved_14 : decode cX10_addMoved 14 = .ok (.istore 6, 2) := by decide +kernel
theorem dX10_addMoved_16 : decode cX10_addMoved 16 = .ok (.iload 6, 2) := by decide +kernel
theorem dX10_addMoved_18 : decode cX10_addMoved 18 = .ok (.iload 4, 2) := by decide +kernel
theorem dX10_addMoved_20 : decode cX10_addMoved 20 = .ok (.if_icmp .lt 90, 3) := by decide +kernel
theorem dX10_addMoved_23 : decode cX10_addMoved 23 = .ok (.aload_n 0, 1) := by decide +kernel
theorem dX10_addMoved_24 : decode cX10_addMoved 24 = .ok (.getfield 93, 3) := by decide +kernel
theorem dX10_addMoved_27 : decode cX10_addMoved 27 = .ok (.bipush 94, 2) := by decide +kernel
theorem dX10_addMoved_29 : decode cX10_addMoved 29 = .ok (.iload_n 2, 1) := by decide +kernel
theorem dX10_addMoved_30 : decode cX10_addMoved 30 = .ok (.imul, 1) := by decide +kernel
theorem dX10_addMoved_31 : decode cX10_addMoved 31 = .ok (.iload 6, 2) := by decide +kernel
theorem dX10_addMoved_33 : decode cX10_addMoved 33 = .ok (.iadd, 1) := by decide +kernel
theorem dX10_addMoved_34 : decode cX10_addMoved 34 = .ok (.iload 4, 2) := by decide +kernel
theorem dX10_addMoved_36 : decode cX10_addMoved 36 = .ok (.isub, 1) := by decide +kernel
theorem dX10_addMoved_37 : decode cX10_addMoved 37 = .ok (.laload, 1) := by decide +kernel
theorem dX10_addMoved_38 : decode cX10_addMoved 38 = .ok (.iload 5, 2) := by decide +kernel
theorem dX10_addMoved_40 : decode cX10_addMoved 40 = .ok (.lshl, 1) := by decide +kernel
theorem dX10_addMoved_41 : decode cX10_addMoved 41 = .ok (.lstore 7, 2) := by decide +kernel
theorem dX10_addMoved_43 : decode cX10_addMoved 43 = .ok (.lload 7, 2) := by decide +kernel
theorem dX10_addMoved_45 : decode cX10_addMoved 45 = .ok (.iload 5, 2) := by decide +kernel
theorem dX10_addMoved_47 : decode cX10_addMoved 47 = .ok (.ifCond .le 36, 3) := by decide +kernel
theorem dX10_addMoved_50 : decode cX10_addMoved 50 = .ok (.iload 6, 2) := by decide +kernel
theorem dX10_addMoved_52 : decode cX10_addMoved 52 = .ok (.iload 4, 2) := by decide +kernel
theorem dX10_addMoved_54 : decode cX10_addMoved 54 = .ok (.if_icmp .le 29, 3) := by decide +kernel
theorem dX10_addMoved_57 : decode cX10_addMoved 57 = .ok (.aload_n 0, 1) := by decide +kernel
theorem dX10_addMoved_58 : decode cX10_addMoved 58 = .ok (.getfield 93, 3) := by decide +kernel
theorem dX10_addMoved_61 : decode cX10_addMoved 61 = .ok (.bipush 94, 2) := by decide +kernel
theorem dX10_addMoved_63 : decode cX10_addMoved 63 = .ok (.iload_n 2, 1) := by decide +kernel
theorem dX10_addMoved_64 : decode cX10_addMoved 64 = .ok (.imul, 1) := by decide +kernel
theorem dX10_addMoved_65 : decode cX10_addMoved 65 = .ok (.iload 6, 2) := by decide +kernel
theorem dX10_addMoved_67 : decode cX10_addMoved 67 = .ok (.iadd, 1) := by decide +kernel
theorem dX10_addMoved_68 : decode cX10_addMoved 68 = .ok (.iload 4, 2) := by decide +kernel
theorem dX10_addMoved_70 : decode cX10_addMoved 70 = .ok (.isub, 1) := by decide +kernel
theorem dX10_addMoved_71 : decode cX10_addMoved 71 = .ok (.iconst 1, 1) := by decide +kernel
theorem dX10_addMoved_72 : decode cX10_addMoved 72 = .ok (.isub, 1) := by decide +kernel
theorem dX10_addMoved_73 : decode cX10_addMoved 73 = .ok (.laload, 1) := by decide +kernel
theorem dX10_addMoved_74 : decode cX10_addMoved 74 = .ok (.bipush 64, 2) := by decide +kernel
theorem dX10_addMoved_76 : decode cX10_addMoved 76 = .ok (.iload 5, 2) := by decide +kernel
theorem dX10_addMoved_78 : decode cX10_addMoved 78 = .ok (.isub, 1) := by decide +kernel
theorem dX10_addMoved_79 : decode cX10_addMoved 79 = .ok (.lushr, 1) := by decide +kernel
theorem dX10_addMoved_80 : decode cX10_addMoved 80 = .ok (.goto 4, 3) := by decide +kernel
theorem dX10_addMoved_83 : decode cX10_addMoved 83 = .ok (.lconst 0, 1) := by decide +kernel
theorem dX10_addMoved_84 : decode cX10_addMoved 84 = .ok (.lor, 1) := by decide +kernel
theorem dX10_addMoved_85 : decode cX10_addMoved 85 = .ok (.lstore 7, 2) := by decide +kernel
theorem dX10_addMoved_87 : decode cX10_addMoved 87 = .ok (.aload_n 0, 1) := by decide +kernel
theorem dX10_addMoved_88 : decode cX10_addMoved 88 = .ok (.getfield 93, 3) := by decide +kernel
theorem dX10_addMoved_91 : decode cX10_addMoved 91 = .ok (.bipush 94, 2) := by decide +kernel
theorem dX10_addMoved_93 : decode cX10_addMoved 93 = .ok (.iload_n 1, 1) := by decide +kernel
theorem dX10_addMoved_94 : decode cX10_addMoved 94 = .ok (.imul, 1) := by decide +kernel
theorem dX10_addMoved_95 : decode cX10_addMoved 95 = .ok (.iload 6, 2) := by decide +kernel
theorem dX10_addMoved_97 : decode cX10_addMoved 97 = .ok (.iadd, 1) := by decide +kernel
theorem dX10_addMoved_98 : decode cX10_addMoved 98 = .ok (.dup2, 1) := by decide +kernel
theorem dX10_addMoved_99 : decode cX10_addMoved 99 = .ok (.laload, 1) := by decide +kernel
theorem dX10_addMoved_100 : decode cX10_addMoved 100 = .ok (.lload 7, 2) := by decide +kernel
theorem dX10_addMoved_102 : decode cX10_addMoved 102 = .ok (.lor, 1) := by decide +kernel
theorem dX10_addMoved_103 : decode cX10_addMoved 103 = .ok (.lastore, 1) := by decide +kernel
theorem dX10_addMoved_104 : decode cX10_addMoved 104 = .ok (.iinc 6 (-1), 3) := by decide +kernel
theorem dX10_addMoved_107 : decode cX10_addMoved 107 = .ok (.goto (-91), 3) := by decide +kernel
theorem dX10_addMoved_110 : decode cX10_addMoved 110 = .ok (.return_, 1) := by decide +kernel
theorem dX10_findSums_0 : decode cX10_findSums 0 = .ok (.iconst 0, 1) := by decide +kernel
theorem dX10_findSums_1 : decode cX10_findSums 1 = .ok (.istore_n 1, 1) := by decide +kernel
theorem dX10_findSums_2 : decode cX10_findSums 2 = .ok (.iload_n 1, 1) := by decide +kernel
theorem dX10_findSums_3 : decode cX10_findSums 3 = .ok (.sipush 6016, 3) := by decide +kernel
theorem dX10_findSums_6 : decode cX10_findSums 6 = .ok (.if_icmp .ge 16, 3) := by decide +kernel
theorem dX10_findSums_9 : decode cX10_findSums 9 = .ok (.aload_n 0, 1) := by decide +kernel
theorem dX10_findSums_10 : decode cX10_findSums 10 = .ok (.getfield 93, 3) := by decide +kernel
theorem dX10_findSums_13 : decode cX10_findSums 13 = .ok (.iload_n 1, 1) := by decide +kernel
theorem dX10_findSums_14 : decode cX10_findSums 14 = .ok (.lconst 0, 1) := by decide +kernel
theorem dX10_findSums_15 : decode cX10_findSums 15 = .ok (.lastore, 1) := by decide +kernel
theorem dX10_findSums_16 : decode cX10_findSums 16 = .ok (.iinc 1 1, 3) := by decide +kernel
theorem dX10_findSums_19 : decode cX10_findSums 19 = .ok (.goto (-17), 3) := by decide +kernel
theorem dX10_findSums_22 : decode cX10_findSums 22 = .ok (.aload_n 0, 1) := by decide +kernel
theorem dX10_findSums_23 : decode cX10_findSums 23 = .ok (.getfield 93, 3) := by decide +kernel
theorem dX10_findSums_26 : decode cX10_findSums 26 = .ok (.iconst 0, 1) := by decide +kernel
theorem dX10_findSums_27 : decode cX10_findSums 27 = .ok (.lconst 1, 1) := by decide +kernel
theorem dX10_findSums_28 : decode cX10_findSums 28 = .ok (.lastore, 1) := by decide +kernel
theorem dX10_findSums_29 : decode cX10_findSums 29 = .ok (.iconst 1, 1) := by decide +kernel
theorem dX10_findSums_30 : decode cX10_findSums 30 = .ok (.istore_n 1, 1) := by decide +kernel
theorem dX10_findSums_31 : decode cX10_findSums 31 = .ok (.iload_n 1, 1) := by decide +kernel
theorem dX10_findSums_32 : decode cX10_findSums 32 = .ok (.iconst 1, 1) := by decide +kernel
theorem dX10_findSums_33 : decode cX10_findSums 33 = .ok (.aload_n 0, 1) := by decide +kernel
theorem dX10_findSums_34 : decode cX10_findSums 34 = .ok (.getfield 121, 3) := by decide +kernel
theorem dX10_findSums_37 : decode cX10_findSums 37 = .ok (.ishl, 1) := by decide +kernel
theorem dX10_findSums_38 : decode cX10_findSums 38 = .ok (.if_icmp .ge 62, 3) := by decide +kernel
theorem dX10_findSums_41 : decode cX10_findSums 41 = .ok (.iconst 0, 1) := by decide +kernel
theorem dX10_findSums_42 : decode cX10_findSums 42 = .ok (.istore_n 2, 1) := by decide +kernel
theorem dX10_findSums_43 : decode cX10_findSums 43 = .ok (.iload_n 1, 1) := by decide +kernel
theorem dX10_findSums_44 : decode cX10_findSums 44 = .ok (.iload_n 2, 1) := by decide +kernel
theorem dX10_findSums_45 : decode cX10_findSums 45 = .ok (.invokestatic 281, 3) := by decide +kernel
theorem dX10_findSums_48 : decode cX10_findSums 48 = .ok (.ifCond .ne 9, 3) := by decide +kernel
theorem dX10_findSums_51 : decode cX10_findSums 51 = .ok (.iinc 2 1, 3) := by decide +kernel
theorem dX10_findSums_54 : decode cX10_findSums 54 = .ok (.goto (-11), 3) := by decide +kernel
theorem dX10_findSums_57 : decode cX10_findSums 57 = .ok (.iconst 1, 1) := by decide +kernel
theorem dX10_findSums_58 : decode cX10_findSums 58 = .ok (.istore_n 3, 1) := by decide +kernel
theorem dX10_findSums_59 : decode cX10_findSums 59 = .ok (.iload_n 3, 1) := by decide +kernel
theorem dX10_findSums_60 : decode cX10_findSums 60 = .ok (.sipush 999, 3) := by decide +kernel
theorem dX10_findSums_63 : decode cX10_findSums 63 = .ok (.if_icmp .gt 31, 3) := by decide +kernel
theorem dX10_findSums_66 : decode cX10_findSums 66 = .ok (.aload_n 0, 1) := by decide +kernel
theorem dX10_findSums_67 : decode cX10_findSums 67 = .ok (.iload_n 2, 1) := by decide +kernel
theorem dX10_findSums_68 : decode cX10_findSums 68 = .ok (.iload_n 3, 1) := by decide +kernel
theorem dX10_findSums_69 : decode cX10_findSums 69 = .ok (.invokevirtual 373, 3) := by decide +kernel
theorem dX10_findSums_72 : decode cX10_findSums 72 = .ok (.ifCond .eq 16, 3) := by decide +kernel
theorem dX10_findSums_75 : decode cX10_findSums 75 = .ok (.aload_n 0, 1) := by decide +kernel
theorem dX10_findSums_76 : decode cX10_findSums 76 = .ok (.iload_n 1, 1) := by decide +kernel
theorem dX10_findSums_77 : decode cX10_findSums 77 = .ok (.iload_n 1, 1) := by decide +kernel
theorem dX10_findSums_78 : decode cX10_findSums 78 = .ok (.iconst 1, 1) := by decide +kernel
theorem dX10_findSums_79 : decode cX10_findSums 79 = .ok (.iload_n 2, 1) := by decide +kernel
theorem dX10_findSums_80 : decode cX10_findSums 80 = .ok (.ishl, 1) := by decide +kernel
theorem dX10_findSums_81 : decode cX10_findSums 81 = .ok (.iconst (-1), 1) := by decide +kernel
theorem dX10_findSums_82 : decode cX10_findSums 82 = .ok (.ixor, 1) := by decide +kernel
theorem dX10_findSums_83 : decode cX10_findSums 83 = .ok (.iand, 1) := by decide +kernel
theorem dX10_findSums_84 : decode cX10_findSums 84 = .ok (.iload_n 3, 1) := by decide +kernel
theorem dX10_findSums_85 : decode cX10_findSums 85 = .ok (.invokevirtual 376, 3) := by decide +kernel
theorem dX10_findSums_88 : decode cX10_findSums 88 = .ok (.iinc 3 1, 3) := by decide +kernel
theorem dX10_findSums_91 : decode cX10_findSums 91 = .ok (.goto (-32), 3) := by decide +kernel
theorem dX10_findSums_94 : decode cX10_findSums 94 = .ok (.iinc 1 1, 3) := by decide +kernel
theorem dX10_findSums_97 : decode cX10_findSums 97 = .ok (.goto (-66), 3) := by decide +kernel
theorem dX10_findSums_100 : decode cX10_findSums 100 = .ok (.return_, 1) := by decide +kernel
theorem dX10_wentFor_0 : decode cX10_wentFor 0 = .ok (.iload_n 1, 1) := by decide +kernel
theorem dX10_wentFor_1 : decode cX10_wentFor 1 = .ok (.i2l, 1) := by decide +kernel
theorem dX10_wentFor_2 : decode cX10_wentFor 2 = .ok (.lconst 0, 1) := by decide +kernel
theorem dX10_wentFor_3 : decode cX10_wentFor 3 = .ok (.ldc2_w 379, 3) := by decide +kernel
theorem dX10_wentFor_6 : decode cX10_wentFor 6 = .ok (.invokestatic 134, 3) := by decide +kernel
theorem dX10_wentFor_9 : decode cX10_wentFor 9 = .ok (.ifCond .eq 13, 3) := by decide +kernel
theorem dX10_wentFor_12 : decode cX10_wentFor 12 = .ok (.iload_n 2, 1) := by decide +kernel
theorem dX10_wentFor_13 : decode cX10_wentFor 13 = .ok (.i2l, 1) := by decide +kernel
theorem dX10_wentFor_14 : decode cX10_wentFor 14 = .ok (.lconst 0, 1) := by decide +kernel
theorem dX10_wentFor_15 : decode cX10_wentFor 15 = .ok (.lconst 1, 1) := by decide +kernel
theorem dX10_wentFor_16 : decode cX10_wentFor 16 = .ok (.invokestatic 134, 3) := by decide +kernel
theorem dX10_wentFor_19 : decode cX10_wentFor 19 = .ok (.ifCond .ne 6, 3) := by decide +kernel
theorem dX10_wentFor_22 : decode cX10_wentFor 22 = .ok (.ldc 143, 2) := by decide +kernel
theorem dX10_wentFor_24 : decode cX10_wentFor 24 = .ok (.ireturn, 1) := by decide +kernel
theorem dX10_wentFor_25 : decode cX10_wentFor 25 = .ok (.aload_n 0, 1) := by decide +kernel
theorem dX10_wentFor_26 : decode cX10_wentFor 26 = .ok (.invokevirtual 381, 3) := by decide +kernel
theorem dX10_wentFor_29 : decode cX10_wentFor 29 = .ok (.iconst 0, 1) := by decide +kernel
theorem dX10_wentFor_30 : decode cX10_wentFor 30 = .ok (.istore_n 3, 1) := by decide +kernel
theorem dX10_wentFor_31 : decode cX10_wentFor 31 = .ok (.iconst 1, 1) := by decide +kernel
theorem dX10_wentFor_32 : decode cX10_wentFor 32 = .ok (.aload_n 0, 1) := by decide +kernel
theorem dX10_wentFor_33 : decode cX10_wentFor 33 = .ok (.getfield 121, 3) := by decide +kernel
theorem dX10_wentFor_36 : decode cX10_wentFor 36 = .ok (.ishl, 1) := by decide +kernel
theorem dX10_wentFor_37 : decode cX10_wentFor 37 = .ok (.iconst 1, 1) := by decide +kernel
theorem dX10_wentFor_38 : decode cX10_wentFor 38 = .ok (.isub, 1) := by decide +kernel
theorem dX10_wentFor_39 : decode cX10_wentFor 39 = .ok (.istore 4, 2) := by decide +kernel
theorem dX10_wentFor_41 : decode cX10_wentFor 41 = .ok (.iconst 0, 1) := by decide +kernel
theorem dX10_wentFor_42 : decode cX10_wentFor 42 = .ok (.istore 5, 2) := by decide +kernel
theorem dX10_wentFor_44 : decode cX10_wentFor 44 = .ok (.iload 5, 2) := by decide +kernel
theorem dX10_wentFor_46 : decode cX10_wentFor 46 = .ok (.iconst 1, 1) := by decide +kernel
theorem dX10_wentFor_47 : decode cX10_wentFor 47 = .ok (.aload_n 0, 1) := by decide +kernel
theorem dX10_wentFor_48 : decode cX10_wentFor 48 = .ok (.getfield 121, 3) := by decide +kernel
theorem dX10_wentFor_51 : decode cX10_wentFor 51 = .ok (.ishl, 1) := by decide +kernel
theorem dX10_wentFor_52 : decode cX10_wentFor 52 = .ok (.if_icmp .ge 29, 3) := by decide +kernel
theorem dX10_wentFor_55 : decode cX10_wentFor 55 = .ok (.aload_n 0, 1) := by decide +kernel
theorem dX10_wentFor_56 : decode cX10_wentFor 56 = .ok (.iload 5, 2) := by decide +kernel
theorem dX10_wentFor_58 : decode cX10_wentFor 58 = .ok (.iload_n 1, 1) := by decide +kernel
theorem dX10_wentFor_59 : decode cX10_wentFor 59 = .ok (.invokevirtual 384, 3) := by decide +kernel
theorem dX10_wentFor_62 : decode cX10_wentFor 62 = .ok (.ifCond .eq 13, 3) := by decide +kernel
theorem dX10_wentFor_65 : decode cX10_wentFor 65 = .ok (.iinc 3 1, 3) := by decide +kernel
theorem dX10_wentFor_68 : decode cX10_wentFor 68 = .ok (.iload 4, 2) := by decide +kernel
theorem dX10_wentFor_70 : decode cX10_wentFor 70 = .ok (.iload 5, 2) := by decide +kernel
theorem dX10_wentFor_72 : decode cX10_wentFor 72 = .ok (.iand, 1) := by decide +kernel
theorem dX10_wentFor_73 : decode cX10_wentFor 73 = .ok (.istore 4, 2) := by decide +kernel
theorem dX10_wentFor_75 : decode cX10_wentFor 75 = .ok (.iinc 5 1, 3) := by decide +kernel
theorem dX10_wentFor_78 : decode cX10_wentFor 78 = .ok (.goto (-34), 3) := by decide +kernel
theorem dX10_wentFor_81 : decode cX10_wentFor 81 = .ok (.iload_n 2, 1) := by decide +kernel
theorem dX10_wentFor_82 : decode cX10_wentFor 82 = .ok (.ifCond .ne 7, 3) := by decide +kernel
theorem dX10_wentFor_85 : decode cX10_wentFor 85 = .ok (.iload_n 3, 1) := by decide +kernel
theorem dX10_wentFor_86 : decode cX10_wentFor 86 = .ok (.goto 13, 3) := by decide +kernel
theorem dX10_wentFor_89 : decode cX10_wentFor 89 = .ok (.iload_n 3, 1) := by decide +kernel
theorem dX10_wentFor_90 : decode cX10_wentFor 90 = .ok (.ifCond .ne 7, 3) := by decide +kernel
theorem dX10_wentFor_93 : decode cX10_wentFor 93 = .ok (.iconst (-1), 1) := by decide +kernel
theorem dX10_wentFor_94 : decode cX10_wentFor 94 = .ok (.goto 5, 3) := by decide +kernel
theorem dX10_wentFor_97 : decode cX10_wentFor 97 = .ok (.iload 4, 2) := by decide +kernel
theorem dX10_wentFor_99 : decode cX10_wentFor 99 = .ok (.ireturn, 1) := by decide +kernel
theorem dX10_wantsTo_0 : decode cX10_wantsTo 0 = .ok (.aload_n 0, 1) := by decide +kernel
theorem dX10_wantsTo_1 : decode cX10_wantsTo 1 = .ok (.getfield 7, 3) := by decide +kernel
theorem dX10_wantsTo_4 : decode cX10_wantsTo 4 = .ok (.iload_n 1, 1) := by decide +kernel
theorem dX10_wantsTo_5 : decode cX10_wantsTo 5 = .ok (.iaload, 1) := by decide +kernel
theorem dX10_wantsTo_6 : decode cX10_wantsTo 6 = .ok (.aload_n 0, 1) := by decide +kernel
theorem dX10_wantsTo_7 : decode cX10_wantsTo 7 = .ok (.getfield 16, 3) := by decide +kernel
theorem dX10_wantsTo_10 : decode cX10_wantsTo 10 = .ok (.bipush 6, 2) := by decide +kernel
theorem dX10_wantsTo_12 : decode cX10_wantsTo 12 = .ok (.iload_n 2, 1) := by decide +kernel
theorem dX10_wantsTo_13 : decode cX10_wantsTo 13 = .ok (.imul, 1) := by decide +kernel
theorem dX10_wantsTo_14 : decode cX10_wantsTo 14 = .ok (.iload_n 1, 1) := by decide +kernel
theorem dX10_wantsTo_15 : decode cX10_wantsTo 15 = .ok (.iadd, 1) := by decide +kernel
theorem dX10_wantsTo_16 : decode cX10_wantsTo 16 = .ok (.iaload, 1) := by decide +kernel
theorem dX10_wantsTo_17 : decode cX10_wantsTo 17 = .ok (.if_icmp .gt 7, 3) := by decide +kernel
theorem dX10_wantsTo_20 : decode cX10_wantsTo 20 = .ok (.iconst 1, 1) := by decide +kernel
theorem dX10_wantsTo_21 : decode cX10_wantsTo 21 = .ok (.goto 4, 3) := by decide +kernel
theorem dX10_wantsTo_24 : decode cX10_wantsTo 24 = .ok (.iconst 0, 1) := by decide +kernel
theorem dX10_wantsTo_25 : decode cX10_wantsTo 25 = .ok (.ireturn, 1) := by decide +kernel
theorem dX10_byHands_0 : decode cX10_byHands 0 = .ok (.iconst 0, 1) := by decide +kernel
theorem dX10_byHands_1 : decode cX10_byHands 1 = .ok (.istore_n 1, 1) := by decide +kernel
theorem dX10_byHands_2 : decode cX10_byHands 2 = .ok (.iconst 0, 1) := by decide +kernel
theorem dX10_byHands_3 : decode cX10_byHands 3 = .ok (.istore_n 2, 1) := by decide +kernel
theorem dX10_byHands_4 : decode cX10_byHands 4 = .ok (.iload_n 2, 1) := by decide +kernel
theorem dX10_byHands_5 : decode cX10_byHands 5 = .ok (.aload_n 0, 1) := by decide +kernel
theorem dX10_byHands_6 : decode cX10_byHands 6 = .ok (.getfield 121, 3) := by decide +kernel
theorem dX10_byHands_9 : decode cX10_byHands 9 = .ok (.aload_n 0, 1) := by decide +kernel
theorem dX10_byHands_10 : decode cX10_byHands 10 = .ok (.getfield 124, 3) := by decide +kernel
theorem dX10_byHands_13 : decode cX10_byHands 13 = .ok (.iadd, 1) := by decide +kernel
theorem dX10_byHands_14 : decode cX10_byHands 14 = .ok (.if_icmp .ge 126, 3) := by decide +kernel
theorem dX10_byHands_17 : decode cX10_byHands 17 = .ok (.iconst 0, 1) := by decide +kernel
theorem dX10_byHands_18 : decode cX10_byHands 18 = .ok (.istore_n 3, 1) := by decide +kernel
theorem dX10_byHands_19 : decode cX10_byHands 19 = .ok (.iconst 0, 1) := by decide +kernel
theorem dX10_byHands_20 : decode cX10_byHands 20 = .ok (.istore 4, 2) := by decide +kernel
theorem dX10_byHands_22 : decode cX10_byHands 22 = .ok (.iload 4, 2) := by decide +kernel
theorem dX10_byHands_24 : decode cX10_byHands 24 = .ok (.bipush 6, 2) := by decide +kernel
theorem dX10_byHands_26 : decode cX10_byHands 26 = .ok (.if_icmp .ge 76, 3) := by decide +kernel
theorem dX10_byHands_29 : decode cX10_byHands 29 = .ok (.iload_n 3, 1) := by decide +kernel
theorem dX10_byHands_30 : decode cX10_byHands 30 = .ok (.iload_n 2, 1) := by decide +kernel
theorem dX10_byHands_31 : decode cX10_byHands 31 = .ok (.aload_n 0, 1) := by decide +kernel
theorem dX10_byHands_32 : decode cX10_byHands 32 = .ok (.getfield 121, 3) := by decide +kernel
theorem dX10_byHands_35 : decode cX10_byHands 35 = .ok (.if_icmp .ge 30, 3) := by decide +kernel
theorem dX10_byHands_38 : decode cX10_byHands 38 = .ok (.iload 4, 2) := by decide +kernel
theorem dX10_byHands_40 : decode cX10_byHands 40 = .ok (.aload_n 0, 1) := by decide +kernel
theorem dX10_byHands_41 : decode cX10_byHands 41 = .ok (.getfield 124, 3) := by decide +kernel
theorem dX10_byHands_44 : decode cX10_byHands 44 = .ok (.if_icmp .ge 17, 3) := by decide +kernel
theorem dX10_byHands_47 : decode cX10_byHands 47 = .ok (.aload_n 0, 1) := by decide +kernel
theorem dX10_byHands_48 : decode cX10_byHands 48 = .ok (.iload_n 2, 1) := by decide +kernel
theorem dX10_byHands_49 : decode cX10_byHands 49 = .ok (.iload 4, 2) := by decide +kernel
theorem dX10_byHands_51 : decode cX10_byHands 51 = .ok (.invokevirtual 387, 3) := by decide +kernel
theorem dX10_byHands_54 : decode cX10_byHands 54 = .ok (.ifCond .eq 7, 3) := by decide +kernel
theorem dX10_byHands_57 : decode cX10_byHands 57 = .ok (.iconst 1, 1) := by decide +kernel
theorem dX10_byHands_58 : decode cX10_byHands 58 = .ok (.goto 36, 3) := by decide +kernel
theorem dX10_byHands_61 : decode cX10_byHands 61 = .ok (.iconst 0, 1) := by decide +kernel
theorem dX10_byHands_62 : decode cX10_byHands 62 = .ok (.goto 32, 3) := by decide +kernel
theorem dX10_byHands_65 : decode cX10_byHands 65 = .ok (.iload 4, 2) := by decide +kernel
theorem dX10_byHands_67 : decode cX10_byHands 67 = .ok (.aload_n 0, 1) := by decide +kernel
theorem dX10_byHands_68 : decode cX10_byHands 68 = .ok (.getfield 121, 3) := by decide +kernel
theorem dX10_byHands_71 : decode cX10_byHands 71 = .ok (.if_icmp .ge 22, 3) := by decide +kernel
theorem dX10_byHands_74 : decode cX10_byHands 74 = .ok (.aload_n 0, 1) := by decide +kernel
theorem dX10_byHands_75 : decode cX10_byHands 75 = .ok (.iload 4, 2) := by decide +kernel
theorem dX10_byHands_77 : decode cX10_byHands 77 = .ok (.iload_n 2, 1) := by decide +kernel
theorem dX10_byHands_78 : decode cX10_byHands 78 = .ok (.aload_n 0, 1) := by decide +kernel
theorem dX10_byHands_79 : decode cX10_byHands 79 = .ok (.getfield 121, 3) := by decide +kernel
theorem dX10_byHands_82 : decode cX10_byHands 82 = .ok (.isub, 1) := by decide +kernel
theorem dX10_byHands_83 : decode cX10_byHands 83 = .ok (.invokevirtual 387, 3) := by decide +kernel
theorem dX10_byHands_86 : decode cX10_byHands 86 = .ok (.ifCond .eq 7, 3) := by decide +kernel
theorem dX10_byHands_89 : decode cX10_byHands 89 = .ok (.iconst 1, 1) := by decide +kernel
theorem dX10_byHands_90 : decode cX10_byHands 90 = .ok (.goto 4, 3) := by decide +kernel
theorem dX10_byHands_93 : decode cX10_byHands 93 = .ok (.iconst 0, 1) := by decide +kernel
theorem dX10_byHands_94 : decode cX10_byHands 94 = .ok (.iadd, 1) := by decide +kernel
theorem dX10_byHands_95 : decode cX10_byHands 95 = .ok (.istore_n 3, 1) := by decide +kernel
theorem dX10_byHands_96 : decode cX10_byHands 96 = .ok (.iinc 4 1, 3) := by decide +kernel
theorem dX10_byHands_99 : decode cX10_byHands 99 = .ok (.goto (-77), 3) := by decide +kernel
theorem dX10_byHands_102 : decode cX10_byHands 102 = .ok (.iload_n 3, 1) := by decide +kernel
theorem dX10_byHands_103 : decode cX10_byHands 103 = .ok (.aload_n 0, 1) := by decide +kernel
theorem dX10_byHands_104 : decode cX10_byHands 104 = .ok (.getfield 22, 3) := by decide +kernel
theorem dX10_byHands_107 : decode cX10_byHands 107 = .ok (.iload_n 2, 1) := by decide +kernel
theorem dX10_byHands_108 : decode cX10_byHands 108 = .ok (.iaload, 1) := by decide +kernel
theorem dX10_byHands_109 : decode cX10_byHands 109 = .ok (.iadd, 1) := by decide +kernel
theorem dX10_byHands_110 : decode cX10_byHands 110 = .ok (.iconst 1, 1) := by decide +kernel
theorem dX10_byHands_111 : decode cX10_byHands 111 = .ok (.isub, 1) := by decide +kernel
theorem dX10_byHands_112 : decode cX10_byHands 112 = .ok (.aload_n 0, 1) := by decide +kernel
theorem dX10_byHands_113 : decode cX10_byHands 113 = .ok (.getfield 22, 3) := by decide +kernel
theorem dX10_byHands_116 : decode cX10_byHands 116 = .ok (.iload_n 2, 1) := by decide +kernel
theorem dX10_byHands_117 : decode cX10_byHands 117 = .ok (.iaload, 1) := by decide +kernel
theorem dX10_byHands_118 : decode cX10_byHands 118 = .ok (.idiv, 1) := by decide +kernel
theorem dX10_byHands_119 : decode cX10_byHands 119 = .ok (.istore 4, 2) := by decide +kernel
theorem dX10_byHands_121 : decode cX10_byHands 121 = .ok (.iload 4, 2) := by decide +kernel
theorem dX10_byHands_123 : decode cX10_byHands 123 = .ok (.iload_n 1, 1) := by decide +kernel
theorem dX10_byHands_124 : decode cX10_byHands 124 = .ok (.if_icmp .le 8, 3) := by decide +kernel
theorem dX10_byHands_127 : decode cX10_byHands 127 = .ok (.iload 4, 2) := by decide +kernel
theorem dX10_byHands_129 : decode cX10_byHands 129 = .ok (.goto 4, 3) := by decide +kernel
theorem dX10_byHands_132 : decode cX10_byHands 132 = .ok (.iload_n 1, 1) := by decide +kernel
theorem dX10_byHands_133 : decode cX10_byHands 133 = .ok (.istore_n 1, 1) := by decide +kernel
theorem dX10_byHands_134 : decode cX10_byHands 134 = .ok (.iinc 2 1, 3) := by decide +kernel
theorem dX10_byHands_137 : decode cX10_byHands 137 = .ok (.goto (-133), 3) := by decide +kernel
theorem dX10_byHands_140 : decode cX10_byHands 140 = .ok (.iload_n 1, 1) := by decide +kernel
theorem dX10_byHands_141 : decode cX10_byHands 141 = .ok (.ireturn, 1) := by decide +kernel
theorem dX10_byOrder_0 : decode cX10_byOrder 0 = .ok (.iconst 0, 1) := by decide +kernel
theorem dX10_byOrder_1 : decode cX10_byOrder 1 = .ok (.istore_n 1, 1) := by decide +kernel
theorem dX10_byOrder_2 : decode cX10_byOrder 2 = .ok (.iload_n 1, 1) := by decide +kernel
theorem dX10_byOrder_3 : decode cX10_byOrder 3 = .ok (.sipush 504, 3) := by decide +kernel
theorem dX10_byOrder_6 : decode cX10_byOrder 6 = .ok (.if_icmp .ge 16, 3) := by decide +kernel
theorem dX10_byOrder_9 : decode cX10_byOrder 9 = .ok (.aload_n 0, 1) := by decide +kernel
theorem dX10_byOrder_10 : decode cX10_byOrder 10 = .ok (.getfield 97, 3) := by decide +kernel
theorem dX10_byOrder_13 : decode cX10_byOrder 13 = .ok (.iload_n 1, 1) := by decide +kernel
theorem dX10_byOrder_14 : decode cX10_byOrder 14 = .ok (.iconst 0, 1) := by decide +kernel
theorem dX10_byOrder_15 : decode cX10_byOrder 15 = .ok (.iastore, 1) := by decide +kernel
theorem dX10_byOrder_16 : decode cX10_byOrder 16 = .ok (.iinc 1 1, 3) := by decide +kernel
theorem dX10_byOrder_19 : decode cX10_byOrder 19 = .ok (.goto (-17), 3) := by decide +kernel
theorem dX10_byOrder_22 : decode cX10_byOrder 22 = .ok (.iconst 0, 1) := by decide +kernel
theorem dX10_byOrder_23 : decode cX10_byOrder 23 = .ok (.istore_n 1, 1) := by decide +kernel
theorem dX10_byOrder_24 : decode cX10_byOrder 24 = .ok (.iconst 0, 1) := by decide +kernel
theorem dX10_byOrder_25 : decode cX10_byOrder 25 = .ok (.istore_n 2, 1) := by decide +kernel
theorem dX10_byOrder_26 : decode cX10_byOrder 26 = .ok (.iload_n 2, 1) := by decide +kernel
theorem dX10_byOrder_27 : decode cX10_byOrder 27 = .ok (.aload_n 0, 1) := by decide +kernel
theorem dX10_byOrder_28 : decode cX10_byOrder 28 = .ok (.getfield 121, 3) := by decide +kernel
theorem dX10_byOrder_31 : decode cX10_byOrder 31 = .ok (.if_icmp .ge 149, 3) := by decide +kernel
theorem dX10_byOrder_34 : decode cX10_byOrder 34 = .ok (.iconst 0, 1) := by decide +kernel
theorem dX10_byOrder_35 : decode cX10_byOrder 35 = .ok (.istore_n 3, 1) := by decide +kernel
theorem dX10_byOrder_36 : decode cX10_byOrder 36 = .ok (.iload_n 3, 1) := by decide +kernel
theorem dX10_byOrder_37 : decode cX10_byOrder 37 = .ok (.aload_n 0, 1) := by decide +kernel
theorem dX10_byOrder_38 : decode cX10_byOrder 38 = .ok (.getfield 124, 3) := by decide +kernel
theorem dX10_byOrder_41 : decode cX10_byOrder 41 = .ok (.if_icmp .ge 133, 3) := by decide +kernel
theorem dX10_byOrder_44 : decode cX10_byOrder 44 = .ok (.aload_n 0, 1) := by decide +kernel
theorem dX10_byOrder_45 : decode cX10_byOrder 45 = .ok (.iload_n 2, 1) := by decide +kernel
theorem dX10_byOrder_46 : decode cX10_byOrder 46 = .ok (.iload_n 3, 1) := by decide +kernel
theorem dX10_byOrder_47 : decode cX10_byOrder 47 = .ok (.invokevirtual 387, 3) := by decide +kernel
theorem dX10_byOrder_50 : decode cX10_byOrder 50 = .ok (.ifCond .eq 118, 3) := by decide +kernel
theorem dX10_byOrder_53 : decode cX10_byOrder 53 = .ok (.iconst 0, 1) := by decide +kernel
theorem dX10_byOrder_54 : decode cX10_byOrder 54 = .ok (.istore 4, 2) := by decide +kernel
theorem dX10_byOrder_56 : decode cX10_byOrder 56 = .ok (.aload_n 0, 1) := by decide +kernel
theorem dX10_byOrder_57 : decode cX10_byOrder 57 = .ok (.getfield 97, 3) := by decide +kernel
theorem dX10_byOrder_60 : decode cX10_byOrder 60 = .ok (.bipush 14, 2) := by decide +kernel
theorem dX10_byOrder_62 : decode cX10_byOrder 62 = .ok (.iload 4, 2) := by decide +kernel
theorem dX10_byOrder_64 : decode cX10_byOrder 64 = .ok (.imul, 1) := by decide +kernel
theorem dX10_byOrder_65 : decode cX10_byOrder 65 = .ok (.iload_n 2, 1) := by decide +kernel
theorem dX10_byOrder_66 : decode cX10_byOrder 66 = .ok (.iadd, 1) := by decide +kernel
theorem dX10_byOrder_67 : decode cX10_byOrder 67 = .ok (.iaload, 1) := by decide +kernel
theorem dX10_byOrder_68 : decode cX10_byOrder 68 = .ok (.aload_n 0, 1) := by decide +kernel
theorem dX10_byOrder_69 : decode cX10_byOrder 69 = .ok (.getfield 22, 3) := by decide +kernel
theorem dX10_byOrder_72 : decode cX10_byOrder 72 = .ok (.iload_n 2, 1) := by decide +kernel
theorem dX10_byOrder_73 : decode cX10_byOrder 73 = .ok (.iaload, 1) := by decide +kernel
theorem dX10_byOrder_74 : decode cX10_byOrder 74 = .ok (.if_icmp .eq 34, 3) := by decide +kernel
theorem dX10_byOrder_77 : decode cX10_byOrder 77 = .ok (.aload_n 0, 1) := by decide +kernel
theorem dX10_byOrder_78 : decode cX10_byOrder 78 = .ok (.getfield 97, 3) := by decide +kernel
theorem dX10_byOrder_81 : decode cX10_byOrder 81 = .ok (.bipush 14, 2) := by decide +kernel
theorem dX10_byOrder_83 : decode cX10_byOrder 83 = .ok (.iload 4, 2) := by decide +kernel
theorem dX10_byOrder_85 : decode cX10_byOrder 85 = .ok (.imul, 1) := by decide +kernel
theorem dX10_byOrder_86 : decode cX10_byOrder 86 = .ok (.aload_n 0, 1) := by decide +kernel
theorem dX10_byOrder_87 : decode cX10_byOrder 87 = .ok (.getfield 121, 3) := by decide +kernel
theorem dX10_byOrder_90 : decode cX10_byOrder 90 = .ok (.iadd, 1) := by decide +kernel
theorem dX10_byOrder_91 : decode cX10_byOrder 91 = .ok (.iload_n 3, 1) := by decide +kernel
theorem dX10_byOrder_92 : decode cX10_byOrder 92 = .ok (.iadd, 1) := by decide +kernel
theorem dX10_byOrder_93 : decode cX10_byOrder 93 = .ok (.iaload, 1) := by decide +kernel
theorem dX10_byOrder_94 : decode cX10_byOrder 94 = .ok (.aload_n 0, 1) := by decide +kernel
theorem dX10_byOrder_95 : decode cX10_byOrder 95 = .ok (.getfield 22, 3) := by decide +kernel
theorem dX10_byOrder_98 : decode cX10_byOrder 98 = .ok (.aload_n 0, 1) := by decide +kernel
theorem dX10_byOrder_99 : decode cX10_byOrder 99 = .ok (.getfield 121, 3) := by decide +kernel
theorem dX10_byOrder_102 : decode cX10_byOrder 102 = .ok (.iload_n 3, 1) := by decide +kernel
theorem dX10_byOrder_103 : decode cX10_byOrder 103 = .ok (.iadd, 1) := by decide +kernel
theorem dX10_byOrder_104 : decode cX10_byOrder 104 = .ok (.iaload, 1) := by decide +kernel
theorem dX10_byOrder_105 : decode cX10_byOrder 105 = .ok (.if_icmp .ne 9, 3) := by decide +kernel
theorem dX10_byOrder_108 : decode cX10_byOrder 108 = .ok (.iinc 4 1, 3) := by decide +kernel
theorem dX10_byOrder_111 : decode cX10_byOrder 111 = .ok (.goto (-55), 3) := by decide +kernel
theorem dX10_byOrder_114 : decode cX10_byOrder 114 = .ok (.aload_n 0, 1) := by decide +kernel
theorem dX10_byOrder_115 : decode cX10_byOrder 115 = .ok (.getfield 97, 3) := by decide +kernel
theorem dX10_byOrder_118 : decode cX10_byOrder 118 = .ok (.bipush 14, 2) := by decide +kernel
theorem dX10_byOrder_120 : decode cX10_byOrder 120 = .ok (.iload 4, 2) := by decide +kernel
theorem dX10_byOrder_122 : decode cX10_byOrder 122 = .ok (.imul, 1) := by decide +kernel
theorem dX10_byOrder_123 : decode cX10_byOrder 123 = .ok (.iload_n 2, 1) := by decide +kernel
theorem dX10_byOrder_124 : decode cX10_byOrder 124 = .ok (.iadd, 1) := by decide +kernel
theorem dX10_byOrder_125 : decode cX10_byOrder 125 = .ok (.dup2, 1) := by decide +kernel
theorem dX10_byOrder_126 : decode cX10_byOrder 126 = .ok (.iaload, 1) := by decide +kernel
theorem dX10_byOrder_127 : decode cX10_byOrder 127 = .ok (.iconst 1, 1) := by decide +kernel
theorem dX10_byOrder_128 : decode cX10_byOrder 128 = .ok (.iadd, 1) := by decide +kernel
theorem dX10_byOrder_129 : decode cX10_byOrder 129 = .ok (.iastore, 1) := by decide +kernel
theorem dX10_byOrder_130 : decode cX10_byOrder 130 = .ok (.aload_n 0, 1) := by decide +kernel
theorem dX10_byOrder_131 : decode cX10_byOrder 131 = .ok (.getfield 97, 3) := by decide +kernel
theorem dX10_byOrder_134 : decode cX10_byOrder 134 = .ok (.bipush 14, 2) := by decide +kernel
theorem dX10_byOrder_136 : decode cX10_byOrder 136 = .ok (.iload 4, 2) := by decide +kernel
theorem dX10_byOrder_138 : decode cX10_byOrder 138 = .ok (.imul, 1) := by decide +kernel
theorem dX10_byOrder_139 : decode cX10_byOrder 139 = .ok (.aload_n 0, 1) := by decide +kernel
theorem dX10_byOrder_140 : decode cX10_byOrder 140 = .ok (.getfield 121, 3) := by decide +kernel
theorem dX10_byOrder_143 : decode cX10_byOrder 143 = .ok (.iadd, 1) := by decide +kernel
theorem dX10_byOrder_144 : decode cX10_byOrder 144 = .ok (.iload_n 3, 1) := by decide +kernel
theorem dX10_byOrder_145 : decode cX10_byOrder 145 = .ok (.iadd, 1) := by decide +kernel
theorem dX10_byOrder_146 : decode cX10_byOrder 146 = .ok (.dup2, 1) := by decide +kernel
theorem dX10_byOrder_147 : decode cX10_byOrder 147 = .ok (.iaload, 1) := by decide +kernel
theorem dX10_byOrder_148 : decode cX10_byOrder 148 = .ok (.iconst 1, 1) := by decide +kernel
theorem dX10_byOrder_149 : decode cX10_byOrder 149 = .ok (.iadd, 1) := by decide +kernel
theorem dX10_byOrder_150 : decode cX10_byOrder 150 = .ok (.iastore, 1) := by decide +kernel
theorem dX10_byOrder_151 : decode cX10_byOrder 151 = .ok (.iload 4, 2) := by decide +kernel
theorem dX10_byOrder_153 : decode cX10_byOrder 153 = .ok (.iconst 1, 1) := by decide +kernel
theorem dX10_byOrder_154 : decode cX10_byOrder 154 = .ok (.iadd, 1) := by decide +kernel
theorem dX10_byOrder_155 : decode cX10_byOrder 155 = .ok (.iload_n 1, 1) := by decide +kernel
theorem dX10_byOrder_156 : decode cX10_byOrder 156 = .ok (.if_icmp .le 10, 3) := by decide +kernel
theorem dX10_byOrder_159 : decode cX10_byOrder 159 = .ok (.iload 4, 2) := by decide +kernel
theorem dX10_byOrder_161 : decode cX10_byOrder 161 = .ok (.iconst 1, 1) := by decide +kernel
theorem dX10_byOrder_162 : decode cX10_byOrder 162 = .ok (.iadd, 1) := by decide +kernel
theorem dX10_byOrder_163 : decode cX10_byOrder 163 = .ok (.goto 4, 3) := by decide +kernel
theorem dX10_byOrder_166 : decode cX10_byOrder 166 = .ok (.iload_n 1, 1) := by decide +kernel
theorem dX10_byOrder_167 : decode cX10_byOrder 167 = .ok (.istore_n 1, 1) := by decide +kernel
theorem dX10_byOrder_168 : decode cX10_byOrder 168 = .ok (.iinc 3 1, 3) := by decide +kernel
theorem dX10_byOrder_171 : decode cX10_byOrder 171 = .ok (.goto (-135), 3) := by decide +kernel
theorem dX10_byOrder_174 : decode cX10_byOrder 174 = .ok (.iinc 2 1, 3) := by decide +kernel
theorem dX10_byOrder_177 : decode cX10_byOrder 177 = .ok (.goto (-151), 3) := by decide +kernel
theorem dX10_byOrder_180 : decode cX10_byOrder 180 = .ok (.iload_n 1, 1) := by decide +kernel
theorem dX10_byOrder_181 : decode cX10_byOrder 181 = .ok (.ireturn, 1) := by decide +kernel
theorem dX10_meetings_0 : decode cX10_meetings 0 = .ok (.iload_n 1, 1) := by decide +kernel
theorem dX10_meetings_1 : decode cX10_meetings 1 = .ok (.ifCond .ne 10, 3) := by decide +kernel
theorem dX10_meetings_4 : decode cX10_meetings 4 = .ok (.aload_n 0, 1) := by decide +kernel
theorem dX10_meetings_5 : decode cX10_meetings 5 = .ok (.invokevirtual 390, 3) := by decide +kernel
theorem dX10_meetings_8 : decode cX10_meetings 8 = .ok (.goto 17, 3) := by decide +kernel
theorem dX10_meetings_11 : decode cX10_meetings 11 = .ok (.iload_n 1, 1) := by decide +kernel
theorem dX10_meetings_12 : decode cX10_meetings 12 = .ok (.iconst 1, 1) := by decide +kernel
theorem dX10_meetings_13 : decode cX10_meetings 13 = .ok (.if_icmp .ne 10, 3) := by decide +kernel
theorem dX10_meetings_16 : decode cX10_meetings 16 = .ok (.aload_n 0, 1) := by decide +kernel
theorem dX10_meetings_17 : decode cX10_meetings 17 = .ok (.invokevirtual 393, 3) := by decide +kernel
theorem dX10_meetings_20 : decode cX10_meetings 20 = .ok (.goto 5, 3) := by decide +kernel
theorem dX10_meetings_23 : decode cX10_meetings 23 = .ok (.ldc 143, 2) := by decide +kernel
theorem dX10_meetings_25 : decode cX10_meetings 25 = .ok (.ireturn, 1) := by decide +kernel
theorem dX10_write_0 : decode cX10_write 0 = .ok (.aload_n 0, 1) := by decide +kernel
theorem dX10_write_1 : decode cX10_write 1 = .ok (.iload_n 2, 1) := by decide +kernel
theorem dX10_write_2 : decode cX10_write 2 = .ok (.iload_n 3, 1) := by decide +kernel
theorem dX10_write_3 : decode cX10_write 3 = .ok (.invokevirtual 274, 3) := by decide +kernel
theorem dX10_write_6 : decode cX10_write 6 = .ok (.ifCond .ne 7, 3) := by decide +kernel
theorem dX10_write_9 : decode cX10_write 9 = .ok (.ldc_w 264, 3) := by decide +kernel
theorem dX10_write_12 : decode cX10_write 12 = .ok (.ireturn, 1) := by decide +kernel
theorem dX10_write_13 : decode cX10_write 13 = .ok (.iload_n 1, 1) := by decide +kernel
theorem dX10_write_14 : decode cX10_write 14 = .ok (.i2l, 1) := by decide +kernel
theorem dX10_write_15 : decode cX10_write 15 = .ok (.lconst 0, 1) := by decide +kernel
theorem dX10_write_16 : decode cX10_write 16 = .ok (.ldc2_w 379, 3) := by decide +kernel
theorem dX10_write_19 : decode cX10_write 19 = .ok (.invokestatic 134, 3) := by decide +kernel
theorem dX10_write_22 : decode cX10_write 22 = .ok (.ifCond .eq 16, 3) := by decide +kernel
theorem dX10_write_25 : decode cX10_write 25 = .ok (.iload 4, 2) := by decide +kernel
theorem dX10_write_27 : decode cX10_write 27 = .ok (.i2l, 1) := by decide +kernel
theorem dX10_write_28 : decode cX10_write 28 = .ok (.lconst 1, 1) := by decide +kernel
theorem dX10_write_29 : decode cX10_write 29 = .ok (.ldc2_w 285, 3) := by decide +kernel
theorem dX10_write_32 : decode cX10_write 32 = .ok (.invokestatic 134, 3) := by decide +kernel
theorem dX10_write_35 : decode cX10_write 35 = .ok (.ifCond .ne 6, 3) := by decide +kernel
theorem dX10_write_38 : decode cX10_write 38 = .ok (.ldc 143, 2) := by decide +kernel
theorem dX10_write_40 : decode cX10_write 40 = .ok (.ireturn, 1) := by decide +kernel
theorem dX10_write_41 : decode cX10_write 41 = .ok (.aload_n 0, 1) := by decide +kernel
theorem dX10_write_42 : decode cX10_write 42 = .ok (.getfield 252, 3) := by decide +kernel
theorem dX10_write_45 : decode cX10_write 45 = .ok (.bipush 30, 2) := by decide +kernel
theorem dX10_write_47 : decode cX10_write 47 = .ok (.if_icmp .ne 6, 3) := by decide +kernel
theorem dX10_write_50 : decode cX10_write 50 = .ok (.ldc 147, 2) := by decide +kernel
theorem dX10_write_52 : decode cX10_write 52 = .ok (.ireturn, 1) := by decide +kernel
theorem dX10_write_53 : decode cX10_write 53 = .ok (.aload_n 0, 1) := by decide +kernel
theorem dX10_write_54 : decode cX10_write 54 = .ok (.getfield 100, 3) := by decide +kernel
theorem dX10_write_57 : decode cX10_write 57 = .ok (.aload_n 0, 1) := by decide +kernel
theorem dX10_write_58 : decode cX10_write 58 = .ok (.getfield 252, 3) := by decide +kernel
theorem dX10_write_61 : decode cX10_write 61 = .ok (.iload_n 1, 1) := by decide +kernel
theorem dX10_write_62 : decode cX10_write 62 = .ok (.iastore, 1) := by decide +kernel
theorem dX10_write_63 : decode cX10_write 63 = .ok (.aload_n 0, 1) := by decide +kernel
theorem dX10_write_64 : decode cX10_write 64 = .ok (.getfield 103, 3) := by decide +kernel
theorem dX10_write_67 : decode cX10_write 67 = .ok (.aload_n 0, 1) := by decide +kernel
theorem dX10_write_68 : decode cX10_write 68 = .ok (.getfield 252, 3) := by decide +kernel
theorem dX10_write_71 : decode cX10_write 71 = .ok (.iload_n 2, 1) := by decide +kernel
theorem dX10_write_72 : decode cX10_write 72 = .ok (.iastore, 1) := by decide +kernel
theorem dX10_write_73 : decode cX10_write 73 = .ok (.aload_n 0, 1) := by decide +kernel
theorem dX10_write_74 : decode cX10_write 74 = .ok (.getfield 106, 3) := by decide +kernel
theorem dX10_write_77 : decode cX10_write 77 = .ok (.aload_n 0, 1) := by decide +kernel
theorem dX10_write_78 : decode cX10_write 78 = .ok (.getfield 252, 3) := by decide +kernel
theorem dX10_write_81 : decode cX10_write 81 = .ok (.iload_n 3, 1) := by decide +kernel
theorem dX10_write_82 : decode cX10_write 82 = .ok (.iastore, 1) := by decide +kernel
theorem dX10_write_83 : decode cX10_write 83 = .ok (.aload_n 0, 1) := by decide +kernel
theorem dX10_write_84 : decode cX10_write 84 = .ok (.getfield 109, 3) := by decide +kernel
theorem dX10_write_87 : decode cX10_write 87 = .ok (.aload_n 0, 1) := by decide +kernel
theorem dX10_write_88 : decode cX10_write 88 = .ok (.getfield 252, 3) := by decide +kernel
theorem dX10_write_91 : decode cX10_write 91 = .ok (.iload 4, 2) := by decide +kernel
theorem dX10_write_93 : decode cX10_write 93 = .ok (.iastore, 1) := by decide +kernel
theorem dX10_write_94 : decode cX10_write 94 = .ok (.aload_n 0, 1) := by decide +kernel
theorem dX10_write_95 : decode cX10_write 95 = .ok (.dup, 1) := by decide +kernel
theorem dX10_write_96 : decode cX10_write 96 = .ok (.getfield 252, 3) := by decide +kernel
theorem dX10_write_99 : decode cX10_write 99 = .ok (.iconst 1, 1) := by decide +kernel
theorem dX10_write_100 : decode cX10_write 100 = .ok (.iadd, 1) := by decide +kernel
theorem dX10_write_101 : decode cX10_write 101 = .ok (.putfield 252, 3) := by decide +kernel
theorem dX10_write_104 : decode cX10_write 104 = .ok (.aload_n 0, 1) := by decide +kernel
theorem dX10_write_105 : decode cX10_write 105 = .ok (.getfield 252, 3) := by decide +kernel
theorem dX10_write_108 : decode cX10_write 108 = .ok (.ireturn, 1) := by decide +kernel
theorem dX10_tear_0 : decode cX10_tear 0 = .ok (.aload_n 0, 1) := by decide +kernel
theorem dX10_tear_1 : decode cX10_tear 1 = .ok (.getfield 252, 3) := by decide +kernel
theorem dX10_tear_4 : decode cX10_tear 4 = .ok (.istore_n 1, 1) := by decide +kernel
theorem dX10_tear_5 : decode cX10_tear 5 = .ok (.aload_n 0, 1) := by decide +kernel
theorem dX10_tear_6 : decode cX10_tear 6 = .ok (.iconst 0, 1) := by decide +kernel
theorem dX10_tear_7 : decode cX10_tear 7 = .ok (.putfield 252, 3) := by decide +kernel
theorem dX10_tear_10 : decode cX10_tear 10 = .ok (.iload_n 1, 1) := by decide +kernel
theorem dX10_tear_11 : decode cX10_tear 11 = .ok (.ireturn, 1) := by decide +kernel
theorem dX10_isRight_0 : decode cX10_isRight 0 = .ok (.aload_n 0, 1) := by decide +kernel
theorem dX10_isRight_1 : decode cX10_isRight 1 = .ok (.getfield 103, 3) := by decide +kernel
theorem dX10_isRight_4 : decode cX10_isRight 4 = .ok (.iload_n 1, 1) := by decide +kernel
theorem dX10_isRight_5 : decode cX10_isRight 5 = .ok (.iaload, 1) := by decide +kernel
theorem dX10_isRight_6 : decode cX10_isRight 6 = .ok (.istore_n 2, 1) := by decide +kernel
theorem dX10_isRight_7 : decode cX10_isRight 7 = .ok (.iload_n 1, 1) := by decide +kernel
theorem dX10_isRight_8 : decode cX10_isRight 8 = .ok (.ifCond .eq 20, 3) := by decide +kernel
theorem dX10_isRight_11 : decode cX10_isRight 11 = .ok (.aload_n 0, 1) := by decide +kernel
theorem dX10_isRight_12 : decode cX10_isRight 12 = .ok (.getfield 100, 3) := by decide +kernel
theorem dX10_isRight_15 : decode cX10_isRight 15 = .ok (.iload_n 1, 1) := by decide +kernel
theorem dX10_isRight_16 : decode cX10_isRight 16 = .ok (.iaload, 1) := by decide +kernel
theorem dX10_isRight_17 : decode cX10_isRight 17 = .ok (.aload_n 0, 1) := by decide +kernel
theorem dX10_isRight_18 : decode cX10_isRight 18 = .ok (.getfield 100, 3) := by decide +kernel
theorem dX10_isRight_21 : decode cX10_isRight 21 = .ok (.iload_n 1, 1) := by decide +kernel
theorem dX10_isRight_22 : decode cX10_isRight 22 = .ok (.iconst 1, 1) := by decide +kernel
theorem dX10_isRight_23 : decode cX10_isRight 23 = .ok (.isub, 1) := by decide +kernel
theorem dX10_isRight_24 : decode cX10_isRight 24 = .ok (.iaload, 1) := by decide +kernel
theorem dX10_isRight_25 : decode cX10_isRight 25 = .ok (.if_icmp .lt 7, 3) := by decide +kernel
theorem dX10_isRight_28 : decode cX10_isRight 28 = .ok (.iconst 1, 1) := by decide +kernel
theorem dX10_isRight_29 : decode cX10_isRight 29 = .ok (.goto 4, 3) := by decide +kernel
theorem dX10_isRight_32 : decode cX10_isRight 32 = .ok (.iconst 0, 1) := by decide +kernel
theorem dX10_isRight_33 : decode cX10_isRight 33 = .ok (.istore_n 3, 1) := by decide +kernel
theorem dX10_isRight_34 : decode cX10_isRight 34 = .ok (.iconst 0, 1) := by decide +kernel
theorem dX10_isRight_35 : decode cX10_isRight 35 = .ok (.istore 4, 2) := by decide +kernel
theorem dX10_isRight_37 : decode cX10_isRight 37 = .ok (.iconst 0, 1) := by decide +kernel
theorem dX10_isRight_38 : decode cX10_isRight 38 = .ok (.istore 5, 2) := by decide +kernel
theorem dX10_isRight_40 : decode cX10_isRight 40 = .ok (.iload 5, 2) := by decide +kernel
theorem dX10_isRight_42 : decode cX10_isRight 42 = .ok (.iload_n 1, 1) := by decide +kernel
theorem dX10_isRight_43 : decode cX10_isRight 43 = .ok (.if_icmp .ge 116, 3) := by decide +kernel
theorem dX10_isRight_46 : decode cX10_isRight 46 = .ok (.aload_n 0, 1) := by decide +kernel
theorem dX10_isRight_47 : decode cX10_isRight 47 = .ok (.getfield 103, 3) := by decide +kernel
theorem dX10_isRight_50 : decode cX10_isRight 50 = .ok (.iload 5, 2) := by decide +kernel
theorem dX10_isRight_52 : decode cX10_isRight 52 = .ok (.iaload, 1) := by decide +kernel
theorem dX10_isRight_53 : decode cX10_isRight 53 = .ok (.iload_n 2, 1) := by decide +kernel
theorem dX10_isRight_54 : decode cX10_isRight 54 = .ok (.if_icmp .ne 28, 3) := by decide +kernel
theorem dX10_isRight_57 : decode cX10_isRight 57 = .ok (.aload_n 0, 1) := by decide +kernel
theorem dX10_isRight_58 : decode cX10_isRight 58 = .ok (.getfield 100, 3) := by decide +kernel
theorem dX10_isRight_61 : decode cX10_isRight 61 = .ok (.iload_n 1, 1) := by decide +kernel
theorem dX10_isRight_62 : decode cX10_isRight 62 = .ok (.iaload, 1) := by decide +kernel
theorem dX10_isRight_63 : decode cX10_isRight 63 = .ok (.aload_n 0, 1) := by decide +kernel
theorem dX10_isRight_64 : decode cX10_isRight 64 = .ok (.getfield 100, 3) := by decide +kernel
theorem dX10_isRight_67 : decode cX10_isRight 67 = .ok (.iload 5, 2) := by decide +kernel
theorem dX10_isRight_69 : decode cX10_isRight 69 = .ok (.iaload, 1) := by decide +kernel
theorem dX10_isRight_70 : decode cX10_isRight 70 = .ok (.aload_n 0, 1) := by decide +kernel
theorem dX10_isRight_71 : decode cX10_isRight 71 = .ok (.getfield 25, 3) := by decide +kernel
theorem dX10_isRight_74 : decode cX10_isRight 74 = .ok (.iadd, 1) := by decide +kernel
theorem dX10_isRight_75 : decode cX10_isRight 75 = .ok (.if_icmp .ge 7, 3) := by decide +kernel
theorem dX10_isRight_78 : decode cX10_isRight 78 = .ok (.iconst 1, 1) := by decide +kernel
theorem dX10_isRight_79 : decode cX10_isRight 79 = .ok (.goto 4, 3) := by decide +kernel
theorem dX10_isRight_82 : decode cX10_isRight 82 = .ok (.iconst 0, 1) := by decide +kernel
theorem dX10_isRight_83 : decode cX10_isRight 83 = .ok (.istore 6, 2) := by decide +kernel
theorem dX10_isRight_85 : decode cX10_isRight 85 = .ok (.iload_n 3, 1) := by decide +kernel
theorem dX10_isRight_86 : decode cX10_isRight 86 = .ok (.ifCond .eq 28, 3) := by decide +kernel
theorem dX10_isRight_89 : decode cX10_isRight 89 = .ok (.iload 6, 2) := by decide +kernel
theorem dX10_isRight_91 : decode cX10_isRight 91 = .ok (.ifCond .eq 19, 3) := by decide +kernel
theorem dX10_isRight_94 : decode cX10_isRight 94 = .ok (.aload_n 0, 1) := by decide +kernel
theorem dX10_isRight_95 : decode cX10_isRight 95 = .ok (.getfield 106, 3) := by decide +kernel
theorem dX10_isRight_98 : decode cX10_isRight 98 = .ok (.iload 5, 2) := by decide +kernel
theorem dX10_isRight_100 : decode cX10_isRight 100 = .ok (.iaload, 1) := by decide +kernel
theorem dX10_isRight_101 : decode cX10_isRight 101 = .ok (.aload_n 0, 1) := by decide +kernel
theorem dX10_isRight_102 : decode cX10_isRight 102 = .ok (.getfield 106, 3) := by decide +kernel
theorem dX10_isRight_105 : decode cX10_isRight 105 = .ok (.iload_n 1, 1) := by decide +kernel
theorem dX10_isRight_106 : decode cX10_isRight 106 = .ok (.iaload, 1) := by decide +kernel
theorem dX10_isRight_107 : decode cX10_isRight 107 = .ok (.if_icmp .eq 7, 3) := by decide +kernel
theorem dX10_isRight_110 : decode cX10_isRight 110 = .ok (.iconst 1, 1) := by decide +kernel
theorem dX10_isRight_111 : decode cX10_isRight 111 = .ok (.goto 4, 3) := by decide +kernel
theorem dX10_isRight_114 : decode cX10_isRight 114 = .ok (.iconst 0, 1) := by decide +kernel
theorem dX10_isRight_115 : decode cX10_isRight 115 = .ok (.istore_n 3, 1) := by decide +kernel
theorem dX10_isRight_116 : decode cX10_isRight 116 = .ok (.iload 4, 2) := by decide +kernel
theorem dX10_isRight_118 : decode cX10_isRight 118 = .ok (.iload 6, 2) := by decide +kernel
theorem dX10_isRight_120 : decode cX10_isRight 120 = .ok (.ifCond .eq 29, 3) := by decide +kernel
theorem dX10_isRight_123 : decode cX10_isRight 123 = .ok (.aload_n 0, 1) := by decide +kernel
theorem dX10_isRight_124 : decode cX10_isRight 124 = .ok (.getfield 106, 3) := by decide +kernel
theorem dX10_isRight_127 : decode cX10_isRight 127 = .ok (.iload 5, 2) := by decide +kernel
theorem dX10_isRight_129 : decode cX10_isRight 129 = .ok (.iaload, 1) := by decide +kernel
theorem dX10_isRight_130 : decode cX10_isRight 130 = .ok (.aload_n 0, 1) := by decide +kernel
theorem dX10_isRight_131 : decode cX10_isRight 131 = .ok (.getfield 106, 3) := by decide +kernel
theorem dX10_isRight_134 : decode cX10_isRight 134 = .ok (.iload_n 1, 1) := by decide +kernel
theorem dX10_isRight_135 : decode cX10_isRight 135 = .ok (.iaload, 1) := by decide +kernel
theorem dX10_isRight_136 : decode cX10_isRight 136 = .ok (.if_icmp .eq 13, 3) := by decide +kernel
theorem dX10_isRight_139 : decode cX10_isRight 139 = .ok (.aload_n 0, 1) := by decide +kernel
theorem dX10_isRight_140 : decode cX10_isRight 140 = .ok (.getfield 109, 3) := by decide +kernel
theorem dX10_isRight_143 : decode cX10_isRight 143 = .ok (.iload 5, 2) := by decide +kernel
theorem dX10_isRight_145 : decode cX10_isRight 145 = .ok (.iaload, 1) := by decide +kernel
theorem dX10_isRight_146 : decode cX10_isRight 146 = .ok (.goto 4, 3) := by decide +kernel
theorem dX10_isRight_149 : decode cX10_isRight 149 = .ok (.iconst 0, 1) := by decide +kernel
theorem dX10_isRight_150 : decode cX10_isRight 150 = .ok (.iadd, 1) := by decide +kernel
theorem dX10_isRight_151 : decode cX10_isRight 151 = .ok (.istore 4, 2) := by decide +kernel
theorem dX10_isRight_153 : decode cX10_isRight 153 = .ok (.iinc 5 1, 3) := by decide +kernel
theorem dX10_isRight_156 : decode cX10_isRight 156 = .ok (.goto (-116), 3) := by decide +kernel
theorem dX10_isRight_159 : decode cX10_isRight 159 = .ok (.iload_n 3, 1) := by decide +kernel
theorem dX10_isRight_160 : decode cX10_isRight 160 = .ok (.ifCond .eq 38, 3) := by decide +kernel
theorem dX10_isRight_163 : decode cX10_isRight 163 = .ok (.aload_n 0, 1) := by decide +kernel
theorem dX10_isRight_164 : decode cX10_isRight 164 = .ok (.iload_n 2, 1) := by decide +kernel
theorem dX10_isRight_165 : decode cX10_isRight 165 = .ok (.invokevirtual 245, 3) := by decide +kernel
theorem dX10_isRight_168 : decode cX10_isRight 168 = .ok (.ifCond .eq 26, 3) := by decide +kernel
theorem dX10_isRight_171 : decode cX10_isRight 171 = .ok (.aload_n 0, 1) := by decide +kernel
theorem dX10_isRight_172 : decode cX10_isRight 172 = .ok (.getfield 109, 3) := by decide +kernel
theorem dX10_isRight_175 : decode cX10_isRight 175 = .ok (.iload_n 1, 1) := by decide +kernel
theorem dX10_isRight_176 : decode cX10_isRight 176 = .ok (.iaload, 1) := by decide +kernel
theorem dX10_isRight_177 : decode cX10_isRight 177 = .ok (.aload_n 0, 1) := by decide +kernel
theorem dX10_isRight_178 : decode cX10_isRight 178 = .ok (.getfield 13, 3) := by decide +kernel
theorem dX10_isRight_181 : decode cX10_isRight 181 = .ok (.iload_n 2, 1) := by decide +kernel
theorem dX10_isRight_182 : decode cX10_isRight 182 = .ok (.aload_n 0, 1) := by decide +kernel
theorem dX10_isRight_183 : decode cX10_isRight 183 = .ok (.getfield 121, 3) := by decide +kernel
theorem dX10_isRight_186 : decode cX10_isRight 186 = .ok (.isub, 1) := by decide +kernel
theorem dX10_isRight_187 : decode cX10_isRight 187 = .ok (.iaload, 1) := by decide +kernel
theorem dX10_isRight_188 : decode cX10_isRight 188 = .ok (.iload 4, 2) := by decide +kernel
theorem dX10_isRight_190 : decode cX10_isRight 190 = .ok (.isub, 1) := by decide +kernel
theorem dX10_isRight_191 : decode cX10_isRight 191 = .ok (.if_icmp .gt 7, 3) := by decide +kernel
theorem dX10_isRight_194 : decode cX10_isRight 194 = .ok (.iconst 1, 1) := by decide +kernel
theorem dX10_isRight_195 : decode cX10_isRight 195 = .ok (.goto 4, 3) := by decide +kernel
theorem dX10_isRight_198 : decode cX10_isRight 198 = .ok (.iconst 0, 1) := by decide +kernel
theorem dX10_isRight_199 : decode cX10_isRight 199 = .ok (.ireturn, 1) := by decide +kernel
theorem dX10_judge_0 : decode cX10_judge 0 = .ok (.iconst 0, 1) := by decide +kernel
theorem dX10_judge_1 : decode cX10_judge 1 = .ok (.istore_n 1, 1) := by decide +kernel
theorem dX10_judge_2 : decode cX10_judge 2 = .ok (.iload_n 1, 1) := by decide +kernel
theorem dX10_judge_3 : decode cX10_judge 3 = .ok (.aload_n 0, 1) := by decide +kernel
theorem dX10_judge_4 : decode cX10_judge 4 = .ok (.getfield 252, 3) := by decide +kernel
theorem dX10_judge_7 : decode cX10_judge 7 = .ok (.if_icmp .ge 19, 3) := by decide +kernel
theorem dX10_judge_10 : decode cX10_judge 10 = .ok (.aload_n 0, 1) := by decide +kernel
theorem dX10_judge_11 : decode cX10_judge 11 = .ok (.iload_n 1, 1) := by decide +kernel
theorem dX10_judge_12 : decode cX10_judge 12 = .ok (.invokevirtual 396, 3) := by decide +kernel
theorem dX10_judge_15 : decode cX10_judge 15 = .ok (.ifCond .ne 5, 3) := by decide +kernel
theorem dX10_judge_18 : decode cX10_judge 18 = .ok (.iload_n 1, 1) := by decide +kernel
theorem dX10_judge_19 : decode cX10_judge 19 = .ok (.ireturn, 1) := by decide +kernel
theorem dX10_judge_20 : decode cX10_judge 20 = .ok (.iinc 1 1, 3) := by decide +kernel
theorem dX10_judge_23 : decode cX10_judge 23 = .ok (.goto (-21), 3) := by decide +kernel
theorem dX10_judge_26 : decode cX10_judge 26 = .ok (.iconst (-1), 1) := by decide +kernel
theorem dX10_judge_27 : decode cX10_judge 27 = .ok (.ireturn, 1) := by decide +kernel
theorem dX10_seed_0 : decode cX10_seed 0 = .ok (.iload_n 1, 1) := by decide +kernel
theorem dX10_seed_1 : decode cX10_seed 1 = .ok (.ifCond .ge 6, 3) := by decide +kernel
theorem dX10_seed_4 : decode cX10_seed 4 = .ok (.ldc 143, 2) := by decide +kernel
theorem dX10_seed_6 : decode cX10_seed 6 = .ok (.ireturn, 1) := by decide +kernel
theorem dX10_seed_7 : decode cX10_seed 7 = .ok (.aload_n 0, 1) := by decide +kernel
theorem dX10_seed_8 : decode cX10_seed 8 = .ok (.getfield 316, 3) := by decide +kernel
theorem dX10_seed_11 : decode cX10_seed 11 = .ok (.istore_n 2, 1) := by decide +kernel
theorem dX10_seed_12 : decode cX10_seed 12 = .ok (.aload_n 0, 1) := by decide +kernel
theorem dX10_seed_13 : decode cX10_seed 13 = .ok (.iload_n 1, 1) := by decide +kernel
theorem dX10_seed_14 : decode cX10_seed 14 = .ok (.putfield 316, 3) := by decide +kernel
theorem dX10_seed_17 : decode cX10_seed 17 = .ok (.iload_n 2, 1) := by decide +kernel
theorem dX10_seed_18 : decode cX10_seed 18 = .ok (.ireturn, 1) := by decide +kernel
theorem dX10_keep_0 : decode cX10_keep 0 = .ok (.iload_n 1, 1) := by decide +kernel
theorem dX10_keep_1 : decode cX10_keep 1 = .ok (.i2l, 1) := by decide +kernel
theorem dX10_keep_2 : decode cX10_keep 2 = .ok (.lconst 0, 1) := by decide +kernel
theorem dX10_keep_3 : decode cX10_keep 3 = .ok (.lconst 1, 1) := by decide +kernel
theorem dX10_keep_4 : decode cX10_keep 4 = .ok (.invokestatic 134, 3) := by decide +kernel
theorem dX10_keep_7 : decode cX10_keep 7 = .ok (.ifCond .ne 7, 3) := by decide +kernel
theorem dX10_keep_10 : decode cX10_keep 10 = .ok (.ldc_w 264, 3) := by decide +kernel
theorem dX10_keep_13 : decode cX10_keep 13 = .ok (.ireturn, 1) := by decide +kernel
theorem dX10_keep_14 : decode cX10_keep 14 = .ok (.sipush 220, 3) := by decide +kernel
theorem dX10_keep_17 : decode cX10_keep 17 = .ok (.iload_n 1, 1) := by decide +kernel
theorem dX10_keep_18 : decode cX10_keep 18 = .ok (.imul, 1) := by decide +kernel
theorem dX10_keep_19 : decode cX10_keep 19 = .ok (.istore_n 2, 1) := by decide +kernel
theorem dX10_keep_20 : decode cX10_keep 20 = .ok (.iconst 0, 1) := by decide +kernel
theorem dX10_keep_21 : decode cX10_keep 21 = .ok (.istore_n 3, 1) := by decide +kernel
theorem dX10_keep_22 : decode cX10_keep 22 = .ok (.iload_n 3, 1) := by decide +kernel
theorem dX10_keep_23 : decode cX10_keep 23 = .ok (.bipush 84, 2) := by decide +kernel
theorem dX10_keep_25 : decode cX10_keep 25 = .ok (.if_icmp .ge 40, 3) := by decide +kernel
theorem dX10_keep_28 : decode cX10_keep 28 = .ok (.aload_n 0, 1) := by decide +kernel
theorem dX10_keep_29 : decode cX10_keep 29 = .ok (.getfield 112, 3) := by decide +kernel
theorem dX10_keep_32 : decode cX10_keep 32 = .ok (.iload_n 2, 1) := by decide +kernel
theorem dX10_keep_33 : decode cX10_keep 33 = .ok (.iload_n 3, 1) := by decide +kernel
theorem dX10_keep_34 : decode cX10_keep 34 = .ok (.iadd, 1) := by decide +kernel
theorem dX10_keep_35 : decode cX10_keep 35 = .ok (.aload_n 0, 1) := by decide +kernel
theorem dX10_keep_36 : decode cX10_keep 36 = .ok (.getfield 35, 3) := by decide +kernel
theorem dX10_keep_39 : decode cX10_keep 39 = .ok (.iload_n 3, 1) := by decide +kernel
theorem dX10_keep_40 : decode cX10_keep 40 = .ok (.iaload, 1) := by decide +kernel
theorem dX10_keep_41 : decode cX10_keep 41 = .ok (.iastore, 1) := by decide +kernel
theorem dX10_keep_42 : decode cX10_keep 42 = .ok (.aload_n 0, 1) := by decide +kernel
theorem dX10_keep_43 : decode cX10_keep 43 = .ok (.getfield 112, 3) := by decide +kernel
theorem dX10_keep_46 : decode cX10_keep 46 = .ok (.iload_n 2, 1) := by decide +kernel
theorem dX10_keep_47 : decode cX10_keep 47 = .ok (.bipush 84, 2) := by decide +kernel
theorem dX10_keep_49 : decode cX10_keep 49 = .ok (.iadd, 1) := by decide +kernel
theorem dX10_keep_50 : decode cX10_keep 50 = .ok (.iload_n 3, 1) := by decide +kernel
theorem dX10_keep_51 : decode cX10_keep 51 = .ok (.iadd, 1) := by decide +kernel
theorem dX10_keep_52 : decode cX10_keep 52 = .ok (.aload_n 0, 1) := by decide +kernel
theorem dX10_keep_53 : decode cX10_keep 53 = .ok (.getfield 38, 3) := by decide +kernel
theorem dX10_keep_56 : decode cX10_keep 56 = .ok (.iload_n 3, 1) := by decide +kernel
theorem dX10_keep_57 : decode cX10_keep 57 = .ok (.iaload, 1) := by decide +kernel
theorem dX10_keep_58 : decode cX10_keep 58 = .ok (.iastore, 1) := by decide +kernel
theorem dX10_keep_59 : decode cX10_keep 59 = .ok (.iinc 3 1, 3) := by decide +kernel
theorem dX10_keep_62 : decode cX10_keep 62 = .ok (.goto (-40), 3) := by decide +kernel
theorem dX10_keep_65 : decode cX10_keep 65 = .ok (.iconst 0, 1) := by decide +kernel
theorem dX10_keep_66 : decode cX10_keep 66 = .ok (.istore_n 3, 1) := by decide +kernel
theorem dX10_keep_67 : decode cX10_keep 67 = .ok (.iload_n 3, 1) := by decide +kernel
theorem dX10_keep_68 : decode cX10_keep 68 = .ok (.bipush 14, 2) := by decide +kernel
theorem dX10_keep_70 : decode cX10_keep 70 = .ok (.if_icmp .ge 45, 3) := by decide +kernel
theorem dX10_keep_73 : decode cX10_keep 73 = .ok (.aload_n 0, 1) := by decide +kernel
theorem dX10_keep_74 : decode cX10_keep 74 = .ok (.getfield 112, 3) := by decide +kernel
theorem dX10_keep_77 : decode cX10_keep 77 = .ok (.iload_n 2, 1) := by decide +kernel
theorem dX10_keep_78 : decode cX10_keep 78 = .ok (.sipush 168, 3) := by decide +kernel
theorem dX10_keep_81 : decode cX10_keep 81 = .ok (.iadd, 1) := by decide +kernel
theorem dX10_keep_82 : decode cX10_keep 82 = .ok (.iload_n 3, 1) := by decide +kernel
theorem dX10_keep_83 : decode cX10_keep 83 = .ok (.iadd, 1) := by decide +kernel
theorem dX10_keep_84 : decode cX10_keep 84 = .ok (.aload_n 0, 1) := by decide +kernel
theorem dX10_keep_85 : decode cX10_keep 85 = .ok (.getfield 32, 3) := by decide +kernel
theorem dX10_keep_88 : decode cX10_keep 88 = .ok (.iload_n 3, 1) := by decide +kernel
theorem dX10_keep_89 : decode cX10_keep 89 = .ok (.iaload, 1) := by decide +kernel
theorem dX10_keep_90 : decode cX10_keep 90 = .ok (.iastore, 1) := by decide +kernel
theorem dX10_keep_91 : decode cX10_keep 91 = .ok (.aload_n 0, 1) := by decide +kernel
theorem dX10_keep_92 : decode cX10_keep 92 = .ok (.getfield 112, 3) := by decide +kernel
theorem dX10_keep_95 : decode cX10_keep 95 = .ok (.iload_n 2, 1) := by decide +kernel
theorem dX10_keep_96 : decode cX10_keep 96 = .ok (.sipush 182, 3) := by decide +kernel
theorem dX10_keep_99 : decode cX10_keep 99 = .ok (.iadd, 1) := by decide +kernel
theorem dX10_keep_100 : decode cX10_keep 100 = .ok (.iload_n 3, 1) := by decide +kernel
theorem dX10_keep_101 : decode cX10_keep 101 = .ok (.iadd, 1) := by decide +kernel
theorem dX10_keep_102 : decode cX10_keep 102 = .ok (.aload_n 0, 1) := by decide +kernel
theorem dX10_keep_103 : decode cX10_keep 103 = .ok (.getfield 47, 3) := by decide +kernel
theorem dX10_keep_106 : decode cX10_keep 106 = .ok (.iload_n 3, 1) := by decide +kernel
theorem dX10_keep_107 : decode cX10_keep 107 = .ok (.iaload, 1) := by decide +kernel
theorem dX10_keep_108 : decode cX10_keep 108 = .ok (.iastore, 1) := by decide +kernel
theorem dX10_keep_109 : decode cX10_keep 109 = .ok (.iinc 3 1, 3) := by decide +kernel
theorem dX10_keep_112 : decode cX10_keep 112 = .ok (.goto (-45), 3) := by decide +kernel
theorem dX10_keep_115 : decode cX10_keep 115 = .ok (.iconst 0, 1) := by decide +kernel
