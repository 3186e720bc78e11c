theorem dX0_init_0 : decode cX0_init 0 = .ok (.aload_n 0, 1) := by decide +kernel
theorem dX0_init_1 : decode cX0_init 1 = .ok (.invokespecial 3, 3) := by decide +kernel
theorem dX0_init_4 : decode cX0_init 4 = .ok (.aload_n 0, 1) := by decide +kernel
theorem dX0_init_5 : decode cX0_init 5 = .ok (.sipush 300, 3) := by decide +kernel
theorem dX0_init_8 : decode cX0_init 8 = .ok (.newarray .boolean, 2) := by decide +kernel
theorem dX0_init_10 : decode cX0_init 10 = .ok (.putfield 9, 3) := by decide +kernel
theorem dX0_init_13 : decode cX0_init 13 = .ok (.aload_n 0, 1) := by decide +kernel
theorem dX0_init_14 : decode cX0_init 14 = .ok (.aload_n 1, 1) := by decide +kernel
theorem dX0_init_15 : decode cX0_init 15 = .ok (.putfield 15, 3) := by decide +kernel
theorem dX0_init_18 : decode cX0_init 18 = .ok (.return_, 1) := by decide +kernel
theorem dX0_firstFault_0 : decode cX0_firstFault 0 = .ok (.aload_n 0, 1) := by decide +kernel
theorem dX0_firstFault_1 : decode cX0_firstFault 1 = .ok (.getfield 15, 3) := by decide +kernel
theorem dX0_firstFault_4 : decode cX0_firstFault 4 = .ok (.getfield 19, 3) := by decide +kernel
theorem dX0_firstFault_7 : decode cX0_firstFault 7 = .ok (.ifCond .ne 6, 3) := by decide +kernel
theorem dX0_firstFault_10 : decode cX0_firstFault 10 = .ok (.bipush 7, 2) := by decide +kernel
theorem dX0_firstFault_12 : decode cX0_firstFault 12 = .ok (.ireturn, 1) := by decide +kernel
theorem dX0_firstFault_13 : decode cX0_firstFault 13 = .ok (.iconst 0, 1) := by decide +kernel
theorem dX0_firstFault_14 : decode cX0_firstFault 14 = .ok (.istore_n 1, 1) := by decide +kernel
theorem dX0_firstFault_15 : decode cX0_firstFault 15 = .ok (.iload_n 1, 1) := by decide +kernel
theorem dX0_firstFault_16 : decode cX0_firstFault 16 = .ok (.aload_n 0, 1) := by decide +kernel
theorem dX0_firstFault_17 : decode cX0_firstFault 17 = .ok (.getfield 15, 3) := by decide +kernel
theorem dX0_firstFault_20 : decode cX0_firstFault 20 = .ok (.getfield 19, 3) := by decide +kernel
theorem dX0_firstFault_23 : decode cX0_firstFault 23 = .ok (.if_icmp .ge 29, 3) := by decide +kernel
theorem dX0_firstFault_26 : decode cX0_firstFault 26 = .ok (.aload_n 0, 1) := by decide +kernel
theorem dX0_firstFault_27 : decode cX0_firstFault 27 = .ok (.getfield 15, 3) := by decide +kernel
theorem dX0_firstFault_30 : decode cX0_firstFault 30 = .ok (.getfield 25, 3) := by decide +kernel
theorem dX0_firstFault_33 : decode cX0_firstFault 33 = .ok (.iload_n 1, 1) := by decide +kernel
theorem dX0_firstFault_34 : decode cX0_firstFault 34 = .ok (.iaload, 1) := by decide +kernel
theorem dX0_firstFault_35 : decode cX0_firstFault 35 = .ok (.ifCond .ne 11, 3) := by decide +kernel
theorem dX0_firstFault_38 : decode cX0_firstFault 38 = .ok (.bipush 6, 2) := by decide +kernel
theorem dX0_firstFault_40 : decode cX0_firstFault 40 = .ok (.bipush 8, 2) := by decide +kernel
theorem dX0_firstFault_42 : decode cX0_firstFault 42 = .ok (.iload_n 1, 1) := by decide +kernel
theorem dX0_firstFault_43 : decode cX0_firstFault 43 = .ok (.imul, 1) := by decide +kernel
theorem dX0_firstFault_44 : decode cX0_firstFault 44 = .ok (.iadd, 1) := by decide +kernel
theorem dX0_firstFault_45 : decode cX0_firstFault 45 = .ok (.ireturn, 1) := by decide +kernel
theorem dX0_firstFault_46 : decode cX0_firstFault 46 = .ok (.iinc 1 1, 3) := by decide +kernel
theorem dX0_firstFault_49 : decode cX0_firstFault 49 = .ok (.goto (-34), 3) := by decide +kernel
theorem dX0_firstFault_52 : decode cX0_firstFault 52 = .ok (.iconst 0, 1) := by decide +kernel
theorem dX0_firstFault_53 : decode cX0_firstFault 53 = .ok (.istore_n 1, 1) := by decide +kernel
theorem dX0_firstFault_54 : decode cX0_firstFault 54 = .ok (.iload_n 1, 1) := by decide +kernel
theorem dX0_firstFault_55 : decode cX0_firstFault 55 = .ok (.aload_n 0, 1) := by decide +kernel
theorem dX0_firstFault_56 : decode cX0_firstFault 56 = .ok (.getfield 15, 3) := by decide +kernel
theorem dX0_firstFault_59 : decode cX0_firstFault 59 = .ok (.getfield 19, 3) := by decide +kernel
theorem dX0_firstFault_62 : decode cX0_firstFault 62 = .ok (.if_icmp .ge 21, 3) := by decide +kernel
theorem dX0_firstFault_65 : decode cX0_firstFault 65 = .ok (.aload_n 0, 1) := by decide +kernel
theorem dX0_firstFault_66 : decode cX0_firstFault 66 = .ok (.iload_n 1, 1) := by decide +kernel
theorem dX0_firstFault_67 : decode cX0_firstFault 67 = .ok (.invokevirtual 29, 3) := by decide +kernel
theorem dX0_firstFault_70 : decode cX0_firstFault 70 = .ok (.istore_n 2, 1) := by decide +kernel
theorem dX0_firstFault_71 : decode cX0_firstFault 71 = .ok (.iload_n 2, 1) := by decide +kernel
theorem dX0_firstFault_72 : decode cX0_firstFault 72 = .ok (.ifCond .eq 5, 3) := by decide +kernel
theorem dX0_firstFault_75 : decode cX0_firstFault 75 = .ok (.iload_n 2, 1) := by decide +kernel
theorem dX0_firstFault_76 : decode cX0_firstFault 76 = .ok (.ireturn, 1) := by decide +kernel
theorem dX0_firstFault_77 : decode cX0_firstFault 77 = .ok (.iinc 1 1, 3) := by decide +kernel
theorem dX0_firstFault_80 : decode cX0_firstFault 80 = .ok (.goto (-26), 3) := by decide +kernel
theorem dX0_firstFault_83 : decode cX0_firstFault 83 = .ok (.iconst 0, 1) := by decide +kernel
theorem dX0_firstFault_84 : decode cX0_firstFault 84 = .ok (.ireturn, 1) := by decide +kernel
theorem dX0_faultOfFunc_0 : decode cX0_faultOfFunc 0 = .ok (.aload_n 0, 1) := by decide +kernel
theorem dX0_faultOfFunc_1 : decode cX0_faultOfFunc 1 = .ok (.getfield 15, 3) := by decide +kernel
theorem dX0_faultOfFunc_4 : decode cX0_faultOfFunc 4 = .ok (.getfield 33, 3) := by decide +kernel
theorem dX0_faultOfFunc_7 : decode cX0_faultOfFunc 7 = .ok (.iload_n 1, 1) := by decide +kernel
theorem dX0_faultOfFunc_8 : decode cX0_faultOfFunc 8 = .ok (.iaload, 1) := by decide +kernel
theorem dX0_faultOfFunc_9 : decode cX0_faultOfFunc 9 = .ok (.istore_n 2, 1) := by decide +kernel
theorem dX0_faultOfFunc_10 : decode cX0_faultOfFunc 10 = .ok (.aload_n 0, 1) := by decide +kernel
theorem dX0_faultOfFunc_11 : decode cX0_faultOfFunc 11 = .ok (.getfield 15, 3) := by decide +kernel
theorem dX0_faultOfFunc_14 : decode cX0_faultOfFunc 14 = .ok (.getfield 25, 3) := by decide +kernel
theorem dX0_faultOfFunc_17 : decode cX0_faultOfFunc 17 = .ok (.iload_n 1, 1) := by decide +kernel
theorem dX0_faultOfFunc_18 : decode cX0_faultOfFunc 18 = .ok (.iaload, 1) := by decide +kernel
theorem dX0_faultOfFunc_19 : decode cX0_faultOfFunc 19 = .ok (.istore_n 3, 1) := by decide +kernel
theorem dX0_faultOfFunc_20 : decode cX0_faultOfFunc 20 = .ok (.iconst 0, 1) := by decide +kernel
theorem dX0_faultOfFunc_21 : decode cX0_faultOfFunc 21 = .ok (.istore 4, 2) := by decide +kernel
theorem dX0_faultOfFunc_23 : decode cX0_faultOfFunc 23 = .ok (.iload 4, 2) := by decide +kernel
theorem dX0_faultOfFunc_25 : decode cX0_faultOfFunc 25 = .ok (.iload_n 3, 1) := by decide +kernel
theorem dX0_faultOfFunc_26 : decode cX0_faultOfFunc 26 = .ok (.if_icmp .ge 32, 3) := by decide +kernel
theorem dX0_faultOfFunc_29 : decode cX0_faultOfFunc 29 = .ok (.aload_n 0, 1) := by decide +kernel
theorem dX0_faultOfFunc_30 : decode cX0_faultOfFunc 30 = .ok (.getfield 15, 3) := by decide +kernel
theorem dX0_faultOfFunc_33 : decode cX0_faultOfFunc 33 = .ok (.getfield 36, 3) := by decide +kernel
theorem dX0_faultOfFunc_36 : decode cX0_faultOfFunc 36 = .ok (.iload_n 2, 1) := by decide +kernel
theorem dX0_faultOfFunc_37 : decode cX0_faultOfFunc 37 = .ok (.iload 4, 2) := by decide +kernel
theorem dX0_faultOfFunc_39 : decode cX0_faultOfFunc 39 = .ok (.iadd, 1) := by decide +kernel
theorem dX0_faultOfFunc_40 : decode cX0_faultOfFunc 40 = .ok (.iconst (-1), 1) := by decide +kernel
theorem dX0_faultOfFunc_41 : decode cX0_faultOfFunc 41 = .ok (.iastore, 1) := by decide +kernel
theorem dX0_faultOfFunc_42 : decode cX0_faultOfFunc 42 = .ok (.aload_n 0, 1) := by decide +kernel
theorem dX0_faultOfFunc_43 : decode cX0_faultOfFunc 43 = .ok (.getfield 9, 3) := by decide +kernel
theorem dX0_faultOfFunc_46 : decode cX0_faultOfFunc 46 = .ok (.iload_n 2, 1) := by decide +kernel
theorem dX0_faultOfFunc_47 : decode cX0_faultOfFunc 47 = .ok (.iload 4, 2) := by decide +kernel
theorem dX0_faultOfFunc_49 : decode cX0_faultOfFunc 49 = .ok (.iadd, 1) := by decide +kernel
theorem dX0_faultOfFunc_50 : decode cX0_faultOfFunc 50 = .ok (.iconst 0, 1) := by decide +kernel
theorem dX0_faultOfFunc_51 : decode cX0_faultOfFunc 51 = .ok (.bastore, 1) := by decide +kernel
theorem dX0_faultOfFunc_52 : decode cX0_faultOfFunc 52 = .ok (.iinc 4 1, 3) := by decide +kernel
theorem dX0_faultOfFunc_55 : decode cX0_faultOfFunc 55 = .ok (.goto (-32), 3) := by decide +kernel
theorem dX0_faultOfFunc_58 : decode cX0_faultOfFunc 58 = .ok (.aload_n 0, 1) := by decide +kernel
theorem dX0_faultOfFunc_59 : decode cX0_faultOfFunc 59 = .ok (.getfield 15, 3) := by decide +kernel
theorem dX0_faultOfFunc_62 : decode cX0_faultOfFunc 62 = .ok (.getfield 36, 3) := by decide +kernel
theorem dX0_faultOfFunc_65 : decode cX0_faultOfFunc 65 = .ok (.iload_n 2, 1) := by decide +kernel
theorem dX0_faultOfFunc_66 : decode cX0_faultOfFunc 66 = .ok (.iconst 0, 1) := by decide +kernel
theorem dX0_faultOfFunc_67 : decode cX0_faultOfFunc 67 = .ok (.iastore, 1) := by decide +kernel
theorem dX0_faultOfFunc_68 : decode cX0_faultOfFunc 68 = .ok (.aload_n 0, 1) := by decide +kernel
theorem dX0_faultOfFunc_69 : decode cX0_faultOfFunc 69 = .ok (.iconst 0, 1) := by decide +kernel
theorem dX0_faultOfFunc_70 : decode cX0_faultOfFunc 70 = .ok (.putfield 39, 3) := by decide +kernel
theorem dX0_faultOfFunc_73 : decode cX0_faultOfFunc 73 = .ok (.iconst 0, 1) := by decide +kernel
theorem dX0_faultOfFunc_74 : decode cX0_faultOfFunc 74 = .ok (.istore 4, 2) := by decide +kernel
theorem dX0_faultOfFunc_76 : decode cX0_faultOfFunc 76 = .ok (.iload 4, 2) := by decide +kernel
theorem dX0_faultOfFunc_78 : decode cX0_faultOfFunc 78 = .ok (.iload_n 3, 1) := by decide +kernel
theorem dX0_faultOfFunc_79 : decode cX0_faultOfFunc 79 = .ok (.if_icmp .ge 72, 3) := by decide +kernel
theorem dX0_faultOfFunc_82 : decode cX0_faultOfFunc 82 = .ok (.aload_n 0, 1) := by decide +kernel
theorem dX0_faultOfFunc_83 : decode cX0_faultOfFunc 83 = .ok (.iload_n 2, 1) := by decide +kernel
theorem dX0_faultOfFunc_84 : decode cX0_faultOfFunc 84 = .ok (.iload_n 3, 1) := by decide +kernel
theorem dX0_faultOfFunc_85 : decode cX0_faultOfFunc 85 = .ok (.invokevirtual 42, 3) := by decide +kernel
theorem dX0_faultOfFunc_88 : decode cX0_faultOfFunc 88 = .ok (.istore 5, 2) := by decide +kernel
theorem dX0_faultOfFunc_90 : decode cX0_faultOfFunc 90 = .ok (.iload 5, 2) := by decide +kernel
theorem dX0_faultOfFunc_92 : decode cX0_faultOfFunc 92 = .ok (.iconst (-1), 1) := by decide +kernel
theorem dX0_faultOfFunc_93 : decode cX0_faultOfFunc 93 = .ok (.if_icmp .ne 5, 3) := by decide +kernel
theorem dX0_faultOfFunc_96 : decode cX0_faultOfFunc 96 = .ok (.iconst 0, 1) := by decide +kernel
theorem dX0_faultOfFunc_97 : decode cX0_faultOfFunc 97 = .ok (.ireturn, 1) := by decide +kernel
theorem dX0_faultOfFunc_98 : decode cX0_faultOfFunc 98 = .ok (.aload_n 0, 1) := by decide +kernel
theorem dX0_faultOfFunc_99 : decode cX0_faultOfFunc 99 = .ok (.getfield 9, 3) := by decide +kernel
theorem dX0_faultOfFunc_102 : decode cX0_faultOfFunc 102 = .ok (.iload_n 2, 1) := by decide +kernel
theorem dX0_faultOfFunc_103 : decode cX0_faultOfFunc 103 = .ok (.iload 5, 2) := by decide +kernel
theorem dX0_faultOfFunc_105 : decode cX0_faultOfFunc 105 = .ok (.iadd, 1) := by decide +kernel
theorem dX0_faultOfFunc_106 : decode cX0_faultOfFunc 106 = .ok (.iconst 1, 1) := by decide +kernel
theorem dX0_faultOfFunc_107 : decode cX0_faultOfFunc 107 = .ok (.bastore, 1) := by decide +kernel
theorem dX0_faultOfFunc_108 : decode cX0_faultOfFunc 108 = .ok (.aload_n 0, 1) := by decide +kernel
theorem dX0_faultOfFunc_109 : decode cX0_faultOfFunc 109 = .ok (.iload 5, 2) := by decide +kernel
theorem dX0_faultOfFunc_111 : decode cX0_faultOfFunc 111 = .ok (.iconst 1, 1) := by decide +kernel
theorem dX0_faultOfFunc_112 : decode cX0_faultOfFunc 112 = .ok (.iadd, 1) := by decide +kernel
theorem dX0_faultOfFunc_113 : decode cX0_faultOfFunc 113 = .ok (.putfield 39, 3) := by decide +kernel
theorem dX0_faultOfFunc_116 : decode cX0_faultOfFunc 116 = .ok (.aload_n 0, 1) := by decide +kernel
theorem dX0_faultOfFunc_117 : decode cX0_faultOfFunc 117 = .ok (.iload_n 1, 1) := by decide +kernel
theorem dX0_faultOfFunc_118 : decode cX0_faultOfFunc 118 = .ok (.iload 5, 2) := by decide +kernel
theorem dX0_faultOfFunc_120 : decode cX0_faultOfFunc 120 = .ok (.invokevirtual 46, 3) := by decide +kernel
theorem dX0_faultOfFunc_123 : decode cX0_faultOfFunc 123 = .ok (.istore 6, 2) := by decide +kernel
theorem dX0_faultOfFunc_125 : decode cX0_faultOfFunc 125 = .ok (.iload 6, 2) := by decide +kernel
theorem dX0_faultOfFunc_127 : decode cX0_faultOfFunc 127 = .ok (.ifCond .eq 18, 3) := by decide +kernel
theorem dX0_faultOfFunc_130 : decode cX0_faultOfFunc 130 = .ok (.iload 6, 2) := by decide +kernel
theorem dX0_faultOfFunc_132 : decode cX0_faultOfFunc 132 = .ok (.bipush 8, 2) := by decide +kernel
theorem dX0_faultOfFunc_134 : decode cX0_faultOfFunc 134 = .ok (.iload_n 1, 1) := by decide +kernel
theorem dX0_faultOfFunc_135 : decode cX0_faultOfFunc 135 = .ok (.imul, 1) := by decide +kernel
theorem dX0_faultOfFunc_136 : decode cX0_faultOfFunc 136 = .ok (.iadd, 1) := by decide +kernel
theorem dX0_faultOfFunc_137 : decode cX0_faultOfFunc 137 = .ok (.sipush 128, 3) := by decide +kernel
theorem dX0_faultOfFunc_140 : decode cX0_faultOfFunc 140 = .ok (.iload 5, 2) := by decide +kernel
theorem dX0_faultOfFunc_142 : decode cX0_faultOfFunc 142 = .ok (.imul, 1) := by decide +kernel
theorem dX0_faultOfFunc_143 : decode cX0_faultOfFunc 143 = .ok (.iadd, 1) := by decide +kernel
theorem dX0_faultOfFunc_144 : decode cX0_faultOfFunc 144 = .ok (.ireturn, 1) := by decide +kernel
theorem dX0_faultOfFunc_145 : decode cX0_faultOfFunc 145 = .ok (.iinc 4 1, 3) := by decide +kernel
theorem dX0_faultOfFunc_148 : decode cX0_faultOfFunc 148 = .ok (.goto (-72), 3) := by decide +kernel
theorem dX0_faultOfFunc_151 : decode cX0_faultOfFunc 151 = .ok (.iconst 0, 1) := by decide +kernel
theorem dX0_faultOfFunc_152 : decode cX0_faultOfFunc 152 = .ok (.ireturn, 1) := by decide +kernel
theorem dX0_leastWaiting_0 : decode cX0_leastWaiting 0 = .ok (.aload_n 0, 1) := by decide +kernel
theorem dX0_leastWaiting_1 : decode cX0_leastWaiting 1 = .ok (.getfield 39, 3) := by decide +kernel
theorem dX0_leastWaiting_4 : decode cX0_leastWaiting 4 = .ok (.istore_n 3, 1) := by decide +kernel
theorem dX0_leastWaiting_5 : decode cX0_leastWaiting 5 = .ok (.iload_n 3, 1) := by decide +kernel
theorem dX0_leastWaiting_6 : decode cX0_leastWaiting 6 = .ok (.iload_n 2, 1) := by decide +kernel
theorem dX0_leastWaiting_7 : decode cX0_leastWaiting 7 = .ok (.if_icmp .ge 37, 3) := by decide +kernel
theorem dX0_leastWaiting_10 : decode cX0_leastWaiting 10 = .ok (.aload_n 0, 1) := by decide +kernel
theorem dX0_leastWaiting_11 : decode cX0_leastWaiting 11 = .ok (.getfield 15, 3) := by decide +kernel
theorem dX0_leastWaiting_14 : decode cX0_leastWaiting 14 = .ok (.getfield 36, 3) := by decide +kernel
theorem dX0_leastWaiting_17 : decode cX0_leastWaiting 17 = .ok (.iload_n 1, 1) := by decide +kernel
theorem dX0_leastWaiting_18 : decode cX0_leastWaiting 18 = .ok (.iload_n 3, 1) := by decide +kernel
theorem dX0_leastWaiting_19 : decode cX0_leastWaiting 19 = .ok (.iadd, 1) := by decide +kernel
theorem dX0_leastWaiting_20 : decode cX0_leastWaiting 20 = .ok (.iaload, 1) := by decide +kernel
theorem dX0_leastWaiting_21 : decode cX0_leastWaiting 21 = .ok (.iconst (-1), 1) := by decide +kernel
theorem dX0_leastWaiting_22 : decode cX0_leastWaiting 22 = .ok (.if_icmp .eq 16, 3) := by decide +kernel
theorem dX0_leastWaiting_25 : decode cX0_leastWaiting 25 = .ok (.aload_n 0, 1) := by decide +kernel
theorem dX0_leastWaiting_26 : decode cX0_leastWaiting 26 = .ok (.getfield 9, 3) := by decide +kernel
theorem dX0_leastWaiting_29 : decode cX0_leastWaiting 29 = .ok (.iload_n 1, 1) := by decide +kernel
theorem dX0_leastWaiting_30 : decode cX0_leastWaiting 30 = .ok (.iload_n 3, 1) := by decide +kernel
theorem dX0_leastWaiting_31 : decode cX0_leastWaiting 31 = .ok (.iadd, 1) := by decide +kernel
theorem dX0_leastWaiting_32 : decode cX0_leastWaiting 32 = .ok (.baload, 1) := by decide +kernel
theorem dX0_leastWaiting_33 : decode cX0_leastWaiting 33 = .ok (.ifCond .ne 5, 3) := by decide +kernel
theorem dX0_leastWaiting_36 : decode cX0_leastWaiting 36 = .ok (.iload_n 3, 1) := by decide +kernel
theorem dX0_leastWaiting_37 : decode cX0_leastWaiting 37 = .ok (.ireturn, 1) := by decide +kernel
theorem dX0_leastWaiting_38 : decode cX0_leastWaiting 38 = .ok (.iinc 3 1, 3) := by decide +kernel
theorem dX0_leastWaiting_41 : decode cX0_leastWaiting 41 = .ok (.goto (-36), 3) := by decide +kernel
theorem dX0_leastWaiting_44 : decode cX0_leastWaiting 44 = .ok (.iconst (-1), 1) := by decide +kernel
theorem dX0_leastWaiting_45 : decode cX0_leastWaiting 45 = .ok (.ireturn, 1) := by decide +kernel
theorem dX0_faultOfWord_0 : decode cX0_faultOfWord 0 = .ok (.aload_n 0, 1) := by decide +kernel
theorem dX0_faultOfWord_1 : decode cX0_faultOfWord 1 = .ok (.getfield 15, 3) := by decide +kernel
theorem dX0_faultOfWord_4 : decode cX0_faultOfWord 4 = .ok (.getfield 33, 3) := by decide +kernel
theorem dX0_faultOfWord_7 : decode cX0_faultOfWord 7 = .ok (.iload_n 1, 1) := by decide +kernel
theorem dX0_faultOfWord_8 : decode cX0_faultOfWord 8 = .ok (.iaload, 1) := by decide +kernel
theorem dX0_faultOfWord_9 : decode cX0_faultOfWord 9 = .ok (.iload_n 2, 1) := by decide +kernel
theorem dX0_faultOfWord_10 : decode cX0_faultOfWord 10 = .ok (.iadd, 1) := by decide +kernel
theorem dX0_faultOfWord_11 : decode cX0_faultOfWord 11 = .ok (.istore_n 3, 1) := by decide +kernel
theorem dX0_faultOfWord_12 : decode cX0_faultOfWord 12 = .ok (.aload_n 0, 1) := by decide +kernel
theorem dX0_faultOfWord_13 : decode cX0_faultOfWord 13 = .ok (.getfield 15, 3) := by decide +kernel
theorem dX0_faultOfWord_16 : decode cX0_faultOfWord 16 = .ok (.getfield 49, 3) := by decide +kernel
theorem dX0_faultOfWord_19 : decode cX0_faultOfWord 19 = .ok (.iload_n 3, 1) := by decide +kernel
theorem dX0_faultOfWord_20 : decode cX0_faultOfWord 20 = .ok (.iaload, 1) := by decide +kernel
theorem dX0_faultOfWord_21 : decode cX0_faultOfWord 21 = .ok (.istore 4, 2) := by decide +kernel
theorem dX0_faultOfWord_23 : decode cX0_faultOfWord 23 = .ok (.aload_n 0, 1) := by decide +kernel
theorem dX0_faultOfWord_24 : decode cX0_faultOfWord 24 = .ok (.getfield 15, 3) := by decide +kernel
theorem dX0_faultOfWord_27 : decode cX0_faultOfWord 27 = .ok (.getfield 52, 3) := by decide +kernel
theorem dX0_faultOfWord_30 : decode cX0_faultOfWord 30 = .ok (.iload_n 3, 1) := by decide +kernel
theorem dX0_faultOfWord_31 : decode cX0_faultOfWord 31 = .ok (.iaload, 1) := by decide +kernel
theorem dX0_faultOfWord_32 : decode cX0_faultOfWord 32 = .ok (.istore 5, 2) := by decide +kernel
theorem dX0_faultOfWord_34 : decode cX0_faultOfWord 34 = .ok (.aload_n 0, 1) := by decide +kernel
theorem dX0_faultOfWord_35 : decode cX0_faultOfWord 35 = .ok (.iload_n 1, 1) := by decide +kernel
theorem dX0_faultOfWord_36 : decode cX0_faultOfWord 36 = .ok (.iload 4, 2) := by decide +kernel
theorem dX0_faultOfWord_38 : decode cX0_faultOfWord 38 = .ok (.iload 5, 2) := by decide +kernel
theorem dX0_faultOfWord_40 : decode cX0_faultOfWord 40 = .ok (.invokevirtual 55, 3) := by decide +kernel
theorem dX0_faultOfWord_43 : decode cX0_faultOfWord 43 = .ok (.ifCond .ne 5, 3) := by decide +kernel
theorem dX0_faultOfWord_46 : decode cX0_faultOfWord 46 = .ok (.iconst 1, 1) := by decide +kernel
theorem dX0_faultOfWord_47 : decode cX0_faultOfWord 47 = .ok (.ireturn, 1) := by decide +kernel
theorem dX0_faultOfWord_48 : decode cX0_faultOfWord 48 = .ok (.aload_n 0, 1) := by decide +kernel
theorem dX0_faultOfWord_49 : decode cX0_faultOfWord 49 = .ok (.getfield 15, 3) := by decide +kernel
theorem dX0_faultOfWord_52 : decode cX0_faultOfWord 52 = .ok (.iload 4, 2) := by decide +kernel
theorem dX0_faultOfWord_54 : decode cX0_faultOfWord 54 = .ok (.iload 5, 2) := by decide +kernel
theorem dX0_faultOfWord_56 : decode cX0_faultOfWord 56 = .ok (.invokevirtual 59, 3) := by decide +kernel
theorem dX0_faultOfWord_59 : decode cX0_faultOfWord 59 = .ok (.istore 6, 2) := by decide +kernel
theorem dX0_faultOfWord_61 : decode cX0_faultOfWord 61 = .ok (.aload_n 0, 1) := by decide +kernel
theorem dX0_faultOfWord_62 : decode cX0_faultOfWord 62 = .ok (.getfield 15, 3) := by decide +kernel
theorem dX0_faultOfWord_65 : decode cX0_faultOfWord 65 = .ok (.getfield 36, 3) := by decide +kernel
theorem dX0_faultOfWord_68 : decode cX0_faultOfWord 68 = .ok (.iload_n 3, 1) := by decide +kernel
theorem dX0_faultOfWord_69 : decode cX0_faultOfWord 69 = .ok (.iaload, 1) := by decide +kernel
theorem dX0_faultOfWord_70 : decode cX0_faultOfWord 70 = .ok (.iload 6, 2) := by decide +kernel
theorem dX0_faultOfWord_72 : decode cX0_faultOfWord 72 = .ok (.if_icmp .ge 5, 3) := by decide +kernel
theorem dX0_faultOfWord_75 : decode cX0_faultOfWord 75 = .ok (.iconst 2, 1) := by decide +kernel
theorem dX0_faultOfWord_76 : decode cX0_faultOfWord 76 = .ok (.ireturn, 1) := by decide +kernel
theorem dX0_faultOfWord_77 : decode cX0_faultOfWord 77 = .ok (.aload_n 0, 1) := by decide +kernel
theorem dX0_faultOfWord_78 : decode cX0_faultOfWord 78 = .ok (.getfield 15, 3) := by decide +kernel
theorem dX0_faultOfWord_81 : decode cX0_faultOfWord 81 = .ok (.getfield 36, 3) := by decide +kernel
theorem dX0_faultOfWord_84 : decode cX0_faultOfWord 84 = .ok (.iload_n 3, 1) := by decide +kernel
theorem dX0_faultOfWord_85 : decode cX0_faultOfWord 85 = .ok (.iaload, 1) := by decide +kernel
theorem dX0_faultOfWord_86 : decode cX0_faultOfWord 86 = .ok (.iload 6, 2) := by decide +kernel
theorem dX0_faultOfWord_88 : decode cX0_faultOfWord 88 = .ok (.isub, 1) := by decide +kernel
theorem dX0_faultOfWord_89 : decode cX0_faultOfWord 89 = .ok (.getstatic 62, 3) := by decide +kernel
theorem dX0_faultOfWord_92 : decode cX0_faultOfWord 92 = .ok (.iload 4, 2) := by decide +kernel
theorem dX0_faultOfWord_94 : decode cX0_faultOfWord 94 = .ok (.iaload, 1) := by decide +kernel
theorem dX0_faultOfWord_95 : decode cX0_faultOfWord 95 = .ok (.iadd, 1) := by decide +kernel
theorem dX0_faultOfWord_96 : decode cX0_faultOfWord 96 = .ok (.istore 7, 2) := by decide +kernel
theorem dX0_faultOfWord_98 : decode cX0_faultOfWord 98 = .ok (.iload 7, 2) := by decide +kernel
theorem dX0_faultOfWord_100 : decode cX0_faultOfWord 100 = .ok (.bipush 12, 2) := by decide +kernel
theorem dX0_faultOfWord_102 : decode cX0_faultOfWord 102 = .ok (.if_icmp .le 5, 3) := by decide +kernel
theorem dX0_faultOfWord_105 : decode cX0_faultOfWord 105 = .ok (.iconst 3, 1) := by decide +kernel
theorem dX0_faultOfWord_106 : decode cX0_faultOfWord 106 = .ok (.ireturn, 1) := by decide +kernel
theorem dX0_faultOfWord_107 : decode cX0_faultOfWord 107 = .ok (.iload 4, 2) := by decide +kernel
theorem dX0_faultOfWord_109 : decode cX0_faultOfWord 109 = .ok (.bipush 12, 2) := by decide +kernel
theorem dX0_faultOfWord_111 : decode cX0_faultOfWord 111 = .ok (.if_icmp .eq 42, 3) := by decide +kernel
theorem dX0_faultOfWord_114 : decode cX0_faultOfWord 114 = .ok (.iload 4, 2) := by decide +kernel
theorem dX0_faultOfWord_116 : decode cX0_faultOfWord 116 = .ok (.bipush 15, 2) := by decide +kernel
theorem dX0_faultOfWord_118 : decode cX0_faultOfWord 118 = .ok (.if_icmp .eq 35, 3) := by decide +kernel
theorem dX0_faultOfWord_121 : decode cX0_faultOfWord 121 = .ok (.iload_n 2, 1) := by decide +kernel
theorem dX0_faultOfWord_122 : decode cX0_faultOfWord 122 = .ok (.iconst 1, 1) := by decide +kernel
theorem dX0_faultOfWord_123 : decode cX0_faultOfWord 123 = .ok (.iadd, 1) := by decide +kernel
theorem dX0_faultOfWord_124 : decode cX0_faultOfWord 124 = .ok (.aload_n 0, 1) := by decide +kernel
theorem dX0_faultOfWord_125 : decode cX0_faultOfWord 125 = .ok (.getfield 15, 3) := by decide +kernel
theorem dX0_faultOfWord_128 : decode cX0_faultOfWord 128 = .ok (.getfield 25, 3) := by decide +kernel
theorem dX0_faultOfWord_131 : decode cX0_faultOfWord 131 = .ok (.iload_n 1, 1) := by decide +kernel
theorem dX0_faultOfWord_132 : decode cX0_faultOfWord 132 = .ok (.iaload, 1) := by decide +kernel
theorem dX0_faultOfWord_133 : decode cX0_faultOfWord 133 = .ok (.if_icmp .lt 5, 3) := by decide +kernel
theorem dX0_faultOfWord_136 : decode cX0_faultOfWord 136 = .ok (.iconst 4, 1) := by decide +kernel
theorem dX0_faultOfWord_137 : decode cX0_faultOfWord 137 = .ok (.ireturn, 1) := by decide +kernel
theorem dX0_faultOfWord_138 : decode cX0_faultOfWord 138 = .ok (.aload_n 0, 1) := by decide +kernel
theorem dX0_faultOfWord_139 : decode cX0_faultOfWord 139 = .ok (.iload_n 1, 1) := by decide +kernel
theorem dX0_faultOfWord_140 : decode cX0_faultOfWord 140 = .ok (.iload_n 2, 1) := by decide +kernel
theorem dX0_faultOfWord_141 : decode cX0_faultOfWord 141 = .ok (.iconst 1, 1) := by decide +kernel
theorem dX0_faultOfWord_142 : decode cX0_faultOfWord 142 = .ok (.iadd, 1) := by decide +kernel
theorem dX0_faultOfWord_143 : decode cX0_faultOfWord 143 = .ok (.iload 7, 2) := by decide +kernel
theorem dX0_faultOfWord_145 : decode cX0_faultOfWord 145 = .ok (.invokevirtual 65, 3) := by decide +kernel
theorem dX0_faultOfWord_148 : decode cX0_faultOfWord 148 = .ok (.ifCond .ne 5, 3) := by decide +kernel
theorem dX0_faultOfWord_151 : decode cX0_faultOfWord 151 = .ok (.iconst 5, 1) := by decide +kernel
theorem dX0_faultOfWord_152 : decode cX0_faultOfWord 152 = .ok (.ireturn, 1) := by decide +kernel
theorem dX0_faultOfWord_153 : decode cX0_faultOfWord 153 = .ok (.iload 4, 2) := by decide +kernel
theorem dX0_faultOfWord_155 : decode cX0_faultOfWord 155 = .ok (.bipush 12, 2) := by decide +kernel
theorem dX0_faultOfWord_157 : decode cX0_faultOfWord 157 = .ok (.if_icmp .eq 10, 3) := by decide +kernel
theorem dX0_faultOfWord_160 : decode cX0_faultOfWord 160 = .ok (.iload 4, 2) := by decide +kernel
theorem dX0_faultOfWord_162 : decode cX0_faultOfWord 162 = .ok (.bipush 13, 2) := by decide +kernel
theorem dX0_faultOfWord_164 : decode cX0_faultOfWord 164 = .ok (.if_icmp .ne 17, 3) := by decide +kernel
theorem dX0_faultOfWord_167 : decode cX0_faultOfWord 167 = .ok (.aload_n 0, 1) := by decide +kernel
theorem dX0_faultOfWord_168 : decode cX0_faultOfWord 168 = .ok (.iload_n 1, 1) := by decide +kernel
theorem dX0_faultOfWord_169 : decode cX0_faultOfWord 169 = .ok (.iload 5, 2) := by decide +kernel
theorem dX0_faultOfWord_171 : decode cX0_faultOfWord 171 = .ok (.iload 7, 2) := by decide +kernel
theorem dX0_faultOfWord_173 : decode cX0_faultOfWord 173 = .ok (.invokevirtual 65, 3) := by decide +kernel
theorem dX0_faultOfWord_176 : decode cX0_faultOfWord 176 = .ok (.ifCond .ne 5, 3) := by decide +kernel
theorem dX0_faultOfWord_179 : decode cX0_faultOfWord 179 = .ok (.iconst 5, 1) := by decide +kernel
theorem dX0_faultOfWord_180 : decode cX0_faultOfWord 180 = .ok (.ireturn, 1) := by decide +kernel
theorem dX0_faultOfWord_181 : decode cX0_faultOfWord 181 = .ok (.iconst 0, 1) := by decide +kernel
theorem dX0_faultOfWord_182 : decode cX0_faultOfWord 182 = .ok (.ireturn, 1) := by decide +kernel
theorem dX0_isFormed_0 : decode cX0_isFormed 0 = .ok (.iload_n 2, 1) := by decide +kernel
theorem dX0_isFormed_1 : decode cX0_isFormed 1 = .ok (.tableswitch 126 1 14 #[71, 71, 126, 126, 126, 126, 126, 126, 126, 126, 126, 94, 94, 117], 71) := by decide +kernel
theorem dX0_isFormed_72 : decode cX0_isFormed 72 = .ok (.iload_n 3, 1) := by decide +kernel
theorem dX0_isFormed_73 : decode cX0_isFormed 73 = .ok (.ifCond .lt 20, 3) := by decide +kernel
theorem dX0_isFormed_76 : decode cX0_isFormed 76 = .ok (.iload_n 3, 1) := by decide +kernel
theorem dX0_isFormed_77 : decode cX0_isFormed 77 = .ok (.aload_n 0, 1) := by decide +kernel
theorem dX0_isFormed_78 : decode cX0_isFormed 78 = .ok (.getfield 15, 3) := by decide +kernel
theorem dX0_isFormed_81 : decode cX0_isFormed 81 = .ok (.getfield 68, 3) := by decide +kernel
theorem dX0_isFormed_84 : decode cX0_isFormed 84 = .ok (.iload_n 1, 1) := by decide +kernel
theorem dX0_isFormed_85 : decode cX0_isFormed 85 = .ok (.iaload, 1) := by decide +kernel
theorem dX0_isFormed_86 : decode cX0_isFormed 86 = .ok (.if_icmp .ge 7, 3) := by decide +kernel
theorem dX0_isFormed_89 : decode cX0_isFormed 89 = .ok (.iconst 1, 1) := by decide +kernel
theorem dX0_isFormed_90 : decode cX0_isFormed 90 = .ok (.goto 4, 3) := by decide +kernel
theorem dX0_isFormed_93 : decode cX0_isFormed 93 = .ok (.iconst 0, 1) := by decide +kernel
theorem dX0_isFormed_94 : decode cX0_isFormed 94 = .ok (.ireturn, 1) := by decide +kernel
theorem dX0_isFormed_95 : decode cX0_isFormed 95 = .ok (.iload_n 3, 1) := by decide +kernel
theorem dX0_isFormed_96 : decode cX0_isFormed 96 = .ok (.ifCond .lt 20, 3) := by decide +kernel
theorem dX0_isFormed_99 : decode cX0_isFormed 99 = .ok (.iload_n 3, 1) := by decide +kernel
theorem dX0_isFormed_100 : decode cX0_isFormed 100 = .ok (.aload_n 0, 1) := by decide +kernel
theorem dX0_isFormed_101 : decode cX0_isFormed 101 = .ok (.getfield 15, 3) := by decide +kernel
theorem dX0_isFormed_104 : decode cX0_isFormed 104 = .ok (.getfield 25, 3) := by decide +kernel
theorem dX0_isFormed_107 : decode cX0_isFormed 107 = .ok (.iload_n 1, 1) := by decide +kernel
theorem dX0_isFormed_108 : decode cX0_isFormed 108 = .ok (.iaload, 1) := by decide +kernel
theorem dX0_isFormed_109 : decode cX0_isFormed 109 = .ok (.if_icmp .ge 7, 3) := by decide +kernel
theorem dX0_isFormed_112 : decode cX0_isFormed 112 = .ok (.iconst 1, 1) := by decide +kernel
theorem dX0_isFormed_113 : decode cX0_isFormed 113 = .ok (.goto 4, 3) := by decide +kernel
theorem dX0_isFormed_116 : decode cX0_isFormed 116 = .ok (.iconst 0, 1) := by decide +kernel
theorem dX0_isFormed_117 : decode cX0_isFormed 117 = .ok (.ireturn, 1) := by decide +kernel
theorem dX0_isFormed_118 : decode cX0_isFormed 118 = .ok (.aload_n 0, 1) := by decide +kernel
theorem dX0_isFormed_119 : decode cX0_isFormed 119 = .ok (.getfield 15, 3) := by decide +kernel
theorem dX0_isFormed_122 : decode cX0_isFormed 122 = .ok (.iload_n 3, 1) := by decide +kernel
theorem dX0_isFormed_123 : decode cX0_isFormed 123 = .ok (.invokevirtual 71, 3) := by decide +kernel
theorem dX0_isFormed_126 : decode cX0_isFormed 126 = .ok (.ireturn, 1) := by decide +kernel
theorem dX0_isFormed_127 : decode cX0_isFormed 127 = .ok (.iload_n 2, 1) := by decide +kernel
theorem dX0_isFormed_128 : decode cX0_isFormed 128 = .ok (.ifCond .lt 13, 3) := by decide +kernel
theorem dX0_isFormed_131 : decode cX0_isFormed 131 = .ok (.iload_n 2, 1) := by decide +kernel
theorem dX0_isFormed_132 : decode cX0_isFormed 132 = .ok (.bipush 17, 2) := by decide +kernel
theorem dX0_isFormed_134 : decode cX0_isFormed 134 = .ok (.if_icmp .gt 7, 3) := by decide +kernel
theorem dX0_isFormed_137 : decode cX0_isFormed 137 = .ok (.iconst 1, 1) := by decide +kernel
theorem dX0_isFormed_138 : decode cX0_isFormed 138 = .ok (.goto 4, 3) := by decide +kernel
theorem dX0_isFormed_141 : decode cX0_isFormed 141 = .ok (.iconst 0, 1) := by decide +kernel
theorem dX0_isFormed_142 : decode cX0_isFormed 142 = .ok (.ireturn, 1) := by decide +kernel
theorem dX0_reach_0 : decode cX0_reach 0 = .ok (.aload_n 0, 1) := by decide +kernel
theorem dX0_reach_1 : decode cX0_reach 1 = .ok (.getfield 15, 3) := by decide +kernel
theorem dX0_reach_4 : decode cX0_reach 4 = .ok (.getfield 33, 3) := by decide +kernel
theorem dX0_reach_7 : decode cX0_reach 7 = .ok (.iload_n 1, 1) := by decide +kernel
theorem dX0_reach_8 : decode cX0_reach 8 = .ok (.iaload, 1) := by decide +kernel
theorem dX0_reach_9 : decode cX0_reach 9 = .ok (.iload_n 2, 1) := by decide +kernel
theorem dX0_reach_10 : decode cX0_reach 10 = .ok (.iadd, 1) := by decide +kernel
theorem dX0_reach_11 : decode cX0_reach 11 = .ok (.istore 4, 2) := by decide +kernel
theorem dX0_reach_13 : decode cX0_reach 13 = .ok (.aload_n 0, 1) := by decide +kernel
theorem dX0_reach_14 : decode cX0_reach 14 = .ok (.getfield 15, 3) := by decide +kernel
theorem dX0_reach_17 : decode cX0_reach 17 = .ok (.getfield 36, 3) := by decide +kernel
theorem dX0_reach_20 : decode cX0_reach 20 = .ok (.iload 4, 2) := by decide +kernel
theorem dX0_reach_22 : decode cX0_reach 22 = .ok (.iaload, 1) := by decide +kernel
theorem dX0_reach_23 : decode cX0_reach 23 = .ok (.iconst (-1), 1) := by decide +kernel
theorem dX0_reach_24 : decode cX0_reach 24 = .ok (.if_icmp .ne 26, 3) := by decide +kernel
theorem dX0_reach_27 : decode cX0_reach 27 = .ok (.aload_n 0, 1) := by decide +kernel
theorem dX0_reach_28 : decode cX0_reach 28 = .ok (.getfield 15, 3) := by decide +kernel
theorem dX0_reach_31 : decode cX0_reach 31 = .ok (.getfield 36, 3) := by decide +kernel
theorem dX0_reach_34 : decode cX0_reach 34 = .ok (.iload 4, 2) := by decide +kernel
theorem dX0_reach_36 : decode cX0_reach 36 = .ok (.iload_n 3, 1) := by decide +kernel
theorem dX0_reach_37 : decode cX0_reach 37 = .ok (.iastore, 1) := by decide +kernel
theorem dX0_reach_38 : decode cX0_reach 38 = .ok (.aload_n 0, 1) := by decide +kernel
theorem dX0_reach_39 : decode cX0_reach 39 = .ok (.aload_n 0, 1) := by decide +kernel
theorem dX0_reach_40 : decode cX0_reach 40 = .ok (.getfield 39, 3) := by decide +kernel
theorem dX0_reach_43 : decode cX0_reach 43 = .ok (.iload_n 2, 1) := by decide +kernel
theorem dX0_reach_44 : decode cX0_reach 44 = .ok (.invokestatic 75, 3) := by decide +kernel
theorem dX0_reach_47 : decode cX0_reach 47 = .ok (.putfield 39, 3) := by decide +kernel
theorem dX0_reach_50 : decode cX0_reach 50 = .ok (.aload_n 0, 1) := by decide +kernel
theorem dX0_reach_51 : decode cX0_reach 51 = .ok (.getfield 15, 3) := by decide +kernel
theorem dX0_reach_54 : decode cX0_reach 54 = .ok (.getfield 36, 3) := by decide +kernel
theorem dX0_reach_57 : decode cX0_reach 57 = .ok (.iload 4, 2) := by decide +kernel
theorem dX0_reach_59 : decode cX0_reach 59 = .ok (.iaload, 1) := by decide +kernel
theorem dX0_reach_60 : decode cX0_reach 60 = .ok (.iload_n 3, 1) := by decide +kernel
theorem dX0_reach_61 : decode cX0_reach 61 = .ok (.if_icmp .ne 7, 3) := by decide +kernel
theorem dX0_reach_64 : decode cX0_reach 64 = .ok (.iconst 1, 1) := by decide +kernel
theorem dX0_reach_65 : decode cX0_reach 65 = .ok (.goto 4, 3) := by decide +kernel
theorem dX0_reach_68 : decode cX0_reach 68 = .ok (.iconst 0, 1) := by decide +kernel
theorem dX0_reach_69 : decode cX0_reach 69 = .ok (.ireturn, 1) := by decide +kernel
theorem dX1_init_0 : decode cX1_init 0 = .ok (.aload_n 0, 1) := by decide +kernel
theorem dX1_init_1 : decode cX1_init 1 = .ok (.invokespecial 3, 3) := by decide +kernel
theorem dX1_init_4 : decode cX1_init 4 = .ok (.aload_n 0, 1) := by decide +kernel
theorem dX1_init_5 : decode cX1_init 5 = .ok (.bipush 12, 2) := by decide +kernel
theorem dX1_init_7 : decode cX1_init 7 = .ok (.newarray .int, 2) := by decide +kernel
theorem dX1_init_9 : decode cX1_init 9 = .ok (.putfield 9, 3) := by decide +kernel
theorem dX1_init_12 : decode cX1_init 12 = .ok (.aload_n 0, 1) := by decide +kernel
theorem dX1_init_13 : decode cX1_init 13 = .ok (.bipush 12, 2) := by decide +kernel
theorem dX1_init_15 : decode cX1_init 15 = .ok (.newarray .int, 2) := by decide +kernel
theorem dX1_init_17 : decode cX1_init 17 = .ok (.putfield 15, 3) := by decide +kernel
theorem dX1_init_20 : decode cX1_init 20 = .ok (.aload_n 0, 1) := by decide +kernel
theorem dX1_init_21 : decode cX1_init 21 = .ok (.sipush 2000, 3) := by decide +kernel
theorem dX1_init_24 : decode cX1_init 24 = .ok (.newarray .int, 2) := by decide +kernel
theorem dX1_init_26 : decode cX1_init 26 = .ok (.putfield 18, 3) := by decide +kernel
theorem dX1_init_29 : decode cX1_init 29 = .ok (.return_, 1) := by decide +kernel
theorem dX1_open_0 : decode cX1_open 0 = .ok (.aload_n 0, 1) := by decide +kernel
theorem dX1_open_1 : decode cX1_open 1 = .ok (.getfield 21, 3) := by decide +kernel
theorem dX1_open_4 : decode cX1_open 4 = .ok (.bipush 20, 2) := by decide +kernel
theorem dX1_open_6 : decode cX1_open 6 = .ok (.iadd, 1) := by decide +kernel
theorem dX1_open_7 : decode cX1_open 7 = .ok (.iload_n 2, 1) := by decide +kernel
theorem dX1_open_8 : decode cX1_open 8 = .ok (.bipush 15, 2) := by decide +kernel
theorem dX1_open_10 : decode cX1_open 10 = .ok (.imul, 1) := by decide +kernel
theorem dX1_open_11 : decode cX1_open 11 = .ok (.iadd, 1) := by decide +kernel
theorem dX1_open_12 : decode cX1_open 12 = .ok (.iconst 5, 1) := by decide +kernel
theorem dX1_open_13 : decode cX1_open 13 = .ok (.imul, 1) := by decide +kernel
theorem dX1_open_14 : decode cX1_open 14 = .ok (.istore_n 3, 1) := by decide +kernel
theorem dX1_open_15 : decode cX1_open 15 = .ok (.iload_n 3, 1) := by decide +kernel
theorem dX1_open_16 : decode cX1_open 16 = .ok (.aload_n 0, 1) := by decide +kernel
theorem dX1_open_17 : decode cX1_open 17 = .ok (.getfield 18, 3) := by decide +kernel
theorem dX1_open_20 : decode cX1_open 20 = .ok (.arraylength, 1) := by decide +kernel
theorem dX1_open_21 : decode cX1_open 21 = .ok (.if_icmp .le 25, 3) := by decide +kernel
theorem dX1_open_24 : decode cX1_open 24 = .ok (.aload_n 0, 1) := by decide +kernel
theorem dX1_open_25 : decode cX1_open 25 = .ok (.aload_n 0, 1) := by decide +kernel
theorem dX1_open_26 : decode cX1_open 26 = .ok (.getfield 18, 3) := by decide +kernel
theorem dX1_open_29 : decode cX1_open 29 = .ok (.iload_n 3, 1) := by decide +kernel
theorem dX1_open_30 : decode cX1_open 30 = .ok (.aload_n 0, 1) := by decide +kernel
theorem dX1_open_31 : decode cX1_open 31 = .ok (.getfield 18, 3) := by decide +kernel
theorem dX1_open_34 : decode cX1_open 34 = .ok (.arraylength, 1) := by decide +kernel
theorem dX1_open_35 : decode cX1_open 35 = .ok (.iconst 2, 1) := by decide +kernel
theorem dX1_open_36 : decode cX1_open 36 = .ok (.imul, 1) := by decide +kernel
theorem dX1_open_37 : decode cX1_open 37 = .ok (.invokestatic 25, 3) := by decide +kernel
theorem dX1_open_40 : decode cX1_open 40 = .ok (.invokestatic 31, 3) := by decide +kernel
theorem dX1_open_43 : decode cX1_open 43 = .ok (.putfield 18, 3) := by decide +kernel
theorem dX1_open_46 : decode cX1_open 46 = .ok (.aload_n 0, 1) := by decide +kernel
theorem dX1_open_47 : decode cX1_open 47 = .ok (.getfield 9, 3) := by decide +kernel
theorem dX1_open_50 : decode cX1_open 50 = .ok (.iload_n 1, 1) := by decide +kernel
theorem dX1_open_51 : decode cX1_open 51 = .ok (.aload_n 0, 1) := by decide +kernel
theorem dX1_open_52 : decode cX1_open 52 = .ok (.getfield 21, 3) := by decide +kernel
theorem dX1_open_55 : decode cX1_open 55 = .ok (.iastore, 1) := by decide +kernel
theorem dX1_open_56 : decode cX1_open 56 = .ok (.aload_n 0, 1) := by decide +kernel
theorem dX1_open_57 : decode cX1_open 57 = .ok (.getfield 15, 3) := by decide +kernel
theorem dX1_open_60 : decode cX1_open 60 = .ok (.iload_n 1, 1) := by decide +kernel
theorem dX1_open_61 : decode cX1_open 61 = .ok (.iconst 0, 1) := by decide +kernel
theorem dX1_open_62 : decode cX1_open 62 = .ok (.iastore, 1) := by decide +kernel
theorem dX1_open_63 : decode cX1_open 63 = .ok (.return_, 1) := by decide +kernel
theorem dX1_add_0 : decode cX1_add 0 = .ok (.aload_n 0, 1) := by decide +kernel
theorem dX1_add_1 : decode cX1_add 1 = .ok (.getfield 21, 3) := by decide +kernel
theorem dX1_add_4 : decode cX1_add 4 = .ok (.iconst 5, 1) := by decide +kernel
theorem dX1_add_5 : decode cX1_add 5 = .ok (.imul, 1) := by decide +kernel
theorem dX1_add_6 : decode cX1_add 6 = .ok (.istore 5, 2) := by decide +kernel
theorem dX1_add_8 : decode cX1_add 8 = .ok (.aload_n 0, 1) := by decide +kernel
theorem dX1_add_9 : decode cX1_add 9 = .ok (.getfield 18, 3) := by decide +kernel
theorem dX1_add_12 : decode cX1_add 12 = .ok (.iload 5, 2) := by decide +kernel
theorem dX1_add_14 : decode cX1_add 14 = .ok (.iload_n 2, 1) := by decide +kernel
theorem dX1_add_15 : decode cX1_add 15 = .ok (.iastore, 1) := by decide +kernel
theorem dX1_add_16 : decode cX1_add 16 = .ok (.aload_n 0, 1) := by decide +kernel
theorem dX1_add_17 : decode cX1_add 17 = .ok (.getfield 18, 3) := by decide +kernel
theorem dX1_add_20 : decode cX1_add 20 = .ok (.iload 5, 2) := by decide +kernel
theorem dX1_add_22 : decode cX1_add 22 = .ok (.iconst 1, 1) := by decide +kernel
theorem dX1_add_23 : decode cX1_add 23 = .ok (.iadd, 1) := by decide +kernel
theorem dX1_add_24 : decode cX1_add 24 = .ok (.iload_n 3, 1) := by decide +kernel
theorem dX1_add_25 : decode cX1_add 25 = .ok (.iastore, 1) := by decide +kernel
theorem dX1_add_26 : decode cX1_add 26 = .ok (.aload_n 0, 1) := by decide +kernel
theorem dX1_add_27 : decode cX1_add 27 = .ok (.getfield 18, 3) := by decide +kernel
theorem dX1_add_30 : decode cX1_add 30 = .ok (.iload 5, 2) := by decide +kernel
theorem dX1_add_32 : decode cX1_add 32 = .ok (.iconst 2, 1) := by decide +kernel
theorem dX1_add_33 : decode cX1_add 33 = .ok (.iadd, 1) := by decide +kernel
theorem dX1_add_34 : decode cX1_add 34 = .ok (.iload 4, 2) := by decide +kernel
theorem dX1_add_36 : decode cX1_add 36 = .ok (.iastore, 1) := by decide +kernel
theorem dX1_add_37 : decode cX1_add 37 = .ok (.aload_n 0, 1) := by decide +kernel
theorem dX1_add_38 : decode cX1_add 38 = .ok (.getfield 18, 3) := by decide +kernel
theorem dX1_add_41 : decode cX1_add 41 = .ok (.iload 5, 2) := by decide +kernel
theorem dX1_add_43 : decode cX1_add 43 = .ok (.iconst 3, 1) := by decide +kernel
theorem dX1_add_44 : decode cX1_add 44 = .ok (.iadd, 1) := by decide +kernel
theorem dX1_add_45 : decode cX1_add 45 = .ok (.iconst 0, 1) := by decide +kernel
theorem dX1_add_46 : decode cX1_add 46 = .ok (.iastore, 1) := by decide +kernel
theorem dX1_add_47 : decode cX1_add 47 = .ok (.aload_n 0, 1) := by decide +kernel
theorem dX1_add_48 : decode cX1_add 48 = .ok (.getfield 18, 3) := by decide +kernel
theorem dX1_add_51 : decode cX1_add 51 = .ok (.iload 5, 2) := by decide +kernel
theorem dX1_add_53 : decode cX1_add 53 = .ok (.iconst 4, 1) := by decide +kernel
theorem dX1_add_54 : decode cX1_add 54 = .ok (.iadd, 1) := by decide +kernel
theorem dX1_add_55 : decode cX1_add 55 = .ok (.iconst 0, 1) := by decide +kernel
theorem dX1_add_56 : decode cX1_add 56 = .ok (.iastore, 1) := by decide +kernel
theorem dX1_add_57 : decode cX1_add 57 = .ok (.aload_n 0, 1) := by decide +kernel
theorem dX1_add_58 : decode cX1_add 58 = .ok (.dup, 1) := by decide +kernel
theorem dX1_add_59 : decode cX1_add 59 = .ok (.getfield 21, 3) := by decide +kernel
theorem dX1_add_62 : decode cX1_add 62 = .ok (.iconst 1, 1) := by decide +kernel
theorem dX1_add_63 : decode cX1_add 63 = .ok (.iadd, 1) := by decide +kernel
theorem dX1_add_64 : decode cX1_add 64 = .ok (.putfield 21, 3) := by decide +kernel
theorem dX1_add_67 : decode cX1_add 67 = .ok (.aload_n 0, 1) := by decide +kernel
theorem dX1_add_68 : decode cX1_add 68 = .ok (.getfield 15, 3) := by decide +kernel
theorem dX1_add_71 : decode cX1_add 71 = .ok (.iload_n 1, 1) := by decide +kernel
theorem dX1_add_72 : decode cX1_add 72 = .ok (.dup2, 1) := by decide +kernel
theorem dX1_add_73 : decode cX1_add 73 = .ok (.iaload, 1) := by decide +kernel
theorem dX1_add_74 : decode cX1_add 74 = .ok (.iconst 1, 1) := by decide +kernel
theorem dX1_add_75 : decode cX1_add 75 = .ok (.iadd, 1) := by decide +kernel
theorem dX1_add_76 : decode cX1_add 76 = .ok (.iastore, 1) := by decide +kernel
theorem dX1_add_77 : decode cX1_add 77 = .ok (.return_, 1) := by decide +kernel
theorem dX1_addWork_0 : decode cX1_addWork 0 = .ok (.aload_n 0, 1) := by decide +kernel
theorem dX1_addWork_1 : decode cX1_addWork 1 = .ok (.iload_n 1, 1) := by decide +kernel
theorem dX1_addWork_2 : decode cX1_addWork 2 = .ok (.iconst 2, 1) := by decide +kernel
theorem dX1_addWork_3 : decode cX1_addWork 3 = .ok (.iload_n 2, 1) := by decide +kernel
theorem dX1_addWork_4 : decode cX1_addWork 4 = .ok (.iload_n 3, 1) := by decide +kernel
theorem dX1_addWork_5 : decode cX1_addWork 5 = .ok (.invokevirtual 37, 3) := by decide +kernel
theorem dX1_addWork_8 : decode cX1_addWork 8 = .ok (.aload_n 0, 1) := by decide +kernel
theorem dX1_addWork_9 : decode cX1_addWork 9 = .ok (.getfield 21, 3) := by decide +kernel
theorem dX1_addWork_12 : decode cX1_addWork 12 = .ok (.iconst 1, 1) := by decide +kernel
theorem dX1_addWork_13 : decode cX1_addWork 13 = .ok (.isub, 1) := by decide +kernel
theorem dX1_addWork_14 : decode cX1_addWork 14 = .ok (.iconst 5, 1) := by decide +kernel
theorem dX1_addWork_15 : decode cX1_addWork 15 = .ok (.imul, 1) := by decide +kernel
theorem dX1_addWork_16 : decode cX1_addWork 16 = .ok (.istore 6, 2) := by decide +kernel
theorem dX1_addWork_18 : decode cX1_addWork 18 = .ok (.aload_n 0, 1) := by decide +kernel
theorem dX1_addWork_19 : decode cX1_addWork 19 = .ok (.getfield 18, 3) := by decide +kernel
theorem dX1_addWork_22 : decode cX1_addWork 22 = .ok (.iload 6, 2) := by decide +kernel
theorem dX1_addWork_24 : decode cX1_addWork 24 = .ok (.iconst 3, 1) := by decide +kernel
theorem dX1_addWork_25 : decode cX1_addWork 25 = .ok (.iadd, 1) := by decide +kernel
theorem dX1_addWork_26 : decode cX1_addWork 26 = .ok (.iload 4, 2) := by decide +kernel
theorem dX1_addWork_28 : decode cX1_addWork 28 = .ok (.iastore, 1) := by decide +kernel
theorem dX1_addWork_29 : decode cX1_addWork 29 = .ok (.aload_n 0, 1) := by decide +kernel
theorem dX1_addWork_30 : decode cX1_addWork 30 = .ok (.getfield 18, 3) := by decide +kernel
theorem dX1_addWork_33 : decode cX1_addWork 33 = .ok (.iload 6, 2) := by decide +kernel
theorem dX1_addWork_35 : decode cX1_addWork 35 = .ok (.iconst 4, 1) := by decide +kernel
theorem dX1_addWork_36 : decode cX1_addWork 36 = .ok (.iadd, 1) := by decide +kernel
theorem dX1_addWork_37 : decode cX1_addWork 37 = .ok (.iload 5, 2) := by decide +kernel
theorem dX1_addWork_39 : decode cX1_addWork 39 = .ok (.iastore, 1) := by decide +kernel
theorem dX1_addWork_40 : decode cX1_addWork 40 = .ok (.return_, 1) := by decide +kernel
theorem dX1_part_0 : decode cX1_part 0 = .ok (.aload_n 0, 1) := by decide +kernel
theorem dX1_part_1 : decode cX1_part 1 = .ok (.getfield 18, 3) := by decide +kernel
theorem dX1_part_4 : decode cX1_part 4 = .ok (.aload_n 0, 1) := by decide +kernel
theorem dX1_part_5 : decode cX1_part 5 = .ok (.getfield 9, 3) := by decide +kernel
theorem dX1_part_8 : decode cX1_part 8 = .ok (.iload_n 1, 1) := by decide +kernel
theorem dX1_part_9 : decode cX1_part 9 = .ok (.iaload, 1) := by decide +kernel
theorem dX1_part_10 : decode cX1_part 10 = .ok (.iload_n 2, 1) := by decide +kernel
theorem dX1_part_11 : decode cX1_part 11 = .ok (.iadd, 1) := by decide +kernel
theorem dX1_part_12 : decode cX1_part 12 = .ok (.iconst 5, 1) := by decide +kernel
theorem dX1_part_13 : decode cX1_part 13 = .ok (.imul, 1) := by decide +kernel
theorem dX1_part_14 : decode cX1_part 14 = .ok (.iload_n 3, 1) := by decide +kernel
theorem dX1_part_15 : decode cX1_part 15 = .ok (.iadd, 1) := by decide +kernel
theorem dX1_part_16 : decode cX1_part 16 = .ok (.iaload, 1) := by decide +kernel
theorem dX1_part_17 : decode cX1_part 17 = .ok (.ireturn, 1) := by decide +kernel
theorem dX1_aim_0 : decode cX1_aim 0 = .ok (.iconst 0, 1) := by decide +kernel
theorem dX1_aim_1 : decode cX1_aim 1 = .ok (.istore_n 3, 1) := by decide +kernel
theorem dX1_aim_2 : decode cX1_aim 2 = .ok (.iload_n 3, 1) := by decide +kernel
theorem dX1_aim_3 : decode cX1_aim 3 = .ok (.aload_n 0, 1) := by decide +kernel
theorem dX1_aim_4 : decode cX1_aim 4 = .ok (.getfield 15, 3) := by decide +kernel
theorem dX1_aim_7 : decode cX1_aim 7 = .ok (.iload_n 1, 1) := by decide +kernel
theorem dX1_aim_8 : decode cX1_aim 8 = .ok (.iaload, 1) := by decide +kernel
theorem dX1_aim_9 : decode cX1_aim 9 = .ok (.if_icmp .ge 86, 3) := by decide +kernel
theorem dX1_aim_12 : decode cX1_aim 12 = .ok (.aload_n 0, 1) := by decide +kernel
theorem dX1_aim_13 : decode cX1_aim 13 = .ok (.getfield 9, 3) := by decide +kernel
theorem dX1_aim_16 : decode cX1_aim 16 = .ok (.iload_n 1, 1) := by decide +kernel
theorem dX1_aim_17 : decode cX1_aim 17 = .ok (.iaload, 1) := by decide +kernel
theorem dX1_aim_18 : decode cX1_aim 18 = .ok (.iload_n 3, 1) := by decide +kernel
theorem dX1_aim_19 : decode cX1_aim 19 = .ok (.iadd, 1) := by decide +kernel
theorem dX1_aim_20 : decode cX1_aim 20 = .ok (.iconst 5, 1) := by decide +kernel
theorem dX1_aim_21 : decode cX1_aim 21 = .ok (.imul, 1) := by decide +kernel
theorem dX1_aim_22 : decode cX1_aim 22 = .ok (.istore 4, 2) := by decide +kernel
theorem dX1_aim_24 : decode cX1_aim 24 = .ok (.aload_n 0, 1) := by decide +kernel
theorem dX1_aim_25 : decode cX1_aim 25 = .ok (.getfield 18, 3) := by decide +kernel
theorem dX1_aim_28 : decode cX1_aim 28 = .ok (.iload 4, 2) := by decide +kernel
theorem dX1_aim_30 : decode cX1_aim 30 = .ok (.iaload, 1) := by decide +kernel
theorem dX1_aim_31 : decode cX1_aim 31 = .ok (.iconst 4, 1) := by decide +kernel
theorem dX1_aim_32 : decode cX1_aim 32 = .ok (.if_icmp .ne 26, 3) := by decide +kernel
theorem dX1_aim_35 : decode cX1_aim 35 = .ok (.aload_n 0, 1) := by decide +kernel
theorem dX1_aim_36 : decode cX1_aim 36 = .ok (.getfield 18, 3) := by decide +kernel
theorem dX1_aim_39 : decode cX1_aim 39 = .ok (.iload 4, 2) := by decide +kernel
theorem dX1_aim_41 : decode cX1_aim 41 = .ok (.iconst 1, 1) := by decide +kernel
theorem dX1_aim_42 : decode cX1_aim 42 = .ok (.iadd, 1) := by decide +kernel
theorem dX1_aim_43 : decode cX1_aim 43 = .ok (.aload_n 2, 1) := by decide +kernel
theorem dX1_aim_44 : decode cX1_aim 44 = .ok (.aload_n 0, 1) := by decide +kernel
theorem dX1_aim_45 : decode cX1_aim 45 = .ok (.getfield 18, 3) := by decide +kernel
theorem dX1_aim_48 : decode cX1_aim 48 = .ok (.iload 4, 2) := by decide +kernel
theorem dX1_aim_50 : decode cX1_aim 50 = .ok (.iconst 1, 1) := by decide +kernel
theorem dX1_aim_51 : decode cX1_aim 51 = .ok (.iadd, 1) := by decide +kernel
theorem dX1_aim_52 : decode cX1_aim 52 = .ok (.iaload, 1) := by decide +kernel
theorem dX1_aim_53 : decode cX1_aim 53 = .ok (.iaload, 1) := by decide +kernel
theorem dX1_aim_54 : decode cX1_aim 54 = .ok (.iastore, 1) := by decide +kernel
theorem dX1_aim_55 : decode cX1_aim 55 = .ok (.goto 34, 3) := by decide +kernel
theorem dX1_aim_58 : decode cX1_aim 58 = .ok (.aload_n 0, 1) := by decide +kernel
theorem dX1_aim_59 : decode cX1_aim 59 = .ok (.getfield 18, 3) := by decide +kernel
theorem dX1_aim_62 : decode cX1_aim 62 = .ok (.iload 4, 2) := by decide +kernel
theorem dX1_aim_64 : decode cX1_aim 64 = .ok (.iaload, 1) := by decide +kernel
theorem dX1_aim_65 : decode cX1_aim 65 = .ok (.iconst 5, 1) := by decide +kernel
theorem dX1_aim_66 : decode cX1_aim 66 = .ok (.if_icmp .ne 23, 3) := by decide +kernel
theorem dX1_aim_69 : decode cX1_aim 69 = .ok (.aload_n 0, 1) := by decide +kernel
theorem dX1_aim_70 : decode cX1_aim 70 = .ok (.getfield 18, 3) := by decide +kernel
theorem dX1_aim_73 : decode cX1_aim 73 = .ok (.iload 4, 2) := by decide +kernel
theorem dX1_aim_75 : decode cX1_aim 75 = .ok (.iconst 2, 1) := by decide +kernel
theorem dX1_aim_76 : decode cX1_aim 76 = .ok (.iadd, 1) := by decide +kernel
theorem dX1_aim_77 : decode cX1_aim 77 = .ok (.aload_n 2, 1) := by decide +kernel
theorem dX1_aim_78 : decode cX1_aim 78 = .ok (.aload_n 0, 1) := by decide +kernel
theorem dX1_aim_79 : decode cX1_aim 79 = .ok (.getfield 18, 3) := by decide +kernel
theorem dX1_aim_82 : decode cX1_aim 82 = .ok (.iload 4, 2) := by decide +kernel
theorem dX1_aim_84 : decode cX1_aim 84 = .ok (.iconst 2, 1) := by decide +kernel
theorem dX1_aim_85 : decode cX1_aim 85 = .ok (.iadd, 1) := by decide +kernel
theorem dX1_aim_86 : decode cX1_aim 86 = .ok (.iaload, 1) := by decide +kernel
theorem dX1_aim_87 : decode cX1_aim 87 = .ok (.iaload, 1) := by decide +kernel
theorem dX1_aim_88 : decode cX1_aim 88 = .ok (.iastore, 1) := by decide +kernel
theorem dX1_aim_89 : decode cX1_aim 89 = .ok (.iinc 3 1, 3) := by decide +kernel
theorem dX1_aim_92 : decode cX1_aim 92 = .ok (.goto (-90), 3) := by decide +kernel
theorem dX1_aim_95 : decode cX1_aim 95 = .ok (.return_, 1) := by decide +kernel
theorem dX2_init_0 : decode cX2_init 0 = .ok (.aload_n 0, 1) := by decide +kernel
theorem dX2_init_1 : decode cX2_init 1 = .ok (.invokespecial 3, 3) := by decide +kernel
theorem dX2_init_4 : decode cX2_init 4 = .ok (.aload_n 0, 1) := by decide +kernel
theorem dX2_init_5 : decode cX2_init 5 = .ok (.sipush 264, 3) := by decide +kernel
theorem dX2_init_8 : decode cX2_init 8 = .ok (.newarray .int, 2) := by decide +kernel
theorem dX2_init_10 : decode cX2_init 10 = .ok (.putfield 9, 3) := by decide +kernel
theorem dX2_init_13 : decode cX2_init 13 = .ok (.aload_n 0, 1) := by decide +kernel
theorem dX2_init_14 : decode cX2_init 14 = .ok (.sipush 264, 3) := by decide +kernel
theorem dX2_init_17 : decode cX2_init 17 = .ok (.newarray .int, 2) := by decide +kernel
theorem dX2_init_19 : decode cX2_init 19 = .ok (.putfield 15, 3) := by decide +kernel
theorem dX2_init_22 : decode cX2_init 22 = .ok (.aload_n 0, 1) := by decide +kernel
theorem dX2_init_23 : decode cX2_init 23 = .ok (.sipush 264, 3) := by decide +kernel
theorem dX2_init_26 : decode cX2_init 26 = .ok (.newarray .int, 2) := by decide +kernel
theorem dX2_init_28 : decode cX2_init 28 = .ok (.putfield 18, 3) := by decide +kernel
theorem dX2_init_31 : decode cX2_init 31 = .ok (.aload_n 0, 1) := by decide +kernel
theorem dX2_init_32 : decode cX2_init 32 = .ok (.sipush 264, 3) := by decide +kernel
theorem dX2_init_35 : decode cX2_init 35 = .ok (.newarray .int, 2) := by decide +kernel
theorem dX2_init_37 : decode cX2_init 37 = .ok (.putfield 21, 3) := by decide +kernel
theorem dX2_init_40 : decode cX2_init 40 = .ok (.aload_n 0, 1) := by decide +kernel
theorem dX2_init_41 : decode cX2_init 41 = .ok (.bipush 12, 2) := by decide +kernel
theorem dX2_init_43 : decode cX2_init 43 = .ok (.newarray .int, 2) := by decide +kernel
theorem dX2_init_45 : decode cX2_init 45 = .ok (.putfield 24, 3) := by decide +kernel
theorem dX2_init_48 : decode cX2_init 48 = .ok (.aload_n 0, 1) := by decide +kernel
theorem dX2_init_49 : decode cX2_init 49 = .ok (.bipush 16, 2) := by decide +kernel
theorem dX2_init_51 : decode cX2_init 51 = .ok (.newarray .int, 2) := by decide +kernel
theorem dX2_init_53 : decode cX2_init 53 = .ok (.putfield 27, 3) := by decide +kernel
theorem dX2_init_56 : decode cX2_init 56 = .ok (.return_, 1) := by decide +kernel
theorem dX2_registerOf_0 : decode cX2_registerOf 0 = .ok (.aload_n 0, 1) := by decide +kernel
theorem dX2_registerOf_1 : decode cX2_registerOf 1 = .ok (.getfield 18, 3) := by decide +kernel
theorem dX2_registerOf_4 : decode cX2_registerOf 4 = .ok (.iload_n 1, 1) := by decide +kernel
theorem dX2_registerOf_5 : decode cX2_registerOf 5 = .ok (.bipush 22, 2) := by decide +kernel
theorem dX2_registerOf_7 : decode cX2_registerOf 7 = .ok (.imul, 1) := by decide +kernel
theorem dX2_registerOf_8 : decode cX2_registerOf 8 = .ok (.iload_n 2, 1) := by decide +kernel
theorem dX2_registerOf_9 : decode cX2_registerOf 9 = .ok (.iadd, 1) := by decide +kernel
theorem dX2_registerOf_10 : decode cX2_registerOf 10 = .ok (.iaload, 1) := by decide +kernel
theorem dX2_registerOf_11 : decode cX2_registerOf 11 = .ok (.ireturn, 1) := by decide +kernel
theorem dX2_slotOf_0 : decode cX2_slotOf 0 = .ok (.aload_n 0, 1) := by decide +kernel
theorem dX2_slotOf_1 : decode cX2_slotOf 1 = .ok (.getfield 21, 3) := by decide +kernel
theorem dX2_slotOf_4 : decode cX2_slotOf 4 = .ok (.iload_n 1, 1) := by decide +kernel
theorem dX2_slotOf_5 : decode cX2_slotOf 5 = .ok (.bipush 22, 2) := by decide +kernel
theorem dX2_slotOf_7 : decode cX2_slotOf 7 = .ok (.imul, 1) := by decide +kernel
theorem dX2_slotOf_8 : decode cX2_slotOf 8 = .ok (.iload_n 2, 1) := by decide +kernel
theorem dX2_slotOf_9 : decode cX2_slotOf 9 = .ok (.iadd, 1) := by decide +kernel
theorem dX2_slotOf_10 : decode cX2_slotOf 10 = .ok (.iaload, 1) := by decide +kernel
theorem dX2_slotOf_11 : decode cX2_slotOf 11 = .ok (.ireturn, 1) := by decide +kernel
theorem dX2_tell_0 : decode cX2_tell 0 = .ok (.iload_n 1, 1) := by decide +kernel
theorem dX2_tell_1 : decode cX2_tell 1 = .ok (.bipush 22, 2) := by decide +kernel
theorem dX2_tell_3 : decode cX2_tell 3 = .ok (.imul, 1) := by decide +kernel
theorem dX2_tell_4 : decode cX2_tell 4 = .ok (.iload_n 2, 1) := by decide +kernel
theorem dX2_tell_5 : decode cX2_tell 5 = .ok (.iadd, 1) := by decide +kernel
theorem dX2_tell_6 : decode cX2_tell 6 = .ok (.istore 4, 2) := by decide +kernel
theorem dX2_tell_8 : decode cX2_tell 8 = .ok (.iload_n 3, 1) := by decide +kernel
theorem dX2_tell_9 : decode cX2_tell 9 = .ok (.tableswitch 63 0 3 #[31, 39, 47, 55], 31) := by decide +kernel
theorem dX2_tell_40 : decode cX2_tell 40 = .ok (.aload_n 0, 1) := by decide +kernel
theorem dX2_tell_41 : decode cX2_tell 41 = .ok (.getfield 9, 3) := by decide +kernel
theorem dX2_tell_44 : decode cX2_tell 44 = .ok (.iload 4, 2) := by decide +kernel
theorem dX2_tell_46 : decode cX2_tell 46 = .ok (.iaload, 1) := by decide +kernel
theorem dX2_tell_47 : decode cX2_tell 47 = .ok (.ireturn, 1) := by decide +kernel
theorem dX2_tell_48 : decode cX2_tell 48 = .ok (.aload_n 0, 1) := by decide +kernel
theorem dX2_tell_49 : decode cX2_tell 49 = .ok (.getfield 15, 3) := by decide +kernel
theorem dX2_tell_52 : decode cX2_tell 52 = .ok (.iload 4, 2) := by decide +kernel
theorem dX2_tell_54 : decode cX2_tell 54 = .ok (.iaload, 1) := by decide +kernel
theorem dX2_tell_55 : decode cX2_tell 55 = .ok (.ireturn, 1) := by decide +kernel
theorem dX2_tell_56 : decode cX2_tell 56 = .ok (.aload_n 0, 1) := by decide +kernel
theorem dX2_tell_57 : decode cX2_tell 57 = .ok (.getfield 18, 3) := by decide +kernel
theorem dX2_tell_60 : decode cX2_tell 60 = .ok (.iload 4, 2) := by decide +kernel
theorem dX2_tell_62 : decode cX2_tell 62 = .ok (.iaload, 1) := by decide +kernel
theorem dX2_tell_63 : decode cX2_tell 63 = .ok (.ireturn, 1) := by decide +kernel
theorem dX2_tell_64 : decode cX2_tell 64 = .ok (.aload_n 0, 1) := by decide +kernel
theorem dX2_tell_65 : decode cX2_tell 65 = .ok (.getfield 21, 3) := by decide +kernel
theorem dX2_tell_68 : decode cX2_tell 68 = .ok (.iload 4, 2) := by decide +kernel
theorem dX2_tell_70 : decode cX2_tell 70 = .ok (.iaload, 1) := by decide +kernel
theorem dX2_tell_71 : decode cX2_tell 71 = .ok (.ireturn, 1) := by decide +kernel
theorem dX2_tell_72 : decode cX2_tell 72 = .ok (.iconst (-1), 1) := by decide +kernel
theorem dX2_tell_73 : decode cX2_tell 73 = .ok (.ireturn, 1) := by decide +kernel
theorem dX2_give_0 : decode cX2_give 0 = .ok (.iload_n 1, 1) := by decide +kernel
theorem dX2_give_1 : decode cX2_give 1 = .ok (.bipush 22, 2) := by decide +kernel
theorem dX2_give_3 : decode cX2_give 3 = .ok (.imul, 1) := by decide +kernel
theorem dX2_give_4 : decode cX2_give 4 = .ok (.istore 5, 2) := by decide +kernel
theorem dX2_give_6 : decode cX2_give 6 = .ok (.aload_n 0, 1) := by decide +kernel
theorem dX2_give_7 : decode cX2_give 7 = .ok (.iload 5, 2) := by decide +kernel
theorem dX2_give_9 : decode cX2_give 9 = .ok (.invokevirtual 30, 3) := by decide +kernel
theorem dX2_give_12 : decode cX2_give 12 = .ok (.aload_n 0, 1) := by decide +kernel
theorem dX2_give_13 : decode cX2_give 13 = .ok (.getfield 24, 3) := by decide +kernel
theorem dX2_give_16 : decode cX2_give 16 = .ok (.iload_n 1, 1) := by decide +kernel
theorem dX2_give_17 : decode cX2_give 17 = .ok (.iconst 0, 1) := by decide +kernel
theorem dX2_give_18 : decode cX2_give 18 = .ok (.iastore, 1) := by decide +kernel
theorem dX2_give_19 : decode cX2_give 19 = .ok (.iconst 0, 1) := by decide +kernel
theorem dX2_give_20 : decode cX2_give 20 = .ok (.istore 6, 2) := by decide +kernel
theorem dX2_give_22 : decode cX2_give 22 = .ok (.iload 6, 2) := by decide +kernel
theorem dX2_give_24 : decode cX2_give 24 = .ok (.aload_n 2, 1) := by decide +kernel
theorem dX2_give_25 : decode cX2_give 25 = .ok (.getfield 34, 3) := by decide +kernel
theorem dX2_give_28 : decode cX2_give 28 = .ok (.if_icmp .ge 38, 3) := by decide +kernel
theorem dX2_give_31 : decode cX2_give 31 = .ok (.aload_n 0, 1) := by decide +kernel
theorem dX2_give_32 : decode cX2_give 32 = .ok (.iload 5, 2) := by decide +kernel
theorem dX2_give_34 : decode cX2_give 34 = .ok (.iload 6, 2) := by decide +kernel
theorem dX2_give_36 : decode cX2_give 36 = .ok (.aload_n 3, 1) := by decide +kernel
theorem dX2_give_37 : decode cX2_give 37 = .ok (.getfield 40, 3) := by decide +kernel
theorem dX2_give_40 : decode cX2_give 40 = .ok (.iload 6, 2) := by decide +kernel
theorem dX2_give_42 : decode cX2_give 42 = .ok (.iaload, 1) := by decide +kernel
theorem dX2_give_43 : decode cX2_give 43 = .ok (.aload_n 2, 1) := by decide +kernel
theorem dX2_give_44 : decode cX2_give 44 = .ok (.iload 6, 2) := by decide +kernel
theorem dX2_give_46 : decode cX2_give 46 = .ok (.invokevirtual 45, 3) := by decide +kernel
theorem dX2_give_49 : decode cX2_give 49 = .ok (.ior, 1) := by decide +kernel
theorem dX2_give_50 : decode cX2_give 50 = .ok (.aload_n 2, 1) := by decide +kernel
theorem dX2_give_51 : decode cX2_give 51 = .ok (.iload 6, 2) := by decide +kernel
theorem dX2_give_53 : decode cX2_give 53 = .ok (.invokevirtual 49, 3) := by decide +kernel
theorem dX2_give_56 : decode cX2_give 56 = .ok (.ior, 1) := by decide +kernel
theorem dX2_give_57 : decode cX2_give 57 = .ok (.invokevirtual 52, 3) := by decide +kernel
theorem dX2_give_60 : decode cX2_give 60 = .ok (.iinc 6 1, 3) := by decide +kernel
theorem dX2_give_63 : decode cX2_give 63 = .ok (.goto (-41), 3) := by decide +kernel
theorem dX2_give_66 : decode cX2_give 66 = .ok (.iconst 0, 1) := by decide +kernel
theorem dX2_give_67 : decode cX2_give 67 = .ok (.istore 6, 2) := by decide +kernel
theorem dX2_give_69 : decode cX2_give 69 = .ok (.iload 6, 2) := by decide +kernel
theorem dX2_give_71 : decode cX2_give 71 = .ok (.aload_n 2, 1) := by decide +kernel
theorem dX2_give_72 : decode cX2_give 72 = .ok (.getfield 34, 3) := by decide +kernel
theorem dX2_give_75 : decode cX2_give 75 = .ok (.if_icmp .ge 49, 3) := by decide +kernel
theorem dX2_give_78 : decode cX2_give 78 = .ok (.iconst 0, 1) := by decide +kernel
theorem dX2_give_79 : decode cX2_give 79 = .ok (.istore 7, 2) := by decide +kernel
theorem dX2_give_81 : decode cX2_give 81 = .ok (.iload 7, 2) := by decide +kernel
theorem dX2_give_83 : decode cX2_give 83 = .ok (.bipush 22, 2) := by decide +kernel
theorem dX2_give_85 : decode cX2_give 85 = .ok (.if_icmp .ge 33, 3) := by decide +kernel
theorem dX2_give_88 : decode cX2_give 88 = .ok (.aload_n 0, 1) := by decide +kernel
theorem dX2_give_89 : decode cX2_give 89 = .ok (.getfield 9, 3) := by decide +kernel
theorem dX2_give_92 : decode cX2_give 92 = .ok (.iload 5, 2) := by decide +kernel
theorem dX2_give_94 : decode cX2_give 94 = .ok (.iload 7, 2) := by decide +kernel
theorem dX2_give_96 : decode cX2_give 96 = .ok (.iadd, 1) := by decide +kernel
theorem dX2_give_97 : decode cX2_give 97 = .ok (.iaload, 1) := by decide +kernel
theorem dX2_give_98 : decode cX2_give 98 = .ok (.iload 6, 2) := by decide +kernel
theorem dX2_give_100 : decode cX2_give 100 = .ok (.if_icmp .ne 12, 3) := by decide +kernel
theorem dX2_give_103 : decode cX2_give 103 = .ok (.aload_n 0, 1) := by decide +kernel
theorem dX2_give_104 : decode cX2_give 104 = .ok (.iload_n 1, 1) := by decide +kernel
theorem dX2_give_105 : decode cX2_give 105 = .ok (.iload 7, 2) := by decide +kernel
theorem dX2_give_107 : decode cX2_give 107 = .ok (.iload 4, 2) := by decide +kernel
theorem dX2_give_109 : decode cX2_give 109 = .ok (.invokevirtual 56, 3) := by decide +kernel
theorem dX2_give_112 : decode cX2_give 112 = .ok (.iinc 7 1, 3) := by decide +kernel
theorem dX2_give_115 : decode cX2_give 115 = .ok (.goto (-34), 3) := by decide +kernel
theorem dX2_give_118 : decode cX2_give 118 = .ok (.iinc 6 1, 3) := by decide +kernel
theorem dX2_give_121 : decode cX2_give 121 = .ok (.goto (-52), 3) := by decide +kernel
theorem dX2_give_124 : decode cX2_give 124 = .ok (.return_, 1) := by decide +kernel
theorem dX2_forget_0 : decode cX2_forget 0 = .ok (.iconst 0, 1) := by decide +kernel
theorem dX2_forget_1 : decode cX2_forget 1 = .ok (.istore_n 2, 1) := by decide +kernel
theorem dX2_forget_2 : decode cX2_forget 2 = .ok (.iload_n 2, 1) := by decide +kernel
theorem dX2_forget_3 : decode cX2_forget 3 = .ok (.bipush 22, 2) := by decide +kernel
theorem dX2_forget_5 : decode cX2_forget 5 = .ok (.if_icmp .ge 45, 3) := by decide +kernel
theorem dX2_forget_8 : decode cX2_forget 8 = .ok (.aload_n 0, 1) := by decide +kernel
theorem dX2_forget_9 : decode cX2_forget 9 = .ok (.getfield 9, 3) := by decide +kernel
theorem dX2_forget_12 : decode cX2_forget 12 = .ok (.iload_n 1, 1) := by decide +kernel
theorem dX2_forget_13 : decode cX2_forget 13 = .ok (.iload_n 2, 1) := by decide +kernel
theorem dX2_forget_14 : decode cX2_forget 14 = .ok (.iadd, 1) := by decide +kernel
theorem dX2_forget_15 : decode cX2_forget 15 = .ok (.iconst (-1), 1) := by decide +kernel
theorem dX2_forget_16 : decode cX2_forget 16 = .ok (.iastore, 1) := by decide +kernel
theorem dX2_forget_17 : decode cX2_forget 17 = .ok (.aload_n 0, 1) := by decide +kernel
theorem dX2_forget_18 : decode cX2_forget 18 = .ok (.getfield 15, 3) := by decide +kernel
theorem dX2_forget_21 : decode cX2_forget 21 = .ok (.iload_n 1, 1) := by decide +kernel
theorem dX2_forget_22 : decode cX2_forget 22 = .ok (.iload_n 2, 1) := by decide +kernel
theorem dX2_forget_23 : decode cX2_forget 23 = .ok (.iadd, 1) := by decide +kernel
theorem dX2_forget_24 : decode cX2_forget 24 = .ok (.iconst (-1), 1) := by decide +kernel
theorem dX2_forget_25 : decode cX2_forget 25 = .ok (.iastore, 1) := by decide +kernel
theorem dX2_forget_26 : decode cX2_forget 26 = .ok (.aload_n 0, 1) := by decide +kernel
theorem dX2_forget_27 : decode cX2_forget 27 = .ok (.getfield 18, 3) := by decide +kernel
theorem dX2_forget_30 : decode cX2_forget 30 = .ok (.iload_n 1, 1) := by decide +kernel
theorem dX2_forget_31 : decode cX2_forget 31 = .ok (.iload_n 2, 1) := by decide +kernel
theorem dX2_forget_32 : decode cX2_forget 32 = .ok (.iadd, 1) := by decide +kernel
theorem dX2_forget_33 : decode cX2_forget 33 = .ok (.iconst (-1), 1) := by decide +kernel
theorem dX2_forget_34 : decode cX2_forget 34 = .ok (.iastore, 1) := by decide +kernel
theorem dX2_forget_35 : decode cX2_forget 35 = .ok (.aload_n 0, 1) := by decide +kernel
theorem dX2_forget_36 : decode cX2_forget 36 = .ok (.getfield 21, 3) := by decide +kernel
theorem dX2_forget_39 : decode cX2_forget 39 = .ok (.iload_n 1, 1) := by decide +kernel
theorem dX2_forget_40 : decode cX2_forget 40 = .ok (.iload_n 2, 1) := by decide +kernel
theorem dX2_forget_41 : decode cX2_forget 41 = .ok (.iadd, 1) := by decide +kernel
theorem dX2_forget_42 : decode cX2_forget 42 = .ok (.iconst (-1), 1) := by decide +kernel
theorem dX2_forget_43 : decode cX2_forget 43 = .ok (.iastore, 1) := by decide +kernel
theorem dX2_forget_44 : decode cX2_forget 44 = .ok (.iinc 2 1, 3) := by decide +kernel
theorem dX2_forget_47 : decode cX2_forget 47 = .ok (.goto (-45), 3) := by decide +kernel
theorem dX2_forget_50 : decode cX2_forget 50 = .ok (.aload_n 0, 1) := by decide +kernel
theorem dX2_forget_51 : decode cX2_forget 51 = .ok (.getfield 27, 3) := by decide +kernel
theorem dX2_forget_54 : decode cX2_forget 54 = .ok (.iconst (-1), 1) := by decide +kernel
theorem dX2_forget_55 : decode cX2_forget 55 = .ok (.invokestatic 59, 3) := by decide +kernel
theorem dX2_forget_58 : decode cX2_forget 58 = .ok (.return_, 1) := by decide +kernel
theorem dX2_widen_0 : decode cX2_widen 0 = .ok (.iconst 0, 1) := by decide +kernel
theorem dX2_widen_1 : decode cX2_widen 1 = .ok (.istore 4, 2) := by decide +kernel
theorem dX2_widen_3 : decode cX2_widen 3 = .ok (.iload 4, 2) := by decide +kernel
theorem dX2_widen_5 : decode cX2_widen 5 = .ok (.bipush 22, 2) := by decide +kernel
theorem dX2_widen_7 : decode cX2_widen 7 = .ok (.if_icmp .ge 51, 3) := by decide +kernel
theorem dX2_widen_10 : decode cX2_widen 10 = .ok (.iload_n 3, 1) := by decide +kernel
theorem dX2_widen_11 : decode cX2_widen 11 = .ok (.iload 4, 2) := by decide +kernel
theorem dX2_widen_13 : decode cX2_widen 13 = .ok (.ishr, 1) := by decide +kernel
theorem dX2_widen_14 : decode cX2_widen 14 = .ok (.iconst 1, 1) := by decide +kernel
theorem dX2_widen_15 : decode cX2_widen 15 = .ok (.iand, 1) := by decide +kernel
theorem dX2_widen_16 : decode cX2_widen 16 = .ok (.ifCond .eq 36, 3) := by decide +kernel
theorem dX2_widen_19 : decode cX2_widen 19 = .ok (.aload_n 0, 1) := by decide +kernel
theorem dX2_widen_20 : decode cX2_widen 20 = .ok (.getfield 15, 3) := by decide +kernel
theorem dX2_widen_23 : decode cX2_widen 23 = .ok (.iload_n 1, 1) := by decide +kernel
theorem dX2_widen_24 : decode cX2_widen 24 = .ok (.iload 4, 2) := by decide +kernel
theorem dX2_widen_26 : decode cX2_widen 26 = .ok (.iadd, 1) := by decide +kernel
theorem dX2_widen_27 : decode cX2_widen 27 = .ok (.iload_n 2, 1) := by decide +kernel
theorem dX2_widen_28 : decode cX2_widen 28 = .ok (.iastore, 1) := by decide +kernel
theorem dX2_widen_29 : decode cX2_widen 29 = .ok (.aload_n 0, 1) := by decide +kernel
theorem dX2_widen_30 : decode cX2_widen 30 = .ok (.getfield 9, 3) := by decide +kernel
theorem dX2_widen_33 : decode cX2_widen 33 = .ok (.iload_n 1, 1) := by decide +kernel
theorem dX2_widen_34 : decode cX2_widen 34 = .ok (.iload 4, 2) := by decide +kernel
theorem dX2_widen_36 : decode cX2_widen 36 = .ok (.iadd, 1) := by decide +kernel
theorem dX2_widen_37 : decode cX2_widen 37 = .ok (.iaload, 1) := by decide +kernel
theorem dX2_widen_38 : decode cX2_widen 38 = .ok (.iconst (-1), 1) := by decide +kernel
theorem dX2_widen_39 : decode cX2_widen 39 = .ok (.if_icmp .ne 13, 3) := by decide +kernel
theorem dX2_widen_42 : decode cX2_widen 42 = .ok (.aload_n 0, 1) := by decide +kernel
theorem dX2_widen_43 : decode cX2_widen 43 = .ok (.getfield 9, 3) := by decide +kernel
theorem dX2_widen_46 : decode cX2_widen 46 = .ok (.iload_n 1, 1) := by decide +kernel
theorem dX2_widen_47 : decode cX2_widen 47 = .ok (.iload 4, 2) := by decide +kernel
theorem dX2_widen_49 : decode cX2_widen 49 = .ok (.iadd, 1) := by decide +kernel
theorem dX2_widen_50 : decode cX2_widen 50 = .ok (.iload_n 2, 1) := by decide +kernel
theorem dX2_widen_51 : decode cX2_widen 51 = .ok (.iastore, 1) := by decide +kernel
theorem dX2_widen_52 : decode cX2_widen 52 = .ok (.iinc 4 1, 3) := by decide +kernel
theorem dX2_widen_55 : decode cX2_widen 55 = .ok (.goto (-52), 3) := by decide +kernel
theorem dX2_widen_58 : decode cX2_widen 58 = .ok (.return_, 1) := by decide +kernel
theorem dX2_giveOne_0 : decode cX2_giveOne 0 = .ok (.iload_n 1, 1) := by decide +kernel
theorem dX2_giveOne_1 : decode cX2_giveOne 1 = .ok (.bipush 22, 2) := by decide +kernel
theorem dX2_giveOne_3 : decode cX2_giveOne 3 = .ok (.imul, 1) := by decide +kernel
theorem dX2_giveOne_4 : decode cX2_giveOne 4 = .ok (.istore 4, 2) := by decide +kernel
theorem dX2_giveOne_6 : decode cX2_giveOne 6 = .ok (.aload_n 0, 1) := by decide +kernel
theorem dX2_giveOne_7 : decode cX2_giveOne 7 = .ok (.iload 4, 2) := by decide +kernel
theorem dX2_giveOne_9 : decode cX2_giveOne 9 = .ok (.aload_n 0, 1) := by decide +kernel
theorem dX2_giveOne_10 : decode cX2_giveOne 10 = .ok (.getfield 9, 3) := by decide +kernel
theorem dX2_giveOne_13 : decode cX2_giveOne 13 = .ok (.iload 4, 2) := by decide +kernel
theorem dX2_giveOne_15 : decode cX2_giveOne 15 = .ok (.iload_n 2, 1) := by decide +kernel
theorem dX2_giveOne_16 : decode cX2_giveOne 16 = .ok (.iadd, 1) := by decide +kernel
theorem dX2_giveOne_17 : decode cX2_giveOne 17 = .ok (.iaload, 1) := by decide +kernel
theorem dX2_giveOne_18 : decode cX2_giveOne 18 = .ok (.iload_n 3, 1) := by decide +kernel
theorem dX2_giveOne_19 : decode cX2_giveOne 19 = .ok (.invokevirtual 65, 3) := by decide +kernel
theorem dX2_giveOne_22 : decode cX2_giveOne 22 = .ok (.iconst 0, 1) := by decide +kernel
theorem dX2_giveOne_23 : decode cX2_giveOne 23 = .ok (.istore 5, 2) := by decide +kernel
theorem dX2_giveOne_25 : decode cX2_giveOne 25 = .ok (.iload 5, 2) := by decide +kernel
theorem dX2_giveOne_27 : decode cX2_giveOne 27 = .ok (.iload_n 3, 1) := by decide +kernel
theorem dX2_giveOne_28 : decode cX2_giveOne 28 = .ok (.if_icmp .ge 40, 3) := by decide +kernel
theorem dX2_giveOne_31 : decode cX2_giveOne 31 = .ok (.aload_n 0, 1) := by decide +kernel
theorem dX2_giveOne_32 : decode cX2_giveOne 32 = .ok (.getfield 27, 3) := by decide +kernel
theorem dX2_giveOne_35 : decode cX2_giveOne 35 = .ok (.iload 5, 2) := by decide +kernel
theorem dX2_giveOne_37 : decode cX2_giveOne 37 = .ok (.iaload, 1) := by decide +kernel
theorem dX2_giveOne_38 : decode cX2_giveOne 38 = .ok (.iconst (-1), 1) := by decide +kernel
theorem dX2_giveOne_39 : decode cX2_giveOne 39 = .ok (.if_icmp .ne 23, 3) := by decide +kernel
theorem dX2_giveOne_42 : decode cX2_giveOne 42 = .ok (.aload_n 0, 1) := by decide +kernel
theorem dX2_giveOne_43 : decode cX2_giveOne 43 = .ok (.getfield 27, 3) := by decide +kernel
theorem dX2_giveOne_46 : decode cX2_giveOne 46 = .ok (.iload 5, 2) := by decide +kernel
theorem dX2_giveOne_48 : decode cX2_giveOne 48 = .ok (.iload_n 2, 1) := by decide +kernel
theorem dX2_giveOne_49 : decode cX2_giveOne 49 = .ok (.iastore, 1) := by decide +kernel
theorem dX2_giveOne_50 : decode cX2_giveOne 50 = .ok (.aload_n 0, 1) := by decide +kernel
theorem dX2_giveOne_51 : decode cX2_giveOne 51 = .ok (.getfield 18, 3) := by decide +kernel
theorem dX2_giveOne_54 : decode cX2_giveOne 54 = .ok (.iload 4, 2) := by decide +kernel
theorem dX2_giveOne_56 : decode cX2_giveOne 56 = .ok (.iload_n 2, 1) := by decide +kernel
theorem dX2_giveOne_57 : decode cX2_giveOne 57 = .ok (.iadd, 1) := by decide +kernel
theorem dX2_giveOne_58 : decode cX2_giveOne 58 = .ok (.iload 5, 2) := by decide +kernel
theorem dX2_giveOne_60 : decode cX2_giveOne 60 = .ok (.iastore, 1) := by decide +kernel
theorem dX2_giveOne_61 : decode cX2_giveOne 61 = .ok (.return_, 1) := by decide +kernel
theorem dX2_giveOne_62 : decode cX2_giveOne 62 = .ok (.iinc 5 1, 3) := by decide +kernel
theorem dX2_giveOne_65 : decode cX2_giveOne 65 = .ok (.goto (-40), 3) := by decide +kernel
theorem dX2_giveOne_68 : decode cX2_giveOne 68 = .ok (.aload_n 0, 1) := by decide +kernel
theorem dX2_giveOne_69 : decode cX2_giveOne 69 = .ok (.iload 4, 2) := by decide +kernel
theorem dX2_giveOne_71 : decode cX2_giveOne 71 = .ok (.iload_n 2, 1) := by decide +kernel
theorem dX2_giveOne_72 : decode cX2_giveOne 72 = .ok (.iload_n 3, 1) := by decide +kernel
theorem dX2_giveOne_73 : decode cX2_giveOne 73 = .ok (.invokevirtual 68, 3) := by decide +kernel
theorem dX2_giveOne_76 : decode cX2_giveOne 76 = .ok (.istore 5, 2) := by decide +kernel
theorem dX2_giveOne_78 : decode cX2_giveOne 78 = .ok (.aload_n 0, 1) := by decide +kernel
theorem dX2_giveOne_79 : decode cX2_giveOne 79 = .ok (.getfield 21, 3) := by decide +kernel
theorem dX2_giveOne_82 : decode cX2_giveOne 82 = .ok (.iload 4, 2) := by decide +kernel
theorem dX2_giveOne_84 : decode cX2_giveOne 84 = .ok (.iload 5, 2) := by decide +kernel
theorem dX2_giveOne_86 : decode cX2_giveOne 86 = .ok (.iadd, 1) := by decide +kernel
theorem dX2_giveOne_87 : decode cX2_giveOne 87 = .ok (.aload_n 0, 1) := by decide +kernel
theorem dX2_giveOne_88 : decode cX2_giveOne 88 = .ok (.getfield 24, 3) := by decide +kernel
theorem dX2_giveOne_91 : decode cX2_giveOne 91 = .ok (.iload_n 1, 1) := by decide +kernel
theorem dX2_giveOne_92 : decode cX2_giveOne 92 = .ok (.iaload, 1) := by decide +kernel
theorem dX2_giveOne_93 : decode cX2_giveOne 93 = .ok (.iastore, 1) := by decide +kernel
theorem dX2_giveOne_94 : decode cX2_giveOne 94 = .ok (.aload_n 0, 1) := by decide +kernel
theorem dX2_giveOne_95 : decode cX2_giveOne 95 = .ok (.getfield 24, 3) := by decide +kernel
theorem dX2_giveOne_98 : decode cX2_giveOne 98 = .ok (.iload_n 1, 1) := by decide +kernel
theorem dX2_giveOne_99 : decode cX2_giveOne 99 = .ok (.dup2, 1) := by decide +kernel
theorem dX2_giveOne_100 : decode cX2_giveOne 100 = .ok (.iaload, 1) := by decide +kernel
theorem dX2_giveOne_101 : decode cX2_giveOne 101 = .ok (.iconst 1, 1) := by decide +kernel
theorem dX2_giveOne_102 : decode cX2_giveOne 102 = .ok (.iadd, 1) := by decide +kernel
theorem dX2_giveOne_103 : decode cX2_giveOne 103 = .ok (.iastore, 1) := by decide +kernel
theorem dX2_giveOne_104 : decode cX2_giveOne 104 = .ok (.iload 5, 2) := by decide +kernel
theorem dX2_giveOne_106 : decode cX2_giveOne 106 = .ok (.iload_n 2, 1) := by decide +kernel
theorem dX2_giveOne_107 : decode cX2_giveOne 107 = .ok (.if_icmp .eq 45, 3) := by decide +kernel
theorem dX2_giveOne_110 : decode cX2_giveOne 110 = .ok (.aload_n 0, 1) := by decide +kernel
theorem dX2_giveOne_111 : decode cX2_giveOne 111 = .ok (.getfield 18, 3) := by decide +kernel
theorem dX2_giveOne_114 : decode cX2_giveOne 114 = .ok (.iload 4, 2) := by decide +kernel
theorem dX2_giveOne_116 : decode cX2_giveOne 116 = .ok (.iload 5, 2) := by decide +kernel
theorem dX2_giveOne_118 : decode cX2_giveOne 118 = .ok (.iadd, 1) := by decide +kernel
theorem dX2_giveOne_119 : decode cX2_giveOne 119 = .ok (.iaload, 1) := by decide +kernel
theorem dX2_giveOne_120 : decode cX2_giveOne 120 = .ok (.istore 6, 2) := by decide +kernel
theorem dX2_giveOne_122 : decode cX2_giveOne 122 = .ok (.aload_n 0, 1) := by decide +kernel
theorem dX2_giveOne_123 : decode cX2_giveOne 123 = .ok (.getfield 18, 3) := by decide +kernel
theorem dX2_giveOne_126 : decode cX2_giveOne 126 = .ok (.iload 4, 2) := by decide +kernel
theorem dX2_giveOne_128 : decode cX2_giveOne 128 = .ok (.iload 5, 2) := by decide +kernel
theorem dX2_giveOne_130 : decode cX2_giveOne 130 = .ok (.iadd, 1) := by decide +kernel
theorem dX2_giveOne_131 : decode cX2_giveOne 131 = .ok (.iconst (-1), 1) := by decide +kernel
theorem dX2_giveOne_132 : decode cX2_giveOne 132 = .ok (.iastore, 1) := by decide +kernel
theorem dX2_giveOne_133 : decode cX2_giveOne 133 = .ok (.aload_n 0, 1) := by decide +kernel
theorem dX2_giveOne_134 : decode cX2_giveOne 134 = .ok (.getfield 18, 3) := by decide +kernel
theorem dX2_giveOne_137 : decode cX2_giveOne 137 = .ok (.iload 4, 2) := by decide +kernel
theorem dX2_giveOne_139 : decode cX2_giveOne 139 = .ok (.iload_n 2, 1) := by decide +kernel
theorem dX2_giveOne_140 : decode cX2_giveOne 140 = .ok (.iadd, 1) := by decide +kernel
theorem dX2_giveOne_141 : decode cX2_giveOne 141 = .ok (.iload 6, 2) := by decide +kernel
theorem dX2_giveOne_143 : decode cX2_giveOne 143 = .ok (.iastore, 1) := by decide +kernel
theorem dX2_giveOne_144 : decode cX2_giveOne 144 = .ok (.aload_n 0, 1) := by decide +kernel
theorem dX2_giveOne_145 : decode cX2_giveOne 145 = .ok (.getfield 27, 3) := by decide +kernel
theorem dX2_giveOne_148 : decode cX2_giveOne 148 = .ok (.iload 6, 2) := by decide +kernel
theorem dX2_giveOne_150 : decode cX2_giveOne 150 = .ok (.iload_n 2, 1) := by decide +kernel
theorem dX2_giveOne_151 : decode cX2_giveOne 151 = .ok (.iastore, 1) := by decide +kernel
theorem dX2_giveOne_152 : decode cX2_giveOne 152 = .ok (.return_, 1) := by decide +kernel
theorem dX2_giveBack_0 : decode cX2_giveBack 0 = .ok (.iconst 0, 1) := by decide +kernel
theorem dX2_giveBack_1 : decode cX2_giveBack 1 = .ok (.istore 4, 2) := by decide +kernel
theorem dX2_giveBack_3 : decode cX2_giveBack 3 = .ok (.iload 4, 2) := by decide +kernel
theorem dX2_giveBack_5 : decode cX2_giveBack 5 = .ok (.iload_n 3, 1) := by decide +kernel
theorem dX2_giveBack_6 : decode cX2_giveBack 6 = .ok (.if_icmp .ge 46, 3) := by decide +kernel
theorem dX2_giveBack_9 : decode cX2_giveBack 9 = .ok (.aload_n 0, 1) := by decide +kernel
theorem dX2_giveBack_10 : decode cX2_giveBack 10 = .ok (.getfield 27, 3) := by decide +kernel
theorem dX2_giveBack_13 : decode cX2_giveBack 13 = .ok (.iload 4, 2) := by decide +kernel
theorem dX2_giveBack_15 : decode cX2_giveBack 15 = .ok (.iaload, 1) := by decide +kernel
theorem dX2_giveBack_16 : decode cX2_giveBack 16 = .ok (.iconst (-1), 1) := by decide +kernel
theorem dX2_giveBack_17 : decode cX2_giveBack 17 = .ok (.if_icmp .eq 29, 3) := by decide +kernel
theorem dX2_giveBack_20 : decode cX2_giveBack 20 = .ok (.aload_n 0, 1) := by decide +kernel
theorem dX2_giveBack_21 : decode cX2_giveBack 21 = .ok (.getfield 15, 3) := by decide +kernel
theorem dX2_giveBack_24 : decode cX2_giveBack 24 = .ok (.iload_n 1, 1) := by decide +kernel
theorem dX2_giveBack_25 : decode cX2_giveBack 25 = .ok (.aload_n 0, 1) := by decide +kernel
theorem dX2_giveBack_26 : decode cX2_giveBack 26 = .ok (.getfield 27, 3) := by decide +kernel
theorem dX2_giveBack_29 : decode cX2_giveBack 29 = .ok (.iload 4, 2) := by decide +kernel
theorem dX2_giveBack_31 : decode cX2_giveBack 31 = .ok (.iaload, 1) := by decide +kernel
theorem dX2_giveBack_32 : decode cX2_giveBack 32 = .ok (.iadd, 1) := by decide +kernel
theorem dX2_giveBack_33 : decode cX2_giveBack 33 = .ok (.iaload, 1) := by decide +kernel
theorem dX2_giveBack_34 : decode cX2_giveBack 34 = .ok (.iload_n 2, 1) := by decide +kernel
theorem dX2_giveBack_35 : decode cX2_giveBack 35 = .ok (.if_icmp .ge 11, 3) := by decide +kernel
theorem dX2_giveBack_38 : decode cX2_giveBack 38 = .ok (.aload_n 0, 1) := by decide +kernel
theorem dX2_giveBack_39 : decode cX2_giveBack 39 = .ok (.getfield 27, 3) := by decide +kernel
theorem dX2_giveBack_42 : decode cX2_giveBack 42 = .ok (.iload 4, 2) := by decide +kernel
theorem dX2_giveBack_44 : decode cX2_giveBack 44 = .ok (.iconst (-1), 1) := by decide +kernel
theorem dX2_giveBack_45 : decode cX2_giveBack 45 = .ok (.iastore, 1) := by decide +kernel
theorem dX2_giveBack_46 : decode cX2_giveBack 46 = .ok (.iinc 4 1, 3) := by decide +kernel
theorem dX2_giveBack_49 : decode cX2_giveBack 49 = .ok (.goto (-46), 3) := by decide +kernel
theorem dX2_giveBack_52 : decode cX2_giveBack 52 = .ok (.return_, 1) := by decide +kernel
theorem dX2_longestWith_0 : decode cX2_longestWith 0 = .ok (.iload_n 2, 1) := by decide +kernel
theorem dX2_longestWith_1 : decode cX2_longestWith 1 = .ok (.istore 4, 2) := by decide +kernel
theorem dX2_longestWith_3 : decode cX2_longestWith 3 = .ok (.iconst 0, 1) := by decide +kernel
theorem dX2_longestWith_4 : decode cX2_longestWith 4 = .ok (.istore 5, 2) := by decide +kernel
theorem dX2_longestWith_6 : decode cX2_longestWith 6 = .ok (.iload 5, 2) := by decide +kernel
theorem dX2_longestWith_8 : decode cX2_longestWith 8 = .ok (.iload_n 3, 1) := by decide +kernel
theorem dX2_longestWith_9 : decode cX2_longestWith 9 = .ok (.if_icmp .ge 60, 3) := by decide +kernel
theorem dX2_longestWith_12 : decode cX2_longestWith 12 = .ok (.aload_n 0, 1) := by decide +kernel
theorem dX2_longestWith_13 : decode cX2_longestWith 13 = .ok (.getfield 27, 3) := by decide +kernel
theorem dX2_longestWith_16 : decode cX2_longestWith 16 = .ok (.iload 5, 2) := by decide +kernel
theorem dX2_longestWith_18 : decode cX2_longestWith 18 = .ok (.iaload, 1) := by decide +kernel
theorem dX2_longestWith_19 : decode cX2_longestWith 19 = .ok (.istore 6, 2) := by decide +kernel
theorem dX2_longestWith_21 : decode cX2_longestWith 21 = .ok (.aload_n 0, 1) := by decide +kernel
theorem dX2_longestWith_22 : decode cX2_longestWith 22 = .ok (.getfield 15, 3) := by decide +kernel
theorem dX2_longestWith_25 : decode cX2_longestWith 25 = .ok (.iload_n 1, 1) := by decide +kernel
theorem dX2_longestWith_26 : decode cX2_longestWith 26 = .ok (.iload 6, 2) := by decide +kernel
theorem dX2_longestWith_28 : decode cX2_longestWith 28 = .ok (.iadd, 1) := by decide +kernel
theorem dX2_longestWith_29 : decode cX2_longestWith 29 = .ok (.iaload, 1) := by decide +kernel
theorem dX2_longestWith_30 : decode cX2_longestWith 30 = .ok (.aload_n 0, 1) := by decide +kernel
theorem dX2_longestWith_31 : decode cX2_longestWith 31 = .ok (.getfield 15, 3) := by decide +kernel
theorem dX2_longestWith_34 : decode cX2_longestWith 34 = .ok (.iload_n 1, 1) := by decide +kernel
theorem dX2_longestWith_35 : decode cX2_longestWith 35 = .ok (.iload 4, 2) := by decide +kernel
theorem dX2_longestWith_37 : decode cX2_longestWith 37 = .ok (.iadd, 1) := by decide +kernel
theorem dX2_longestWith_38 : decode cX2_longestWith 38 = .ok (.iaload, 1) := by decide +kernel
theorem dX2_longestWith_39 : decode cX2_longestWith 39 = .ok (.isub, 1) := by decide +kernel
theorem dX2_longestWith_40 : decode cX2_longestWith 40 = .ok (.istore 7, 2) := by decide +kernel
theorem dX2_longestWith_42 : decode cX2_longestWith 42 = .ok (.iload 7, 2) := by decide +kernel
theorem dX2_longestWith_44 : decode cX2_longestWith 44 = .ok (.ifCond .gt 15, 3) := by decide +kernel
theorem dX2_longestWith_47 : decode cX2_longestWith 47 = .ok (.iload 7, 2) := by decide +kernel
theorem dX2_longestWith_49 : decode cX2_longestWith 49 = .ok (.ifCond .ne 14, 3) := by decide +kernel
theorem dX2_longestWith_52 : decode cX2_longestWith 52 = .ok (.iload 6, 2) := by decide +kernel
theorem dX2_longestWith_54 : decode cX2_longestWith 54 = .ok (.iload 4, 2) := by decide +kernel
theorem dX2_longestWith_56 : decode cX2_longestWith 56 = .ok (.if_icmp .le 7, 3) := by decide +kernel
theorem dX2_longestWith_59 : decode cX2_longestWith 59 = .ok (.iload 6, 2) := by decide +kernel
theorem dX2_longestWith_61 : decode cX2_longestWith 61 = .ok (.istore 4, 2) := by decide +kernel
theorem dX2_longestWith_63 : decode cX2_longestWith 63 = .ok (.iinc 5 1, 3) := by decide +kernel
theorem dX2_longestWith_66 : decode cX2_longestWith 66 = .ok (.goto (-60), 3) := by decide +kernel
theorem dX2_longestWith_69 : decode cX2_longestWith 69 = .ok (.iload 4, 2) := by decide +kernel
theorem dX2_longestWith_71 : decode cX2_longestWith 71 = .ok (.ireturn, 1) := by decide +kernel
theorem dX3_init_0 : decode cX3_init 0 = .ok (.aload_n 0, 1) := by decide +kernel
theorem dX3_init_1 : decode cX3_init 1 = .ok (.invokespecial 3, 3) := by decide +kernel
theorem dX3_init_4 : decode cX3_init 4 = .ok (.aload_n 0, 1) := by decide +kernel
theorem dX3_init_5 : decode cX3_init 5 = .ok (.sipush 300, 3) := by decide +kernel
theorem dX3_init_8 : decode cX3_init 8 = .ok (.newarray .int, 2) := by decide +kernel
theorem dX3_init_10 : decode cX3_init 10 = .ok (.putfield 9, 3) := by decide +kernel
theorem dX3_init_13 : decode cX3_init 13 = .ok (.aload_n 0, 1) := by decide +kernel
theorem dX3_init_14 : decode cX3_init 14 = .ok (.sipush 300, 3) := by decide +kernel
theorem dX3_init_17 : decode cX3_init 17 = .ok (.newarray .int, 2) := by decide +kernel
theorem dX3_init_19 : decode cX3_init 19 = .ok (.putfield 15, 3) := by decide +kernel
theorem dX3_init_22 : decode cX3_init 22 = .ok (.return_, 1) := by decide +kernel
theorem dX3_find_0 : decode cX3_find 0 = .ok (.aload_n 0, 1) := by decide +kernel
theorem dX3_find_1 : decode cX3_find 1 = .ok (.getfield 9, 3) := by decide +kernel
theorem dX3_find_4 : decode cX3_find 4 = .ok (.iconst 0, 1) := by decide +kernel
theorem dX3_find_5 : decode cX3_find 5 = .ok (.invokestatic 18, 3) := by decide +kernel
theorem dX3_find_8 : decode cX3_find 8 = .ok (.aload_n 1, 1) := by decide +kernel
theorem dX3_find_9 : decode cX3_find 9 = .ok (.getfield 24, 3) := by decide +kernel
theorem dX3_find_12 : decode cX3_find 12 = .ok (.bipush 22, 2) := by decide +kernel
theorem dX3_find_14 : decode cX3_find 14 = .ok (.imul, 1) := by decide +kernel
theorem dX3_find_15 : decode cX3_find 15 = .ok (.iconst 1, 1) := by decide +kernel
theorem dX3_find_16 : decode cX3_find 16 = .ok (.iadd, 1) := by decide +kernel
theorem dX3_find_17 : decode cX3_find 17 = .ok (.istore_n 2, 1) := by decide +kernel
theorem dX3_find_18 : decode cX3_find 18 = .ok (.iconst 0, 1) := by decide +kernel
theorem dX3_find_19 : decode cX3_find 19 = .ok (.istore_n 3, 1) := by decide +kernel
theorem dX3_find_20 : decode cX3_find 20 = .ok (.iload_n 3, 1) := by decide +kernel
theorem dX3_find_21 : decode cX3_find 21 = .ok (.iload_n 2, 1) := by decide +kernel
theorem dX3_find_22 : decode cX3_find 22 = .ok (.if_icmp .ge 18, 3) := by decide +kernel
theorem dX3_find_25 : decode cX3_find 25 = .ok (.aload_n 0, 1) := by decide +kernel
theorem dX3_find_26 : decode cX3_find 26 = .ok (.aload_n 1, 1) := by decide +kernel
theorem dX3_find_27 : decode cX3_find 27 = .ok (.invokevirtual 30, 3) := by decide +kernel
theorem dX3_find_30 : decode cX3_find 30 = .ok (.ifCond .ne 4, 3) := by decide +kernel
theorem dX3_find_33 : decode cX3_find 33 = .ok (.return_, 1) := by decide +kernel
theorem dX3_find_34 : decode cX3_find 34 = .ok (.iinc 3 1, 3) := by decide +kernel
theorem dX3_find_37 : decode cX3_find 37 = .ok (.goto (-17), 3) := by decide +kernel
theorem dX3_find_40 : decode cX3_find 40 = .ok (.return_, 1) := by decide +kernel
theorem dX3_growBackwards_0 : decode cX3_growBackwards 0 = .ok (.iconst 0, 1) := by decide +kernel
theorem dX3_growBackwards_1 : decode cX3_growBackwards 1 = .ok (.istore_n 2, 1) := by decide +kernel
theorem dX3_growBackwards_2 : decode cX3_growBackwards 2 = .ok (.aload_n 1, 1) := by decide +kernel
theorem dX3_growBackwards_3 : decode cX3_growBackwards 3 = .ok (.getfield 24, 3) := by decide +kernel
theorem dX3_growBackwards_6 : decode cX3_growBackwards 6 = .ok (.iconst 1, 1) := by decide +kernel
theorem dX3_growBackwards_7 : decode cX3_growBackwards 7 = .ok (.isub, 1) := by decide +kernel
theorem dX3_growBackwards_8 : decode cX3_growBackwards 8 = .ok (.istore_n 3, 1) := by decide +kernel
theorem dX3_growBackwards_9 : decode cX3_growBackwards 9 = .ok (.iload_n 3, 1) := by decide +kernel
theorem dX3_growBackwards_10 : decode cX3_growBackwards 10 = .ok (.ifCond .lt 110, 3) := by decide +kernel
theorem dX3_growBackwards_13 : decode cX3_growBackwards 13 = .ok (.aload_n 1, 1) := by decide +kernel
theorem dX3_growBackwards_14 : decode cX3_growBackwards 14 = .ok (.iload_n 3, 1) := by decide +kernel
theorem dX3_growBackwards_15 : decode cX3_growBackwards 15 = .ok (.invokevirtual 34, 3) := by decide +kernel
theorem dX3_growBackwards_18 : decode cX3_growBackwards 18 = .ok (.ifCond .eq 14, 3) := by decide +kernel
theorem dX3_growBackwards_21 : decode cX3_growBackwards 21 = .ok (.aload_n 0, 1) := by decide +kernel
theorem dX3_growBackwards_22 : decode cX3_growBackwards 22 = .ok (.getfield 9, 3) := by decide +kernel
theorem dX3_growBackwards_25 : decode cX3_growBackwards 25 = .ok (.iload_n 3, 1) := by decide +kernel
theorem dX3_growBackwards_26 : decode cX3_growBackwards 26 = .ok (.iconst 1, 1) := by decide +kernel
theorem dX3_growBackwards_27 : decode cX3_growBackwards 27 = .ok (.iadd, 1) := by decide +kernel
theorem dX3_growBackwards_28 : decode cX3_growBackwards 28 = .ok (.iaload, 1) := by decide +kernel
theorem dX3_growBackwards_29 : decode cX3_growBackwards 29 = .ok (.goto 4, 3) := by decide +kernel
theorem dX3_growBackwards_32 : decode cX3_growBackwards 32 = .ok (.iconst 0, 1) := by decide +kernel
theorem dX3_growBackwards_33 : decode cX3_growBackwards 33 = .ok (.istore 4, 2) := by decide +kernel
theorem dX3_growBackwards_35 : decode cX3_growBackwards 35 = .ok (.aload_n 1, 1) := by decide +kernel
theorem dX3_growBackwards_36 : decode cX3_growBackwards 36 = .ok (.iload_n 3, 1) := by decide +kernel
theorem dX3_growBackwards_37 : decode cX3_growBackwards 37 = .ok (.invokevirtual 38, 3) := by decide +kernel
theorem dX3_growBackwards_40 : decode cX3_growBackwards 40 = .ok (.ifCond .eq 19, 3) := by decide +kernel
theorem dX3_growBackwards_43 : decode cX3_growBackwards 43 = .ok (.iload 4, 2) := by decide +kernel
theorem dX3_growBackwards_45 : decode cX3_growBackwards 45 = .ok (.aload_n 0, 1) := by decide +kernel
theorem dX3_growBackwards_46 : decode cX3_growBackwards 46 = .ok (.getfield 9, 3) := by decide +kernel
theorem dX3_growBackwards_49 : decode cX3_growBackwards 49 = .ok (.aload_n 1, 1) := by decide +kernel
theorem dX3_growBackwards_50 : decode cX3_growBackwards 50 = .ok (.getfield 41, 3) := by decide +kernel
theorem dX3_growBackwards_53 : decode cX3_growBackwards 53 = .ok (.iload_n 3, 1) := by decide +kernel
theorem dX3_growBackwards_54 : decode cX3_growBackwards 54 = .ok (.iaload, 1) := by decide +kernel
theorem dX3_growBackwards_55 : decode cX3_growBackwards 55 = .ok (.iaload, 1) := by decide +kernel
theorem dX3_growBackwards_56 : decode cX3_growBackwards 56 = .ok (.ior, 1) := by decide +kernel
theorem dX3_growBackwards_57 : decode cX3_growBackwards 57 = .ok (.istore 4, 2) := by decide +kernel
theorem dX3_growBackwards_59 : decode cX3_growBackwards 59 = .ok (.aload_n 0, 1) := by decide +kernel
theorem dX3_growBackwards_60 : decode cX3_growBackwards 60 = .ok (.getfield 15, 3) := by decide +kernel
theorem dX3_growBackwards_63 : decode cX3_growBackwards 63 = .ok (.iload_n 3, 1) := by decide +kernel
theorem dX3_growBackwards_64 : decode cX3_growBackwards 64 = .ok (.iload 4, 2) := by decide +kernel
theorem dX3_growBackwards_66 : decode cX3_growBackwards 66 = .ok (.iastore, 1) := by decide +kernel
theorem dX3_growBackwards_67 : decode cX3_growBackwards 67 = .ok (.aload_n 1, 1) := by decide +kernel
theorem dX3_growBackwards_68 : decode cX3_growBackwards 68 = .ok (.iload_n 3, 1) := by decide +kernel
theorem dX3_growBackwards_69 : decode cX3_growBackwards 69 = .ok (.invokevirtual 44, 3) := by decide +kernel
theorem dX3_growBackwards_72 : decode cX3_growBackwards 72 = .ok (.iload 4, 2) := by decide +kernel
theorem dX3_growBackwards_74 : decode cX3_growBackwards 74 = .ok (.aload_n 1, 1) := by decide +kernel
theorem dX3_growBackwards_75 : decode cX3_growBackwards 75 = .ok (.iload_n 3, 1) := by decide +kernel
theorem dX3_growBackwards_76 : decode cX3_growBackwards 76 = .ok (.invokevirtual 48, 3) := by decide +kernel
theorem dX3_growBackwards_79 : decode cX3_growBackwards 79 = .ok (.iconst (-1), 1) := by decide +kernel
theorem dX3_growBackwards_80 : decode cX3_growBackwards 80 = .ok (.ixor, 1) := by decide +kernel
theorem dX3_growBackwards_81 : decode cX3_growBackwards 81 = .ok (.iand, 1) := by decide +kernel
theorem dX3_growBackwards_82 : decode cX3_growBackwards 82 = .ok (.ior, 1) := by decide +kernel
theorem dX3_growBackwards_83 : decode cX3_growBackwards 83 = .ok (.istore 5, 2) := by decide +kernel
theorem dX3_growBackwards_85 : decode cX3_growBackwards 85 = .ok (.iload_n 2, 1) := by decide +kernel
theorem dX3_growBackwards_86 : decode cX3_growBackwards 86 = .ok (.ifCond .ne 14, 3) := by decide +kernel
theorem dX3_growBackwards_89 : decode cX3_growBackwards 89 = .ok (.iload 5, 2) := by decide +kernel
theorem dX3_growBackwards_91 : decode cX3_growBackwards 91 = .ok (.aload_n 0, 1) := by decide +kernel
theorem dX3_growBackwards_92 : decode cX3_growBackwards 92 = .ok (.getfield 9, 3) := by decide +kernel
theorem dX3_growBackwards_95 : decode cX3_growBackwards 95 = .ok (.iload_n 3, 1) := by decide +kernel
theorem dX3_growBackwards_96 : decode cX3_growBackwards 96 = .ok (.iaload, 1) := by decide +kernel
theorem dX3_growBackwards_97 : decode cX3_growBackwards 97 = .ok (.if_icmp .eq 7, 3) := by decide +kernel
theorem dX3_growBackwards_100 : decode cX3_growBackwards 100 = .ok (.iconst 1, 1) := by decide +kernel
theorem dX3_growBackwards_101 : decode cX3_growBackwards 101 = .ok (.goto 4, 3) := by decide +kernel
theorem dX3_growBackwards_104 : decode cX3_growBackwards 104 = .ok (.iconst 0, 1) := by decide +kernel
theorem dX3_growBackwards_105 : decode cX3_growBackwards 105 = .ok (.istore_n 2, 1) := by decide +kernel
theorem dX3_growBackwards_106 : decode cX3_growBackwards 106 = .ok (.aload_n 0, 1) := by decide +kernel
theorem dX3_growBackwards_107 : decode cX3_growBackwards 107 = .ok (.getfield 9, 3) := by decide +kernel
theorem dX3_growBackwards_110 : decode cX3_growBackwards 110 = .ok (.iload_n 3, 1) := by decide +kernel
theorem dX3_growBackwards_111 : decode cX3_growBackwards 111 = .ok (.iload 5, 2) := by decide +kernel
theorem dX3_growBackwards_113 : decode cX3_growBackwards 113 = .ok (.iastore, 1) := by decide +kernel
theorem dX3_growBackwards_114 : decode cX3_growBackwards 114 = .ok (.iinc 3 (-1), 3) := by decide +kernel
theorem dX3_growBackwards_117 : decode cX3_growBackwards 117 = .ok (.goto (-108), 3) := by decide +kernel
theorem dX3_growBackwards_120 : decode cX3_growBackwards 120 = .ok (.iload_n 2, 1) := by decide +kernel
theorem dX3_growBackwards_121 : decode cX3_growBackwards 121 = .ok (.ireturn, 1) := by decide +kernel
theorem dX4_init_0 : decode cX4_init 0 = .ok (.aload_n 0, 1) := by decide +kernel
theorem dX4_init_1 : decode cX4_init 1 = .ok (.invokespecial 3, 3) := by decide +kernel
theorem dX4_init_4 : decode cX4_init 4 = .ok (.aload_n 0, 1) := by decide +kernel
theorem dX4_init_5 : decode cX4_init 5 = .ok (.bipush 64, 2) := by decide +kernel
theorem dX4_init_7 : decode cX4_init 7 = .ok (.newarray .int, 2) := by decide +kernel
theorem dX4_init_9 : decode cX4_init 9 = .ok (.putfield 9, 3) := by decide +kernel
theorem dX4_init_12 : decode cX4_init 12 = .ok (.aload_n 0, 1) := by decide +kernel
theorem dX4_init_13 : decode cX4_init 13 = .ok (.bipush 30, 2) := by decide +kernel
theorem dX4_init_15 : decode cX4_init 15 = .ok (.newarray .int, 2) := by decide +kernel
theorem dX4_init_17 : decode cX4_init 17 = .ok (.putfield 15, 3) := by decide +kernel
theorem dX4_init_20 : decode cX4_init 20 = .ok (.aload_n 0, 1) := by decide +kernel
theorem dX4_init_21 : decode cX4_init 21 = .ok (.bipush 30, 2) := by decide +kernel
theorem dX4_init_23 : decode cX4_init 23 = .ok (.newarray .int, 2) := by decide +kernel
theorem dX4_init_25 : decode cX4_init 25 = .ok (.putfield 18, 3) := by decide +kernel
theorem dX4_init_28 : decode cX4_init 28 = .ok (.return_, 1) := by decide +kernel
theorem dX4_begin_0 : decode cX4_begin 0 = .ok (.aload_n 0, 1) := by decide +kernel
theorem dX4_begin_1 : decode cX4_begin 1 = .ok (.iconst 0, 1) := by decide +kernel
theorem dX4_begin_2 : decode cX4_begin 2 = .ok (.putfield 21, 3) := by decide +kernel
theorem dX4_begin_5 : decode cX4_begin 5 = .ok (.aload_n 0, 1) := by decide +kernel
theorem dX4_begin_6 : decode cX4_begin 6 = .ok (.iconst 0, 1) := by decide +kernel
theorem dX4_begin_7 : decode cX4_begin 7 = .ok (.putfield 25, 3) := by decide +kernel
theorem dX4_begin_10 : decode cX4_begin 10 = .ok (.aload_n 0, 1) := by decide +kernel
theorem dX4_begin_11 : decode cX4_begin 11 = .ok (.iconst 0, 1) := by decide +kernel
theorem dX4_begin_12 : decode cX4_begin 12 = .ok (.putfield 28, 3) := by decide +kernel
theorem dX4_begin_15 : decode cX4_begin 15 = .ok (.aload_n 0, 1) := by decide +kernel
theorem dX4_begin_16 : decode cX4_begin 16 = .ok (.iconst 0, 1) := by decide +kernel
theorem dX4_begin_17 : decode cX4_begin 17 = .ok (.putfield 31, 3) := by decide +kernel
theorem dX4_begin_20 : decode cX4_begin 20 = .ok (.aload_n 0, 1) := by decide +kernel
theorem dX4_begin_21 : decode cX4_begin 21 = .ok (.iconst 0, 1) := by decide +kernel
theorem dX4_begin_22 : decode cX4_begin 22 = .ok (.putfield 34, 3) := by decide +kernel
theorem dX4_begin_25 : decode cX4_begin 25 = .ok (.return_, 1) := by decide +kernel
theorem dX4_goOn_0 : decode cX4_goOn 0 = .ok (.iconst 0, 1) := by decide +kernel
theorem dX4_goOn_1 : decode cX4_goOn 1 = .ok (.istore_n 2, 1) := by decide +kernel
theorem dX4_goOn_2 : decode cX4_goOn 2 = .ok (.iload_n 2, 1) := by decide +kernel
theorem dX4_goOn_3 : decode cX4_goOn 3 = .ok (.iload_n 1, 1) := by decide +kernel
theorem dX4_goOn_4 : decode cX4_goOn 4 = .ok (.if_icmp .ge 71, 3) := by decide +kernel
theorem dX4_goOn_7 : decode cX4_goOn 7 = .ok (.aload_n 0, 1) := by decide +kernel
theorem dX4_goOn_8 : decode cX4_goOn 8 = .ok (.getfield 21, 3) := by decide +kernel
theorem dX4_goOn_11 : decode cX4_goOn 11 = .ok (.ifCond .ne 64, 3) := by decide +kernel
theorem dX4_goOn_14 : decode cX4_goOn 14 = .ok (.aload_n 0, 1) := by decide +kernel
theorem dX4_goOn_15 : decode cX4_goOn 15 = .ok (.getfield 34, 3) := by decide +kernel
theorem dX4_goOn_18 : decode cX4_goOn 18 = .ok (.ifCond .ne 8, 3) := by decide +kernel
theorem dX4_goOn_21 : decode cX4_goOn 21 = .ok (.aload_n 0, 1) := by decide +kernel
theorem dX4_goOn_22 : decode cX4_goOn 22 = .ok (.iconst 0, 1) := by decide +kernel
theorem dX4_goOn_23 : decode cX4_goOn 23 = .ok (.invokevirtual 37, 3) := by decide +kernel
theorem dX4_goOn_26 : decode cX4_goOn 26 = .ok (.aload_n 0, 1) := by decide +kernel
theorem dX4_goOn_27 : decode cX4_goOn 27 = .ok (.invokevirtual 41, 3) := by decide +kernel
theorem dX4_goOn_30 : decode cX4_goOn 30 = .ok (.istore_n 3, 1) := by decide +kernel
theorem dX4_goOn_31 : decode cX4_goOn 31 = .ok (.aload_n 0, 1) := by decide +kernel
theorem dX4_goOn_32 : decode cX4_goOn 32 = .ok (.dup, 1) := by decide +kernel
theorem dX4_goOn_33 : decode cX4_goOn 33 = .ok (.getfield 28, 3) := by decide +kernel
theorem dX4_goOn_36 : decode cX4_goOn 36 = .ok (.iconst 1, 1) := by decide +kernel
theorem dX4_goOn_37 : decode cX4_goOn 37 = .ok (.iadd, 1) := by decide +kernel
theorem dX4_goOn_38 : decode cX4_goOn 38 = .ok (.putfield 28, 3) := by decide +kernel
theorem dX4_goOn_41 : decode cX4_goOn 41 = .ok (.aload_n 0, 1) := by decide +kernel
theorem dX4_goOn_42 : decode cX4_goOn 42 = .ok (.getfield 18, 3) := by decide +kernel
theorem dX4_goOn_45 : decode cX4_goOn 45 = .ok (.iload_n 3, 1) := by decide +kernel
theorem dX4_goOn_46 : decode cX4_goOn 46 = .ok (.dup2, 1) := by decide +kernel
theorem dX4_goOn_47 : decode cX4_goOn 47 = .ok (.iaload, 1) := by decide +kernel
theorem dX4_goOn_48 : decode cX4_goOn 48 = .ok (.iconst 1, 1) := by decide +kernel
theorem dX4_goOn_49 : decode cX4_goOn 49 = .ok (.iadd, 1) := by decide +kernel
theorem dX4_goOn_50 : decode cX4_goOn 50 = .ok (.iastore, 1) := by decide +kernel
theorem dX4_goOn_51 : decode cX4_goOn 51 = .ok (.aload_n 0, 1) := by decide +kernel
theorem dX4_goOn_52 : decode cX4_goOn 52 = .ok (.aload_n 0, 1) := by decide +kernel
theorem dX4_goOn_53 : decode cX4_goOn 53 = .ok (.getfield 15, 3) := by decide +kernel
theorem dX4_goOn_56 : decode cX4_goOn 56 = .ok (.iload_n 3, 1) := by decide +kernel
theorem dX4_goOn_57 : decode cX4_goOn 57 = .ok (.iaload, 1) := by decide +kernel
theorem dX4_goOn_58 : decode cX4_goOn 58 = .ok (.aload_n 0, 1) := by decide +kernel
theorem dX4_goOn_59 : decode cX4_goOn 59 = .ok (.getfield 18, 3) := by decide +kernel
theorem dX4_goOn_62 : decode cX4_goOn 62 = .ok (.iload_n 3, 1) := by decide +kernel
theorem dX4_goOn_63 : decode cX4_goOn 63 = .ok (.iaload, 1) := by decide +kernel
theorem dX4_goOn_64 : decode cX4_goOn 64 = .ok (.iconst 1, 1) := by decide +kernel
theorem dX4_goOn_65 : decode cX4_goOn 65 = .ok (.isub, 1) := by decide +kernel
theorem dX4_goOn_66 : decode cX4_goOn 66 = .ok (.invokevirtual 45, 3) := by decide +kernel
theorem dX4_goOn_69 : decode cX4_goOn 69 = .ok (.iinc 2 1, 3) := by decide +kernel
theorem dX4_goOn_72 : decode cX4_goOn 72 = .ok (.goto (-70), 3) := by decide +kernel
theorem dX4_goOn_75 : decode cX4_goOn 75 = .ok (.aload_n 0, 1) := by decide +kernel
theorem dX4_goOn_76 : decode cX4_goOn 76 = .ok (.getfield 21, 3) := by decide +kernel
theorem dX4_goOn_79 : decode cX4_goOn 79 = .ok (.ireturn, 1) := by decide +kernel
theorem dX4_tell_0 : decode cX4_tell 0 = .ok (.iload_n 1, 1) := by decide +kernel
theorem dX4_tell_1 : decode cX4_tell 1 = .ok (.tableswitch 60 0 4 #[35, 40, 45, 50, 55], 35) := by decide +kernel
theorem dX4_tell_36 : decode cX4_tell 36 = .ok (.aload_n 0, 1) := by decide +kernel
theorem dX4_tell_37 : decode cX4_tell 37 = .ok (.getfield 21, 3) := by decide +kernel
theorem dX4_tell_40 : decode cX4_tell 40 = .ok (.ireturn, 1) := by decide +kernel
theorem dX4_tell_41 : decode cX4_tell 41 = .ok (.aload_n 0, 1) := by decide +kernel
theorem dX4_tell_42 : decode cX4_tell 42 = .ok (.getfield 25, 3) := by decide +kernel
theorem dX4_tell_45 : decode cX4_tell 45 = .ok (.ireturn, 1) := by decide +kernel
theorem dX4_tell_46 : decode cX4_tell 46 = .ok (.aload_n 0, 1) := by decide +kernel
theorem dX4_tell_47 : decode cX4_tell 47 = .ok (.getfield 28, 3) := by decide +kernel
theorem dX4_tell_50 : decode cX4_tell 50 = .ok (.ireturn, 1) := by decide +kernel
theorem dX4_tell_51 : decode cX4_tell 51 = .ok (.aload_n 0, 1) := by decide +kernel
theorem dX4_tell_52 : decode cX4_tell 52 = .ok (.getfield 31, 3) := by decide +kernel
theorem dX4_tell_55 : decode cX4_tell 55 = .ok (.ireturn, 1) := by decide +kernel
theorem dX4_tell_56 : decode cX4_tell 56 = .ok (.aload_n 0, 1) := by decide +kernel
theorem dX4_tell_57 : decode cX4_tell 57 = .ok (.getfield 34, 3) := by decide +kernel
theorem dX4_tell_60 : decode cX4_tell 60 = .ok (.ireturn, 1) := by decide +kernel
theorem dX4_tell_61 : decode cX4_tell 61 = .ok (.iconst (-1), 1) := by decide +kernel
theorem dX4_tell_62 : decode cX4_tell 62 = .ok (.ireturn, 1) := by decide +kernel
theorem dX4_room_0 : decode cX4_room 0 = .ok (.aload_n 0, 1) := by decide +kernel
theorem dX4_room_1 : decode cX4_room 1 = .ok (.getfield 34, 3) := by decide +kernel
theorem dX4_room_4 : decode cX4_room 4 = .ok (.iconst 1, 1) := by decide +kernel
theorem dX4_room_5 : decode cX4_room 5 = .ok (.isub, 1) := by decide +kernel
theorem dX4_room_6 : decode cX4_room 6 = .ok (.ireturn, 1) := by decide +kernel
theorem dX4_jump_0 : decode cX4_jump 0 = .ok (.aload_n 0, 1) := by decide +kernel
theorem dX4_jump_1 : decode cX4_jump 1 = .ok (.getfield 18, 3) := by decide +kernel
theorem dX4_jump_4 : decode cX4_jump 4 = .ok (.aload_n 0, 1) := by decide +kernel
theorem dX4_jump_5 : decode cX4_jump 5 = .ok (.invokevirtual 41, 3) := by decide +kernel
theorem dX4_jump_8 : decode cX4_jump 8 = .ok (.iload_n 1, 1) := by decide +kernel
theorem dX4_jump_9 : decode cX4_jump 9 = .ok (.iastore, 1) := by decide +kernel
theorem dX4_jump_10 : decode cX4_jump 10 = .ok (.return_, 1) := by decide +kernel
theorem dX4_finish_0 : decode cX4_finish 0 = .ok (.aload_n 0, 1) := by decide +kernel
theorem dX4_finish_1 : decode cX4_finish 1 = .ok (.iload_n 1, 1) := by decide +kernel
theorem dX4_finish_2 : decode cX4_finish 2 = .ok (.putfield 21, 3) := by decide +kernel
theorem dX4_finish_5 : decode cX4_finish 5 = .ok (.aload_n 0, 1) := by decide +kernel
theorem dX4_finish_6 : decode cX4_finish 6 = .ok (.iconst 0, 1) := by decide +kernel
theorem dX4_finish_7 : decode cX4_finish 7 = .ok (.putfield 34, 3) := by decide +kernel
theorem dX4_finish_10 : decode cX4_finish 10 = .ok (.return_, 1) := by decide +kernel
theorem dX4_enter_0 : decode cX4_enter 0 = .ok (.aload_n 0, 1) := by decide +kernel
theorem dX4_enter_1 : decode cX4_enter 1 = .ok (.getfield 34, 3) := by decide +kernel
theorem dX4_enter_4 : decode cX4_enter 4 = .ok (.bipush 30, 2) := by decide +kernel
theorem dX4_enter_6 : decode cX4_enter 6 = .ok (.if_icmp .lt 9, 3) := by decide +kernel
theorem dX4_enter_9 : decode cX4_enter 9 = .ok (.aload_n 0, 1) := by decide +kernel
theorem dX4_enter_10 : decode cX4_enter 10 = .ok (.iconst 4, 1) := by decide +kernel
theorem dX4_enter_11 : decode cX4_enter 11 = .ok (.invokevirtual 49, 3) := by decide +kernel
theorem dX4_enter_14 : decode cX4_enter 14 = .ok (.return_, 1) := by decide +kernel
theorem dX4_enter_15 : decode cX4_enter 15 = .ok (.aload_n 0, 1) := by decide +kernel
theorem dX4_enter_16 : decode cX4_enter 16 = .ok (.iload_n 1, 1) := by decide +kernel
theorem dX4_enter_17 : decode cX4_enter 17 = .ok (.aload_n 0, 1) := by decide +kernel
theorem dX4_enter_18 : decode cX4_enter 18 = .ok (.getfield 34, 3) := by decide +kernel
theorem dX4_enter_21 : decode cX4_enter 21 = .ok (.invokevirtual 52, 3) := by decide +kernel
theorem dX4_enter_24 : decode cX4_enter 24 = .ok (.aload_n 0, 1) := by decide +kernel
theorem dX4_enter_25 : decode cX4_enter 25 = .ok (.getfield 15, 3) := by decide +kernel
theorem dX4_enter_28 : decode cX4_enter 28 = .ok (.aload_n 0, 1) := by decide +kernel
theorem dX4_enter_29 : decode cX4_enter 29 = .ok (.getfield 34, 3) := by decide +kernel
theorem dX4_enter_32 : decode cX4_enter 32 = .ok (.iload_n 1, 1) := by decide +kernel
theorem dX4_enter_33 : decode cX4_enter 33 = .ok (.iastore, 1) := by decide +kernel
theorem dX4_enter_34 : decode cX4_enter 34 = .ok (.aload_n 0, 1) := by decide +kernel
theorem dX4_enter_35 : decode cX4_enter 35 = .ok (.getfield 18, 3) := by decide +kernel
theorem dX4_enter_38 : decode cX4_enter 38 = .ok (.aload_n 0, 1) := by decide +kernel
theorem dX4_enter_39 : decode cX4_enter 39 = .ok (.getfield 34, 3) := by decide +kernel
theorem dX4_enter_42 : decode cX4_enter 42 = .ok (.iconst 0, 1) := by decide +kernel
theorem dX4_enter_43 : decode cX4_enter 43 = .ok (.iastore, 1) := by decide +kernel
theorem dX4_enter_44 : decode cX4_enter 44 = .ok (.aload_n 0, 1) := by decide +kernel
theorem dX4_enter_45 : decode cX4_enter 45 = .ok (.dup, 1) := by decide +kernel
theorem dX4_enter_46 : decode cX4_enter 46 = .ok (.getfield 34, 3) := by decide +kernel
theorem dX4_enter_49 : decode cX4_enter 49 = .ok (.iconst 1, 1) := by decide +kernel
theorem dX4_enter_50 : decode cX4_enter 50 = .ok (.iadd, 1) := by decide +kernel
theorem dX4_enter_51 : decode cX4_enter 51 = .ok (.putfield 34, 3) := by decide +kernel
theorem dX4_enter_54 : decode cX4_enter 54 = .ok (.aload_n 0, 1) := by decide +kernel
theorem dX4_enter_55 : decode cX4_enter 55 = .ok (.dup, 1) := by decide +kernel
theorem dX4_enter_56 : decode cX4_enter 56 = .ok (.getfield 31, 3) := by decide +kernel
theorem dX4_enter_59 : decode cX4_enter 59 = .ok (.iconst 1, 1) := by decide +kernel
theorem dX4_enter_60 : decode cX4_enter 60 = .ok (.iadd, 1) := by decide +kernel
theorem dX4_enter_61 : decode cX4_enter 61 = .ok (.putfield 31, 3) := by decide +kernel
theorem dX4_enter_64 : decode cX4_enter 64 = .ok (.return_, 1) := by decide +kernel
theorem dX4_leave_0 : decode cX4_leave 0 = .ok (.aload_n 0, 1) := by decide +kernel
theorem dX4_leave_1 : decode cX4_leave 1 = .ok (.getfield 34, 3) := by decide +kernel
theorem dX4_leave_4 : decode cX4_leave 4 = .ok (.iconst 1, 1) := by decide +kernel
theorem dX4_leave_5 : decode cX4_leave 5 = .ok (.if_icmp .gt 14, 3) := by decide +kernel
theorem dX4_leave_8 : decode cX4_leave 8 = .ok (.aload_n 0, 1) := by decide +kernel
theorem dX4_leave_9 : decode cX4_leave 9 = .ok (.iload_n 1, 1) := by decide +kernel
theorem dX4_leave_10 : decode cX4_leave 10 = .ok (.putfield 25, 3) := by decide +kernel
theorem dX4_leave_13 : decode cX4_leave 13 = .ok (.aload_n 0, 1) := by decide +kernel
theorem dX4_leave_14 : decode cX4_leave 14 = .ok (.iconst 1, 1) := by decide +kernel
theorem dX4_leave_15 : decode cX4_leave 15 = .ok (.invokevirtual 49, 3) := by decide +kernel
theorem dX4_leave_18 : decode cX4_leave 18 = .ok (.return_, 1) := by decide +kernel
theorem dX4_leave_19 : decode cX4_leave 19 = .ok (.aload_n 0, 1) := by decide +kernel
theorem dX4_leave_20 : decode cX4_leave 20 = .ok (.dup, 1) := by decide +kernel
theorem dX4_leave_21 : decode cX4_leave 21 = .ok (.getfield 34, 3) := by decide +kernel
theorem dX4_leave_24 : decode cX4_leave 24 = .ok (.iconst 1, 1) := by decide +kernel
theorem dX4_leave_25 : decode cX4_leave 25 = .ok (.isub, 1) := by decide +kernel
theorem dX4_leave_26 : decode cX4_leave 26 = .ok (.putfield 34, 3) := by decide +kernel
theorem dX4_leave_29 : decode cX4_leave 29 = .ok (.aload_n 0, 1) := by decide +kernel
theorem dX4_leave_30 : decode cX4_leave 30 = .ok (.iload_n 1, 1) := by decide +kernel
theorem dX4_leave_31 : decode cX4_leave 31 = .ok (.invokevirtual 55, 3) := by decide +kernel
theorem dX4_leave_34 : decode cX4_leave 34 = .ok (.return_, 1) := by decide +kernel
theorem dX4_hasCell_0 : decode cX4_hasCell 0 = .ok (.iload_n 1, 1) := by decide +kernel
theorem dX4_hasCell_1 : decode cX4_hasCell 1 = .ok (.ifCond .lt 11, 3) := by decide +kernel
theorem dX4_hasCell_4 : decode cX4_hasCell 4 = .ok (.iload_n 1, 1) := by decide +kernel
theorem dX4_hasCell_5 : decode cX4_hasCell 5 = .ok (.bipush 64, 2) := by decide +kernel
theorem dX4_hasCell_7 : decode cX4_hasCell 7 = .ok (.if_icmp .ge 5, 3) := by decide +kernel
theorem dX4_hasCell_10 : decode cX4_hasCell 10 = .ok (.iconst 1, 1) := by decide +kernel
theorem dX4_hasCell_11 : decode cX4_hasCell 11 = .ok (.ireturn, 1) := by decide +kernel
theorem dX4_hasCell_12 : decode cX4_hasCell 12 = .ok (.aload_n 0, 1) := by decide +kernel
theorem dX4_hasCell_13 : decode cX4_hasCell 13 = .ok (.iconst 3, 1) := by decide +kernel
theorem dX4_hasCell_14 : decode cX4_hasCell 14 = .ok (.invokevirtual 49, 3) := by decide +kernel
theorem dX4_hasCell_17 : decode cX4_hasCell 17 = .ok (.iconst 0, 1) := by decide +kernel
theorem dX4_hasCell_18 : decode cX4_hasCell 18 = .ok (.ireturn, 1) := by decide +kernel
theorem dX4_canReckon_0 : decode cX4_canReckon 0 = .ok (.iload_n 1, 1) := by decide +kernel
theorem dX4_canReckon_1 : decode cX4_canReckon 1 = .ok (.bipush 6, 2) := by decide +kernel
theorem dX4_canReckon_3 : decode cX4_canReckon 3 = .ok (.if_icmp .ne 7, 3) := by decide +kernel
theorem dX4_canReckon_6 : decode cX4_canReckon 6 = .ok (.iload_n 2, 1) := by decide +kernel
theorem dX4_canReckon_7 : decode cX4_canReckon 7 = .ok (.ifCond .eq 5, 3) := by decide +kernel
theorem dX4_canReckon_10 : decode cX4_canReckon 10 = .ok (.iconst 1, 1) := by decide +kernel
theorem dX4_canReckon_11 : decode cX4_canReckon 11 = .ok (.ireturn, 1) := by decide +kernel
theorem dX4_canReckon_12 : decode cX4_canReckon 12 = .ok (.aload_n 0, 1) := by decide +kernel
theorem dX4_canReckon_13 : decode cX4_canReckon 13 = .ok (.iconst 2, 1) := by decide +kernel
theorem dX4_canReckon_14 : decode cX4_canReckon 14 = .ok (.invokevirtual 49, 3) := by decide +kernel
theorem dX4_canReckon_17 : decode cX4_canReckon 17 = .ok (.iconst 0, 1) := by decide +kernel
theorem dX4_canReckon_18 : decode cX4_canReckon 18 = .ok (.ireturn, 1) := by decide +kernel
theorem dX5_init_0 : decode cX5_init 0 = .ok (.aload_n 0, 1) := by decide +kernel
theorem dX5_init_1 : decode cX5_init 1 = .ok (.invokespecial 3, 3) := by decide +kernel
theorem dX5_init_4 : decode cX5_init 4 = .ok (.aload_n 0, 1) := by decide +kernel
theorem dX5_init_5 : decode cX5_init 5 = .ok (.sipush 300, 3) := by decide +kernel
theorem dX5_init_8 : decode cX5_init 8 = .ok (.newarray .int, 2) := by decide +kernel
theorem dX5_init_10 : decode cX5_init 10 = .ok (.putfield 9, 3) := by decide +kernel
theorem dX5_init_13 : decode cX5_init 13 = .ok (.aload_n 0, 1) := by decide +kernel
theorem dX5_init_14 : decode cX5_init 14 = .ok (.sipush 300, 3) := by decide +kernel
theorem dX5_init_17 : decode cX5_init 17 = .ok (.newarray .int, 2) := by decide +kernel
theorem dX5_init_19 : decode cX5_init 19 = .ok (.putfield 15, 3) := by decide +kernel
theorem dX5_init_22 : decode cX5_init 22 = .ok (.aload_n 0, 1) := by decide +kernel
theorem dX5_init_23 : decode cX5_init 23 = .ok (.sipush 300, 3) := by decide +kernel
theorem dX5_init_26 : decode cX5_init 26 = .ok (.newarray .int, 2) := by decide +kernel
theorem dX5_init_28 : decode cX5_init 28 = .ok (.putfield 18, 3) := by decide +kernel
theorem dX5_init_31 : decode cX5_init 31 = .ok (.aload_n 0, 1) := by decide +kernel
theorem dX5_init_32 : decode cX5_init 32 = .ok (.sipush 300, 3) := by decide +kernel
theorem dX5_init_35 : decode cX5_init 35 = .ok (.newarray .int, 2) := by decide +kernel
theorem dX5_init_37 : decode cX5_init 37 = .ok (.putfield 21, 3) := by decide +kernel
theorem dX5_init_40 : decode cX5_init 40 = .ok (.aload_n 0, 1) := by decide +kernel
theorem dX5_init_41 : decode cX5_init 41 = .ok (.sipush 300, 3) := by decide +kernel
theorem dX5_init_44 : decode cX5_init 44 = .ok (.newarray .int, 2) := by decide +kernel
theorem dX5_init_46 : decode cX5_init 46 = .ok (.putfield 24, 3) := by decide +kernel
theorem dX5_init_49 : decode cX5_init 49 = .ok (.aload_n 0, 1) := by decide +kernel
theorem dX5_init_50 : decode cX5_init 50 = .ok (.bipush 6, 2) := by decide +kernel
theorem dX5_init_52 : decode cX5_init 52 = .ok (.sipush 300, 3) := by decide +kernel
theorem dX5_init_55 : decode cX5_init 55 = .ok (.multianewarray 27 2, 4) := by decide +kernel
theorem dX5_init_59 : decode cX5_init 59 = .ok (.putfield 29, 3) := by decide +kernel
theorem dX5_init_62 : decode cX5_init 62 = .ok (.aload_n 0, 1) := by decide +kernel
theorem dX5_init_63 : decode cX5_init 63 = .ok (.sipush 300, 3) := by decide +kernel
theorem dX5_init_66 : decode cX5_init 66 = .ok (.newarray .int, 2) := by decide +kernel
theorem dX5_init_68 : decode cX5_init 68 = .ok (.putfield 32, 3) := by decide +kernel
theorem dX5_init_71 : decode cX5_init 71 = .ok (.aload_n 0, 1) := by decide +kernel
theorem dX5_init_72 : decode cX5_init 72 = .ok (.sipush 300, 3) := by decide +kernel
theorem dX5_init_75 : decode cX5_init 75 = .ok (.newarray .boolean, 2) := by decide +kernel
theorem dX5_init_77 : decode cX5_init 77 = .ok (.putfield 35, 3) := by decide +kernel
theorem dX5_init_80 : decode cX5_init 80 = .ok (.aload_n 0, 1) := by decide +kernel
theorem dX5_init_81 : decode cX5_init 81 = .ok (.bipush 22, 2) := by decide +kernel
theorem dX5_init_83 : decode cX5_init 83 = .ok (.newarray .int, 2) := by decide +kernel
theorem dX5_init_85 : decode cX5_init 85 = .ok (.putfield 39, 3) := by decide +kernel
theorem dX5_init_88 : decode cX5_init 88 = .ok (.return_, 1) := by decide +kernel
theorem dX5_build_0 : decode cX5_build 0 = .ok (.aload_n 0, 1) := by decide +kernel
theorem dX5_build_1 : decode cX5_build 1 = .ok (.iconst 0, 1) := by decide +kernel
theorem dX5_build_2 : decode cX5_build 2 = .ok (.putfield 42, 3) := by decide +kernel
theorem dX5_build_5 : decode cX5_build 5 = .ok (.aload_n 1, 1) := by decide +kernel
theorem dX5_build_6 : decode cX5_build 6 = .ok (.getfield 46, 3) := by decide +kernel
theorem dX5_build_9 : decode cX5_build 9 = .ok (.iload_n 2, 1) := by decide +kernel
theorem dX5_build_10 : decode cX5_build 10 = .ok (.iaload, 1) := by decide +kernel
theorem dX5_build_11 : decode cX5_build 11 = .ok (.istore_n 3, 1) := by decide +kernel
theorem dX5_build_12 : decode cX5_build 12 = .ok (.iconst 0, 1) := by decide +kernel
theorem dX5_build_13 : decode cX5_build 13 = .ok (.istore 4, 2) := by decide +kernel
theorem dX5_build_15 : decode cX5_build 15 = .ok (.iload 4, 2) := by decide +kernel
theorem dX5_build_17 : decode cX5_build 17 = .ok (.aload_n 1, 1) := by decide +kernel
theorem dX5_build_18 : decode cX5_build 18 = .ok (.getfield 51, 3) := by decide +kernel
theorem dX5_build_21 : decode cX5_build 21 = .ok (.iload_n 2, 1) := by decide +kernel
theorem dX5_build_22 : decode cX5_build 22 = .ok (.iaload, 1) := by decide +kernel
theorem dX5_build_23 : decode cX5_build 23 = .ok (.if_icmp .ge 48, 3) := by decide +kernel
theorem dX5_build_26 : decode cX5_build 26 = .ok (.aload_n 0, 1) := by decide +kernel
theorem dX5_build_27 : decode cX5_build 27 = .ok (.getfield 32, 3) := by decide +kernel
theorem dX5_build_30 : decode cX5_build 30 = .ok (.iload 4, 2) := by decide +kernel
theorem dX5_build_32 : decode cX5_build 32 = .ok (.aload_n 0, 1) := by decide +kernel
theorem dX5_build_33 : decode cX5_build 33 = .ok (.getfield 42, 3) := by decide +kernel
theorem dX5_build_36 : decode cX5_build 36 = .ok (.iastore, 1) := by decide +kernel
theorem dX5_build_37 : decode cX5_build 37 = .ok (.aload_n 1, 1) := by decide +kernel
theorem dX5_build_38 : decode cX5_build 38 = .ok (.getfield 54, 3) := by decide +kernel
theorem dX5_build_41 : decode cX5_build 41 = .ok (.iload_n 3, 1) := by decide +kernel
theorem dX5_build_42 : decode cX5_build 42 = .ok (.iload 4, 2) := by decide +kernel
theorem dX5_build_44 : decode cX5_build 44 = .ok (.iadd, 1) := by decide +kernel
theorem dX5_build_45 : decode cX5_build 45 = .ok (.iaload, 1) := by decide +kernel
theorem dX5_build_46 : decode cX5_build 46 = .ok (.iconst (-1), 1) := by decide +kernel
theorem dX5_build_47 : decode cX5_build 47 = .ok (.if_icmp .eq 18, 3) := by decide +kernel
theorem dX5_build_50 : decode cX5_build 50 = .ok (.aload_n 0, 1) := by decide +kernel
theorem dX5_build_51 : decode cX5_build 51 = .ok (.aload_n 1, 1) := by decide +kernel
theorem dX5_build_52 : decode cX5_build 52 = .ok (.iload_n 3, 1) := by decide +kernel
theorem dX5_build_53 : decode cX5_build 53 = .ok (.iload 4, 2) := by decide +kernel
theorem dX5_build_55 : decode cX5_build 55 = .ok (.iadd, 1) := by decide +kernel
theorem dX5_build_56 : decode cX5_build 56 = .ok (.aload_n 1, 1) := by decide +kernel
theorem dX5_build_57 : decode cX5_build 57 = .ok (.getfield 57, 3) := by decide +kernel
theorem dX5_build_60 : decode cX5_build 60 = .ok (.iload_n 2, 1) := by decide +kernel
theorem dX5_build_61 : decode cX5_build 61 = .ok (.iaload, 1) := by decide +kernel
theorem dX5_build_62 : decode cX5_build 62 = .ok (.invokevirtual 60, 3) := by decide +kernel
theorem dX5_build_65 : decode cX5_build 65 = .ok (.iinc 4 1, 3) := by decide +kernel
theorem dX5_build_68 : decode cX5_build 68 = .ok (.goto (-53), 3) := by decide +kernel
theorem dX5_build_71 : decode cX5_build 71 = .ok (.aload_n 0, 1) := by decide +kernel
theorem dX5_build_72 : decode cX5_build 72 = .ok (.invokevirtual 64, 3) := by decide +kernel
theorem dX5_build_75 : decode cX5_build 75 = .ok (.return_, 1) := by decide +kernel
theorem dX5_become_0 : decode cX5_become 0 = .ok (.aload_n 1, 1) := by decide +kernel
theorem dX5_become_1 : decode cX5_become 1 = .ok (.getfield 67, 3) := by decide +kernel
theorem dX5_become_4 : decode cX5_become 4 = .ok (.iload_n 2, 1) := by decide +kernel
theorem dX5_become_5 : decode cX5_become 5 = .ok (.iaload, 1) := by decide +kernel
theorem dX5_become_6 : decode cX5_become 6 = .ok (.istore 4, 2) := by decide +kernel
theorem dX5_become_8 : decode cX5_become 8 = .ok (.iload_n 3, 1) := by decide +kernel
theorem dX5_become_9 : decode cX5_become 9 = .ok (.aload_n 1, 1) := by decide +kernel
theorem dX5_become_10 : decode cX5_become 10 = .ok (.getfield 54, 3) := by decide +kernel
theorem dX5_become_13 : decode cX5_become 13 = .ok (.iload_n 2, 1) := by decide +kernel
theorem dX5_become_14 : decode cX5_become 14 = .ok (.iaload, 1) := by decide +kernel
theorem dX5_become_15 : decode cX5_become 15 = .ok (.iadd, 1) := by decide +kernel
theorem dX5_become_16 : decode cX5_become 16 = .ok (.istore 5, 2) := by decide +kernel
theorem dX5_become_18 : decode cX5_become 18 = .ok (.aload_n 1, 1) := by decide +kernel
theorem dX5_become_19 : decode cX5_become 19 = .ok (.getfield 68, 3) := by decide +kernel
theorem dX5_become_22 : decode cX5_become 22 = .ok (.iload_n 2, 1) := by decide +kernel
theorem dX5_become_23 : decode cX5_become 23 = .ok (.iaload, 1) := by decide +kernel
theorem dX5_become_24 : decode cX5_become 24 = .ok (.tableswitch 284 0 17 #[88, 100, 112, 284, 284, 284, 284, 284, 284, 126, 140, 161, 164, 187, 213, 231, 245, 262], 88) := by decide +kernel
theorem dX5_become_112 : decode cX5_become 112 = .ok (.aload_n 0, 1) := by decide +kernel
theorem dX5_become_113 : decode cX5_become 113 = .ok (.iconst 0, 1) := by decide +kernel
theorem dX5_become_114 : decode cX5_become 114 = .ok (.iload 5, 2) := by decide +kernel
theorem dX5_become_116 : decode cX5_become 116 = .ok (.iload 4, 2) := by decide +kernel
theorem dX5_become_118 : decode cX5_become 118 = .ok (.invokevirtual 71, 3) := by decide +kernel
theorem dX5_become_121 : decode cX5_become 121 = .ok (.goto 218, 3) := by decide +kernel
theorem dX5_become_124 : decode cX5_become 124 = .ok (.aload_n 0, 1) := by decide +kernel
theorem dX5_become_125 : decode cX5_become 125 = .ok (.iconst 1, 1) := by decide +kernel
theorem dX5_become_126 : decode cX5_become 126 = .ok (.iload 5, 2) := by decide +kernel
theorem dX5_become_128 : decode cX5_become 128 = .ok (.iload 4, 2) := by decide +kernel
theorem dX5_become_130 : decode cX5_become 130 = .ok (.invokevirtual 75, 3) := by decide +kernel
theorem dX5_become_133 : decode cX5_become 133 = .ok (.goto 206, 3) := by decide +kernel
theorem dX5_become_136 : decode cX5_become 136 = .ok (.aload_n 0, 1) := by decide +kernel
theorem dX5_become_137 : decode cX5_become 137 = .ok (.iconst 1, 1) := by decide +kernel
theorem dX5_become_138 : decode cX5_become 138 = .ok (.iload 4, 2) := by decide +kernel
theorem dX5_become_140 : decode cX5_become 140 = .ok (.iload 5, 2) := by decide +kernel
theorem dX5_become_142 : decode cX5_become 142 = .ok (.iconst 1, 1) := by decide +kernel
theorem dX5_become_143 : decode cX5_become 143 = .ok (.isub, 1) := by decide +kernel
theorem dX5_become_144 : decode cX5_become 144 = .ok (.invokevirtual 75, 3) := by decide +kernel
theorem dX5_become_147 : decode cX5_become 147 = .ok (.goto 192, 3) := by decide +kernel
theorem dX5_become_150 : decode cX5_become 150 = .ok (.aload_n 0, 1) := by decide +kernel
theorem dX5_become_151 : decode cX5_become 151 = .ok (.iconst 1, 1) := by decide +kernel
theorem dX5_become_152 : decode cX5_become 152 = .ok (.iload 5, 2) := by decide +kernel
theorem dX5_become_154 : decode cX5_become 154 = .ok (.iload 5, 2) := by decide +kernel
theorem dX5_become_156 : decode cX5_become 156 = .ok (.iconst 1, 1) := by decide +kernel
theorem dX5_become_157 : decode cX5_become 157 = .ok (.isub, 1) := by decide +kernel
theorem dX5_become_158 : decode cX5_become 158 = .ok (.invokevirtual 75, 3) := by decide +kernel
theorem dX5_become_161 : decode cX5_become 161 = .ok (.goto 178, 3) := by decide +kernel
theorem dX5_become_164 : decode cX5_become 164 = .ok (.aload_n 0, 1) := by decide +kernel
theorem dX5_become_165 : decode cX5_become 165 = .ok (.iconst 3, 1) := by decide +kernel
theorem dX5_become_166 : decode cX5_become 166 = .ok (.iconst (-1), 1) := by decide +kernel
theorem dX5_become_167 : decode cX5_become 167 = .ok (.iload 5, 2) := by decide +kernel
theorem dX5_become_169 : decode cX5_become 169 = .ok (.iconst 1, 1) := by decide +kernel
theorem dX5_become_170 : decode cX5_become 170 = .ok (.isub, 1) := by decide +kernel
theorem dX5_become_171 : decode cX5_become 171 = .ok (.invokevirtual 75, 3) := by decide +kernel
theorem dX5_become_174 : decode cX5_become 174 = .ok (.aload_n 0, 1) := by decide +kernel
theorem dX5_become_175 : decode cX5_become 175 = .ok (.iload 5, 2) := by decide +kernel
theorem dX5_become_177 : decode cX5_become 177 = .ok (.iconst 2, 1) := by decide +kernel
theorem dX5_become_178 : decode cX5_become 178 = .ok (.isub, 1) := by decide +kernel
theorem dX5_become_179 : decode cX5_become 179 = .ok (.invokevirtual 78, 3) := by decide +kernel
theorem dX5_become_182 : decode cX5_become 182 = .ok (.goto 157, 3) := by decide +kernel
theorem dX5_become_185 : decode cX5_become 185 = .ok (.goto 154, 3) := by decide +kernel
theorem dX5_become_188 : decode cX5_become 188 = .ok (.aload_n 0, 1) := by decide +kernel
theorem dX5_become_189 : decode cX5_become 189 = .ok (.iconst 4, 1) := by decide +kernel
theorem dX5_become_190 : decode cX5_become 190 = .ok (.iconst (-1), 1) := by decide +kernel
theorem dX5_become_191 : decode cX5_become 191 = .ok (.iconst 0, 1) := by decide +kernel
theorem dX5_become_192 : decode cX5_become 192 = .ok (.invokevirtual 71, 3) := by decide +kernel
theorem dX5_become_195 : decode cX5_become 195 = .ok (.aload_n 0, 1) := by decide +kernel
theorem dX5_become_196 : decode cX5_become 196 = .ok (.getfield 18, 3) := by decide +kernel
theorem dX5_become_199 : decode cX5_become 199 = .ok (.aload_n 0, 1) := by decide +kernel
theorem dX5_become_200 : decode cX5_become 200 = .ok (.getfield 42, 3) := by decide +kernel
theorem dX5_become_203 : decode cX5_become 203 = .ok (.iconst 1, 1) := by decide +kernel
theorem dX5_become_204 : decode cX5_become 204 = .ok (.isub, 1) := by decide +kernel
theorem dX5_become_205 : decode cX5_become 205 = .ok (.iload 4, 2) := by decide +kernel
theorem dX5_become_207 : decode cX5_become 207 = .ok (.iastore, 1) := by decide +kernel
theorem dX5_become_208 : decode cX5_become 208 = .ok (.goto 131, 3) := by decide +kernel
theorem dX5_become_211 : decode cX5_become 211 = .ok (.aload_n 0, 1) := by decide +kernel
theorem dX5_become_212 : decode cX5_become 212 = .ok (.iconst 5, 1) := by decide +kernel
theorem dX5_become_213 : decode cX5_become 213 = .ok (.iconst (-1), 1) := by decide +kernel
theorem dX5_become_214 : decode cX5_become 214 = .ok (.iload 5, 2) := by decide +kernel
theorem dX5_become_216 : decode cX5_become 216 = .ok (.iconst 1, 1) := by decide +kernel
theorem dX5_become_217 : decode cX5_become 217 = .ok (.isub, 1) := by decide +kernel
theorem dX5_become_218 : decode cX5_become 218 = .ok (.invokevirtual 75, 3) := by decide +kernel
theorem dX5_become_221 : decode cX5_become 221 = .ok (.aload_n 0, 1) := by decide +kernel
theorem dX5_become_222 : decode cX5_become 222 = .ok (.getfield 18, 3) := by decide +kernel
theorem dX5_become_225 : decode cX5_become 225 = .ok (.aload_n 0, 1) := by decide +kernel
theorem dX5_become_226 : decode cX5_become 226 = .ok (.getfield 42, 3) := by decide +kernel
theorem dX5_become_229 : decode cX5_become 229 = .ok (.iconst 1, 1) := by decide +kernel
theorem dX5_become_230 : decode cX5_become 230 = .ok (.isub, 1) := by decide +kernel
theorem dX5_become_231 : decode cX5_become 231 = .ok (.iload 4, 2) := by decide +kernel
theorem dX5_become_233 : decode cX5_become 233 = .ok (.iastore, 1) := by decide +kernel
theorem dX5_become_234 : decode cX5_become 234 = .ok (.goto 105, 3) := by decide +kernel
theorem dX5_become_237 : decode cX5_become 237 = .ok (.aload_n 0, 1) := by decide +kernel
theorem dX5_become_238 : decode cX5_become 238 = .ok (.iload 4, 2) := by decide +kernel
theorem dX5_become_240 : decode cX5_become 240 = .ok (.iload 5, 2) := by decide +kernel
theorem dX5_become_242 : decode cX5_become 242 = .ok (.aload_n 1, 1) := by decide +kernel
theorem dX5_become_243 : decode cX5_become 243 = .ok (.getfield 82, 3) := by decide +kernel
theorem dX5_become_246 : decode cX5_become 246 = .ok (.iload 4, 2) := by decide +kernel
theorem dX5_become_248 : decode cX5_become 248 = .ok (.iaload, 1) := by decide +kernel
theorem dX5_become_249 : decode cX5_become 249 = .ok (.invokevirtual 85, 3) := by decide +kernel
theorem dX5_become_252 : decode cX5_become 252 = .ok (.goto 87, 3) := by decide +kernel
theorem dX5_become_255 : decode cX5_become 255 = .ok (.aload_n 0, 1) := by decide +kernel
theorem dX5_become_256 : decode cX5_become 256 = .ok (.bipush 6, 2) := by decide +kernel
theorem dX5_become_258 : decode cX5_become 258 = .ok (.iconst (-1), 1) := by decide +kernel
theorem dX5_become_259 : decode cX5_become 259 = .ok (.iload 5, 2) := by decide +kernel
theorem dX5_become_261 : decode cX5_become 261 = .ok (.iconst 1, 1) := by decide +kernel
theorem dX5_become_262 : decode cX5_become 262 = .ok (.isub, 1) := by decide +kernel
theorem dX5_become_263 : decode cX5_become 263 = .ok (.invokevirtual 75, 3) := by decide +kernel
theorem dX5_become_266 : decode cX5_become 266 = .ok (.goto 73, 3) := by decide +kernel
theorem dX5_become_269 : decode cX5_become 269 = .ok (.aload_n 0, 1) := by decide +kernel
theorem dX5_become_270 : decode cX5_become 270 = .ok (.bipush 7, 2) := by decide +kernel
theorem dX5_become_272 : decode cX5_become 272 = .ok (.iload 5, 2) := by decide +kernel
theorem dX5_become_274 : decode cX5_become 274 = .ok (.iconst 1, 1) := by decide +kernel
theorem dX5_become_275 : decode cX5_become 275 = .ok (.isub, 1) := by decide +kernel
theorem dX5_become_276 : decode cX5_become 276 = .ok (.iload 5, 2) := by decide +kernel
theorem dX5_become_278 : decode cX5_become 278 = .ok (.iconst 1, 1) := by decide +kernel
theorem dX5_become_279 : decode cX5_become 279 = .ok (.isub, 1) := by decide +kernel
theorem dX5_become_280 : decode cX5_become 280 = .ok (.invokevirtual 75, 3) := by decide +kernel
theorem dX5_become_283 : decode cX5_become 283 = .ok (.goto 56, 3) := by decide +kernel
theorem dX5_become_286 : decode cX5_become 286 = .ok (.aload_n 0, 1) := by decide +kernel
theorem dX5_become_287 : decode cX5_become 287 = .ok (.bipush 8, 2) := by decide +kernel
theorem dX5_become_289 : decode cX5_become 289 = .ok (.iconst (-1), 1) := by decide +kernel
theorem dX5_become_290 : decode cX5_become 290 = .ok (.iload 5, 2) := by decide +kernel
theorem dX5_become_292 : decode cX5_become 292 = .ok (.iconst 1, 1) := by decide +kernel
theorem dX5_become_293 : decode cX5_become 293 = .ok (.isub, 1) := by decide +kernel
theorem dX5_become_294 : decode cX5_become 294 = .ok (.invokevirtual 75, 3) := by decide +kernel
theorem dX5_become_297 : decode cX5_become 297 = .ok (.aload_n 0, 1) := by decide +kernel
theorem dX5_become_298 : decode cX5_become 298 = .ok (.iload 5, 2) := by decide +kernel
theorem dX5_become_300 : decode cX5_become 300 = .ok (.iconst 2, 1) := by decide +kernel
theorem dX5_become_301 : decode cX5_become 301 = .ok (.isub, 1) := by decide +kernel
theorem dX5_become_302 : decode cX5_become 302 = .ok (.invokevirtual 78, 3) := by decide +kernel
theorem dX5_become_305 : decode cX5_become 305 = .ok (.goto 34, 3) := by decide +kernel
theorem dX5_become_308 : decode cX5_become 308 = .ok (.aload_n 0, 1) := by decide +kernel
theorem dX5_become_309 : decode cX5_become 309 = .ok (.iconst 2, 1) := by decide +kernel
theorem dX5_become_310 : decode cX5_become 310 = .ok (.iload 5, 2) := by decide +kernel
theorem dX5_become_312 : decode cX5_become 312 = .ok (.iconst 2, 1) := by decide +kernel
theorem dX5_become_313 : decode cX5_become 313 = .ok (.isub, 1) := by decide +kernel
theorem dX5_become_314 : decode cX5_become 314 = .ok (.aload_n 1, 1) := by decide +kernel
theorem dX5_become_315 : decode cX5_become 315 = .ok (.getfield 68, 3) := by decide +kernel
theorem dX5_become_318 : decode cX5_become 318 = .ok (.iload_n 2, 1) := by decide +kernel
theorem dX5_become_319 : decode cX5_become 319 = .ok (.iaload, 1) := by decide +kernel
theorem dX5_become_320 : decode cX5_become 320 = .ok (.invokevirtual 71, 3) := by decide +kernel
theorem dX5_become_323 : decode cX5_become 323 = .ok (.aload_n 0, 1) := by decide +kernel
theorem dX5_become_324 : decode cX5_become 324 = .ok (.iload 5, 2) := by decide +kernel
theorem dX5_become_326 : decode cX5_become 326 = .ok (.iconst 2, 1) := by decide +kernel
theorem dX5_become_327 : decode cX5_become 327 = .ok (.isub, 1) := by decide +kernel
theorem dX5_become_328 : decode cX5_become 328 = .ok (.invokevirtual 78, 3) := by decide +kernel
theorem dX5_become_331 : decode cX5_become 331 = .ok (.aload_n 0, 1) := by decide +kernel
theorem dX5_become_332 : decode cX5_become 332 = .ok (.iload 5, 2) := by decide +kernel
theorem dX5_become_334 : decode cX5_become 334 = .ok (.iconst 1, 1) := by decide +kernel
theorem dX5_become_335 : decode cX5_become 335 = .ok (.isub, 1) := by decide +kernel
theorem dX5_become_336 : decode cX5_become 336 = .ok (.invokevirtual 78, 3) := by decide +kernel
theorem dX5_become_339 : decode cX5_become 339 = .ok (.return_, 1) := by decide +kernel
theorem dX5_addCall_0 : decode cX5_addCall 0 = .ok (.aload_n 0, 1) := by decide +kernel
theorem dX5_addCall_1 : decode cX5_addCall 1 = .ok (.bipush 13, 2) := by decide +kernel
theorem dX5_addCall_3 : decode cX5_addCall 3 = .ok (.iload_n 2, 1) := by decide +kernel
theorem dX5_addCall_4 : decode cX5_addCall 4 = .ok (.iload_n 3, 1) := by decide +kernel
theorem dX5_addCall_5 : decode cX5_addCall 5 = .ok (.isub, 1) := by decide +kernel
theorem dX5_addCall_6 : decode cX5_addCall 6 = .ok (.iload_n 1, 1) := by decide +kernel
theorem dX5_addCall_7 : decode cX5_addCall 7 = .ok (.invokevirtual 71, 3) := by decide +kernel
theorem dX5_addCall_10 : decode cX5_addCall 10 = .ok (.iconst 0, 1) := by decide +kernel
theorem dX5_addCall_11 : decode cX5_addCall 11 = .ok (.istore 4, 2) := by decide +kernel
theorem dX5_addCall_13 : decode cX5_addCall 13 = .ok (.iload 4, 2) := by decide +kernel
theorem dX5_addCall_15 : decode cX5_addCall 15 = .ok (.iload_n 3, 1) := by decide +kernel
theorem dX5_addCall_16 : decode cX5_addCall 16 = .ok (.if_icmp .ge 19, 3) := by decide +kernel
theorem dX5_addCall_19 : decode cX5_addCall 19 = .ok (.aload_n 0, 1) := by decide +kernel
theorem dX5_addCall_20 : decode cX5_addCall 20 = .ok (.iload_n 2, 1) := by decide +kernel
theorem dX5_addCall_21 : decode cX5_addCall 21 = .ok (.iload_n 3, 1) := by decide +kernel
theorem dX5_addCall_22 : decode cX5_addCall 22 = .ok (.isub, 1) := by decide +kernel
theorem dX5_addCall_23 : decode cX5_addCall 23 = .ok (.iload 4, 2) := by decide +kernel
theorem dX5_addCall_25 : decode cX5_addCall 25 = .ok (.iadd, 1) := by decide +kernel
theorem dX5_addCall_26 : decode cX5_addCall 26 = .ok (.invokevirtual 78, 3) := by decide +kernel
theorem dX5_addCall_29 : decode cX5_addCall 29 = .ok (.iinc 4 1, 3) := by decide +kernel
theorem dX5_addCall_32 : decode cX5_addCall 32 = .ok (.goto (-19), 3) := by decide +kernel
theorem dX5_addCall_35 : decode cX5_addCall 35 = .ok (.return_, 1) := by decide +kernel
theorem dX5_addReading_0 : decode cX5_addReading 0 = .ok (.aload_n 0, 1) := by decide +kernel
theorem dX5_addReading_1 : decode cX5_addReading 1 = .ok (.iload_n 1, 1) := by decide +kernel
theorem dX5_addReading_2 : decode cX5_addReading 2 = .ok (.iload_n 2, 1) := by decide +kernel
theorem dX5_addReading_3 : decode cX5_addReading 3 = .ok (.iconst 0, 1) := by decide +kernel
theorem dX5_addReading_4 : decode cX5_addReading 4 = .ok (.invokevirtual 71, 3) := by decide +kernel
theorem dX5_addReading_7 : decode cX5_addReading 7 = .ok (.aload_n 0, 1) := by decide +kernel
theorem dX5_addReading_8 : decode cX5_addReading 8 = .ok (.iload_n 3, 1) := by decide +kernel
theorem dX5_addReading_9 : decode cX5_addReading 9 = .ok (.invokevirtual 78, 3) := by decide +kernel
theorem dX5_addReading_12 : decode cX5_addReading 12 = .ok (.return_, 1) := by decide +kernel
theorem dX5_add_0 : decode cX5_add 0 = .ok (.aload_n 0, 1) := by decide +kernel
theorem dX5_add_1 : decode cX5_add 1 = .ok (.getfield 9, 3) := by decide +kernel
theorem dX5_add_4 : decode cX5_add 4 = .ok (.aload_n 0, 1) := by decide +kernel
theorem dX5_add_5 : decode cX5_add 5 = .ok (.getfield 42, 3) := by decide +kernel
theorem dX5_add_8 : decode cX5_add 8 = .ok (.iload_n 1, 1) := by decide +kernel
theorem dX5_add_9 : decode cX5_add 9 = .ok (.iastore, 1) := by decide +kernel
theorem dX5_add_10 : decode cX5_add 10 = .ok (.aload_n 0, 1) := by decide +kernel
theorem dX5_add_11 : decode cX5_add 11 = .ok (.getfield 21, 3) := by decide +kernel
theorem dX5_add_14 : decode cX5_add 14 = .ok (.aload_n 0, 1) := by decide +kernel
theorem dX5_add_15 : decode cX5_add 15 = .ok (.getfield 42, 3) := by decide +kernel
theorem dX5_add_18 : decode cX5_add 18 = .ok (.iload_n 2, 1) := by decide +kernel
theorem dX5_add_19 : decode cX5_add 19 = .ok (.iastore, 1) := by decide +kernel
theorem dX5_add_20 : decode cX5_add 20 = .ok (.aload_n 0, 1) := by decide +kernel
theorem dX5_add_21 : decode cX5_add 21 = .ok (.getfield 15, 3) := by decide +kernel
theorem dX5_add_24 : decode cX5_add 24 = .ok (.aload_n 0, 1) := by decide +kernel
theorem dX5_add_25 : decode cX5_add 25 = .ok (.getfield 42, 3) := by decide +kernel
theorem dX5_add_28 : decode cX5_add 28 = .ok (.iload_n 3, 1) := by decide +kernel
theorem dX5_add_29 : decode cX5_add 29 = .ok (.iastore, 1) := by decide +kernel
theorem dX5_add_30 : decode cX5_add 30 = .ok (.aload_n 0, 1) := by decide +kernel
theorem dX5_add_31 : decode cX5_add 31 = .ok (.getfield 18, 3) := by decide +kernel
theorem dX5_add_34 : decode cX5_add 34 = .ok (.aload_n 0, 1) := by decide +kernel
theorem dX5_add_35 : decode cX5_add 35 = .ok (.getfield 42, 3) := by decide +kernel
theorem dX5_add_38 : decode cX5_add 38 = .ok (.iconst 0, 1) := by decide +kernel
theorem dX5_add_39 : decode cX5_add 39 = .ok (.iastore, 1) := by decide +kernel
theorem dX5_add_40 : decode cX5_add 40 = .ok (.aload_n 0, 1) := by decide +kernel
theorem dX5_add_41 : decode cX5_add 41 = .ok (.getfield 24, 3) := by decide +kernel
theorem dX5_add_44 : decode cX5_add 44 = .ok (.aload_n 0, 1) := by decide +kernel
theorem dX5_add_45 : decode cX5_add 45 = .ok (.getfield 42, 3) := by decide +kernel
theorem dX5_add_48 : decode cX5_add 48 = .ok (.iconst 0, 1) := by decide +kernel
theorem dX5_add_49 : decode cX5_add 49 = .ok (.iastore, 1) := by decide +kernel
theorem dX5_add_50 : decode cX5_add 50 = .ok (.aload_n 0, 1) := by decide +kernel
theorem dX5_add_51 : decode cX5_add 51 = .ok (.dup, 1) := by decide +kernel
theorem dX5_add_52 : decode cX5_add 52 = .ok (.getfield 42, 3) := by decide +kernel
theorem dX5_add_55 : decode cX5_add 55 = .ok (.iconst 1, 1) := by decide +kernel
theorem dX5_add_56 : decode cX5_add 56 = .ok (.iadd, 1) := by decide +kernel
theorem dX5_add_57 : decode cX5_add 57 = .ok (.putfield 42, 3) := by decide +kernel
theorem dX5_add_60 : decode cX5_add 60 = .ok (.return_, 1) := by decide +kernel
theorem dX5_addRead_0 : decode cX5_addRead 0 = .ok (.aload_n 0, 1) := by decide +kernel
theorem dX5_addRead_1 : decode cX5_addRead 1 = .ok (.getfield 42, 3) := by decide +kernel
theorem dX5_addRead_4 : decode cX5_addRead 4 = .ok (.iconst 1, 1) := by decide +kernel
theorem dX5_addRead_5 : decode cX5_addRead 5 = .ok (.isub, 1) := by decide +kernel
theorem dX5_addRead_6 : decode cX5_addRead 6 = .ok (.istore_n 2, 1) := by decide +kernel
theorem dX5_addRead_7 : decode cX5_addRead 7 = .ok (.aload_n 0, 1) := by decide +kernel
theorem dX5_addRead_8 : decode cX5_addRead 8 = .ok (.getfield 29, 3) := by decide +kernel
theorem dX5_addRead_11 : decode cX5_addRead 11 = .ok (.aload_n 0, 1) := by decide +kernel
theorem dX5_addRead_12 : decode cX5_addRead 12 = .ok (.getfield 24, 3) := by decide +kernel
theorem dX5_addRead_15 : decode cX5_addRead 15 = .ok (.iload_n 2, 1) := by decide +kernel
theorem dX5_addRead_16 : decode cX5_addRead 16 = .ok (.iaload, 1) := by decide +kernel
theorem dX5_addRead_17 : decode cX5_addRead 17 = .ok (.aaload, 1) := by decide +kernel
theorem dX5_addRead_18 : decode cX5_addRead 18 = .ok (.iload_n 2, 1) := by decide +kernel
theorem dX5_addRead_19 : decode cX5_addRead 19 = .ok (.iload_n 1, 1) := by decide +kernel
theorem dX5_addRead_20 : decode cX5_addRead 20 = .ok (.iastore, 1) := by decide +kernel
theorem dX5_addRead_21 : decode cX5_addRead 21 = .ok (.aload_n 0, 1) := by decide +kernel
theorem dX5_addRead_22 : decode cX5_addRead 22 = .ok (.getfield 24, 3) := by decide +kernel
theorem dX5_addRead_25 : decode cX5_addRead 25 = .ok (.iload_n 2, 1) := by decide +kernel
theorem dX5_addRead_26 : decode cX5_addRead 26 = .ok (.dup2, 1) := by decide +kernel
theorem dX5_addRead_27 : decode cX5_addRead 27 = .ok (.iaload, 1) := by decide +kernel
theorem dX5_addRead_28 : decode cX5_addRead 28 = .ok (.iconst 1, 1) := by decide +kernel
theorem dX5_addRead_29 : decode cX5_addRead 29 = .ok (.iadd, 1) := by decide +kernel
theorem dX5_addRead_30 : decode cX5_addRead 30 = .ok (.iastore, 1) := by decide +kernel
theorem dX5_addRead_31 : decode cX5_addRead 31 = .ok (.return_, 1) := by decide +kernel
theorem dX5_aimAnew_0 : decode cX5_aimAnew 0 = .ok (.iconst 0, 1) := by decide +kernel
theorem dX5_aimAnew_1 : decode cX5_aimAnew 1 = .ok (.istore_n 1, 1) := by decide +kernel
theorem dX5_aimAnew_2 : decode cX5_aimAnew 2 = .ok (.iload_n 1, 1) := by decide +kernel
theorem dX5_aimAnew_3 : decode cX5_aimAnew 3 = .ok (.aload_n 0, 1) := by decide +kernel
theorem dX5_aimAnew_4 : decode cX5_aimAnew 4 = .ok (.getfield 42, 3) := by decide +kernel
theorem dX5_aimAnew_7 : decode cX5_aimAnew 7 = .ok (.if_icmp .ge 34, 3) := by decide +kernel
theorem dX5_aimAnew_10 : decode cX5_aimAnew 10 = .ok (.aload_n 0, 1) := by decide +kernel
theorem dX5_aimAnew_11 : decode cX5_aimAnew 11 = .ok (.iload_n 1, 1) := by decide +kernel
theorem dX5_aimAnew_12 : decode cX5_aimAnew 12 = .ok (.invokevirtual 88, 3) := by decide +kernel
theorem dX5_aimAnew_15 : decode cX5_aimAnew 15 = .ok (.ifCond .eq 20, 3) := by decide +kernel
theorem dX5_aimAnew_18 : decode cX5_aimAnew 18 = .ok (.aload_n 0, 1) := by decide +kernel
theorem dX5_aimAnew_19 : decode cX5_aimAnew 19 = .ok (.getfield 18, 3) := by decide +kernel
theorem dX5_aimAnew_22 : decode cX5_aimAnew 22 = .ok (.iload_n 1, 1) := by decide +kernel
theorem dX5_aimAnew_23 : decode cX5_aimAnew 23 = .ok (.aload_n 0, 1) := by decide +kernel
theorem dX5_aimAnew_24 : decode cX5_aimAnew 24 = .ok (.getfield 32, 3) := by decide +kernel
theorem dX5_aimAnew_27 : decode cX5_aimAnew 27 = .ok (.aload_n 0, 1) := by decide +kernel
theorem dX5_aimAnew_28 : decode cX5_aimAnew 28 = .ok (.getfield 18, 3) := by decide +kernel
theorem dX5_aimAnew_31 : decode cX5_aimAnew 31 = .ok (.iload_n 1, 1) := by decide +kernel
theorem dX5_aimAnew_32 : decode cX5_aimAnew 32 = .ok (.iaload, 1) := by decide +kernel
theorem dX5_aimAnew_33 : decode cX5_aimAnew 33 = .ok (.iaload, 1) := by decide +kernel
theorem dX5_aimAnew_34 : decode cX5_aimAnew 34 = .ok (.iastore, 1) := by decide +kernel
theorem dX5_aimAnew_35 : decode cX5_aimAnew 35 = .ok (.iinc 1 1, 3) := by decide +kernel
theorem dX5_aimAnew_38 : decode cX5_aimAnew 38 = .ok (.goto (-36), 3) := by decide +kernel
theorem dX5_aimAnew_41 : decode cX5_aimAnew 41 = .ok (.return_, 1) := by decide +kernel
theorem dX5_jumps_0 : decode cX5_jumps 0 = .ok (.aload_n 0, 1) := by decide +kernel
theorem dX5_jumps_1 : decode cX5_jumps 1 = .ok (.getfield 9, 3) := by decide +kernel
theorem dX5_jumps_4 : decode cX5_jumps 4 = .ok (.iload_n 1, 1) := by decide +kernel
theorem dX5_jumps_5 : decode cX5_jumps 5 = .ok (.iaload, 1) := by decide +kernel
theorem dX5_jumps_6 : decode cX5_jumps 6 = .ok (.iconst 4, 1) := by decide +kernel
theorem dX5_jumps_7 : decode cX5_jumps 7 = .ok (.if_icmp .eq 13, 3) := by decide +kernel
theorem dX5_jumps_10 : decode cX5_jumps 10 = .ok (.aload_n 0, 1) := by decide +kernel
theorem dX5_jumps_11 : decode cX5_jumps 11 = .ok (.getfield 9, 3) := by decide +kernel
theorem dX5_jumps_14 : decode cX5_jumps 14 = .ok (.iload_n 1, 1) := by decide +kernel
theorem dX5_jumps_15 : decode cX5_jumps 15 = .ok (.iaload, 1) := by decide +kernel
theorem dX5_jumps_16 : decode cX5_jumps 16 = .ok (.iconst 5, 1) := by decide +kernel
theorem dX5_jumps_17 : decode cX5_jumps 17 = .ok (.if_icmp .ne 7, 3) := by decide +kernel
theorem dX5_jumps_20 : decode cX5_jumps 20 = .ok (.iconst 1, 1) := by decide +kernel
theorem dX5_jumps_21 : decode cX5_jumps 21 = .ok (.goto 4, 3) := by decide +kernel
theorem dX5_jumps_24 : decode cX5_jumps 24 = .ok (.iconst 0, 1) := by decide +kernel
theorem dX5_jumps_25 : decode cX5_jumps 25 = .ok (.ireturn, 1) := by decide +kernel
theorem dX5_goesToNext_0 : decode cX5_goesToNext 0 = .ok (.aload_n 0, 1) := by decide +kernel
theorem dX5_goesToNext_1 : decode cX5_goesToNext 1 = .ok (.getfield 9, 3) := by decide +kernel
theorem dX5_goesToNext_4 : decode cX5_goesToNext 4 = .ok (.iload_n 1, 1) := by decide +kernel
theorem dX5_goesToNext_5 : decode cX5_goesToNext 5 = .ok (.iaload, 1) := by decide +kernel
theorem dX5_goesToNext_6 : decode cX5_goesToNext 6 = .ok (.iconst 4, 1) := by decide +kernel
theorem dX5_goesToNext_7 : decode cX5_goesToNext 7 = .ok (.if_icmp .eq 28, 3) := by decide +kernel
theorem dX5_goesToNext_10 : decode cX5_goesToNext 10 = .ok (.aload_n 0, 1) := by decide +kernel
theorem dX5_goesToNext_11 : decode cX5_goesToNext 11 = .ok (.getfield 9, 3) := by decide +kernel
theorem dX5_goesToNext_14 : decode cX5_goesToNext 14 = .ok (.iload_n 1, 1) := by decide +kernel
theorem dX5_goesToNext_15 : decode cX5_goesToNext 15 = .ok (.iaload, 1) := by decide +kernel
theorem dX5_goesToNext_16 : decode cX5_goesToNext 16 = .ok (.bipush 6, 2) := by decide +kernel
theorem dX5_goesToNext_18 : decode cX5_goesToNext 18 = .ok (.if_icmp .eq 17, 3) := by decide +kernel
theorem dX5_goesToNext_21 : decode cX5_goesToNext 21 = .ok (.iload_n 1, 1) := by decide +kernel
theorem dX5_goesToNext_22 : decode cX5_goesToNext 22 = .ok (.iconst 1, 1) := by decide +kernel
theorem dX5_goesToNext_23 : decode cX5_goesToNext 23 = .ok (.iadd, 1) := by decide +kernel
theorem dX5_goesToNext_24 : decode cX5_goesToNext 24 = .ok (.aload_n 0, 1) := by decide +kernel
theorem dX5_goesToNext_25 : decode cX5_goesToNext 25 = .ok (.getfield 42, 3) := by decide +kernel
theorem dX5_goesToNext_28 : decode cX5_goesToNext 28 = .ok (.if_icmp .ge 7, 3) := by decide +kernel
theorem dX5_goesToNext_31 : decode cX5_goesToNext 31 = .ok (.iconst 1, 1) := by decide +kernel
theorem dX5_goesToNext_32 : decode cX5_goesToNext 32 = .ok (.goto 4, 3) := by decide +kernel
theorem dX5_goesToNext_35 : decode cX5_goesToNext 35 = .ok (.iconst 0, 1) := by decide +kernel
theorem dX5_goesToNext_36 : decode cX5_goesToNext 36 = .ok (.ireturn, 1) := by decide +kernel
theorem dX5_readSet_0 : decode cX5_readSet 0 = .ok (.iconst 0, 1) := by decide +kernel
theorem dX5_readSet_1 : decode cX5_readSet 1 = .ok (.istore_n 2, 1) := by decide +kernel
theorem dX5_readSet_2 : decode cX5_readSet 2 = .ok (.iconst 0, 1) := by decide +kernel
theorem dX5_readSet_3 : decode cX5_readSet 3 = .ok (.istore_n 3, 1) := by decide +kernel
theorem dX5_readSet_4 : decode cX5_readSet 4 = .ok (.iload_n 3, 1) := by decide +kernel
theorem dX5_readSet_5 : decode cX5_readSet 5 = .ok (.aload_n 0, 1) := by decide +kernel
theorem dX5_readSet_6 : decode cX5_readSet 6 = .ok (.getfield 24, 3) := by decide +kernel
theorem dX5_readSet_9 : decode cX5_readSet 9 = .ok (.iload_n 1, 1) := by decide +kernel
theorem dX5_readSet_10 : decode cX5_readSet 10 = .ok (.iaload, 1) := by decide +kernel
theorem dX5_readSet_11 : decode cX5_readSet 11 = .ok (.if_icmp .ge 22, 3) := by decide +kernel
theorem dX5_readSet_14 : decode cX5_readSet 14 = .ok (.iload_n 2, 1) := by decide +kernel
theorem dX5_readSet_15 : decode cX5_readSet 15 = .ok (.iconst 1, 1) := by decide +kernel
theorem dX5_readSet_16 : decode cX5_readSet 16 = .ok (.aload_n 0, 1) := by decide +kernel
theorem dX5_readSet_17 : decode cX5_readSet 17 = .ok (.getfield 29, 3) := by decide +kernel
theorem dX5_readSet_20 : decode cX5_readSet 20 = .ok (.iload_n 3, 1) := by decide +kernel
theorem dX5_readSet_21 : decode cX5_readSet 21 = .ok (.aaload, 1) := by decide +kernel
theorem dX5_readSet_22 : decode cX5_readSet 22 = .ok (.iload_n 1, 1) := by decide +kernel
theorem dX5_readSet_23 : decode cX5_readSet 23 = .ok (.iaload, 1) := by decide +kernel
theorem dX5_readSet_24 : decode cX5_readSet 24 = .ok (.ishl, 1) := by decide +kernel
theorem dX5_readSet_25 : decode cX5_readSet 25 = .ok (.ior, 1) := by decide +kernel
theorem dX5_readSet_26 : decode cX5_readSet 26 = .ok (.istore_n 2, 1) := by decide +kernel
theorem dX5_readSet_27 : decode cX5_readSet 27 = .ok (.iinc 3 1, 3) := by decide +kernel
theorem dX5_readSet_30 : decode cX5_readSet 30 = .ok (.goto (-26), 3) := by decide +kernel
theorem dX5_readSet_33 : decode cX5_readSet 33 = .ok (.iload_n 2, 1) := by decide +kernel
theorem dX5_readSet_34 : decode cX5_readSet 34 = .ok (.ireturn, 1) := by decide +kernel
theorem dX5_writtenSet_0 : decode cX5_writtenSet 0 = .ok (.aload_n 0, 1) := by decide +kernel
theorem dX5_writtenSet_1 : decode cX5_writtenSet 1 = .ok (.getfield 9, 3) := by decide +kernel
theorem dX5_writtenSet_4 : decode cX5_writtenSet 4 = .ok (.iload_n 1, 1) := by decide +kernel
theorem dX5_writtenSet_5 : decode cX5_writtenSet 5 = .ok (.iaload, 1) := by decide +kernel
theorem dX5_writtenSet_6 : decode cX5_writtenSet 6 = .ok (.iconst 3, 1) := by decide +kernel
theorem dX5_writtenSet_7 : decode cX5_writtenSet 7 = .ok (.if_icmp .ne 9, 3) := by decide +kernel
theorem dX5_writtenSet_10 : decode cX5_writtenSet 10 = .ok (.aload_n 0, 1) := by decide +kernel
theorem dX5_writtenSet_11 : decode cX5_writtenSet 11 = .ok (.iload_n 1, 1) := by decide +kernel
theorem dX5_writtenSet_12 : decode cX5_writtenSet 12 = .ok (.invokevirtual 92, 3) := by decide +kernel
theorem dX5_writtenSet_15 : decode cX5_writtenSet 15 = .ok (.ireturn, 1) := by decide +kernel
theorem dX5_writtenSet_16 : decode cX5_writtenSet 16 = .ok (.aload_n 0, 1) := by decide +kernel
theorem dX5_writtenSet_17 : decode cX5_writtenSet 17 = .ok (.getfield 21, 3) := by decide +kernel
theorem dX5_writtenSet_20 : decode cX5_writtenSet 20 = .ok (.iload_n 1, 1) := by decide +kernel
theorem dX5_writtenSet_21 : decode cX5_writtenSet 21 = .ok (.iaload, 1) := by decide +kernel
theorem dX5_writtenSet_22 : decode cX5_writtenSet 22 = .ok (.iconst (-1), 1) := by decide +kernel
theorem dX5_writtenSet_23 : decode cX5_writtenSet 23 = .ok (.if_icmp .ne 7, 3) := by decide +kernel
theorem dX5_writtenSet_26 : decode cX5_writtenSet 26 = .ok (.iconst 0, 1) := by decide +kernel
theorem dX5_writtenSet_27 : decode cX5_writtenSet 27 = .ok (.goto 11, 3) := by decide +kernel
theorem dX5_writtenSet_30 : decode cX5_writtenSet 30 = .ok (.iconst 1, 1) := by decide +kernel
theorem dX5_writtenSet_31 : decode cX5_writtenSet 31 = .ok (.aload_n 0, 1) := by decide +kernel
theorem dX5_writtenSet_32 : decode cX5_writtenSet 32 = .ok (.getfield 21, 3) := by decide +kernel
theorem dX5_writtenSet_35 : decode cX5_writtenSet 35 = .ok (.iload_n 1, 1) := by decide +kernel
theorem dX5_writtenSet_36 : decode cX5_writtenSet 36 = .ok (.iaload, 1) := by decide +kernel
theorem dX5_writtenSet_37 : decode cX5_writtenSet 37 = .ok (.ishl, 1) := by decide +kernel
theorem dX5_writtenSet_38 : decode cX5_writtenSet 38 = .ok (.ireturn, 1) := by decide +kernel
theorem dX5_forward_0 : decode cX5_forward 0 = .ok (.aload_n 0, 1) := by decide +kernel
theorem dX5_forward_1 : decode cX5_forward 1 = .ok (.invokevirtual 96, 3) := by decide +kernel
theorem dX5_forward_4 : decode cX5_forward 4 = .ok (.iconst 0, 1) := by decide +kernel
theorem dX5_forward_5 : decode cX5_forward 5 = .ok (.istore_n 1, 1) := by decide +kernel
theorem dX5_forward_6 : decode cX5_forward 6 = .ok (.iload_n 1, 1) := by decide +kernel
theorem dX5_forward_7 : decode cX5_forward 7 = .ok (.aload_n 0, 1) := by decide +kernel
theorem dX5_forward_8 : decode cX5_forward 8 = .ok (.getfield 42, 3) := by decide +kernel
theorem dX5_forward_11 : decode cX5_forward 11 = .ok (.if_icmp .ge 86, 3) := by decide +kernel
theorem dX5_forward_14 : decode cX5_forward 14 = .ok (.aload_n 0, 1) := by decide +kernel
theorem dX5_forward_15 : decode cX5_forward 15 = .ok (.getfield 35, 3) := by decide +kernel
theorem dX5_forward_18 : decode cX5_forward 18 = .ok (.iload_n 1, 1) := by decide +kernel
theorem dX5_forward_19 : decode cX5_forward 19 = .ok (.baload, 1) := by decide +kernel
theorem dX5_forward_20 : decode cX5_forward 20 = .ok (.ifCond .eq 11, 3) := by decide +kernel
theorem dX5_forward_23 : decode cX5_forward 23 = .ok (.aload_n 0, 1) := by decide +kernel
theorem dX5_forward_24 : decode cX5_forward 24 = .ok (.getfield 39, 3) := by decide +kernel
theorem dX5_forward_27 : decode cX5_forward 27 = .ok (.iconst (-1), 1) := by decide +kernel
theorem dX5_forward_28 : decode cX5_forward 28 = .ok (.invokestatic 99, 3) := by decide +kernel
theorem dX5_forward_31 : decode cX5_forward 31 = .ok (.aload_n 0, 1) := by decide +kernel
theorem dX5_forward_32 : decode cX5_forward 32 = .ok (.iload_n 1, 1) := by decide +kernel
theorem dX5_forward_33 : decode cX5_forward 33 = .ok (.invokevirtual 105, 3) := by decide +kernel
theorem dX5_forward_36 : decode cX5_forward 36 = .ok (.aload_n 0, 1) := by decide +kernel
theorem dX5_forward_37 : decode cX5_forward 37 = .ok (.aload_n 0, 1) := by decide +kernel
theorem dX5_forward_38 : decode cX5_forward 38 = .ok (.iload_n 1, 1) := by decide +kernel
theorem dX5_forward_39 : decode cX5_forward 39 = .ok (.invokevirtual 108, 3) := by decide +kernel
theorem dX5_forward_42 : decode cX5_forward 42 = .ok (.invokevirtual 111, 3) := by decide +kernel
theorem dX5_forward_45 : decode cX5_forward 45 = .ok (.aload_n 0, 1) := by decide +kernel
theorem dX5_forward_46 : decode cX5_forward 46 = .ok (.getfield 9, 3) := by decide +kernel
theorem dX5_forward_49 : decode cX5_forward 49 = .ok (.iload_n 1, 1) := by decide +kernel
theorem dX5_forward_50 : decode cX5_forward 50 = .ok (.iaload, 1) := by decide +kernel
theorem dX5_forward_51 : decode cX5_forward 51 = .ok (.iconst 1, 1) := by decide +kernel
theorem dX5_forward_52 : decode cX5_forward 52 = .ok (.if_icmp .ne 39, 3) := by decide +kernel
theorem dX5_forward_55 : decode cX5_forward 55 = .ok (.aload_n 0, 1) := by decide +kernel
theorem dX5_forward_56 : decode cX5_forward 56 = .ok (.getfield 21, 3) := by decide +kernel
theorem dX5_forward_59 : decode cX5_forward 59 = .ok (.iload_n 1, 1) := by decide +kernel
theorem dX5_forward_60 : decode cX5_forward 60 = .ok (.iaload, 1) := by decide +kernel
theorem dX5_forward_61 : decode cX5_forward 61 = .ok (.aload_n 0, 1) := by decide +kernel
theorem dX5_forward_62 : decode cX5_forward 62 = .ok (.getfield 29, 3) := by decide +kernel
theorem dX5_forward_65 : decode cX5_forward 65 = .ok (.iconst 0, 1) := by decide +kernel
theorem dX5_forward_66 : decode cX5_forward 66 = .ok (.aaload, 1) := by decide +kernel
theorem dX5_forward_67 : decode cX5_forward 67 = .ok (.iload_n 1, 1) := by decide +kernel
theorem dX5_forward_68 : decode cX5_forward 68 = .ok (.iaload, 1) := by decide +kernel
theorem dX5_forward_69 : decode cX5_forward 69 = .ok (.if_icmp .eq 22, 3) := by decide +kernel
theorem dX5_forward_72 : decode cX5_forward 72 = .ok (.aload_n 0, 1) := by decide +kernel
theorem dX5_forward_73 : decode cX5_forward 73 = .ok (.getfield 39, 3) := by decide +kernel
theorem dX5_forward_76 : decode cX5_forward 76 = .ok (.aload_n 0, 1) := by decide +kernel
theorem dX5_forward_77 : decode cX5_forward 77 = .ok (.getfield 21, 3) := by decide +kernel
theorem dX5_forward_80 : decode cX5_forward 80 = .ok (.iload_n 1, 1) := by decide +kernel
theorem dX5_forward_81 : decode cX5_forward 81 = .ok (.iaload, 1) := by decide +kernel
theorem dX5_forward_82 : decode cX5_forward 82 = .ok (.aload_n 0, 1) := by decide +kernel
theorem dX5_forward_83 : decode cX5_forward 83 = .ok (.getfield 29, 3) := by decide +kernel
theorem dX5_forward_86 : decode cX5_forward 86 = .ok (.iconst 0, 1) := by decide +kernel
theorem dX5_forward_87 : decode cX5_forward 87 = .ok (.aaload, 1) := by decide +kernel
theorem dX5_forward_88 : decode cX5_forward 88 = .ok (.iload_n 1, 1) := by decide +kernel
theorem dX5_forward_89 : decode cX5_forward 89 = .ok (.iaload, 1) := by decide +kernel
theorem dX5_forward_90 : decode cX5_forward 90 = .ok (.iastore, 1) := by decide +kernel
theorem dX5_forward_91 : decode cX5_forward 91 = .ok (.iinc 1 1, 3) := by decide +kernel
theorem dX5_forward_94 : decode cX5_forward 94 = .ok (.goto (-88), 3) := by decide +kernel
theorem dX5_forward_97 : decode cX5_forward 97 = .ok (.return_, 1) := by decide +kernel
theorem dX5_markBlockStarts_0 : decode cX5_markBlockStarts 0 = .ok (.iconst 0, 1) := by decide +kernel
theorem dX5_markBlockStarts_1 : decode cX5_markBlockStarts 1 = .ok (.istore_n 1, 1) := by decide +kernel
theorem dX5_markBlockStarts_2 : decode cX5_markBlockStarts 2 = .ok (.iload_n 1, 1) := by decide +kernel
theorem dX5_markBlockStarts_3 : decode cX5_markBlockStarts 3 = .ok (.aload_n 0, 1) := by decide +kernel
theorem dX5_markBlockStarts_4 : decode cX5_markBlockStarts 4 = .ok (.getfield 42, 3) := by decide +kernel
theorem dX5_markBlockStarts_7 : decode cX5_markBlockStarts 7 = .ok (.if_icmp .ge 47, 3) := by decide +kernel
theorem dX5_markBlockStarts_10 : decode cX5_markBlockStarts 10 = .ok (.aload_n 0, 1) := by decide +kernel
theorem dX5_markBlockStarts_11 : decode cX5_markBlockStarts 11 = .ok (.getfield 35, 3) := by decide +kernel
theorem dX5_markBlockStarts_14 : decode cX5_markBlockStarts 14 = .ok (.iload_n 1, 1) := by decide +kernel
theorem dX5_markBlockStarts_15 : decode cX5_markBlockStarts 15 = .ok (.iload_n 1, 1) := by decide +kernel
theorem dX5_markBlockStarts_16 : decode cX5_markBlockStarts 16 = .ok (.ifCond .eq 26, 3) := by decide +kernel
theorem dX5_markBlockStarts_19 : decode cX5_markBlockStarts 19 = .ok (.aload_n 0, 1) := by decide +kernel
theorem dX5_markBlockStarts_20 : decode cX5_markBlockStarts 20 = .ok (.iload_n 1, 1) := by decide +kernel
theorem dX5_markBlockStarts_21 : decode cX5_markBlockStarts 21 = .ok (.iconst 1, 1) := by decide +kernel
theorem dX5_markBlockStarts_22 : decode cX5_markBlockStarts 22 = .ok (.isub, 1) := by decide +kernel
theorem dX5_markBlockStarts_23 : decode cX5_markBlockStarts 23 = .ok (.invokevirtual 88, 3) := by decide +kernel
theorem dX5_markBlockStarts_26 : decode cX5_markBlockStarts 26 = .ok (.ifCond .ne 16, 3) := by decide +kernel
theorem dX5_markBlockStarts_29 : decode cX5_markBlockStarts 29 = .ok (.aload_n 0, 1) := by decide +kernel
theorem dX5_markBlockStarts_30 : decode cX5_markBlockStarts 30 = .ok (.getfield 9, 3) := by decide +kernel
theorem dX5_markBlockStarts_33 : decode cX5_markBlockStarts 33 = .ok (.iload_n 1, 1) := by decide +kernel
theorem dX5_markBlockStarts_34 : decode cX5_markBlockStarts 34 = .ok (.iconst 1, 1) := by decide +kernel
theorem dX5_markBlockStarts_35 : decode cX5_markBlockStarts 35 = .ok (.isub, 1) := by decide +kernel
theorem dX5_markBlockStarts_36 : decode cX5_markBlockStarts 36 = .ok (.iaload, 1) := by decide +kernel
theorem dX5_markBlockStarts_37 : decode cX5_markBlockStarts 37 = .ok (.bipush 6, 2) := by decide +kernel
theorem dX5_markBlockStarts_39 : decode cX5_markBlockStarts 39 = .ok (.if_icmp .ne 7, 3) := by decide +kernel
theorem dX5_markBlockStarts_42 : decode cX5_markBlockStarts 42 = .ok (.iconst 1, 1) := by decide +kernel
theorem dX5_markBlockStarts_43 : decode cX5_markBlockStarts 43 = .ok (.goto 4, 3) := by decide +kernel
theorem dX5_markBlockStarts_46 : decode cX5_markBlockStarts 46 = .ok (.iconst 0, 1) := by decide +kernel
theorem dX5_markBlockStarts_47 : decode cX5_markBlockStarts 47 = .ok (.bastore, 1) := by decide +kernel
theorem dX5_markBlockStarts_48 : decode cX5_markBlockStarts 48 = .ok (.iinc 1 1, 3) := by decide +kernel
theorem dX5_markBlockStarts_51 : decode cX5_markBlockStarts 51 = .ok (.goto (-49), 3) := by decide +kernel
theorem dX5_markBlockStarts_54 : decode cX5_markBlockStarts 54 = .ok (.iconst 0, 1) := by decide +kernel
theorem dX5_markBlockStarts_55 : decode cX5_markBlockStarts 55 = .ok (.istore_n 1, 1) := by decide +kernel
theorem dX5_markBlockStarts_56 : decode cX5_markBlockStarts 56 = .ok (.iload_n 1, 1) := by decide +kernel
theorem dX5_markBlockStarts_57 : decode cX5_markBlockStarts 57 = .ok (.aload_n 0, 1) := by decide +kernel
theorem dX5_markBlockStarts_58 : decode cX5_markBlockStarts 58 = .ok (.getfield 42, 3) := by decide +kernel
theorem dX5_markBlockStarts_61 : decode cX5_markBlockStarts 61 = .ok (.if_icmp .ge 29, 3) := by decide +kernel
theorem dX5_markBlockStarts_64 : decode cX5_markBlockStarts 64 = .ok (.aload_n 0, 1) := by decide +kernel
theorem dX5_markBlockStarts_65 : decode cX5_markBlockStarts 65 = .ok (.iload_n 1, 1) := by decide +kernel
theorem dX5_markBlockStarts_66 : decode cX5_markBlockStarts 66 = .ok (.invokevirtual 88, 3) := by decide +kernel
theorem dX5_markBlockStarts_69 : decode cX5_markBlockStarts 69 = .ok (.ifCond .eq 15, 3) := by decide +kernel
theorem dX5_markBlockStarts_72 : decode cX5_markBlockStarts 72 = .ok (.aload_n 0, 1) := by decide +kernel
theorem dX5_markBlockStarts_73 : decode cX5_markBlockStarts 73 = .ok (.getfield 35, 3) := by decide +kernel
theorem dX5_markBlockStarts_76 : decode cX5_markBlockStarts 76 = .ok (.aload_n 0, 1) := by decide +kernel
theorem dX5_markBlockStarts_77 : decode cX5_markBlockStarts 77 = .ok (.getfield 18, 3) := by decide +kernel
theorem dX5_markBlockStarts_80 : decode cX5_markBlockStarts 80 = .ok (.iload_n 1, 1) := by decide +kernel
theorem dX5_markBlockStarts_81 : decode cX5_markBlockStarts 81 = .ok (.iaload, 1) := by decide +kernel
theorem dX5_markBlockStarts_82 : decode cX5_markBlockStarts 82 = .ok (.iconst 1, 1) := by decide +kernel
theorem dX5_markBlockStarts_83 : decode cX5_markBlockStarts 83 = .ok (.bastore, 1) := by decide +kernel
theorem dX5_markBlockStarts_84 : decode cX5_markBlockStarts 84 = .ok (.iinc 1 1, 3) := by decide +kernel
theorem dX5_markBlockStarts_87 : decode cX5_markBlockStarts 87 = .ok (.goto (-31), 3) := by decide +kernel
theorem dX5_markBlockStarts_90 : decode cX5_markBlockStarts 90 = .ok (.return_, 1) := by decide +kernel
theorem dX5_forwardReads_0 : decode cX5_forwardReads 0 = .ok (.aload_n 0, 1) := by decide +kernel
theorem dX5_forwardReads_1 : decode cX5_forwardReads 1 = .ok (.getfield 9, 3) := by decide +kernel
theorem dX5_forwardReads_4 : decode cX5_forwardReads 4 = .ok (.iload_n 1, 1) := by decide +kernel
theorem dX5_forwardReads_5 : decode cX5_forwardReads 5 = .ok (.iaload, 1) := by decide +kernel
theorem dX5_forwardReads_6 : decode cX5_forwardReads 6 = .ok (.iconst 3, 1) := by decide +kernel
theorem dX5_forwardReads_7 : decode cX5_forwardReads 7 = .ok (.if_icmp .ne 4, 3) := by decide +kernel
theorem dX5_forwardReads_10 : decode cX5_forwardReads 10 = .ok (.return_, 1) := by decide +kernel
theorem dX5_forwardReads_11 : decode cX5_forwardReads 11 = .ok (.iconst 0, 1) := by decide +kernel
theorem dX5_forwardReads_12 : decode cX5_forwardReads 12 = .ok (.istore_n 2, 1) := by decide +kernel
theorem dX5_forwardReads_13 : decode cX5_forwardReads 13 = .ok (.iload_n 2, 1) := by decide +kernel
theorem dX5_forwardReads_14 : decode cX5_forwardReads 14 = .ok (.aload_n 0, 1) := by decide +kernel
theorem dX5_forwardReads_15 : decode cX5_forwardReads 15 = .ok (.getfield 24, 3) := by decide +kernel
theorem dX5_forwardReads_18 : decode cX5_forwardReads 18 = .ok (.iload_n 1, 1) := by decide +kernel
theorem dX5_forwardReads_19 : decode cX5_forwardReads 19 = .ok (.iaload, 1) := by decide +kernel
theorem dX5_forwardReads_20 : decode cX5_forwardReads 20 = .ok (.if_icmp .ge 37, 3) := by decide +kernel
theorem dX5_forwardReads_23 : decode cX5_forwardReads 23 = .ok (.aload_n 0, 1) := by decide +kernel
theorem dX5_forwardReads_24 : decode cX5_forwardReads 24 = .ok (.getfield 39, 3) := by decide +kernel
theorem dX5_forwardReads_27 : decode cX5_forwardReads 27 = .ok (.aload_n 0, 1) := by decide +kernel
theorem dX5_forwardReads_28 : decode cX5_forwardReads 28 = .ok (.getfield 29, 3) := by decide +kernel
theorem dX5_forwardReads_31 : decode cX5_forwardReads 31 = .ok (.iload_n 2, 1) := by decide +kernel
theorem dX5_forwardReads_32 : decode cX5_forwardReads 32 = .ok (.aaload, 1) := by decide +kernel
theorem dX5_forwardReads_33 : decode cX5_forwardReads 33 = .ok (.iload_n 1, 1) := by decide +kernel
theorem dX5_forwardReads_34 : decode cX5_forwardReads 34 = .ok (.iaload, 1) := by decide +kernel
theorem dX5_forwardReads_35 : decode cX5_forwardReads 35 = .ok (.iaload, 1) := by decide +kernel
theorem dX5_forwardReads_36 : decode cX5_forwardReads 36 = .ok (.istore_n 3, 1) := by decide +kernel
theorem dX5_forwardReads_37 : decode cX5_forwardReads 37 = .ok (.iload_n 3, 1) := by decide +kernel
theorem dX5_forwardReads_38 : decode cX5_forwardReads 38 = .ok (.iconst (-1), 1) := by decide +kernel
theorem dX5_forwardReads_39 : decode cX5_forwardReads 39 = .ok (.if_icmp .eq 12, 3) := by decide +kernel
theorem dX5_forwardReads_42 : decode cX5_forwardReads 42 = .ok (.aload_n 0, 1) := by decide +kernel
theorem dX5_forwardReads_43 : decode cX5_forwardReads 43 = .ok (.getfield 29, 3) := by decide +kernel
theorem dX5_forwardReads_46 : decode cX5_forwardReads 46 = .ok (.iload_n 2, 1) := by decide +kernel
theorem dX5_forwardReads_47 : decode cX5_forwardReads 47 = .ok (.aaload, 1) := by decide +kernel
theorem dX5_forwardReads_48 : decode cX5_forwardReads 48 = .ok (.iload_n 1, 1) := by decide +kernel
theorem dX5_forwardReads_49 : decode cX5_forwardReads 49 = .ok (.iload_n 3, 1) := by decide +kernel
theorem dX5_forwardReads_50 : decode cX5_forwardReads 50 = .ok (.iastore, 1) := by decide +kernel
theorem dX5_forwardReads_51 : decode cX5_forwardReads 51 = .ok (.iinc 2 1, 3) := by decide +kernel
theorem dX5_forwardReads_54 : decode cX5_forwardReads 54 = .ok (.goto (-41), 3) := by decide +kernel
theorem dX5_forwardReads_57 : decode cX5_forwardReads 57 = .ok (.return_, 1) := by decide +kernel
theorem dX5_forgetWritten_0 : decode cX5_forgetWritten 0 = .ok (.iconst 0, 1) := by decide +kernel
theorem dX5_forgetWritten_1 : decode cX5_forgetWritten 1 = .ok (.istore_n 2, 1) := by decide +kernel
theorem dX5_forgetWritten_2 : decode cX5_forgetWritten 2 = .ok (.iload_n 2, 1) := by decide +kernel
theorem dX5_forgetWritten_3 : decode cX5_forgetWritten 3 = .ok (.bipush 22, 2) := by decide +kernel
theorem dX5_forgetWritten_5 : decode cX5_forgetWritten 5 = .ok (.if_icmp .ge 57, 3) := by decide +kernel
theorem dX5_forgetWritten_8 : decode cX5_forgetWritten 8 = .ok (.iload_n 1, 1) := by decide +kernel
theorem dX5_forgetWritten_9 : decode cX5_forgetWritten 9 = .ok (.iload_n 2, 1) := by decide +kernel
theorem dX5_forgetWritten_10 : decode cX5_forgetWritten 10 = .ok (.ishr, 1) := by decide +kernel
theorem dX5_forgetWritten_11 : decode cX5_forgetWritten 11 = .ok (.iconst 1, 1) := by decide +kernel
theorem dX5_forgetWritten_12 : decode cX5_forgetWritten 12 = .ok (.iand, 1) := by decide +kernel
theorem dX5_forgetWritten_13 : decode cX5_forgetWritten 13 = .ok (.ifCond .eq 7, 3) := by decide +kernel
theorem dX5_forgetWritten_16 : decode cX5_forgetWritten 16 = .ok (.iconst 1, 1) := by decide +kernel
theorem dX5_forgetWritten_17 : decode cX5_forgetWritten 17 = .ok (.goto 4, 3) := by decide +kernel
theorem dX5_forgetWritten_20 : decode cX5_forgetWritten 20 = .ok (.iconst 0, 1) := by decide +kernel
theorem dX5_forgetWritten_21 : decode cX5_forgetWritten 21 = .ok (.istore_n 3, 1) := by decide +kernel
theorem dX5_forgetWritten_22 : decode cX5_forgetWritten 22 = .ok (.iload_n 3, 1) := by decide +kernel
theorem dX5_forgetWritten_23 : decode cX5_forgetWritten 23 = .ok (.ifCond .ne 26, 3) := by decide +kernel
theorem dX5_forgetWritten_26 : decode cX5_forgetWritten 26 = .ok (.aload_n 0, 1) := by decide +kernel
theorem dX5_forgetWritten_27 : decode cX5_forgetWritten 27 = .ok (.getfield 39, 3) := by decide +kernel
theorem dX5_forgetWritten_30 : decode cX5_forgetWritten 30 = .ok (.iload_n 2, 1) := by decide +kernel
theorem dX5_forgetWritten_31 : decode cX5_forgetWritten 31 = .ok (.iaload, 1) := by decide +kernel
theorem dX5_forgetWritten_32 : decode cX5_forgetWritten 32 = .ok (.iconst (-1), 1) := by decide +kernel
theorem dX5_forgetWritten_33 : decode cX5_forgetWritten 33 = .ok (.if_icmp .eq 23, 3) := by decide +kernel
theorem dX5_forgetWritten_36 : decode cX5_forgetWritten 36 = .ok (.iload_n 1, 1) := by decide +kernel
theorem dX5_forgetWritten_37 : decode cX5_forgetWritten 37 = .ok (.aload_n 0, 1) := by decide +kernel
theorem dX5_forgetWritten_38 : decode cX5_forgetWritten 38 = .ok (.getfield 39, 3) := by decide +kernel
theorem dX5_forgetWritten_41 : decode cX5_forgetWritten 41 = .ok (.iload_n 2, 1) := by decide +kernel
theorem dX5_forgetWritten_42 : decode cX5_forgetWritten 42 = .ok (.iaload, 1) := by decide +kernel
theorem dX5_forgetWritten_43 : decode cX5_forgetWritten 43 = .ok (.ishr, 1) := by decide +kernel
theorem dX5_forgetWritten_44 : decode cX5_forgetWritten 44 = .ok (.iconst 1, 1) := by decide +kernel
theorem dX5_forgetWritten_45 : decode cX5_forgetWritten 45 = .ok (.iand, 1) := by decide +kernel
theorem dX5_forgetWritten_46 : decode cX5_forgetWritten 46 = .ok (.ifCond .eq 10, 3) := by decide +kernel
theorem dX5_forgetWritten_49 : decode cX5_forgetWritten 49 = .ok (.aload_n 0, 1) := by decide +kernel
theorem dX5_forgetWritten_50 : decode cX5_forgetWritten 50 = .ok (.getfield 39, 3) := by decide +kernel
theorem dX5_forgetWritten_53 : decode cX5_forgetWritten 53 = .ok (.iload_n 2, 1) := by decide +kernel
theorem dX5_forgetWritten_54 : decode cX5_forgetWritten 54 = .ok (.iconst (-1), 1) := by decide +kernel
theorem dX5_forgetWritten_55 : decode cX5_forgetWritten 55 = .ok (.iastore, 1) := by decide +kernel
theorem dX5_forgetWritten_56 : decode cX5_forgetWritten 56 = .ok (.iinc 2 1, 3) := by decide +kernel
theorem dX5_forgetWritten_59 : decode cX5_forgetWritten 59 = .ok (.goto (-57), 3) := by decide +kernel
theorem dX5_forgetWritten_62 : decode cX5_forgetWritten 62 = .ok (.return_, 1) := by decide +kernel
theorem dX5_dropUseless_0 : decode cX5_dropUseless 0 = .ok (.iconst 0, 1) := by decide +kernel
theorem dX5_dropUseless_1 : decode cX5_dropUseless 1 = .ok (.istore_n 2, 1) := by decide +kernel
theorem dX5_dropUseless_2 : decode cX5_dropUseless 2 = .ok (.iconst 0, 1) := by decide +kernel
theorem dX5_dropUseless_3 : decode cX5_dropUseless 3 = .ok (.istore_n 3, 1) := by decide +kernel
theorem dX5_dropUseless_4 : decode cX5_dropUseless 4 = .ok (.iload_n 3, 1) := by decide +kernel
theorem dX5_dropUseless_5 : decode cX5_dropUseless 5 = .ok (.aload_n 0, 1) := by decide +kernel
theorem dX5_dropUseless_6 : decode cX5_dropUseless 6 = .ok (.getfield 42, 3) := by decide +kernel
theorem dX5_dropUseless_9 : decode cX5_dropUseless 9 = .ok (.if_icmp .ge 34, 3) := by decide +kernel
theorem dX5_dropUseless_12 : decode cX5_dropUseless 12 = .ok (.aload_n 0, 1) := by decide +kernel
theorem dX5_dropUseless_13 : decode cX5_dropUseless 13 = .ok (.getfield 32, 3) := by decide +kernel
theorem dX5_dropUseless_16 : decode cX5_dropUseless 16 = .ok (.iload_n 3, 1) := by decide +kernel
theorem dX5_dropUseless_17 : decode cX5_dropUseless 17 = .ok (.iload_n 2, 1) := by decide +kernel
theorem dX5_dropUseless_18 : decode cX5_dropUseless 18 = .ok (.iastore, 1) := by decide +kernel
theorem dX5_dropUseless_19 : decode cX5_dropUseless 19 = .ok (.aload_n 0, 1) := by decide +kernel
theorem dX5_dropUseless_20 : decode cX5_dropUseless 20 = .ok (.iload_n 3, 1) := by decide +kernel
theorem dX5_dropUseless_21 : decode cX5_dropUseless 21 = .ok (.aload_n 1, 1) := by decide +kernel
theorem dX5_dropUseless_22 : decode cX5_dropUseless 22 = .ok (.invokevirtual 114, 3) := by decide +kernel
theorem dX5_dropUseless_25 : decode cX5_dropUseless 25 = .ok (.ifCond .ne 12, 3) := by decide +kernel
theorem dX5_dropUseless_28 : decode cX5_dropUseless 28 = .ok (.aload_n 0, 1) := by decide +kernel
theorem dX5_dropUseless_29 : decode cX5_dropUseless 29 = .ok (.iload_n 3, 1) := by decide +kernel
theorem dX5_dropUseless_30 : decode cX5_dropUseless 30 = .ok (.iload_n 2, 1) := by decide +kernel
theorem dX5_dropUseless_31 : decode cX5_dropUseless 31 = .ok (.invokevirtual 118, 3) := by decide +kernel
theorem dX5_dropUseless_34 : decode cX5_dropUseless 34 = .ok (.iinc 2 1, 3) := by decide +kernel
theorem dX5_dropUseless_37 : decode cX5_dropUseless 37 = .ok (.iinc 3 1, 3) := by decide +kernel
theorem dX5_dropUseless_40 : decode cX5_dropUseless 40 = .ok (.goto (-36), 3) := by decide +kernel
theorem dX5_dropUseless_43 : decode cX5_dropUseless 43 = .ok (.iload_n 2, 1) := by decide +kernel
theorem dX5_dropUseless_44 : decode cX5_dropUseless 44 = .ok (.aload_n 0, 1) := by decide +kernel
theorem dX5_dropUseless_45 : decode cX5_dropUseless 45 = .ok (.getfield 42, 3) := by decide +kernel
theorem dX5_dropUseless_48 : decode cX5_dropUseless 48 = .ok (.if_icmp .ge 7, 3) := by decide +kernel
theorem dX5_dropUseless_51 : decode cX5_dropUseless 51 = .ok (.iconst 1, 1) := by decide +kernel
theorem dX5_dropUseless_52 : decode cX5_dropUseless 52 = .ok (.goto 4, 3) := by decide +kernel
theorem dX5_dropUseless_55 : decode cX5_dropUseless 55 = .ok (.iconst 0, 1) := by decide +kernel
theorem dX5_dropUseless_56 : decode cX5_dropUseless 56 = .ok (.istore_n 3, 1) := by decide +kernel
theorem dX5_dropUseless_57 : decode cX5_dropUseless 57 = .ok (.aload_n 0, 1) := by decide +kernel
theorem dX5_dropUseless_58 : decode cX5_dropUseless 58 = .ok (.iload_n 2, 1) := by decide +kernel
theorem dX5_dropUseless_59 : decode cX5_dropUseless 59 = .ok (.putfield 42, 3) := by decide +kernel
theorem dX5_dropUseless_62 : decode cX5_dropUseless 62 = .ok (.aload_n 0, 1) := by decide +kernel
theorem dX5_dropUseless_63 : decode cX5_dropUseless 63 = .ok (.invokevirtual 64, 3) := by decide +kernel
theorem dX5_dropUseless_66 : decode cX5_dropUseless 66 = .ok (.iload_n 3, 1) := by decide +kernel
theorem dX5_dropUseless_67 : decode cX5_dropUseless 67 = .ok (.ireturn, 1) := by decide +kernel
theorem dX5_isUseless_0 : decode cX5_isUseless 0 = .ok (.aload_n 0, 1) := by decide +kernel
theorem dX5_isUseless_1 : decode cX5_isUseless 1 = .ok (.getfield 9, 3) := by decide +kernel
theorem dX5_isUseless_4 : decode cX5_isUseless 4 = .ok (.iload_n 1, 1) := by decide +kernel
theorem dX5_isUseless_5 : decode cX5_isUseless 5 = .ok (.iaload, 1) := by decide +kernel
theorem dX5_isUseless_6 : decode cX5_isUseless 6 = .ok (.ifCond .eq 15, 3) := by decide +kernel
theorem dX5_isUseless_9 : decode cX5_isUseless 9 = .ok (.aload_n 0, 1) := by decide +kernel
theorem dX5_isUseless_10 : decode cX5_isUseless 10 = .ok (.getfield 9, 3) := by decide +kernel
theorem dX5_isUseless_13 : decode cX5_isUseless 13 = .ok (.iload_n 1, 1) := by decide +kernel
theorem dX5_isUseless_14 : decode cX5_isUseless 14 = .ok (.iaload, 1) := by decide +kernel
theorem dX5_isUseless_15 : decode cX5_isUseless 15 = .ok (.iconst 1, 1) := by decide +kernel
theorem dX5_isUseless_16 : decode cX5_isUseless 16 = .ok (.if_icmp .eq 5, 3) := by decide +kernel
theorem dX5_isUseless_19 : decode cX5_isUseless 19 = .ok (.iconst 0, 1) := by decide +kernel
theorem dX5_isUseless_20 : decode cX5_isUseless 20 = .ok (.ireturn, 1) := by decide +kernel
theorem dX5_isUseless_21 : decode cX5_isUseless 21 = .ok (.aload_n 0, 1) := by decide +kernel
theorem dX5_isUseless_22 : decode cX5_isUseless 22 = .ok (.getfield 9, 3) := by decide +kernel
theorem dX5_isUseless_25 : decode cX5_isUseless 25 = .ok (.iload_n 1, 1) := by decide +kernel
theorem dX5_isUseless_26 : decode cX5_isUseless 26 = .ok (.iaload, 1) := by decide +kernel
theorem dX5_isUseless_27 : decode cX5_isUseless 27 = .ok (.iconst 1, 1) := by decide +kernel
theorem dX5_isUseless_28 : decode cX5_isUseless 28 = .ok (.if_icmp .ne 24, 3) := by decide +kernel
theorem dX5_isUseless_31 : decode cX5_isUseless 31 = .ok (.aload_n 0, 1) := by decide +kernel
theorem dX5_isUseless_32 : decode cX5_isUseless 32 = .ok (.getfield 21, 3) := by decide +kernel
theorem dX5_isUseless_35 : decode cX5_isUseless 35 = .ok (.iload_n 1, 1) := by decide +kernel
theorem dX5_isUseless_36 : decode cX5_isUseless 36 = .ok (.iaload, 1) := by decide +kernel
theorem dX5_isUseless_37 : decode cX5_isUseless 37 = .ok (.aload_n 0, 1) := by decide +kernel
theorem dX5_isUseless_38 : decode cX5_isUseless 38 = .ok (.getfield 29, 3) := by decide +kernel
theorem dX5_isUseless_41 : decode cX5_isUseless 41 = .ok (.iconst 0, 1) := by decide +kernel
theorem dX5_isUseless_42 : decode cX5_isUseless 42 = .ok (.aaload, 1) := by decide +kernel
theorem dX5_isUseless_43 : decode cX5_isUseless 43 = .ok (.iload_n 1, 1) := by decide +kernel
theorem dX5_isUseless_44 : decode cX5_isUseless 44 = .ok (.iaload, 1) := by decide +kernel
theorem dX5_isUseless_45 : decode cX5_isUseless 45 = .ok (.if_icmp .ne 7, 3) := by decide +kernel
theorem dX5_isUseless_48 : decode cX5_isUseless 48 = .ok (.iconst 1, 1) := by decide +kernel
theorem dX5_isUseless_49 : decode cX5_isUseless 49 = .ok (.goto 4, 3) := by decide +kernel
theorem dX5_isUseless_52 : decode cX5_isUseless 52 = .ok (.iconst 0, 1) := by decide +kernel
theorem dX5_isUseless_53 : decode cX5_isUseless 53 = .ok (.istore_n 3, 1) := by decide +kernel
theorem dX5_isUseless_54 : decode cX5_isUseless 54 = .ok (.iload_n 3, 1) := by decide +kernel
theorem dX5_isUseless_55 : decode cX5_isUseless 55 = .ok (.ifCond .ne 21, 3) := by decide +kernel
theorem dX5_isUseless_58 : decode cX5_isUseless 58 = .ok (.aload_n 2, 1) := by decide +kernel
theorem dX5_isUseless_59 : decode cX5_isUseless 59 = .ok (.getfield 122, 3) := by decide +kernel
theorem dX5_isUseless_62 : decode cX5_isUseless 62 = .ok (.iload_n 1, 1) := by decide +kernel
theorem dX5_isUseless_63 : decode cX5_isUseless 63 = .ok (.iaload, 1) := by decide +kernel
theorem dX5_isUseless_64 : decode cX5_isUseless 64 = .ok (.aload_n 0, 1) := by decide +kernel
theorem dX5_isUseless_65 : decode cX5_isUseless 65 = .ok (.getfield 21, 3) := by decide +kernel
theorem dX5_isUseless_68 : decode cX5_isUseless 68 = .ok (.iload_n 1, 1) := by decide +kernel
theorem dX5_isUseless_69 : decode cX5_isUseless 69 = .ok (.iaload, 1) := by decide +kernel
theorem dX5_isUseless_70 : decode cX5_isUseless 70 = .ok (.ishr, 1) := by decide +kernel
theorem dX5_isUseless_71 : decode cX5_isUseless 71 = .ok (.iconst 1, 1) := by decide +kernel
theorem dX5_isUseless_72 : decode cX5_isUseless 72 = .ok (.iand, 1) := by decide +kernel
theorem dX5_isUseless_73 : decode cX5_isUseless 73 = .ok (.ifCond .ne 7, 3) := by decide +kernel
theorem dX5_isUseless_76 : decode cX5_isUseless 76 = .ok (.iconst 1, 1) := by decide +kernel
theorem dX5_isUseless_77 : decode cX5_isUseless 77 = .ok (.goto 4, 3) := by decide +kernel
theorem dX5_isUseless_80 : decode cX5_isUseless 80 = .ok (.iconst 0, 1) := by decide +kernel
theorem dX5_isUseless_81 : decode cX5_isUseless 81 = .ok (.ireturn, 1) := by decide +kernel
theorem dX5_copyPlace_0 : decode cX5_copyPlace 0 = .ok (.aload_n 0, 1) := by decide +kernel
theorem dX5_copyPlace_1 : decode cX5_copyPlace 1 = .ok (.getfield 9, 3) := by decide +kernel
theorem dX5_copyPlace_4 : decode cX5_copyPlace 4 = .ok (.iload_n 2, 1) := by decide +kernel
theorem dX5_copyPlace_5 : decode cX5_copyPlace 5 = .ok (.aload_n 0, 1) := by decide +kernel
theorem dX5_copyPlace_6 : decode cX5_copyPlace 6 = .ok (.getfield 9, 3) := by decide +kernel
theorem dX5_copyPlace_9 : decode cX5_copyPlace 9 = .ok (.iload_n 1, 1) := by decide +kernel
theorem dX5_copyPlace_10 : decode cX5_copyPlace 10 = .ok (.iaload, 1) := by decide +kernel
theorem dX5_copyPlace_11 : decode cX5_copyPlace 11 = .ok (.iastore, 1) := by decide +kernel
theorem dX5_copyPlace_12 : decode cX5_copyPlace 12 = .ok (.aload_n 0, 1) := by decide +kernel
theorem dX5_copyPlace_13 : decode cX5_copyPlace 13 = .ok (.getfield 15, 3) := by decide +kernel
theorem dX5_copyPlace_16 : decode cX5_copyPlace 16 = .ok (.iload_n 2, 1) := by decide +kernel
theorem dX5_copyPlace_17 : decode cX5_copyPlace 17 = .ok (.aload_n 0, 1) := by decide +kernel
theorem dX5_copyPlace_18 : decode cX5_copyPlace 18 = .ok (.getfield 15, 3) := by decide +kernel
theorem dX5_copyPlace_21 : decode cX5_copyPlace 21 = .ok (.iload_n 1, 1) := by decide +kernel
theorem dX5_copyPlace_22 : decode cX5_copyPlace 22 = .ok (.iaload, 1) := by decide +kernel
theorem dX5_copyPlace_23 : decode cX5_copyPlace 23 = .ok (.iastore, 1) := by decide +kernel
theorem dX5_copyPlace_24 : decode cX5_copyPlace 24 = .ok (.aload_n 0, 1) := by decide +kernel
theorem dX5_copyPlace_25 : decode cX5_copyPlace 25 = .ok (.getfield 18, 3) := by decide +kernel
theorem dX5_copyPlace_28 : decode cX5_copyPlace 28 = .ok (.iload_n 2, 1) := by decide +kernel
theorem dX5_copyPlace_29 : decode cX5_copyPlace 29 = .ok (.aload_n 0, 1) := by decide +kernel
theorem dX5_copyPlace_30 : decode cX5_copyPlace 30 = .ok (.getfield 18, 3) := by decide +kernel
theorem dX5_copyPlace_33 : decode cX5_copyPlace 33 = .ok (.iload_n 1, 1) := by decide +kernel
theorem dX5_copyPlace_34 : decode cX5_copyPlace 34 = .ok (.iaload, 1) := by decide +kernel
theorem dX5_copyPlace_35 : decode cX5_copyPlace 35 = .ok (.iastore, 1) := by decide +kernel
theorem dX5_copyPlace_36 : decode cX5_copyPlace 36 = .ok (.aload_n 0, 1) := by decide +kernel
theorem dX5_copyPlace_37 : decode cX5_copyPlace 37 = .ok (.getfield 21, 3) := by decide +kernel
theorem dX5_copyPlace_40 : decode cX5_copyPlace 40 = .ok (.iload_n 2, 1) := by decide +kernel
theorem dX5_copyPlace_41 : decode cX5_copyPlace 41 = .ok (.aload_n 0, 1) := by decide +kernel
theorem dX5_copyPlace_42 : decode cX5_copyPlace 42 = .ok (.getfield 21, 3) := by decide +kernel
theorem dX5_copyPlace_45 : decode cX5_copyPlace 45 = .ok (.iload_n 1, 1) := by decide +kernel
theorem dX5_copyPlace_46 : decode cX5_copyPlace 46 = .ok (.iaload, 1) := by decide +kernel
theorem dX5_copyPlace_47 : decode cX5_copyPlace 47 = .ok (.iastore, 1) := by decide +kernel
theorem dX5_copyPlace_48 : decode cX5_copyPlace 48 = .ok (.aload_n 0, 1) := by decide +kernel
theorem dX5_copyPlace_49 : decode cX5_copyPlace 49 = .ok (.getfield 24, 3) := by decide +kernel
theorem dX5_copyPlace_52 : decode cX5_copyPlace 52 = .ok (.iload_n 2, 1) := by decide +kernel
theorem dX5_copyPlace_53 : decode cX5_copyPlace 53 = .ok (.aload_n 0, 1) := by decide +kernel
theorem dX5_copyPlace_54 : decode cX5_copyPlace 54 = .ok (.getfield 24, 3) := by decide +kernel
theorem dX5_copyPlace_57 : decode cX5_copyPlace 57 = .ok (.iload_n 1, 1) := by decide +kernel
theorem dX5_copyPlace_58 : decode cX5_copyPlace 58 = .ok (.iaload, 1) := by decide +kernel
theorem dX5_copyPlace_59 : decode cX5_copyPlace 59 = .ok (.iastore, 1) := by decide +kernel
theorem dX5_copyPlace_60 : decode cX5_copyPlace 60 = .ok (.iconst 0, 1) := by decide +kernel
theorem dX5_copyPlace_61 : decode cX5_copyPlace 61 = .ok (.istore_n 3, 1) := by decide +kernel
theorem dX5_copyPlace_62 : decode cX5_copyPlace 62 = .ok (.iload_n 3, 1) := by decide +kernel
theorem dX5_copyPlace_63 : decode cX5_copyPlace 63 = .ok (.aload_n 0, 1) := by decide +kernel
theorem dX5_copyPlace_64 : decode cX5_copyPlace 64 = .ok (.getfield 24, 3) := by decide +kernel
theorem dX5_copyPlace_67 : decode cX5_copyPlace 67 = .ok (.iload_n 1, 1) := by decide +kernel
theorem dX5_copyPlace_68 : decode cX5_copyPlace 68 = .ok (.iaload, 1) := by decide +kernel
theorem dX5_copyPlace_69 : decode cX5_copyPlace 69 = .ok (.if_icmp .ge 25, 3) := by decide +kernel
theorem dX5_copyPlace_72 : decode cX5_copyPlace 72 = .ok (.aload_n 0, 1) := by decide +kernel
theorem dX5_copyPlace_73 : decode cX5_copyPlace 73 = .ok (.getfield 29, 3) := by decide +kernel
theorem dX5_copyPlace_76 : decode cX5_copyPlace 76 = .ok (.iload_n 3, 1) := by decide +kernel
theorem dX5_copyPlace_77 : decode cX5_copyPlace 77 = .ok (.aaload, 1) := by decide +kernel
theorem dX5_copyPlace_78 : decode cX5_copyPlace 78 = .ok (.iload_n 2, 1) := by decide +kernel
theorem dX5_copyPlace_79 : decode cX5_copyPlace 79 = .ok (.aload_n 0, 1) := by decide +kernel
theorem dX5_copyPlace_80 : decode cX5_copyPlace 80 = .ok (.getfield 29, 3) := by decide +kernel
theorem dX5_copyPlace_83 : decode cX5_copyPlace 83 = .ok (.iload_n 3, 1) := by decide +kernel
theorem dX5_copyPlace_84 : decode cX5_copyPlace 84 = .ok (.aaload, 1) := by decide +kernel
theorem dX5_copyPlace_85 : decode cX5_copyPlace 85 = .ok (.iload_n 1, 1) := by decide +kernel
theorem dX5_copyPlace_86 : decode cX5_copyPlace 86 = .ok (.iaload, 1) := by decide +kernel
theorem dX5_copyPlace_87 : decode cX5_copyPlace 87 = .ok (.iastore, 1) := by decide +kernel
theorem dX5_copyPlace_88 : decode cX5_copyPlace 88 = .ok (.iinc 3 1, 3) := by decide +kernel
theorem dX5_copyPlace_91 : decode cX5_copyPlace 91 = .ok (.goto (-29), 3) := by decide +kernel
theorem dX5_copyPlace_94 : decode cX5_copyPlace 94 = .ok (.return_, 1) := by decide +kernel
theorem dX6_init_0 : decode cX6_init 0 = .ok (.aload_n 0, 1) := by decide +kernel
theorem dX6_init_1 : decode cX6_init 1 = .ok (.invokespecial 3, 3) := by decide +kernel
theorem dX6_init_4 : decode cX6_init 4 = .ok (.aload_n 0, 1) := by decide +kernel
theorem dX6_init_5 : decode cX6_init 5 = .ok (.bipush 12, 2) := by decide +kernel
theorem dX6_init_7 : decode cX6_init 7 = .ok (.newarray .int, 2) := by decide +kernel
theorem dX6_init_9 : decode cX6_init 9 = .ok (.putfield 9, 3) := by decide +kernel
theorem dX6_init_12 : decode cX6_init 12 = .ok (.aload_n 0, 1) := by decide +kernel
theorem dX6_init_13 : decode cX6_init 13 = .ok (.bipush 12, 2) := by decide +kernel
theorem dX6_init_15 : decode cX6_init 15 = .ok (.newarray .int, 2) := by decide +kernel
theorem dX6_init_17 : decode cX6_init 17 = .ok (.putfield 15, 3) := by decide +kernel
theorem dX6_init_20 : decode cX6_init 20 = .ok (.aload_n 0, 1) := by decide +kernel
theorem dX6_init_21 : decode cX6_init 21 = .ok (.bipush 12, 2) := by decide +kernel
theorem dX6_init_23 : decode cX6_init 23 = .ok (.newarray .int, 2) := by decide +kernel
theorem dX6_init_25 : decode cX6_init 25 = .ok (.putfield 18, 3) := by decide +kernel
theorem dX6_init_28 : decode cX6_init 28 = .ok (.aload_n 0, 1) := by decide +kernel
theorem dX6_init_29 : decode cX6_init 29 = .ok (.bipush 12, 2) := by decide +kernel
theorem dX6_init_31 : decode cX6_init 31 = .ok (.newarray .int, 2) := by decide +kernel
theorem dX6_init_33 : decode cX6_init 33 = .ok (.putfield 21, 3) := by decide +kernel
theorem dX6_init_36 : decode cX6_init 36 = .ok (.aload_n 0, 1) := by decide +kernel
theorem dX6_init_37 : decode cX6_init 37 = .ok (.sipush 300, 3) := by decide +kernel
theorem dX6_init_40 : decode cX6_init 40 = .ok (.newarray .int, 2) := by decide +kernel
theorem dX6_init_42 : decode cX6_init 42 = .ok (.putfield 24, 3) := by decide +kernel
theorem dX6_init_45 : decode cX6_init 45 = .ok (.aload_n 0, 1) := by decide +kernel
theorem dX6_init_46 : decode cX6_init 46 = .ok (.sipush 300, 3) := by decide +kernel
theorem dX6_init_49 : decode cX6_init 49 = .ok (.newarray .int, 2) := by decide +kernel
theorem dX6_init_51 : decode cX6_init 51 = .ok (.putfield 27, 3) := by decide +kernel
theorem dX6_init_54 : decode cX6_init 54 = .ok (.aload_n 0, 1) := by decide +kernel
theorem dX6_init_55 : decode cX6_init 55 = .ok (.sipush 300, 3) := by decide +kernel
theorem dX6_init_58 : decode cX6_init 58 = .ok (.newarray .int, 2) := by decide +kernel
theorem dX6_init_60 : decode cX6_init 60 = .ok (.putfield 30, 3) := by decide +kernel
theorem dX6_init_63 : decode cX6_init 63 = .ok (.return_, 1) := by decide +kernel
theorem dX6_addFunc_0 : decode cX6_addFunc 0 = .ok (.aload_n 0, 1) := by decide +kernel
theorem dX6_addFunc_1 : decode cX6_addFunc 1 = .ok (.getfield 9, 3) := by decide +kernel
theorem dX6_addFunc_4 : decode cX6_addFunc 4 = .ok (.aload_n 0, 1) := by decide +kernel
theorem dX6_addFunc_5 : decode cX6_addFunc 5 = .ok (.getfield 33, 3) := by decide +kernel
theorem dX6_addFunc_8 : decode cX6_addFunc 8 = .ok (.iload_n 1, 1) := by decide +kernel
theorem dX6_addFunc_9 : decode cX6_addFunc 9 = .ok (.iastore, 1) := by decide +kernel
theorem dX6_addFunc_10 : decode cX6_addFunc 10 = .ok (.aload_n 0, 1) := by decide +kernel
theorem dX6_addFunc_11 : decode cX6_addFunc 11 = .ok (.getfield 15, 3) := by decide +kernel
theorem dX6_addFunc_14 : decode cX6_addFunc 14 = .ok (.aload_n 0, 1) := by decide +kernel
theorem dX6_addFunc_15 : decode cX6_addFunc 15 = .ok (.getfield 33, 3) := by decide +kernel
theorem dX6_addFunc_18 : decode cX6_addFunc 18 = .ok (.iload_n 2, 1) := by decide +kernel
theorem dX6_addFunc_19 : decode cX6_addFunc 19 = .ok (.iastore, 1) := by decide +kernel
theorem dX6_addFunc_20 : decode cX6_addFunc 20 = .ok (.aload_n 0, 1) := by decide +kernel
theorem dX6_addFunc_21 : decode cX6_addFunc 21 = .ok (.getfield 18, 3) := by decide +kernel
theorem dX6_addFunc_24 : decode cX6_addFunc 24 = .ok (.aload_n 0, 1) := by decide +kernel
theorem dX6_addFunc_25 : decode cX6_addFunc 25 = .ok (.getfield 33, 3) := by decide +kernel
theorem dX6_addFunc_28 : decode cX6_addFunc 28 = .ok (.aload_n 0, 1) := by decide +kernel
theorem dX6_addFunc_29 : decode cX6_addFunc 29 = .ok (.getfield 37, 3) := by decide +kernel
theorem dX6_addFunc_32 : decode cX6_addFunc 32 = .ok (.iastore, 1) := by decide +kernel
theorem dX6_addFunc_33 : decode cX6_addFunc 33 = .ok (.aload_n 0, 1) := by decide +kernel
theorem dX6_addFunc_34 : decode cX6_addFunc 34 = .ok (.getfield 21, 3) := by decide +kernel
theorem dX6_addFunc_37 : decode cX6_addFunc 37 = .ok (.aload_n 0, 1) := by decide +kernel
theorem dX6_addFunc_38 : decode cX6_addFunc 38 = .ok (.getfield 33, 3) := by decide +kernel
theorem dX6_addFunc_41 : decode cX6_addFunc 41 = .ok (.iconst 0, 1) := by decide +kernel
theorem dX6_addFunc_42 : decode cX6_addFunc 42 = .ok (.iastore, 1) := by decide +kernel
theorem dX6_addFunc_43 : decode cX6_addFunc 43 = .ok (.aload_n 0, 1) := by decide +kernel
theorem dX6_addFunc_44 : decode cX6_addFunc 44 = .ok (.dup, 1) := by decide +kernel
theorem dX6_addFunc_45 : decode cX6_addFunc 45 = .ok (.getfield 33, 3) := by decide +kernel
theorem dX6_addFunc_48 : decode cX6_addFunc 48 = .ok (.iconst 1, 1) := by decide +kernel
theorem dX6_addFunc_49 : decode cX6_addFunc 49 = .ok (.iadd, 1) := by decide +kernel
theorem dX6_addFunc_50 : decode cX6_addFunc 50 = .ok (.putfield 33, 3) := by decide +kernel
theorem dX6_addFunc_53 : decode cX6_addFunc 53 = .ok (.aload_n 0, 1) := by decide +kernel
theorem dX6_addFunc_54 : decode cX6_addFunc 54 = .ok (.getfield 33, 3) := by decide +kernel
theorem dX6_addFunc_57 : decode cX6_addFunc 57 = .ok (.iconst 1, 1) := by decide +kernel
theorem dX6_addFunc_58 : decode cX6_addFunc 58 = .ok (.isub, 1) := by decide +kernel
theorem dX6_addFunc_59 : decode cX6_addFunc 59 = .ok (.ireturn, 1) := by decide +kernel
theorem dX6_addWord_0 : decode cX6_addWord 0 = .ok (.aload_n 0, 1) := by decide +kernel
theorem dX6_addWord_1 : decode cX6_addWord 1 = .ok (.getfield 33, 3) := by decide +kernel
theorem dX6_addWord_4 : decode cX6_addWord 4 = .ok (.iconst 1, 1) := by decide +kernel
theorem dX6_addWord_5 : decode cX6_addWord 5 = .ok (.isub, 1) := by decide +kernel
theorem dX6_addWord_6 : decode cX6_addWord 6 = .ok (.istore_n 3, 1) := by decide +kernel
theorem dX6_addWord_7 : decode cX6_addWord 7 = .ok (.aload_n 0, 1) := by decide +kernel
theorem dX6_addWord_8 : decode cX6_addWord 8 = .ok (.getfield 24, 3) := by decide +kernel
theorem dX6_addWord_11 : decode cX6_addWord 11 = .ok (.aload_n 0, 1) := by decide +kernel
theorem dX6_addWord_12 : decode cX6_addWord 12 = .ok (.getfield 37, 3) := by decide +kernel
theorem dX6_addWord_15 : decode cX6_addWord 15 = .ok (.iload_n 1, 1) := by decide +kernel
theorem dX6_addWord_16 : decode cX6_addWord 16 = .ok (.iastore, 1) := by decide +kernel
theorem dX6_addWord_17 : decode cX6_addWord 17 = .ok (.aload_n 0, 1) := by decide +kernel
theorem dX6_addWord_18 : decode cX6_addWord 18 = .ok (.getfield 27, 3) := by decide +kernel
theorem dX6_addWord_21 : decode cX6_addWord 21 = .ok (.aload_n 0, 1) := by decide +kernel
theorem dX6_addWord_22 : decode cX6_addWord 22 = .ok (.getfield 37, 3) := by decide +kernel
theorem dX6_addWord_25 : decode cX6_addWord 25 = .ok (.iload_n 2, 1) := by decide +kernel
theorem dX6_addWord_26 : decode cX6_addWord 26 = .ok (.iastore, 1) := by decide +kernel
theorem dX6_addWord_27 : decode cX6_addWord 27 = .ok (.aload_n 0, 1) := by decide +kernel
theorem dX6_addWord_28 : decode cX6_addWord 28 = .ok (.dup, 1) := by decide +kernel
theorem dX6_addWord_29 : decode cX6_addWord 29 = .ok (.getfield 37, 3) := by decide +kernel
theorem dX6_addWord_32 : decode cX6_addWord 32 = .ok (.iconst 1, 1) := by decide +kernel
theorem dX6_addWord_33 : decode cX6_addWord 33 = .ok (.iadd, 1) := by decide +kernel
theorem dX6_addWord_34 : decode cX6_addWord 34 = .ok (.putfield 37, 3) := by decide +kernel
theorem dX6_addWord_37 : decode cX6_addWord 37 = .ok (.aload_n 0, 1) := by decide +kernel
theorem dX6_addWord_38 : decode cX6_addWord 38 = .ok (.getfield 21, 3) := by decide +kernel
theorem dX6_addWord_41 : decode cX6_addWord 41 = .ok (.iload_n 3, 1) := by decide +kernel
theorem dX6_addWord_42 : decode cX6_addWord 42 = .ok (.dup2, 1) := by decide +kernel
theorem dX6_addWord_43 : decode cX6_addWord 43 = .ok (.iaload, 1) := by decide +kernel
theorem dX6_addWord_44 : decode cX6_addWord 44 = .ok (.iconst 1, 1) := by decide +kernel
theorem dX6_addWord_45 : decode cX6_addWord 45 = .ok (.iadd, 1) := by decide +kernel
theorem dX6_addWord_46 : decode cX6_addWord 46 = .ok (.iastore, 1) := by decide +kernel
theorem dX6_addWord_47 : decode cX6_addWord 47 = .ok (.aload_n 0, 1) := by decide +kernel
theorem dX6_addWord_48 : decode cX6_addWord 48 = .ok (.getfield 21, 3) := by decide +kernel
theorem dX6_addWord_51 : decode cX6_addWord 51 = .ok (.iload_n 3, 1) := by decide +kernel
theorem dX6_addWord_52 : decode cX6_addWord 52 = .ok (.iaload, 1) := by decide +kernel
theorem dX6_addWord_53 : decode cX6_addWord 53 = .ok (.iconst 1, 1) := by decide +kernel
theorem dX6_addWord_54 : decode cX6_addWord 54 = .ok (.isub, 1) := by decide +kernel
theorem dX6_addWord_55 : decode cX6_addWord 55 = .ok (.ireturn, 1) := by decide +kernel
theorem dX6_empty_0 : decode cX6_empty 0 = .ok (.aload_n 0, 1) := by decide +kernel
theorem dX6_empty_1 : decode cX6_empty 1 = .ok (.iconst 0, 1) := by decide +kernel
theorem dX6_empty_2 : decode cX6_empty 2 = .ok (.putfield 33, 3) := by decide +kernel
theorem dX6_empty_5 : decode cX6_empty 5 = .ok (.aload_n 0, 1) := by decide +kernel
theorem dX6_empty_6 : decode cX6_empty 6 = .ok (.iconst 0, 1) := by decide +kernel
theorem dX6_empty_7 : decode cX6_empty 7 = .ok (.putfield 37, 3) := by decide +kernel
theorem dX6_empty_10 : decode cX6_empty 10 = .ok (.aload_n 0, 1) := by decide +kernel
theorem dX6_empty_11 : decode cX6_empty 11 = .ok (.iconst 0, 1) := by decide +kernel
theorem dX6_empty_12 : decode cX6_empty 12 = .ok (.putfield 40, 3) := by decide +kernel
theorem dX6_empty_15 : decode cX6_empty 15 = .ok (.return_, 1) := by decide +kernel
theorem dX6_hasFunc_0 : decode cX6_hasFunc 0 = .ok (.iload_n 1, 1) := by decide +kernel
theorem dX6_hasFunc_1 : decode cX6_hasFunc 1 = .ok (.ifCond .lt 15, 3) := by decide +kernel
theorem dX6_hasFunc_4 : decode cX6_hasFunc 4 = .ok (.iload_n 1, 1) := by decide +kernel
theorem dX6_hasFunc_5 : decode cX6_hasFunc 5 = .ok (.aload_n 0, 1) := by decide +kernel
theorem dX6_hasFunc_6 : decode cX6_hasFunc 6 = .ok (.getfield 33, 3) := by decide +kernel
theorem dX6_hasFunc_9 : decode cX6_hasFunc 9 = .ok (.if_icmp .ge 7, 3) := by decide +kernel
theorem dX6_hasFunc_12 : decode cX6_hasFunc 12 = .ok (.iconst 1, 1) := by decide +kernel
theorem dX6_hasFunc_13 : decode cX6_hasFunc 13 = .ok (.goto 4, 3) := by decide +kernel
theorem dX6_hasFunc_16 : decode cX6_hasFunc 16 = .ok (.iconst 0, 1) := by decide +kernel
theorem dX6_hasFunc_17 : decode cX6_hasFunc 17 = .ok (.ireturn, 1) := by decide +kernel
theorem dX6_takes_0 : decode cX6_takes 0 = .ok (.iload_n 1, 1) := by decide +kernel
theorem dX6_takes_1 : decode cX6_takes 1 = .ok (.bipush 14, 2) := by decide +kernel
theorem dX6_takes_3 : decode cX6_takes 3 = .ok (.if_icmp .ne 12, 3) := by decide +kernel
theorem dX6_takes_6 : decode cX6_takes 6 = .ok (.aload_n 0, 1) := by decide +kernel
theorem dX6_takes_7 : decode cX6_takes 7 = .ok (.getfield 9, 3) := by decide +kernel
theorem dX6_takes_10 : decode cX6_takes 10 = .ok (.iload_n 2, 1) := by decide +kernel
theorem dX6_takes_11 : decode cX6_takes 11 = .ok (.iaload, 1) := by decide +kernel
theorem dX6_takes_12 : decode cX6_takes 12 = .ok (.goto 8, 3) := by decide +kernel
theorem dX6_takes_15 : decode cX6_takes 15 = .ok (.getstatic 44, 3) := by decide +kernel
theorem dX6_takes_18 : decode cX6_takes 18 = .ok (.iload_n 1, 1) := by decide +kernel
theorem dX6_takes_19 : decode cX6_takes 19 = .ok (.iaload, 1) := by decide +kernel
theorem dX6_takes_20 : decode cX6_takes 20 = .ok (.ireturn, 1) := by decide +kernel
theorem dX7_init_0 : decode cX7_init 0 = .ok (.aload_n 0, 1) := by decide +kernel
theorem dX7_init_1 : decode cX7_init 1 = .ok (.invokespecial 3, 3) := by decide +kernel
theorem dX7_init_4 : decode cX7_init 4 = .ok (.aload_n 0, 1) := by decide +kernel
theorem dX7_init_5 : decode cX7_init 5 = .ok (.sipush 480, 3) := by decide +kernel
theorem dX7_init_8 : decode cX7_init 8 = .ok (.newarray .int, 2) := by decide +kernel
theorem dX7_init_10 : decode cX7_init 10 = .ok (.putfield 9, 3) := by decide +kernel
theorem dX7_init_13 : decode cX7_init 13 = .ok (.aload_n 0, 1) := by decide +kernel
theorem dX7_init_14 : decode cX7_init 14 = .ok (.sipush 660, 3) := by decide +kernel
theorem dX7_init_17 : decode cX7_init 17 = .ok (.newarray .int, 2) := by decide +kernel
theorem dX7_init_19 : decode cX7_init 19 = .ok (.putfield 15, 3) := by decide +kernel
theorem dX7_init_22 : decode cX7_init 22 = .ok (.aload_n 0, 1) := by decide +kernel
theorem dX7_init_23 : decode cX7_init 23 = .ok (.bipush 6, 2) := by decide +kernel
theorem dX7_init_25 : decode cX7_init 25 = .ok (.newarray .int, 2) := by decide +kernel
theorem dX7_init_27 : decode cX7_init 27 = .ok (.putfield 18, 3) := by decide +kernel
theorem dX7_init_30 : decode cX7_init 30 = .ok (.aload_n 0, 1) := by decide +kernel
theorem dX7_init_31 : decode cX7_init 31 = .ok (.aload_n 1, 1) := by decide +kernel
theorem dX7_init_32 : decode cX7_init 32 = .ok (.putfield 21, 3) := by decide +kernel
theorem dX7_init_35 : decode cX7_init 35 = .ok (.return_, 1) := by decide +kernel
theorem dX7_begin_0 : decode cX7_begin 0 = .ok (.aload_n 0, 1) := by decide +kernel
theorem dX7_begin_1 : decode cX7_begin 1 = .ok (.invokespecial 25, 3) := by decide +kernel
theorem dX7_begin_4 : decode cX7_begin 4 = .ok (.aload_n 0, 1) := by decide +kernel
theorem dX7_begin_5 : decode cX7_begin 5 = .ok (.iconst 0, 1) := by decide +kernel
theorem dX7_begin_6 : decode cX7_begin 6 = .ok (.putfield 28, 3) := by decide +kernel
theorem dX7_begin_9 : decode cX7_begin 9 = .ok (.aload_n 0, 1) := by decide +kernel
