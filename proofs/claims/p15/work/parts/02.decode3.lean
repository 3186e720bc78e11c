theorem dX12_codePlace_363 : decode cX12_codePlace 363 = .ok (.isub, 1) := by decide +kernel
theorem dX12_codePlace_364 : decode cX12_codePlace 364 = .ok (.iload 7, 2) := by decide +kernel
theorem dX12_codePlace_366 : decode cX12_codePlace 366 = .ok (.iconst 0, 1) := by decide +kernel
theorem dX12_codePlace_367 : decode cX12_codePlace 367 = .ok (.iconst 0, 1) := by decide +kernel
theorem dX12_codePlace_368 : decode cX12_codePlace 368 = .ok (.invokevirtual 240, 3) := by decide +kernel
theorem dX12_codePlace_371 : decode cX12_codePlace 371 = .ok (.iinc 9 1, 3) := by decide +kernel
theorem dX12_codePlace_374 : decode cX12_codePlace 374 = .ok (.goto (-47), 3) := by decide +kernel
theorem dX12_codePlace_377 : decode cX12_codePlace 377 = .ok (.aload_n 0, 1) := by decide +kernel
theorem dX12_codePlace_378 : decode cX12_codePlace 378 = .ok (.bipush 13, 2) := by decide +kernel
theorem dX12_codePlace_380 : decode cX12_codePlace 380 = .ok (.aload_n 0, 1) := by decide +kernel
theorem dX12_codePlace_381 : decode cX12_codePlace 381 = .ok (.getfield 38, 3) := by decide +kernel
theorem dX12_codePlace_384 : decode cX12_codePlace 384 = .ok (.iload_n 1, 1) := by decide +kernel
theorem dX12_codePlace_385 : decode cX12_codePlace 385 = .ok (.iaload, 1) := by decide +kernel
theorem dX12_codePlace_386 : decode cX12_codePlace 386 = .ok (.iconst 0, 1) := by decide +kernel
theorem dX12_codePlace_387 : decode cX12_codePlace 387 = .ok (.iconst 0, 1) := by decide +kernel
theorem dX12_codePlace_388 : decode cX12_codePlace 388 = .ok (.iconst 0, 1) := by decide +kernel
theorem dX12_codePlace_389 : decode cX12_codePlace 389 = .ok (.invokevirtual 240, 3) := by decide +kernel
theorem dX12_codePlace_392 : decode cX12_codePlace 392 = .ok (.aload_n 0, 1) := by decide +kernel
theorem dX12_codePlace_393 : decode cX12_codePlace 393 = .ok (.bipush 14, 2) := by decide +kernel
theorem dX12_codePlace_395 : decode cX12_codePlace 395 = .ok (.aload_n 0, 1) := by decide +kernel
theorem dX12_codePlace_396 : decode cX12_codePlace 396 = .ok (.iload 4, 2) := by decide +kernel
theorem dX12_codePlace_398 : decode cX12_codePlace 398 = .ok (.invokevirtual 244, 3) := by decide +kernel
theorem dX12_codePlace_401 : decode cX12_codePlace 401 = .ok (.iconst 0, 1) := by decide +kernel
theorem dX12_codePlace_402 : decode cX12_codePlace 402 = .ok (.iconst 0, 1) := by decide +kernel
theorem dX12_codePlace_403 : decode cX12_codePlace 403 = .ok (.iconst 0, 1) := by decide +kernel
theorem dX12_codePlace_404 : decode cX12_codePlace 404 = .ok (.invokevirtual 240, 3) := by decide +kernel
theorem dX12_codePlace_407 : decode cX12_codePlace 407 = .ok (.aload_n 0, 1) := by decide +kernel
theorem dX12_codePlace_408 : decode cX12_codePlace 408 = .ok (.iload 4, 2) := by decide +kernel
theorem dX12_codePlace_410 : decode cX12_codePlace 410 = .ok (.invokevirtual 247, 3) := by decide +kernel
theorem dX12_codePlace_413 : decode cX12_codePlace 413 = .ok (.return_, 1) := by decide +kernel
theorem dX12_moves_0 : decode cX12_moves 0 = .ok (.aload_n 0, 1) := by decide +kernel
theorem dX12_moves_1 : decode cX12_moves 1 = .ok (.iload_n 1, 1) := by decide +kernel
theorem dX12_moves_2 : decode cX12_moves 2 = .ok (.invokevirtual 234, 3) := by decide +kernel
theorem dX12_moves_5 : decode cX12_moves 5 = .ok (.ifCond .ge 44, 3) := by decide +kernel
theorem dX12_moves_8 : decode cX12_moves 8 = .ok (.aload_n 0, 1) := by decide +kernel
theorem dX12_moves_9 : decode cX12_moves 9 = .ok (.iload_n 2, 1) := by decide +kernel
theorem dX12_moves_10 : decode cX12_moves 10 = .ok (.invokevirtual 234, 3) := by decide +kernel
theorem dX12_moves_13 : decode cX12_moves 13 = .ok (.ifCond .ge 36, 3) := by decide +kernel
theorem dX12_moves_16 : decode cX12_moves 16 = .ok (.aload_n 0, 1) := by decide +kernel
theorem dX12_moves_17 : decode cX12_moves 17 = .ok (.iload_n 1, 1) := by decide +kernel
theorem dX12_moves_18 : decode cX12_moves 18 = .ok (.invokevirtual 237, 3) := by decide +kernel
theorem dX12_moves_21 : decode cX12_moves 21 = .ok (.aload_n 0, 1) := by decide +kernel
theorem dX12_moves_22 : decode cX12_moves 22 = .ok (.iload_n 2, 1) := by decide +kernel
theorem dX12_moves_23 : decode cX12_moves 23 = .ok (.invokevirtual 237, 3) := by decide +kernel
theorem dX12_moves_26 : decode cX12_moves 26 = .ok (.if_icmp .eq 132, 3) := by decide +kernel
theorem dX12_moves_29 : decode cX12_moves 29 = .ok (.aload_n 0, 1) := by decide +kernel
theorem dX12_moves_30 : decode cX12_moves 30 = .ok (.iconst 1, 1) := by decide +kernel
theorem dX12_moves_31 : decode cX12_moves 31 = .ok (.aload_n 0, 1) := by decide +kernel
theorem dX12_moves_32 : decode cX12_moves 32 = .ok (.iload_n 1, 1) := by decide +kernel
theorem dX12_moves_33 : decode cX12_moves 33 = .ok (.invokevirtual 237, 3) := by decide +kernel
theorem dX12_moves_36 : decode cX12_moves 36 = .ok (.aload_n 0, 1) := by decide +kernel
theorem dX12_moves_37 : decode cX12_moves 37 = .ok (.iload_n 2, 1) := by decide +kernel
theorem dX12_moves_38 : decode cX12_moves 38 = .ok (.invokevirtual 237, 3) := by decide +kernel
theorem dX12_moves_41 : decode cX12_moves 41 = .ok (.iconst 0, 1) := by decide +kernel
theorem dX12_moves_42 : decode cX12_moves 42 = .ok (.iconst 0, 1) := by decide +kernel
theorem dX12_moves_43 : decode cX12_moves 43 = .ok (.invokevirtual 240, 3) := by decide +kernel
theorem dX12_moves_46 : decode cX12_moves 46 = .ok (.goto 112, 3) := by decide +kernel
theorem dX12_moves_49 : decode cX12_moves 49 = .ok (.aload_n 0, 1) := by decide +kernel
theorem dX12_moves_50 : decode cX12_moves 50 = .ok (.iload_n 1, 1) := by decide +kernel
theorem dX12_moves_51 : decode cX12_moves 51 = .ok (.invokevirtual 234, 3) := by decide +kernel
theorem dX12_moves_54 : decode cX12_moves 54 = .ok (.ifCond .ge 24, 3) := by decide +kernel
theorem dX12_moves_57 : decode cX12_moves 57 = .ok (.aload_n 0, 1) := by decide +kernel
theorem dX12_moves_58 : decode cX12_moves 58 = .ok (.bipush 9, 2) := by decide +kernel
theorem dX12_moves_60 : decode cX12_moves 60 = .ok (.aload_n 0, 1) := by decide +kernel
theorem dX12_moves_61 : decode cX12_moves 61 = .ok (.iload_n 1, 1) := by decide +kernel
theorem dX12_moves_62 : decode cX12_moves 62 = .ok (.invokevirtual 237, 3) := by decide +kernel
theorem dX12_moves_65 : decode cX12_moves 65 = .ok (.aload_n 0, 1) := by decide +kernel
theorem dX12_moves_66 : decode cX12_moves 66 = .ok (.iload_n 2, 1) := by decide +kernel
theorem dX12_moves_67 : decode cX12_moves 67 = .ok (.invokevirtual 234, 3) := by decide +kernel
theorem dX12_moves_70 : decode cX12_moves 70 = .ok (.iconst 0, 1) := by decide +kernel
theorem dX12_moves_71 : decode cX12_moves 71 = .ok (.iconst 0, 1) := by decide +kernel
theorem dX12_moves_72 : decode cX12_moves 72 = .ok (.invokevirtual 240, 3) := by decide +kernel
theorem dX12_moves_75 : decode cX12_moves 75 = .ok (.goto 83, 3) := by decide +kernel
theorem dX12_moves_78 : decode cX12_moves 78 = .ok (.aload_n 0, 1) := by decide +kernel
theorem dX12_moves_79 : decode cX12_moves 79 = .ok (.iload_n 2, 1) := by decide +kernel
theorem dX12_moves_80 : decode cX12_moves 80 = .ok (.invokevirtual 234, 3) := by decide +kernel
theorem dX12_moves_83 : decode cX12_moves 83 = .ok (.ifCond .ge 24, 3) := by decide +kernel
theorem dX12_moves_86 : decode cX12_moves 86 = .ok (.aload_n 0, 1) := by decide +kernel
theorem dX12_moves_87 : decode cX12_moves 87 = .ok (.bipush 10, 2) := by decide +kernel
theorem dX12_moves_89 : decode cX12_moves 89 = .ok (.aload_n 0, 1) := by decide +kernel
theorem dX12_moves_90 : decode cX12_moves 90 = .ok (.iload_n 1, 1) := by decide +kernel
theorem dX12_moves_91 : decode cX12_moves 91 = .ok (.invokevirtual 234, 3) := by decide +kernel
theorem dX12_moves_94 : decode cX12_moves 94 = .ok (.aload_n 0, 1) := by decide +kernel
theorem dX12_moves_95 : decode cX12_moves 95 = .ok (.iload_n 2, 1) := by decide +kernel
theorem dX12_moves_96 : decode cX12_moves 96 = .ok (.invokevirtual 237, 3) := by decide +kernel
theorem dX12_moves_99 : decode cX12_moves 99 = .ok (.iconst 0, 1) := by decide +kernel
theorem dX12_moves_100 : decode cX12_moves 100 = .ok (.iconst 0, 1) := by decide +kernel
theorem dX12_moves_101 : decode cX12_moves 101 = .ok (.invokevirtual 240, 3) := by decide +kernel
theorem dX12_moves_104 : decode cX12_moves 104 = .ok (.goto 54, 3) := by decide +kernel
theorem dX12_moves_107 : decode cX12_moves 107 = .ok (.aload_n 0, 1) := by decide +kernel
theorem dX12_moves_108 : decode cX12_moves 108 = .ok (.iload_n 1, 1) := by decide +kernel
theorem dX12_moves_109 : decode cX12_moves 109 = .ok (.invokevirtual 234, 3) := by decide +kernel
theorem dX12_moves_112 : decode cX12_moves 112 = .ok (.aload_n 0, 1) := by decide +kernel
theorem dX12_moves_113 : decode cX12_moves 113 = .ok (.iload_n 2, 1) := by decide +kernel
theorem dX12_moves_114 : decode cX12_moves 114 = .ok (.invokevirtual 234, 3) := by decide +kernel
theorem dX12_moves_117 : decode cX12_moves 117 = .ok (.if_icmp .eq 41, 3) := by decide +kernel
theorem dX12_moves_120 : decode cX12_moves 120 = .ok (.aload_n 0, 1) := by decide +kernel
theorem dX12_moves_121 : decode cX12_moves 121 = .ok (.bipush 9, 2) := by decide +kernel
theorem dX12_moves_123 : decode cX12_moves 123 = .ok (.aload_n 0, 1) := by decide +kernel
theorem dX12_moves_124 : decode cX12_moves 124 = .ok (.getfield 222, 3) := by decide +kernel
theorem dX12_moves_127 : decode cX12_moves 127 = .ok (.iconst 2, 1) := by decide +kernel
theorem dX12_moves_128 : decode cX12_moves 128 = .ok (.isub, 1) := by decide +kernel
theorem dX12_moves_129 : decode cX12_moves 129 = .ok (.aload_n 0, 1) := by decide +kernel
theorem dX12_moves_130 : decode cX12_moves 130 = .ok (.iload_n 2, 1) := by decide +kernel
theorem dX12_moves_131 : decode cX12_moves 131 = .ok (.invokevirtual 234, 3) := by decide +kernel
theorem dX12_moves_134 : decode cX12_moves 134 = .ok (.iconst 0, 1) := by decide +kernel
theorem dX12_moves_135 : decode cX12_moves 135 = .ok (.iconst 0, 1) := by decide +kernel
theorem dX12_moves_136 : decode cX12_moves 136 = .ok (.invokevirtual 240, 3) := by decide +kernel
theorem dX12_moves_139 : decode cX12_moves 139 = .ok (.aload_n 0, 1) := by decide +kernel
theorem dX12_moves_140 : decode cX12_moves 140 = .ok (.bipush 10, 2) := by decide +kernel
theorem dX12_moves_142 : decode cX12_moves 142 = .ok (.aload_n 0, 1) := by decide +kernel
theorem dX12_moves_143 : decode cX12_moves 143 = .ok (.iload_n 1, 1) := by decide +kernel
theorem dX12_moves_144 : decode cX12_moves 144 = .ok (.invokevirtual 234, 3) := by decide +kernel
theorem dX12_moves_147 : decode cX12_moves 147 = .ok (.aload_n 0, 1) := by decide +kernel
theorem dX12_moves_148 : decode cX12_moves 148 = .ok (.getfield 222, 3) := by decide +kernel
theorem dX12_moves_151 : decode cX12_moves 151 = .ok (.iconst 2, 1) := by decide +kernel
theorem dX12_moves_152 : decode cX12_moves 152 = .ok (.isub, 1) := by decide +kernel
theorem dX12_moves_153 : decode cX12_moves 153 = .ok (.iconst 0, 1) := by decide +kernel
theorem dX12_moves_154 : decode cX12_moves 154 = .ok (.iconst 0, 1) := by decide +kernel
theorem dX12_moves_155 : decode cX12_moves 155 = .ok (.invokevirtual 240, 3) := by decide +kernel
theorem dX12_moves_158 : decode cX12_moves 158 = .ok (.return_, 1) := by decide +kernel
theorem dX12_swaps_0 : decode cX12_swaps 0 = .ok (.aload_n 0, 1) := by decide +kernel
theorem dX12_swaps_1 : decode cX12_swaps 1 = .ok (.iload_n 1, 1) := by decide +kernel
theorem dX12_swaps_2 : decode cX12_swaps 2 = .ok (.invokevirtual 234, 3) := by decide +kernel
theorem dX12_swaps_5 : decode cX12_swaps 5 = .ok (.ifCond .ge 29, 3) := by decide +kernel
theorem dX12_swaps_8 : decode cX12_swaps 8 = .ok (.aload_n 0, 1) := by decide +kernel
theorem dX12_swaps_9 : decode cX12_swaps 9 = .ok (.iload_n 2, 1) := by decide +kernel
theorem dX12_swaps_10 : decode cX12_swaps 10 = .ok (.invokevirtual 234, 3) := by decide +kernel
theorem dX12_swaps_13 : decode cX12_swaps 13 = .ok (.ifCond .ge 21, 3) := by decide +kernel
theorem dX12_swaps_16 : decode cX12_swaps 16 = .ok (.aload_n 0, 1) := by decide +kernel
theorem dX12_swaps_17 : decode cX12_swaps 17 = .ok (.iconst 3, 1) := by decide +kernel
theorem dX12_swaps_18 : decode cX12_swaps 18 = .ok (.aload_n 0, 1) := by decide +kernel
theorem dX12_swaps_19 : decode cX12_swaps 19 = .ok (.iload_n 1, 1) := by decide +kernel
theorem dX12_swaps_20 : decode cX12_swaps 20 = .ok (.invokevirtual 237, 3) := by decide +kernel
theorem dX12_swaps_23 : decode cX12_swaps 23 = .ok (.aload_n 0, 1) := by decide +kernel
theorem dX12_swaps_24 : decode cX12_swaps 24 = .ok (.iload_n 2, 1) := by decide +kernel
theorem dX12_swaps_25 : decode cX12_swaps 25 = .ok (.invokevirtual 237, 3) := by decide +kernel
theorem dX12_swaps_28 : decode cX12_swaps 28 = .ok (.iconst 0, 1) := by decide +kernel
theorem dX12_swaps_29 : decode cX12_swaps 29 = .ok (.iconst 0, 1) := by decide +kernel
theorem dX12_swaps_30 : decode cX12_swaps 30 = .ok (.invokevirtual 240, 3) := by decide +kernel
theorem dX12_swaps_33 : decode cX12_swaps 33 = .ok (.return_, 1) := by decide +kernel
theorem dX12_swaps_34 : decode cX12_swaps 34 = .ok (.aload_n 0, 1) := by decide +kernel
theorem dX12_swaps_35 : decode cX12_swaps 35 = .ok (.iload_n 3, 1) := by decide +kernel
theorem dX12_swaps_36 : decode cX12_swaps 36 = .ok (.iload_n 1, 1) := by decide +kernel
theorem dX12_swaps_37 : decode cX12_swaps 37 = .ok (.invokevirtual 262, 3) := by decide +kernel
theorem dX12_swaps_40 : decode cX12_swaps 40 = .ok (.aload_n 0, 1) := by decide +kernel
theorem dX12_swaps_41 : decode cX12_swaps 41 = .ok (.iload 4, 2) := by decide +kernel
theorem dX12_swaps_43 : decode cX12_swaps 43 = .ok (.iload_n 2, 1) := by decide +kernel
theorem dX12_swaps_44 : decode cX12_swaps 44 = .ok (.invokevirtual 262, 3) := by decide +kernel
theorem dX12_swaps_47 : decode cX12_swaps 47 = .ok (.aload_n 0, 1) := by decide +kernel
theorem dX12_swaps_48 : decode cX12_swaps 48 = .ok (.iload_n 1, 1) := by decide +kernel
theorem dX12_swaps_49 : decode cX12_swaps 49 = .ok (.iload 4, 2) := by decide +kernel
theorem dX12_swaps_51 : decode cX12_swaps 51 = .ok (.invokevirtual 265, 3) := by decide +kernel
theorem dX12_swaps_54 : decode cX12_swaps 54 = .ok (.aload_n 0, 1) := by decide +kernel
theorem dX12_swaps_55 : decode cX12_swaps 55 = .ok (.iload_n 2, 1) := by decide +kernel
theorem dX12_swaps_56 : decode cX12_swaps 56 = .ok (.iload_n 3, 1) := by decide +kernel
theorem dX12_swaps_57 : decode cX12_swaps 57 = .ok (.invokevirtual 265, 3) := by decide +kernel
theorem dX12_swaps_60 : decode cX12_swaps 60 = .ok (.return_, 1) := by decide +kernel
theorem dX12_into_0 : decode cX12_into 0 = .ok (.aload_n 0, 1) := by decide +kernel
theorem dX12_into_1 : decode cX12_into 1 = .ok (.iload_n 2, 1) := by decide +kernel
theorem dX12_into_2 : decode cX12_into 2 = .ok (.invokevirtual 234, 3) := by decide +kernel
theorem dX12_into_5 : decode cX12_into 5 = .ok (.ifCond .ge 19, 3) := by decide +kernel
theorem dX12_into_8 : decode cX12_into 8 = .ok (.aload_n 0, 1) := by decide +kernel
theorem dX12_into_9 : decode cX12_into 9 = .ok (.iconst 1, 1) := by decide +kernel
theorem dX12_into_10 : decode cX12_into 10 = .ok (.iload_n 1, 1) := by decide +kernel
theorem dX12_into_11 : decode cX12_into 11 = .ok (.aload_n 0, 1) := by decide +kernel
theorem dX12_into_12 : decode cX12_into 12 = .ok (.iload_n 2, 1) := by decide +kernel
theorem dX12_into_13 : decode cX12_into 13 = .ok (.invokevirtual 237, 3) := by decide +kernel
theorem dX12_into_16 : decode cX12_into 16 = .ok (.iconst 0, 1) := by decide +kernel
theorem dX12_into_17 : decode cX12_into 17 = .ok (.iconst 0, 1) := by decide +kernel
theorem dX12_into_18 : decode cX12_into 18 = .ok (.invokevirtual 240, 3) := by decide +kernel
theorem dX12_into_21 : decode cX12_into 21 = .ok (.goto 17, 3) := by decide +kernel
theorem dX12_into_24 : decode cX12_into 24 = .ok (.aload_n 0, 1) := by decide +kernel
theorem dX12_into_25 : decode cX12_into 25 = .ok (.bipush 9, 2) := by decide +kernel
theorem dX12_into_27 : decode cX12_into 27 = .ok (.iload_n 1, 1) := by decide +kernel
theorem dX12_into_28 : decode cX12_into 28 = .ok (.aload_n 0, 1) := by decide +kernel
theorem dX12_into_29 : decode cX12_into 29 = .ok (.iload_n 2, 1) := by decide +kernel
theorem dX12_into_30 : decode cX12_into 30 = .ok (.invokevirtual 234, 3) := by decide +kernel
theorem dX12_into_33 : decode cX12_into 33 = .ok (.iconst 0, 1) := by decide +kernel
theorem dX12_into_34 : decode cX12_into 34 = .ok (.iconst 0, 1) := by decide +kernel
theorem dX12_into_35 : decode cX12_into 35 = .ok (.invokevirtual 240, 3) := by decide +kernel
theorem dX12_into_38 : decode cX12_into 38 = .ok (.return_, 1) := by decide +kernel
theorem dX12_outOf_0 : decode cX12_outOf 0 = .ok (.aload_n 0, 1) := by decide +kernel
theorem dX12_outOf_1 : decode cX12_outOf 1 = .ok (.iload_n 1, 1) := by decide +kernel
theorem dX12_outOf_2 : decode cX12_outOf 2 = .ok (.invokevirtual 234, 3) := by decide +kernel
theorem dX12_outOf_5 : decode cX12_outOf 5 = .ok (.ifCond .ge 19, 3) := by decide +kernel
theorem dX12_outOf_8 : decode cX12_outOf 8 = .ok (.aload_n 0, 1) := by decide +kernel
theorem dX12_outOf_9 : decode cX12_outOf 9 = .ok (.iconst 1, 1) := by decide +kernel
theorem dX12_outOf_10 : decode cX12_outOf 10 = .ok (.aload_n 0, 1) := by decide +kernel
theorem dX12_outOf_11 : decode cX12_outOf 11 = .ok (.iload_n 1, 1) := by decide +kernel
theorem dX12_outOf_12 : decode cX12_outOf 12 = .ok (.invokevirtual 237, 3) := by decide +kernel
theorem dX12_outOf_15 : decode cX12_outOf 15 = .ok (.iload_n 2, 1) := by decide +kernel
theorem dX12_outOf_16 : decode cX12_outOf 16 = .ok (.iconst 0, 1) := by decide +kernel
theorem dX12_outOf_17 : decode cX12_outOf 17 = .ok (.iconst 0, 1) := by decide +kernel
theorem dX12_outOf_18 : decode cX12_outOf 18 = .ok (.invokevirtual 240, 3) := by decide +kernel
theorem dX12_outOf_21 : decode cX12_outOf 21 = .ok (.goto 17, 3) := by decide +kernel
theorem dX12_outOf_24 : decode cX12_outOf 24 = .ok (.aload_n 0, 1) := by decide +kernel
theorem dX12_outOf_25 : decode cX12_outOf 25 = .ok (.bipush 10, 2) := by decide +kernel
theorem dX12_outOf_27 : decode cX12_outOf 27 = .ok (.aload_n 0, 1) := by decide +kernel
theorem dX12_outOf_28 : decode cX12_outOf 28 = .ok (.iload_n 1, 1) := by decide +kernel
theorem dX12_outOf_29 : decode cX12_outOf 29 = .ok (.invokevirtual 234, 3) := by decide +kernel
theorem dX12_outOf_32 : decode cX12_outOf 32 = .ok (.iload_n 2, 1) := by decide +kernel
theorem dX12_outOf_33 : decode cX12_outOf 33 = .ok (.iconst 0, 1) := by decide +kernel
theorem dX12_outOf_34 : decode cX12_outOf 34 = .ok (.iconst 0, 1) := by decide +kernel
theorem dX12_outOf_35 : decode cX12_outOf 35 = .ok (.invokevirtual 240, 3) := by decide +kernel
theorem dX12_outOf_38 : decode cX12_outOf 38 = .ok (.return_, 1) := by decide +kernel
theorem dX12_turn_0 : decode cX12_turn 0 = .ok (.aload_n 0, 1) := by decide +kernel
theorem dX12_turn_1 : decode cX12_turn 1 = .ok (.iconst 0, 1) := by decide +kernel
theorem dX12_turn_2 : decode cX12_turn 2 = .ok (.putfield 137, 3) := by decide +kernel
theorem dX12_turn_5 : decode cX12_turn 5 = .ok (.aload_n 0, 1) := by decide +kernel
theorem dX12_turn_6 : decode cX12_turn 6 = .ok (.getfield 144, 3) := by decide +kernel
theorem dX12_turn_9 : decode cX12_turn 9 = .ok (.ifCond .eq 14, 3) := by decide +kernel
theorem dX12_turn_12 : decode cX12_turn 12 = .ok (.iload_n 1, 1) := by decide +kernel
theorem dX12_turn_13 : decode cX12_turn 13 = .ok (.iconst 3, 1) := by decide +kernel
theorem dX12_turn_14 : decode cX12_turn 14 = .ok (.if_icmp .lt 9, 3) := by decide +kernel
theorem dX12_turn_17 : decode cX12_turn 17 = .ok (.iload_n 1, 1) := by decide +kernel
theorem dX12_turn_18 : decode cX12_turn 18 = .ok (.bipush 16, 2) := by decide +kernel
theorem dX12_turn_20 : decode cX12_turn 20 = .ok (.if_icmp .le 5, 3) := by decide +kernel
theorem dX12_turn_23 : decode cX12_turn 23 = .ok (.iconst (-1), 1) := by decide +kernel
theorem dX12_turn_24 : decode cX12_turn 24 = .ok (.ireturn, 1) := by decide +kernel
theorem dX12_turn_25 : decode cX12_turn 25 = .ok (.aload_n 0, 1) := by decide +kernel
theorem dX12_turn_26 : decode cX12_turn 26 = .ok (.iconst 0, 1) := by decide +kernel
theorem dX12_turn_27 : decode cX12_turn 27 = .ok (.putfield 268, 3) := by decide +kernel
theorem dX12_turn_30 : decode cX12_turn 30 = .ok (.aload_n 0, 1) := by decide +kernel
theorem dX12_turn_31 : decode cX12_turn 31 = .ok (.iconst 0, 1) := by decide +kernel
theorem dX12_turn_32 : decode cX12_turn 32 = .ok (.putfield 228, 3) := by decide +kernel
theorem dX12_turn_35 : decode cX12_turn 35 = .ok (.aload_n 0, 1) := by decide +kernel
theorem dX12_turn_36 : decode cX12_turn 36 = .ok (.iload_n 1, 1) := by decide +kernel
theorem dX12_turn_37 : decode cX12_turn 37 = .ok (.putfield 222, 3) := by decide +kernel
theorem dX12_turn_40 : decode cX12_turn 40 = .ok (.aload_n 0, 1) := by decide +kernel
theorem dX12_turn_41 : decode cX12_turn 41 = .ok (.iconst 0, 1) := by decide +kernel
theorem dX12_turn_42 : decode cX12_turn 42 = .ok (.putfield 225, 3) := by decide +kernel
theorem dX12_turn_45 : decode cX12_turn 45 = .ok (.iconst 0, 1) := by decide +kernel
theorem dX12_turn_46 : decode cX12_turn 46 = .ok (.istore_n 2, 1) := by decide +kernel
theorem dX12_turn_47 : decode cX12_turn 47 = .ok (.iload_n 2, 1) := by decide +kernel
theorem dX12_turn_48 : decode cX12_turn 48 = .ok (.aload_n 0, 1) := by decide +kernel
theorem dX12_turn_49 : decode cX12_turn 49 = .ok (.getfield 141, 3) := by decide +kernel
theorem dX12_turn_52 : decode cX12_turn 52 = .ok (.if_icmp .ge 42, 3) := by decide +kernel
theorem dX12_turn_55 : decode cX12_turn 55 = .ok (.aload_n 0, 1) := by decide +kernel
theorem dX12_turn_56 : decode cX12_turn 56 = .ok (.iload_n 2, 1) := by decide +kernel
theorem dX12_turn_57 : decode cX12_turn 57 = .ok (.invokevirtual 271, 3) := by decide +kernel
theorem dX12_turn_60 : decode cX12_turn 60 = .ok (.aload_n 0, 1) := by decide +kernel
theorem dX12_turn_61 : decode cX12_turn 61 = .ok (.invokevirtual 274, 3) := by decide +kernel
theorem dX12_turn_64 : decode cX12_turn 64 = .ok (.aload_n 0, 1) := by decide +kernel
theorem dX12_turn_65 : decode cX12_turn 65 = .ok (.invokevirtual 277, 3) := by decide +kernel
theorem dX12_turn_68 : decode cX12_turn 68 = .ok (.aload_n 0, 1) := by decide +kernel
theorem dX12_turn_69 : decode cX12_turn 69 = .ok (.getfield 77, 3) := by decide +kernel
theorem dX12_turn_72 : decode cX12_turn 72 = .ok (.iload_n 2, 1) := by decide +kernel
theorem dX12_turn_73 : decode cX12_turn 73 = .ok (.aload_n 0, 1) := by decide +kernel
theorem dX12_turn_74 : decode cX12_turn 74 = .ok (.getfield 176, 3) := by decide +kernel
theorem dX12_turn_77 : decode cX12_turn 77 = .ok (.iastore, 1) := by decide +kernel
theorem dX12_turn_78 : decode cX12_turn 78 = .ok (.aload_n 0, 1) := by decide +kernel
theorem dX12_turn_79 : decode cX12_turn 79 = .ok (.iload_n 2, 1) := by decide +kernel
theorem dX12_turn_80 : decode cX12_turn 80 = .ok (.invokevirtual 280, 3) := by decide +kernel
theorem dX12_turn_83 : decode cX12_turn 83 = .ok (.aload_n 0, 1) := by decide +kernel
theorem dX12_turn_84 : decode cX12_turn 84 = .ok (.iload_n 2, 1) := by decide +kernel
theorem dX12_turn_85 : decode cX12_turn 85 = .ok (.invokevirtual 283, 3) := by decide +kernel
theorem dX12_turn_88 : decode cX12_turn 88 = .ok (.iinc 2 1, 3) := by decide +kernel
theorem dX12_turn_91 : decode cX12_turn 91 = .ok (.goto (-44), 3) := by decide +kernel
theorem dX12_turn_94 : decode cX12_turn 94 = .ok (.aload_n 0, 1) := by decide +kernel
theorem dX12_turn_95 : decode cX12_turn 95 = .ok (.invokevirtual 159, 3) := by decide +kernel
theorem dX12_turn_98 : decode cX12_turn 98 = .ok (.aload_n 0, 1) := by decide +kernel
theorem dX12_turn_99 : decode cX12_turn 99 = .ok (.getfield 228, 3) := by decide +kernel
theorem dX12_turn_102 : decode cX12_turn 102 = .ok (.ifCond .eq 5, 3) := by decide +kernel
theorem dX12_turn_105 : decode cX12_turn 105 = .ok (.iconst (-1), 1) := by decide +kernel
theorem dX12_turn_106 : decode cX12_turn 106 = .ok (.ireturn, 1) := by decide +kernel
theorem dX12_turn_107 : decode cX12_turn 107 = .ok (.aload_n 0, 1) := by decide +kernel
theorem dX12_turn_108 : decode cX12_turn 108 = .ok (.iconst 1, 1) := by decide +kernel
theorem dX12_turn_109 : decode cX12_turn 109 = .ok (.putfield 268, 3) := by decide +kernel
theorem dX12_turn_112 : decode cX12_turn 112 = .ok (.aload_n 0, 1) := by decide +kernel
theorem dX12_turn_113 : decode cX12_turn 113 = .ok (.getfield 225, 3) := by decide +kernel
theorem dX12_turn_116 : decode cX12_turn 116 = .ok (.ireturn, 1) := by decide +kernel
theorem dX12_begin_0 : decode cX12_begin 0 = .ok (.iconst 0, 1) := by decide +kernel
theorem dX12_begin_1 : decode cX12_begin 1 = .ok (.istore_n 1, 1) := by decide +kernel
theorem dX12_begin_2 : decode cX12_begin 2 = .ok (.iload_n 1, 1) := by decide +kernel
theorem dX12_begin_3 : decode cX12_begin 3 = .ok (.iconst 2, 1) := by decide +kernel
theorem dX12_begin_4 : decode cX12_begin 4 = .ok (.if_icmp .ge 51, 3) := by decide +kernel
theorem dX12_begin_7 : decode cX12_begin 7 = .ok (.aload_n 0, 1) := by decide +kernel
theorem dX12_begin_8 : decode cX12_begin 8 = .ok (.getfield 98, 3) := by decide +kernel
theorem dX12_begin_11 : decode cX12_begin 11 = .ok (.iload_n 1, 1) := by decide +kernel
theorem dX12_begin_12 : decode cX12_begin 12 = .ok (.iconst 0, 1) := by decide +kernel
theorem dX12_begin_13 : decode cX12_begin 13 = .ok (.iastore, 1) := by decide +kernel
theorem dX12_begin_14 : decode cX12_begin 14 = .ok (.aload_n 0, 1) := by decide +kernel
theorem dX12_begin_15 : decode cX12_begin 15 = .ok (.getfield 101, 3) := by decide +kernel
theorem dX12_begin_18 : decode cX12_begin 18 = .ok (.iload_n 1, 1) := by decide +kernel
theorem dX12_begin_19 : decode cX12_begin 19 = .ok (.iconst 0, 1) := by decide +kernel
theorem dX12_begin_20 : decode cX12_begin 20 = .ok (.iastore, 1) := by decide +kernel
theorem dX12_begin_21 : decode cX12_begin 21 = .ok (.aload_n 0, 1) := by decide +kernel
theorem dX12_begin_22 : decode cX12_begin 22 = .ok (.getfield 104, 3) := by decide +kernel
theorem dX12_begin_25 : decode cX12_begin 25 = .ok (.iload_n 1, 1) := by decide +kernel
theorem dX12_begin_26 : decode cX12_begin 26 = .ok (.iconst 0, 1) := by decide +kernel
theorem dX12_begin_27 : decode cX12_begin 27 = .ok (.iastore, 1) := by decide +kernel
theorem dX12_begin_28 : decode cX12_begin 28 = .ok (.aload_n 0, 1) := by decide +kernel
theorem dX12_begin_29 : decode cX12_begin 29 = .ok (.getfield 107, 3) := by decide +kernel
theorem dX12_begin_32 : decode cX12_begin 32 = .ok (.iload_n 1, 1) := by decide +kernel
theorem dX12_begin_33 : decode cX12_begin 33 = .ok (.iconst 0, 1) := by decide +kernel
theorem dX12_begin_34 : decode cX12_begin 34 = .ok (.iastore, 1) := by decide +kernel
theorem dX12_begin_35 : decode cX12_begin 35 = .ok (.aload_n 0, 1) := by decide +kernel
theorem dX12_begin_36 : decode cX12_begin 36 = .ok (.getfield 110, 3) := by decide +kernel
theorem dX12_begin_39 : decode cX12_begin 39 = .ok (.iload_n 1, 1) := by decide +kernel
theorem dX12_begin_40 : decode cX12_begin 40 = .ok (.iconst 0, 1) := by decide +kernel
theorem dX12_begin_41 : decode cX12_begin 41 = .ok (.iastore, 1) := by decide +kernel
theorem dX12_begin_42 : decode cX12_begin 42 = .ok (.aload_n 0, 1) := by decide +kernel
theorem dX12_begin_43 : decode cX12_begin 43 = .ok (.getfield 134, 3) := by decide +kernel
theorem dX12_begin_46 : decode cX12_begin 46 = .ok (.iload_n 1, 1) := by decide +kernel
theorem dX12_begin_47 : decode cX12_begin 47 = .ok (.iconst 0, 1) := by decide +kernel
theorem dX12_begin_48 : decode cX12_begin 48 = .ok (.iastore, 1) := by decide +kernel
theorem dX12_begin_49 : decode cX12_begin 49 = .ok (.iinc 1 1, 3) := by decide +kernel
theorem dX12_begin_52 : decode cX12_begin 52 = .ok (.goto (-50), 3) := by decide +kernel
theorem dX12_begin_55 : decode cX12_begin 55 = .ok (.iconst 0, 1) := by decide +kernel
theorem dX12_begin_56 : decode cX12_begin 56 = .ok (.istore_n 1, 1) := by decide +kernel
theorem dX12_begin_57 : decode cX12_begin 57 = .ok (.iload_n 1, 1) := by decide +kernel
theorem dX12_begin_58 : decode cX12_begin 58 = .ok (.bipush 12, 2) := by decide +kernel
theorem dX12_begin_60 : decode cX12_begin 60 = .ok (.if_icmp .ge 16, 3) := by decide +kernel
theorem dX12_begin_63 : decode cX12_begin 63 = .ok (.aload_n 0, 1) := by decide +kernel
theorem dX12_begin_64 : decode cX12_begin 64 = .ok (.getfield 131, 3) := by decide +kernel
theorem dX12_begin_67 : decode cX12_begin 67 = .ok (.iload_n 1, 1) := by decide +kernel
theorem dX12_begin_68 : decode cX12_begin 68 = .ok (.iconst 0, 1) := by decide +kernel
theorem dX12_begin_69 : decode cX12_begin 69 = .ok (.iastore, 1) := by decide +kernel
theorem dX12_begin_70 : decode cX12_begin 70 = .ok (.iinc 1 1, 3) := by decide +kernel
theorem dX12_begin_73 : decode cX12_begin 73 = .ok (.goto (-16), 3) := by decide +kernel
theorem dX12_begin_76 : decode cX12_begin 76 = .ok (.return_, 1) := by decide +kernel
theorem dX12_enters_0 : decode cX12_enters 0 = .ok (.bipush 30, 2) := by decide +kernel
theorem dX12_enters_2 : decode cX12_enters 2 = .ok (.iload_n 1, 1) := by decide +kernel
theorem dX12_enters_3 : decode cX12_enters 3 = .ok (.imul, 1) := by decide +kernel
theorem dX12_enters_4 : decode cX12_enters 4 = .ok (.aload_n 0, 1) := by decide +kernel
theorem dX12_enters_5 : decode cX12_enters 5 = .ok (.getfield 110, 3) := by decide +kernel
theorem dX12_enters_8 : decode cX12_enters 8 = .ok (.iload_n 1, 1) := by decide +kernel
theorem dX12_enters_9 : decode cX12_enters 9 = .ok (.iaload, 1) := by decide +kernel
theorem dX12_enters_10 : decode cX12_enters 10 = .ok (.iadd, 1) := by decide +kernel
theorem dX12_enters_11 : decode cX12_enters 11 = .ok (.istore_n 3, 1) := by decide +kernel
theorem dX12_enters_12 : decode cX12_enters 12 = .ok (.aload_n 0, 1) := by decide +kernel
theorem dX12_enters_13 : decode cX12_enters 13 = .ok (.getfield 110, 3) := by decide +kernel
theorem dX12_enters_16 : decode cX12_enters 16 = .ok (.iload_n 1, 1) := by decide +kernel
theorem dX12_enters_17 : decode cX12_enters 17 = .ok (.dup2, 1) := by decide +kernel
theorem dX12_enters_18 : decode cX12_enters 18 = .ok (.iaload, 1) := by decide +kernel
theorem dX12_enters_19 : decode cX12_enters 19 = .ok (.iconst 1, 1) := by decide +kernel
theorem dX12_enters_20 : decode cX12_enters 20 = .ok (.iadd, 1) := by decide +kernel
theorem dX12_enters_21 : decode cX12_enters 21 = .ok (.iastore, 1) := by decide +kernel
theorem dX12_enters_22 : decode cX12_enters 22 = .ok (.aload_n 0, 1) := by decide +kernel
theorem dX12_enters_23 : decode cX12_enters 23 = .ok (.getfield 107, 3) := by decide +kernel
theorem dX12_enters_26 : decode cX12_enters 26 = .ok (.iload_n 1, 1) := by decide +kernel
theorem dX12_enters_27 : decode cX12_enters 27 = .ok (.dup2, 1) := by decide +kernel
theorem dX12_enters_28 : decode cX12_enters 28 = .ok (.iaload, 1) := by decide +kernel
theorem dX12_enters_29 : decode cX12_enters 29 = .ok (.iconst 1, 1) := by decide +kernel
theorem dX12_enters_30 : decode cX12_enters 30 = .ok (.iadd, 1) := by decide +kernel
theorem dX12_enters_31 : decode cX12_enters 31 = .ok (.iastore, 1) := by decide +kernel
theorem dX12_enters_32 : decode cX12_enters 32 = .ok (.aload_n 0, 1) := by decide +kernel
theorem dX12_enters_33 : decode cX12_enters 33 = .ok (.getfield 113, 3) := by decide +kernel
theorem dX12_enters_36 : decode cX12_enters 36 = .ok (.iload_n 3, 1) := by decide +kernel
theorem dX12_enters_37 : decode cX12_enters 37 = .ok (.iload_n 2, 1) := by decide +kernel
theorem dX12_enters_38 : decode cX12_enters 38 = .ok (.iastore, 1) := by decide +kernel
theorem dX12_enters_39 : decode cX12_enters 39 = .ok (.aload_n 0, 1) := by decide +kernel
theorem dX12_enters_40 : decode cX12_enters 40 = .ok (.getfield 116, 3) := by decide +kernel
theorem dX12_enters_43 : decode cX12_enters 43 = .ok (.iload_n 3, 1) := by decide +kernel
theorem dX12_enters_44 : decode cX12_enters 44 = .ok (.iconst 0, 1) := by decide +kernel
theorem dX12_enters_45 : decode cX12_enters 45 = .ok (.iastore, 1) := by decide +kernel
theorem dX12_enters_46 : decode cX12_enters 46 = .ok (.iconst 0, 1) := by decide +kernel
theorem dX12_enters_47 : decode cX12_enters 47 = .ok (.istore 4, 2) := by decide +kernel
theorem dX12_enters_49 : decode cX12_enters 49 = .ok (.iload 4, 2) := by decide +kernel
theorem dX12_enters_51 : decode cX12_enters 51 = .ok (.bipush 24, 2) := by decide +kernel
theorem dX12_enters_53 : decode cX12_enters 53 = .ok (.if_icmp .ge 65, 3) := by decide +kernel
theorem dX12_enters_56 : decode cX12_enters 56 = .ok (.aload_n 0, 1) := by decide +kernel
theorem dX12_enters_57 : decode cX12_enters 57 = .ok (.getfield 119, 3) := by decide +kernel
theorem dX12_enters_60 : decode cX12_enters 60 = .ok (.bipush 24, 2) := by decide +kernel
theorem dX12_enters_62 : decode cX12_enters 62 = .ok (.iload_n 3, 1) := by decide +kernel
theorem dX12_enters_63 : decode cX12_enters 63 = .ok (.imul, 1) := by decide +kernel
theorem dX12_enters_64 : decode cX12_enters 64 = .ok (.iload 4, 2) := by decide +kernel
theorem dX12_enters_66 : decode cX12_enters 66 = .ok (.iadd, 1) := by decide +kernel
theorem dX12_enters_67 : decode cX12_enters 67 = .ok (.iload_n 1, 1) := by decide +kernel
theorem dX12_enters_68 : decode cX12_enters 68 = .ok (.ifCond .ne 29, 3) := by decide +kernel
theorem dX12_enters_71 : decode cX12_enters 71 = .ok (.iload 4, 2) := by decide +kernel
theorem dX12_enters_73 : decode cX12_enters 73 = .ok (.aload_n 0, 1) := by decide +kernel
theorem dX12_enters_74 : decode cX12_enters 74 = .ok (.getfield 7, 3) := by decide +kernel
theorem dX12_enters_77 : decode cX12_enters 77 = .ok (.iload_n 2, 1) := by decide +kernel
theorem dX12_enters_78 : decode cX12_enters 78 = .ok (.iaload, 1) := by decide +kernel
theorem dX12_enters_79 : decode cX12_enters 79 = .ok (.if_icmp .ge 18, 3) := by decide +kernel
theorem dX12_enters_82 : decode cX12_enters 82 = .ok (.aload_n 0, 1) := by decide +kernel
theorem dX12_enters_83 : decode cX12_enters 83 = .ok (.getfield 131, 3) := by decide +kernel
theorem dX12_enters_86 : decode cX12_enters 86 = .ok (.bipush 6, 2) := by decide +kernel
theorem dX12_enters_88 : decode cX12_enters 88 = .ok (.iload_n 1, 1) := by decide +kernel
theorem dX12_enters_89 : decode cX12_enters 89 = .ok (.imul, 1) := by decide +kernel
theorem dX12_enters_90 : decode cX12_enters 90 = .ok (.iload 4, 2) := by decide +kernel
theorem dX12_enters_92 : decode cX12_enters 92 = .ok (.iadd, 1) := by decide +kernel
theorem dX12_enters_93 : decode cX12_enters 93 = .ok (.iaload, 1) := by decide +kernel
theorem dX12_enters_94 : decode cX12_enters 94 = .ok (.goto 4, 3) := by decide +kernel
theorem dX12_enters_97 : decode cX12_enters 97 = .ok (.iconst 0, 1) := by decide +kernel
theorem dX12_enters_98 : decode cX12_enters 98 = .ok (.iastore, 1) := by decide +kernel
theorem dX12_enters_99 : decode cX12_enters 99 = .ok (.aload_n 0, 1) := by decide +kernel
theorem dX12_enters_100 : decode cX12_enters 100 = .ok (.getfield 125, 3) := by decide +kernel
theorem dX12_enters_103 : decode cX12_enters 103 = .ok (.bipush 24, 2) := by decide +kernel
theorem dX12_enters_105 : decode cX12_enters 105 = .ok (.iload_n 3, 1) := by decide +kernel
theorem dX12_enters_106 : decode cX12_enters 106 = .ok (.imul, 1) := by decide +kernel
theorem dX12_enters_107 : decode cX12_enters 107 = .ok (.iload 4, 2) := by decide +kernel
theorem dX12_enters_109 : decode cX12_enters 109 = .ok (.iadd, 1) := by decide +kernel
theorem dX12_enters_110 : decode cX12_enters 110 = .ok (.iconst 0, 1) := by decide +kernel
theorem dX12_enters_111 : decode cX12_enters 111 = .ok (.iastore, 1) := by decide +kernel
theorem dX12_enters_112 : decode cX12_enters 112 = .ok (.iinc 4 1, 3) := by decide +kernel
theorem dX12_enters_115 : decode cX12_enters 115 = .ok (.goto (-66), 3) := by decide +kernel
theorem dX12_enters_118 : decode cX12_enters 118 = .ok (.iconst 0, 1) := by decide +kernel
theorem dX12_enters_119 : decode cX12_enters 119 = .ok (.istore 4, 2) := by decide +kernel
theorem dX12_enters_121 : decode cX12_enters 121 = .ok (.iload 4, 2) := by decide +kernel
theorem dX12_enters_123 : decode cX12_enters 123 = .ok (.bipush 6, 2) := by decide +kernel
theorem dX12_enters_125 : decode cX12_enters 125 = .ok (.if_icmp .ge 48, 3) := by decide +kernel
theorem dX12_enters_128 : decode cX12_enters 128 = .ok (.aload_n 0, 1) := by decide +kernel
theorem dX12_enters_129 : decode cX12_enters 129 = .ok (.getfield 128, 3) := by decide +kernel
theorem dX12_enters_132 : decode cX12_enters 132 = .ok (.bipush 7, 2) := by decide +kernel
theorem dX12_enters_134 : decode cX12_enters 134 = .ok (.iload_n 3, 1) := by decide +kernel
theorem dX12_enters_135 : decode cX12_enters 135 = .ok (.imul, 1) := by decide +kernel
theorem dX12_enters_136 : decode cX12_enters 136 = .ok (.iload 4, 2) := by decide +kernel
theorem dX12_enters_138 : decode cX12_enters 138 = .ok (.iadd, 1) := by decide +kernel
theorem dX12_enters_139 : decode cX12_enters 139 = .ok (.iload 4, 2) := by decide +kernel
theorem dX12_enters_141 : decode cX12_enters 141 = .ok (.aload_n 0, 1) := by decide +kernel
theorem dX12_enters_142 : decode cX12_enters 142 = .ok (.getfield 7, 3) := by decide +kernel
theorem dX12_enters_145 : decode cX12_enters 145 = .ok (.iload_n 2, 1) := by decide +kernel
theorem dX12_enters_146 : decode cX12_enters 146 = .ok (.iaload, 1) := by decide +kernel
theorem dX12_enters_147 : decode cX12_enters 147 = .ok (.if_icmp .ge 18, 3) := by decide +kernel
theorem dX12_enters_150 : decode cX12_enters 150 = .ok (.aload_n 0, 1) := by decide +kernel
theorem dX12_enters_151 : decode cX12_enters 151 = .ok (.getfield 131, 3) := by decide +kernel
theorem dX12_enters_154 : decode cX12_enters 154 = .ok (.bipush 6, 2) := by decide +kernel
theorem dX12_enters_156 : decode cX12_enters 156 = .ok (.iload_n 1, 1) := by decide +kernel
theorem dX12_enters_157 : decode cX12_enters 157 = .ok (.imul, 1) := by decide +kernel
theorem dX12_enters_158 : decode cX12_enters 158 = .ok (.iload 4, 2) := by decide +kernel
theorem dX12_enters_160 : decode cX12_enters 160 = .ok (.iadd, 1) := by decide +kernel
theorem dX12_enters_161 : decode cX12_enters 161 = .ok (.iaload, 1) := by decide +kernel
theorem dX12_enters_162 : decode cX12_enters 162 = .ok (.goto 4, 3) := by decide +kernel
theorem dX12_enters_165 : decode cX12_enters 165 = .ok (.iconst 0, 1) := by decide +kernel
theorem dX12_enters_166 : decode cX12_enters 166 = .ok (.iastore, 1) := by decide +kernel
theorem dX12_enters_167 : decode cX12_enters 167 = .ok (.iinc 4 1, 3) := by decide +kernel
theorem dX12_enters_170 : decode cX12_enters 170 = .ok (.goto (-49), 3) := by decide +kernel
theorem dX12_enters_173 : decode cX12_enters 173 = .ok (.aload_n 0, 1) := by decide +kernel
theorem dX12_enters_174 : decode cX12_enters 174 = .ok (.getfield 122, 3) := by decide +kernel
theorem dX12_enters_177 : decode cX12_enters 177 = .ok (.iload_n 3, 1) := by decide +kernel
theorem dX12_enters_178 : decode cX12_enters 178 = .ok (.aload_n 0, 1) := by decide +kernel
theorem dX12_enters_179 : decode cX12_enters 179 = .ok (.getfield 13, 3) := by decide +kernel
theorem dX12_enters_182 : decode cX12_enters 182 = .ok (.iload_n 2, 1) := by decide +kernel
theorem dX12_enters_183 : decode cX12_enters 183 = .ok (.iaload, 1) := by decide +kernel
theorem dX12_enters_184 : decode cX12_enters 184 = .ok (.iastore, 1) := by decide +kernel
theorem dX12_enters_185 : decode cX12_enters 185 = .ok (.return_, 1) := by decide +kernel
theorem dX12_ends_0 : decode cX12_ends 0 = .ok (.aload_n 0, 1) := by decide +kernel
theorem dX12_ends_1 : decode cX12_ends 1 = .ok (.getfield 98, 3) := by decide +kernel
theorem dX12_ends_4 : decode cX12_ends 4 = .ok (.iload_n 1, 1) := by decide +kernel
theorem dX12_ends_5 : decode cX12_ends 5 = .ok (.iload_n 2, 1) := by decide +kernel
theorem dX12_ends_6 : decode cX12_ends 6 = .ok (.iastore, 1) := by decide +kernel
theorem dX12_ends_7 : decode cX12_ends 7 = .ok (.aload_n 0, 1) := by decide +kernel
theorem dX12_ends_8 : decode cX12_ends 8 = .ok (.getfield 110, 3) := by decide +kernel
theorem dX12_ends_11 : decode cX12_ends 11 = .ok (.iload_n 1, 1) := by decide +kernel
theorem dX12_ends_12 : decode cX12_ends 12 = .ok (.iconst 0, 1) := by decide +kernel
theorem dX12_ends_13 : decode cX12_ends 13 = .ok (.iastore, 1) := by decide +kernel
theorem dX12_ends_14 : decode cX12_ends 14 = .ok (.return_, 1) := by decide +kernel
theorem dX12_over_0 : decode cX12_over 0 = .ok (.aload_n 0, 1) := by decide +kernel
theorem dX12_over_1 : decode cX12_over 1 = .ok (.getfield 110, 3) := by decide +kernel
theorem dX12_over_4 : decode cX12_over 4 = .ok (.iload_n 1, 1) := by decide +kernel
theorem dX12_over_5 : decode cX12_over 5 = .ok (.dup2, 1) := by decide +kernel
theorem dX12_over_6 : decode cX12_over 6 = .ok (.iaload, 1) := by decide +kernel
theorem dX12_over_7 : decode cX12_over 7 = .ok (.iconst 1, 1) := by decide +kernel
theorem dX12_over_8 : decode cX12_over 8 = .ok (.isub, 1) := by decide +kernel
theorem dX12_over_9 : decode cX12_over 9 = .ok (.iastore, 1) := by decide +kernel
theorem dX12_over_10 : decode cX12_over 10 = .ok (.aload_n 0, 1) := by decide +kernel
theorem dX12_over_11 : decode cX12_over 11 = .ok (.getfield 110, 3) := by decide +kernel
theorem dX12_over_14 : decode cX12_over 14 = .ok (.iload_n 1, 1) := by decide +kernel
theorem dX12_over_15 : decode cX12_over 15 = .ok (.iaload, 1) := by decide +kernel
theorem dX12_over_16 : decode cX12_over 16 = .ok (.ifCond .ne 17, 3) := by decide +kernel
theorem dX12_over_19 : decode cX12_over 19 = .ok (.aload_n 0, 1) := by decide +kernel
theorem dX12_over_20 : decode cX12_over 20 = .ok (.getfield 101, 3) := by decide +kernel
theorem dX12_over_23 : decode cX12_over 23 = .ok (.iload_n 1, 1) := by decide +kernel
theorem dX12_over_24 : decode cX12_over 24 = .ok (.iload_n 2, 1) := by decide +kernel
theorem dX12_over_25 : decode cX12_over 25 = .ok (.iastore, 1) := by decide +kernel
theorem dX12_over_26 : decode cX12_over 26 = .ok (.aload_n 0, 1) := by decide +kernel
theorem dX12_over_27 : decode cX12_over 27 = .ok (.iload_n 1, 1) := by decide +kernel
theorem dX12_over_28 : decode cX12_over 28 = .ok (.iconst 1, 1) := by decide +kernel
theorem dX12_over_29 : decode cX12_over 29 = .ok (.invokevirtual 286, 3) := by decide +kernel
theorem dX12_over_32 : decode cX12_over 32 = .ok (.return_, 1) := by decide +kernel
theorem dX12_over_33 : decode cX12_over 33 = .ok (.aload_n 0, 1) := by decide +kernel
theorem dX12_over_34 : decode cX12_over 34 = .ok (.getfield 134, 3) := by decide +kernel
theorem dX12_over_37 : decode cX12_over 37 = .ok (.iload_n 1, 1) := by decide +kernel
theorem dX12_over_38 : decode cX12_over 38 = .ok (.iload_n 2, 1) := by decide +kernel
theorem dX12_over_39 : decode cX12_over 39 = .ok (.iastore, 1) := by decide +kernel
theorem dX12_over_40 : decode cX12_over 40 = .ok (.iload_n 1, 1) := by decide +kernel
theorem dX12_over_41 : decode cX12_over 41 = .ok (.ifCond .ne 8, 3) := by decide +kernel
theorem dX12_over_44 : decode cX12_over 44 = .ok (.aload_n 0, 1) := by decide +kernel
theorem dX12_over_45 : decode cX12_over 45 = .ok (.iload_n 2, 1) := by decide +kernel
theorem dX12_over_46 : decode cX12_over 46 = .ok (.invokevirtual 289, 3) := by decide +kernel
theorem dX12_over_49 : decode cX12_over 49 = .ok (.return_, 1) := by decide +kernel
theorem dX12_push_0 : decode cX12_push 0 = .ok (.aload_n 0, 1) := by decide +kernel
theorem dX12_push_1 : decode cX12_push 1 = .ok (.getfield 110, 3) := by decide +kernel
theorem dX12_push_4 : decode cX12_push 4 = .ok (.iconst 0, 1) := by decide +kernel
theorem dX12_push_5 : decode cX12_push 5 = .ok (.iaload, 1) := by decide +kernel
theorem dX12_push_6 : decode cX12_push 6 = .ok (.iconst 1, 1) := by decide +kernel
theorem dX12_push_7 : decode cX12_push 7 = .ok (.isub, 1) := by decide +kernel
theorem dX12_push_8 : decode cX12_push 8 = .ok (.istore_n 2, 1) := by decide +kernel
theorem dX12_push_9 : decode cX12_push 9 = .ok (.aload_n 0, 1) := by decide +kernel
theorem dX12_push_10 : decode cX12_push 10 = .ok (.getfield 119, 3) := by decide +kernel
theorem dX12_push_13 : decode cX12_push 13 = .ok (.bipush 24, 2) := by decide +kernel
theorem dX12_push_15 : decode cX12_push 15 = .ok (.iload_n 2, 1) := by decide +kernel
theorem dX12_push_16 : decode cX12_push 16 = .ok (.imul, 1) := by decide +kernel
theorem dX12_push_17 : decode cX12_push 17 = .ok (.aload_n 0, 1) := by decide +kernel
theorem dX12_push_18 : decode cX12_push 18 = .ok (.getfield 122, 3) := by decide +kernel
theorem dX12_push_21 : decode cX12_push 21 = .ok (.iload_n 2, 1) := by decide +kernel
theorem dX12_push_22 : decode cX12_push 22 = .ok (.iaload, 1) := by decide +kernel
theorem dX12_push_23 : decode cX12_push 23 = .ok (.iadd, 1) := by decide +kernel
theorem dX12_push_24 : decode cX12_push 24 = .ok (.iload_n 1, 1) := by decide +kernel
theorem dX12_push_25 : decode cX12_push 25 = .ok (.iastore, 1) := by decide +kernel
theorem dX12_push_26 : decode cX12_push 26 = .ok (.aload_n 0, 1) := by decide +kernel
theorem dX12_push_27 : decode cX12_push 27 = .ok (.getfield 122, 3) := by decide +kernel
theorem dX12_push_30 : decode cX12_push 30 = .ok (.iload_n 2, 1) := by decide +kernel
theorem dX12_push_31 : decode cX12_push 31 = .ok (.dup2, 1) := by decide +kernel
theorem dX12_push_32 : decode cX12_push 32 = .ok (.iaload, 1) := by decide +kernel
theorem dX12_push_33 : decode cX12_push 33 = .ok (.iconst 1, 1) := by decide +kernel
theorem dX12_push_34 : decode cX12_push 34 = .ok (.iadd, 1) := by decide +kernel
theorem dX12_push_35 : decode cX12_push 35 = .ok (.iastore, 1) := by decide +kernel
theorem dX12_push_36 : decode cX12_push 36 = .ok (.return_, 1) := by decide +kernel
theorem dX12_pop_0 : decode cX12_pop 0 = .ok (.aload_n 0, 1) := by decide +kernel
theorem dX12_pop_1 : decode cX12_pop 1 = .ok (.getfield 110, 3) := by decide +kernel
theorem dX12_pop_4 : decode cX12_pop 4 = .ok (.iconst 0, 1) := by decide +kernel
theorem dX12_pop_5 : decode cX12_pop 5 = .ok (.iaload, 1) := by decide +kernel
theorem dX12_pop_6 : decode cX12_pop 6 = .ok (.iconst 1, 1) := by decide +kernel
theorem dX12_pop_7 : decode cX12_pop 7 = .ok (.isub, 1) := by decide +kernel
theorem dX12_pop_8 : decode cX12_pop 8 = .ok (.istore_n 1, 1) := by decide +kernel
theorem dX12_pop_9 : decode cX12_pop 9 = .ok (.aload_n 0, 1) := by decide +kernel
theorem dX12_pop_10 : decode cX12_pop 10 = .ok (.getfield 122, 3) := by decide +kernel
theorem dX12_pop_13 : decode cX12_pop 13 = .ok (.iload_n 1, 1) := by decide +kernel
theorem dX12_pop_14 : decode cX12_pop 14 = .ok (.dup2, 1) := by decide +kernel
theorem dX12_pop_15 : decode cX12_pop 15 = .ok (.iaload, 1) := by decide +kernel
theorem dX12_pop_16 : decode cX12_pop 16 = .ok (.iconst 1, 1) := by decide +kernel
theorem dX12_pop_17 : decode cX12_pop 17 = .ok (.isub, 1) := by decide +kernel
theorem dX12_pop_18 : decode cX12_pop 18 = .ok (.iastore, 1) := by decide +kernel
theorem dX12_pop_19 : decode cX12_pop 19 = .ok (.aload_n 0, 1) := by decide +kernel
theorem dX12_pop_20 : decode cX12_pop 20 = .ok (.getfield 119, 3) := by decide +kernel
theorem dX12_pop_23 : decode cX12_pop 23 = .ok (.bipush 24, 2) := by decide +kernel
theorem dX12_pop_25 : decode cX12_pop 25 = .ok (.iload_n 1, 1) := by decide +kernel
theorem dX12_pop_26 : decode cX12_pop 26 = .ok (.imul, 1) := by decide +kernel
theorem dX12_pop_27 : decode cX12_pop 27 = .ok (.aload_n 0, 1) := by decide +kernel
theorem dX12_pop_28 : decode cX12_pop 28 = .ok (.getfield 122, 3) := by decide +kernel
theorem dX12_pop_31 : decode cX12_pop 31 = .ok (.iload_n 1, 1) := by decide +kernel
theorem dX12_pop_32 : decode cX12_pop 32 = .ok (.iaload, 1) := by decide +kernel
theorem dX12_pop_33 : decode cX12_pop 33 = .ok (.iadd, 1) := by decide +kernel
theorem dX12_pop_34 : decode cX12_pop 34 = .ok (.iaload, 1) := by decide +kernel
theorem dX12_pop_35 : decode cX12_pop 35 = .ok (.ireturn, 1) := by decide +kernel
theorem dX12_works_0 : decode cX12_works 0 = .ok (.iload_n 1, 1) := by decide +kernel
theorem dX12_works_1 : decode cX12_works 1 = .ok (.iconst 3, 1) := by decide +kernel
theorem dX12_works_2 : decode cX12_works 2 = .ok (.if_icmp .ne 9, 3) := by decide +kernel
theorem dX12_works_5 : decode cX12_works 5 = .ok (.iload_n 2, 1) := by decide +kernel
theorem dX12_works_6 : decode cX12_works 6 = .ok (.iload_n 3, 1) := by decide +kernel
theorem dX12_works_7 : decode cX12_works 7 = .ok (.iadd, 1) := by decide +kernel
theorem dX12_works_8 : decode cX12_works 8 = .ok (.goto 66, 3) := by decide +kernel
theorem dX12_works_11 : decode cX12_works 11 = .ok (.iload_n 1, 1) := by decide +kernel
theorem dX12_works_12 : decode cX12_works 12 = .ok (.iconst 4, 1) := by decide +kernel
theorem dX12_works_13 : decode cX12_works 13 = .ok (.if_icmp .ne 9, 3) := by decide +kernel
theorem dX12_works_16 : decode cX12_works 16 = .ok (.iload_n 2, 1) := by decide +kernel
theorem dX12_works_17 : decode cX12_works 17 = .ok (.iload_n 3, 1) := by decide +kernel
theorem dX12_works_18 : decode cX12_works 18 = .ok (.isub, 1) := by decide +kernel
theorem dX12_works_19 : decode cX12_works 19 = .ok (.goto 55, 3) := by decide +kernel
theorem dX12_works_22 : decode cX12_works 22 = .ok (.iload_n 1, 1) := by decide +kernel
theorem dX12_works_23 : decode cX12_works 23 = .ok (.iconst 5, 1) := by decide +kernel
theorem dX12_works_24 : decode cX12_works 24 = .ok (.if_icmp .ne 9, 3) := by decide +kernel
theorem dX12_works_27 : decode cX12_works 27 = .ok (.iload_n 2, 1) := by decide +kernel
theorem dX12_works_28 : decode cX12_works 28 = .ok (.iload_n 3, 1) := by decide +kernel
theorem dX12_works_29 : decode cX12_works 29 = .ok (.imul, 1) := by decide +kernel
theorem dX12_works_30 : decode cX12_works 30 = .ok (.goto 44, 3) := by decide +kernel
theorem dX12_works_33 : decode cX12_works 33 = .ok (.iload_n 1, 1) := by decide +kernel
theorem dX12_works_34 : decode cX12_works 34 = .ok (.bipush 6, 2) := by decide +kernel
theorem dX12_works_36 : decode cX12_works 36 = .ok (.if_icmp .ne 9, 3) := by decide +kernel
theorem dX12_works_39 : decode cX12_works 39 = .ok (.iload_n 2, 1) := by decide +kernel
theorem dX12_works_40 : decode cX12_works 40 = .ok (.iload_n 3, 1) := by decide +kernel
theorem dX12_works_41 : decode cX12_works 41 = .ok (.idiv, 1) := by decide +kernel
theorem dX12_works_42 : decode cX12_works 42 = .ok (.goto 32, 3) := by decide +kernel
theorem dX12_works_45 : decode cX12_works 45 = .ok (.iload_n 1, 1) := by decide +kernel
theorem dX12_works_46 : decode cX12_works 46 = .ok (.bipush 7, 2) := by decide +kernel
theorem dX12_works_48 : decode cX12_works 48 = .ok (.if_icmp .ne 16, 3) := by decide +kernel
theorem dX12_works_51 : decode cX12_works 51 = .ok (.iload_n 2, 1) := by decide +kernel
theorem dX12_works_52 : decode cX12_works 52 = .ok (.iload_n 3, 1) := by decide +kernel
theorem dX12_works_53 : decode cX12_works 53 = .ok (.if_icmp .ge 7, 3) := by decide +kernel
theorem dX12_works_56 : decode cX12_works 56 = .ok (.iconst 1, 1) := by decide +kernel
theorem dX12_works_57 : decode cX12_works 57 = .ok (.goto 17, 3) := by decide +kernel
theorem dX12_works_60 : decode cX12_works 60 = .ok (.iconst 0, 1) := by decide +kernel
theorem dX12_works_61 : decode cX12_works 61 = .ok (.goto 13, 3) := by decide +kernel
theorem dX12_works_64 : decode cX12_works 64 = .ok (.iload_n 2, 1) := by decide +kernel
theorem dX12_works_65 : decode cX12_works 65 = .ok (.iload_n 3, 1) := by decide +kernel
theorem dX12_works_66 : decode cX12_works 66 = .ok (.if_icmp .ne 7, 3) := by decide +kernel
theorem dX12_works_69 : decode cX12_works 69 = .ok (.iconst 1, 1) := by decide +kernel
theorem dX12_works_70 : decode cX12_works 70 = .ok (.goto 4, 3) := by decide +kernel
theorem dX12_works_73 : decode cX12_works 73 = .ok (.iconst 0, 1) := by decide +kernel
theorem dX12_works_74 : decode cX12_works 74 = .ok (.ireturn, 1) := by decide +kernel
theorem dX12_stepStack_0 : decode cX12_stepStack 0 = .ok (.aload_n 0, 1) := by decide +kernel
theorem dX12_stepStack_1 : decode cX12_stepStack 1 = .ok (.getfield 110, 3) := by decide +kernel
theorem dX12_stepStack_4 : decode cX12_stepStack 4 = .ok (.iconst 0, 1) := by decide +kernel
theorem dX12_stepStack_5 : decode cX12_stepStack 5 = .ok (.iaload, 1) := by decide +kernel
theorem dX12_stepStack_6 : decode cX12_stepStack 6 = .ok (.ifCond .ne 9, 3) := by decide +kernel
theorem dX12_stepStack_9 : decode cX12_stepStack 9 = .ok (.aload_n 0, 1) := by decide +kernel
theorem dX12_stepStack_10 : decode cX12_stepStack 10 = .ok (.iconst 0, 1) := by decide +kernel
theorem dX12_stepStack_11 : decode cX12_stepStack 11 = .ok (.iconst 0, 1) := by decide +kernel
theorem dX12_stepStack_12 : decode cX12_stepStack 12 = .ok (.invokevirtual 292, 3) := by decide +kernel
theorem dX12_stepStack_15 : decode cX12_stepStack 15 = .ok (.aload_n 0, 1) := by decide +kernel
theorem dX12_stepStack_16 : decode cX12_stepStack 16 = .ok (.getfield 110, 3) := by decide +kernel
theorem dX12_stepStack_19 : decode cX12_stepStack 19 = .ok (.iconst 0, 1) := by decide +kernel
theorem dX12_stepStack_20 : decode cX12_stepStack 20 = .ok (.iaload, 1) := by decide +kernel
theorem dX12_stepStack_21 : decode cX12_stepStack 21 = .ok (.iconst 1, 1) := by decide +kernel
theorem dX12_stepStack_22 : decode cX12_stepStack 22 = .ok (.isub, 1) := by decide +kernel
theorem dX12_stepStack_23 : decode cX12_stepStack 23 = .ok (.istore_n 1, 1) := by decide +kernel
theorem dX12_stepStack_24 : decode cX12_stepStack 24 = .ok (.aload_n 0, 1) := by decide +kernel
theorem dX12_stepStack_25 : decode cX12_stepStack 25 = .ok (.getfield 16, 3) := by decide +kernel
theorem dX12_stepStack_28 : decode cX12_stepStack 28 = .ok (.aload_n 0, 1) := by decide +kernel
theorem dX12_stepStack_29 : decode cX12_stepStack 29 = .ok (.getfield 113, 3) := by decide +kernel
theorem dX12_stepStack_32 : decode cX12_stepStack 32 = .ok (.iload_n 1, 1) := by decide +kernel
theorem dX12_stepStack_33 : decode cX12_stepStack 33 = .ok (.iaload, 1) := by decide +kernel
theorem dX12_stepStack_34 : decode cX12_stepStack 34 = .ok (.iaload, 1) := by decide +kernel
theorem dX12_stepStack_35 : decode cX12_stepStack 35 = .ok (.aload_n 0, 1) := by decide +kernel
theorem dX12_stepStack_36 : decode cX12_stepStack 36 = .ok (.getfield 116, 3) := by decide +kernel
theorem dX12_stepStack_39 : decode cX12_stepStack 39 = .ok (.iload_n 1, 1) := by decide +kernel
theorem dX12_stepStack_40 : decode cX12_stepStack 40 = .ok (.iaload, 1) := by decide +kernel
theorem dX12_stepStack_41 : decode cX12_stepStack 41 = .ok (.iadd, 1) := by decide +kernel
theorem dX12_stepStack_42 : decode cX12_stepStack 42 = .ok (.istore_n 2, 1) := by decide +kernel
theorem dX12_stepStack_43 : decode cX12_stepStack 43 = .ok (.aload_n 0, 1) := by decide +kernel
theorem dX12_stepStack_44 : decode cX12_stepStack 44 = .ok (.getfield 25, 3) := by decide +kernel
theorem dX12_stepStack_47 : decode cX12_stepStack 47 = .ok (.iload_n 2, 1) := by decide +kernel
theorem dX12_stepStack_48 : decode cX12_stepStack 48 = .ok (.iaload, 1) := by decide +kernel
theorem dX12_stepStack_49 : decode cX12_stepStack 49 = .ok (.istore_n 3, 1) := by decide +kernel
theorem dX12_stepStack_50 : decode cX12_stepStack 50 = .ok (.aload_n 0, 1) := by decide +kernel
theorem dX12_stepStack_51 : decode cX12_stepStack 51 = .ok (.getfield 116, 3) := by decide +kernel
theorem dX12_stepStack_54 : decode cX12_stepStack 54 = .ok (.iload_n 1, 1) := by decide +kernel
theorem dX12_stepStack_55 : decode cX12_stepStack 55 = .ok (.dup2, 1) := by decide +kernel
theorem dX12_stepStack_56 : decode cX12_stepStack 56 = .ok (.iaload, 1) := by decide +kernel
theorem dX12_stepStack_57 : decode cX12_stepStack 57 = .ok (.iconst 1, 1) := by decide +kernel
theorem dX12_stepStack_58 : decode cX12_stepStack 58 = .ok (.iadd, 1) := by decide +kernel
theorem dX12_stepStack_59 : decode cX12_stepStack 59 = .ok (.iastore, 1) := by decide +kernel
theorem dX12_stepStack_60 : decode cX12_stepStack 60 = .ok (.aload_n 0, 1) := by decide +kernel
theorem dX12_stepStack_61 : decode cX12_stepStack 61 = .ok (.getfield 104, 3) := by decide +kernel
theorem dX12_stepStack_64 : decode cX12_stepStack 64 = .ok (.iconst 0, 1) := by decide +kernel
theorem dX12_stepStack_65 : decode cX12_stepStack 65 = .ok (.dup2, 1) := by decide +kernel
theorem dX12_stepStack_66 : decode cX12_stepStack 66 = .ok (.iaload, 1) := by decide +kernel
theorem dX12_stepStack_67 : decode cX12_stepStack 67 = .ok (.iconst 1, 1) := by decide +kernel
theorem dX12_stepStack_68 : decode cX12_stepStack 68 = .ok (.iadd, 1) := by decide +kernel
theorem dX12_stepStack_69 : decode cX12_stepStack 69 = .ok (.iastore, 1) := by decide +kernel
theorem dX12_stepStack_70 : decode cX12_stepStack 70 = .ok (.aload_n 0, 1) := by decide +kernel
theorem dX12_stepStack_71 : decode cX12_stepStack 71 = .ok (.getfield 22, 3) := by decide +kernel
theorem dX12_stepStack_74 : decode cX12_stepStack 74 = .ok (.iload_n 2, 1) := by decide +kernel
theorem dX12_stepStack_75 : decode cX12_stepStack 75 = .ok (.iaload, 1) := by decide +kernel
theorem dX12_stepStack_76 : decode cX12_stepStack 76 = .ok (.tableswitch 223 0 17 #[88, 94, 110, 223, 223, 223, 223, 223, 223, 126, 149, 154, 165, 173, 197, 203, 213, 218], 88) := by decide +kernel
theorem dX12_stepStack_164 : decode cX12_stepStack 164 = .ok (.aload_n 0, 1) := by decide +kernel
theorem dX12_stepStack_165 : decode cX12_stepStack 165 = .ok (.iload_n 3, 1) := by decide +kernel
theorem dX12_stepStack_166 : decode cX12_stepStack 166 = .ok (.invokevirtual 289, 3) := by decide +kernel
theorem dX12_stepStack_169 : decode cX12_stepStack 169 = .ok (.return_, 1) := by decide +kernel
theorem dX12_stepStack_170 : decode cX12_stepStack 170 = .ok (.aload_n 0, 1) := by decide +kernel
theorem dX12_stepStack_171 : decode cX12_stepStack 171 = .ok (.aload_n 0, 1) := by decide +kernel
theorem dX12_stepStack_172 : decode cX12_stepStack 172 = .ok (.getfield 119, 3) := by decide +kernel
theorem dX12_stepStack_175 : decode cX12_stepStack 175 = .ok (.bipush 24, 2) := by decide +kernel
theorem dX12_stepStack_177 : decode cX12_stepStack 177 = .ok (.iload_n 1, 1) := by decide +kernel
theorem dX12_stepStack_178 : decode cX12_stepStack 178 = .ok (.imul, 1) := by decide +kernel
theorem dX12_stepStack_179 : decode cX12_stepStack 179 = .ok (.iload_n 3, 1) := by decide +kernel
theorem dX12_stepStack_180 : decode cX12_stepStack 180 = .ok (.iadd, 1) := by decide +kernel
theorem dX12_stepStack_181 : decode cX12_stepStack 181 = .ok (.iaload, 1) := by decide +kernel
theorem dX12_stepStack_182 : decode cX12_stepStack 182 = .ok (.invokevirtual 289, 3) := by decide +kernel
theorem dX12_stepStack_185 : decode cX12_stepStack 185 = .ok (.return_, 1) := by decide +kernel
theorem dX12_stepStack_186 : decode cX12_stepStack 186 = .ok (.aload_n 0, 1) := by decide +kernel
theorem dX12_stepStack_187 : decode cX12_stepStack 187 = .ok (.getfield 119, 3) := by decide +kernel
theorem dX12_stepStack_190 : decode cX12_stepStack 190 = .ok (.bipush 24, 2) := by decide +kernel
theorem dX12_stepStack_192 : decode cX12_stepStack 192 = .ok (.iload_n 1, 1) := by decide +kernel
theorem dX12_stepStack_193 : decode cX12_stepStack 193 = .ok (.imul, 1) := by decide +kernel
theorem dX12_stepStack_194 : decode cX12_stepStack 194 = .ok (.iload_n 3, 1) := by decide +kernel
theorem dX12_stepStack_195 : decode cX12_stepStack 195 = .ok (.iadd, 1) := by decide +kernel
theorem dX12_stepStack_196 : decode cX12_stepStack 196 = .ok (.aload_n 0, 1) := by decide +kernel
theorem dX12_stepStack_197 : decode cX12_stepStack 197 = .ok (.invokevirtual 295, 3) := by decide +kernel
theorem dX12_stepStack_200 : decode cX12_stepStack 200 = .ok (.iastore, 1) := by decide +kernel
theorem dX12_stepStack_201 : decode cX12_stepStack 201 = .ok (.return_, 1) := by decide +kernel
theorem dX12_stepStack_202 : decode cX12_stepStack 202 = .ok (.aload_n 0, 1) := by decide +kernel
theorem dX12_stepStack_203 : decode cX12_stepStack 203 = .ok (.aload_n 0, 1) := by decide +kernel
theorem dX12_stepStack_204 : decode cX12_stepStack 204 = .ok (.getfield 119, 3) := by decide +kernel
theorem dX12_stepStack_207 : decode cX12_stepStack 207 = .ok (.bipush 24, 2) := by decide +kernel
theorem dX12_stepStack_209 : decode cX12_stepStack 209 = .ok (.iload_n 1, 1) := by decide +kernel
theorem dX12_stepStack_210 : decode cX12_stepStack 210 = .ok (.imul, 1) := by decide +kernel
theorem dX12_stepStack_211 : decode cX12_stepStack 211 = .ok (.aload_n 0, 1) := by decide +kernel
theorem dX12_stepStack_212 : decode cX12_stepStack 212 = .ok (.getfield 122, 3) := by decide +kernel
theorem dX12_stepStack_215 : decode cX12_stepStack 215 = .ok (.iload_n 1, 1) := by decide +kernel
theorem dX12_stepStack_216 : decode cX12_stepStack 216 = .ok (.iaload, 1) := by decide +kernel
theorem dX12_stepStack_217 : decode cX12_stepStack 217 = .ok (.iadd, 1) := by decide +kernel
theorem dX12_stepStack_218 : decode cX12_stepStack 218 = .ok (.iconst 1, 1) := by decide +kernel
theorem dX12_stepStack_219 : decode cX12_stepStack 219 = .ok (.isub, 1) := by decide +kernel
theorem dX12_stepStack_220 : decode cX12_stepStack 220 = .ok (.iaload, 1) := by decide +kernel
theorem dX12_stepStack_221 : decode cX12_stepStack 221 = .ok (.invokevirtual 289, 3) := by decide +kernel
theorem dX12_stepStack_224 : decode cX12_stepStack 224 = .ok (.return_, 1) := by decide +kernel
theorem dX12_stepStack_225 : decode cX12_stepStack 225 = .ok (.aload_n 0, 1) := by decide +kernel
theorem dX12_stepStack_226 : decode cX12_stepStack 226 = .ok (.invokevirtual 299, 3) := by decide +kernel
theorem dX12_stepStack_229 : decode cX12_stepStack 229 = .ok (.return_, 1) := by decide +kernel
theorem dX12_stepStack_230 : decode cX12_stepStack 230 = .ok (.aload_n 0, 1) := by decide +kernel
theorem dX12_stepStack_231 : decode cX12_stepStack 231 = .ok (.getfield 122, 3) := by decide +kernel
theorem dX12_stepStack_234 : decode cX12_stepStack 234 = .ok (.iload_n 1, 1) := by decide +kernel
theorem dX12_stepStack_235 : decode cX12_stepStack 235 = .ok (.dup2, 1) := by decide +kernel
theorem dX12_stepStack_236 : decode cX12_stepStack 236 = .ok (.iaload, 1) := by decide +kernel
theorem dX12_stepStack_237 : decode cX12_stepStack 237 = .ok (.iconst 1, 1) := by decide +kernel
theorem dX12_stepStack_238 : decode cX12_stepStack 238 = .ok (.isub, 1) := by decide +kernel
theorem dX12_stepStack_239 : decode cX12_stepStack 239 = .ok (.iastore, 1) := by decide +kernel
theorem dX12_stepStack_240 : decode cX12_stepStack 240 = .ok (.return_, 1) := by decide +kernel
theorem dX12_stepStack_241 : decode cX12_stepStack 241 = .ok (.aload_n 0, 1) := by decide +kernel
theorem dX12_stepStack_242 : decode cX12_stepStack 242 = .ok (.getfield 116, 3) := by decide +kernel
theorem dX12_stepStack_245 : decode cX12_stepStack 245 = .ok (.iload_n 1, 1) := by decide +kernel
theorem dX12_stepStack_246 : decode cX12_stepStack 246 = .ok (.iload_n 3, 1) := by decide +kernel
theorem dX12_stepStack_247 : decode cX12_stepStack 247 = .ok (.iastore, 1) := by decide +kernel
theorem dX12_stepStack_248 : decode cX12_stepStack 248 = .ok (.return_, 1) := by decide +kernel
theorem dX12_stepStack_249 : decode cX12_stepStack 249 = .ok (.aload_n 0, 1) := by decide +kernel
theorem dX12_stepStack_250 : decode cX12_stepStack 250 = .ok (.getfield 116, 3) := by decide +kernel
theorem dX12_stepStack_253 : decode cX12_stepStack 253 = .ok (.iload_n 1, 1) := by decide +kernel
theorem dX12_stepStack_254 : decode cX12_stepStack 254 = .ok (.aload_n 0, 1) := by decide +kernel
theorem dX12_stepStack_255 : decode cX12_stepStack 255 = .ok (.invokevirtual 295, 3) := by decide +kernel
theorem dX12_stepStack_258 : decode cX12_stepStack 258 = .ok (.ifCond .ne 7, 3) := by decide +kernel
theorem dX12_stepStack_261 : decode cX12_stepStack 261 = .ok (.iload_n 3, 1) := by decide +kernel
theorem dX12_stepStack_262 : decode cX12_stepStack 262 = .ok (.goto 9, 3) := by decide +kernel
theorem dX12_stepStack_265 : decode cX12_stepStack 265 = .ok (.aload_n 0, 1) := by decide +kernel
theorem dX12_stepStack_266 : decode cX12_stepStack 266 = .ok (.getfield 116, 3) := by decide +kernel
theorem dX12_stepStack_269 : decode cX12_stepStack 269 = .ok (.iload_n 1, 1) := by decide +kernel
theorem dX12_stepStack_270 : decode cX12_stepStack 270 = .ok (.iaload, 1) := by decide +kernel
theorem dX12_stepStack_271 : decode cX12_stepStack 271 = .ok (.iastore, 1) := by decide +kernel
theorem dX12_stepStack_272 : decode cX12_stepStack 272 = .ok (.return_, 1) := by decide +kernel
theorem dX12_stepStack_273 : decode cX12_stepStack 273 = .ok (.aload_n 0, 1) := by decide +kernel
theorem dX12_stepStack_274 : decode cX12_stepStack 274 = .ok (.iload_n 3, 1) := by decide +kernel
theorem dX12_stepStack_275 : decode cX12_stepStack 275 = .ok (.invokevirtual 302, 3) := by decide +kernel
theorem dX12_stepStack_278 : decode cX12_stepStack 278 = .ok (.return_, 1) := by decide +kernel
theorem dX12_stepStack_279 : decode cX12_stepStack 279 = .ok (.aload_n 0, 1) := by decide +kernel
theorem dX12_stepStack_280 : decode cX12_stepStack 280 = .ok (.iconst 0, 1) := by decide +kernel
theorem dX12_stepStack_281 : decode cX12_stepStack 281 = .ok (.aload_n 0, 1) := by decide +kernel
theorem dX12_stepStack_282 : decode cX12_stepStack 282 = .ok (.invokevirtual 295, 3) := by decide +kernel
theorem dX12_stepStack_285 : decode cX12_stepStack 285 = .ok (.invokevirtual 305, 3) := by decide +kernel
theorem dX12_stepStack_288 : decode cX12_stepStack 288 = .ok (.return_, 1) := by decide +kernel
theorem dX12_stepStack_289 : decode cX12_stepStack 289 = .ok (.aload_n 0, 1) := by decide +kernel
theorem dX12_stepStack_290 : decode cX12_stepStack 290 = .ok (.invokevirtual 308, 3) := by decide +kernel
theorem dX12_stepStack_293 : decode cX12_stepStack 293 = .ok (.return_, 1) := by decide +kernel
theorem dX12_stepStack_294 : decode cX12_stepStack 294 = .ok (.aload_n 0, 1) := by decide +kernel
theorem dX12_stepStack_295 : decode cX12_stepStack 295 = .ok (.invokevirtual 311, 3) := by decide +kernel
theorem dX12_stepStack_298 : decode cX12_stepStack 298 = .ok (.return_, 1) := by decide +kernel
theorem dX12_stepStack_299 : decode cX12_stepStack 299 = .ok (.aload_n 0, 1) := by decide +kernel
theorem dX12_stepStack_300 : decode cX12_stepStack 300 = .ok (.aload_n 0, 1) := by decide +kernel
theorem dX12_stepStack_301 : decode cX12_stepStack 301 = .ok (.getfield 22, 3) := by decide +kernel
theorem dX12_stepStack_304 : decode cX12_stepStack 304 = .ok (.iload_n 2, 1) := by decide +kernel
theorem dX12_stepStack_305 : decode cX12_stepStack 305 = .ok (.iaload, 1) := by decide +kernel
theorem dX12_stepStack_306 : decode cX12_stepStack 306 = .ok (.invokevirtual 314, 3) := by decide +kernel
theorem dX12_stepStack_309 : decode cX12_stepStack 309 = .ok (.return_, 1) := by decide +kernel
theorem dX12_swapTop_0 : decode cX12_swapTop 0 = .ok (.aload_n 0, 1) := by decide +kernel
theorem dX12_swapTop_1 : decode cX12_swapTop 1 = .ok (.invokevirtual 295, 3) := by decide +kernel
theorem dX12_swapTop_4 : decode cX12_swapTop 4 = .ok (.istore_n 1, 1) := by decide +kernel
theorem dX12_swapTop_5 : decode cX12_swapTop 5 = .ok (.aload_n 0, 1) := by decide +kernel
theorem dX12_swapTop_6 : decode cX12_swapTop 6 = .ok (.invokevirtual 295, 3) := by decide +kernel
theorem dX12_swapTop_9 : decode cX12_swapTop 9 = .ok (.istore_n 2, 1) := by decide +kernel
theorem dX12_swapTop_10 : decode cX12_swapTop 10 = .ok (.aload_n 0, 1) := by decide +kernel
theorem dX12_swapTop_11 : decode cX12_swapTop 11 = .ok (.iload_n 1, 1) := by decide +kernel
theorem dX12_swapTop_12 : decode cX12_swapTop 12 = .ok (.invokevirtual 289, 3) := by decide +kernel
theorem dX12_swapTop_15 : decode cX12_swapTop 15 = .ok (.aload_n 0, 1) := by decide +kernel
theorem dX12_swapTop_16 : decode cX12_swapTop 16 = .ok (.iload_n 2, 1) := by decide +kernel
theorem dX12_swapTop_17 : decode cX12_swapTop 17 = .ok (.invokevirtual 289, 3) := by decide +kernel
theorem dX12_swapTop_20 : decode cX12_swapTop 20 = .ok (.return_, 1) := by decide +kernel
theorem dX12_callStack_0 : decode cX12_callStack 0 = .ok (.aload_n 0, 1) := by decide +kernel
theorem dX12_callStack_1 : decode cX12_callStack 1 = .ok (.getfield 110, 3) := by decide +kernel
theorem dX12_callStack_4 : decode cX12_callStack 4 = .ok (.iconst 0, 1) := by decide +kernel
theorem dX12_callStack_5 : decode cX12_callStack 5 = .ok (.iaload, 1) := by decide +kernel
theorem dX12_callStack_6 : decode cX12_callStack 6 = .ok (.bipush 30, 2) := by decide +kernel
theorem dX12_callStack_8 : decode cX12_callStack 8 = .ok (.if_icmp .ne 10, 3) := by decide +kernel
theorem dX12_callStack_11 : decode cX12_callStack 11 = .ok (.aload_n 0, 1) := by decide +kernel
theorem dX12_callStack_12 : decode cX12_callStack 12 = .ok (.iconst 0, 1) := by decide +kernel
theorem dX12_callStack_13 : decode cX12_callStack 13 = .ok (.iconst 4, 1) := by decide +kernel
theorem dX12_callStack_14 : decode cX12_callStack 14 = .ok (.invokevirtual 286, 3) := by decide +kernel
theorem dX12_callStack_17 : decode cX12_callStack 17 = .ok (.return_, 1) := by decide +kernel
theorem dX12_callStack_18 : decode cX12_callStack 18 = .ok (.aload_n 0, 1) := by decide +kernel
theorem dX12_callStack_19 : decode cX12_callStack 19 = .ok (.getfield 7, 3) := by decide +kernel
theorem dX12_callStack_22 : decode cX12_callStack 22 = .ok (.iload_n 1, 1) := by decide +kernel
theorem dX12_callStack_23 : decode cX12_callStack 23 = .ok (.iaload, 1) := by decide +kernel
theorem dX12_callStack_24 : decode cX12_callStack 24 = .ok (.iconst 1, 1) := by decide +kernel
theorem dX12_callStack_25 : decode cX12_callStack 25 = .ok (.isub, 1) := by decide +kernel
theorem dX12_callStack_26 : decode cX12_callStack 26 = .ok (.istore_n 2, 1) := by decide +kernel
theorem dX12_callStack_27 : decode cX12_callStack 27 = .ok (.iload_n 2, 1) := by decide +kernel
theorem dX12_callStack_28 : decode cX12_callStack 28 = .ok (.ifCond .lt 19, 3) := by decide +kernel
theorem dX12_callStack_31 : decode cX12_callStack 31 = .ok (.aload_n 0, 1) := by decide +kernel
theorem dX12_callStack_32 : decode cX12_callStack 32 = .ok (.getfield 131, 3) := by decide +kernel
theorem dX12_callStack_35 : decode cX12_callStack 35 = .ok (.iload_n 2, 1) := by decide +kernel
theorem dX12_callStack_36 : decode cX12_callStack 36 = .ok (.aload_n 0, 1) := by decide +kernel
theorem dX12_callStack_37 : decode cX12_callStack 37 = .ok (.invokevirtual 295, 3) := by decide +kernel
theorem dX12_callStack_40 : decode cX12_callStack 40 = .ok (.iastore, 1) := by decide +kernel
theorem dX12_callStack_41 : decode cX12_callStack 41 = .ok (.iinc 2 (-1), 3) := by decide +kernel
theorem dX12_callStack_44 : decode cX12_callStack 44 = .ok (.goto (-17), 3) := by decide +kernel
theorem dX12_callStack_47 : decode cX12_callStack 47 = .ok (.aload_n 0, 1) := by decide +kernel
theorem dX12_callStack_48 : decode cX12_callStack 48 = .ok (.iconst 0, 1) := by decide +kernel
theorem dX12_callStack_49 : decode cX12_callStack 49 = .ok (.iload_n 1, 1) := by decide +kernel
theorem dX12_callStack_50 : decode cX12_callStack 50 = .ok (.invokevirtual 292, 3) := by decide +kernel
theorem dX12_callStack_53 : decode cX12_callStack 53 = .ok (.return_, 1) := by decide +kernel
theorem dX12_isCell_0 : decode cX12_isCell 0 = .ok (.iload_n 0, 1) := by decide +kernel
theorem dX12_isCell_1 : decode cX12_isCell 1 = .ok (.ifCond .lt 13, 3) := by decide +kernel
theorem dX12_isCell_4 : decode cX12_isCell 4 = .ok (.iload_n 0, 1) := by decide +kernel
theorem dX12_isCell_5 : decode cX12_isCell 5 = .ok (.bipush 64, 2) := by decide +kernel
theorem dX12_isCell_7 : decode cX12_isCell 7 = .ok (.if_icmp .ge 7, 3) := by decide +kernel
theorem dX12_isCell_10 : decode cX12_isCell 10 = .ok (.iconst 1, 1) := by decide +kernel
theorem dX12_isCell_11 : decode cX12_isCell 11 = .ok (.goto 4, 3) := by decide +kernel
theorem dX12_isCell_14 : decode cX12_isCell 14 = .ok (.iconst 0, 1) := by decide +kernel
theorem dX12_isCell_15 : decode cX12_isCell 15 = .ok (.ireturn, 1) := by decide +kernel
theorem dX12_readStack_0 : decode cX12_readStack 0 = .ok (.aload_n 0, 1) := by decide +kernel
theorem dX12_readStack_1 : decode cX12_readStack 1 = .ok (.invokevirtual 295, 3) := by decide +kernel
theorem dX12_readStack_4 : decode cX12_readStack 4 = .ok (.istore_n 1, 1) := by decide +kernel
theorem dX12_readStack_5 : decode cX12_readStack 5 = .ok (.iload_n 1, 1) := by decide +kernel
theorem dX12_readStack_6 : decode cX12_readStack 6 = .ok (.invokestatic 317, 3) := by decide +kernel
theorem dX12_readStack_9 : decode cX12_readStack 9 = .ok (.ifCond .ne 10, 3) := by decide +kernel
theorem dX12_readStack_12 : decode cX12_readStack 12 = .ok (.aload_n 0, 1) := by decide +kernel
theorem dX12_readStack_13 : decode cX12_readStack 13 = .ok (.iconst 0, 1) := by decide +kernel
theorem dX12_readStack_14 : decode cX12_readStack 14 = .ok (.iconst 3, 1) := by decide +kernel
theorem dX12_readStack_15 : decode cX12_readStack 15 = .ok (.invokevirtual 286, 3) := by decide +kernel
theorem dX12_readStack_18 : decode cX12_readStack 18 = .ok (.return_, 1) := by decide +kernel
theorem dX12_readStack_19 : decode cX12_readStack 19 = .ok (.aload_n 0, 1) := by decide +kernel
theorem dX12_readStack_20 : decode cX12_readStack 20 = .ok (.aload_n 0, 1) := by decide +kernel
theorem dX12_readStack_21 : decode cX12_readStack 21 = .ok (.getfield 95, 3) := by decide +kernel
theorem dX12_readStack_24 : decode cX12_readStack 24 = .ok (.iload_n 1, 1) := by decide +kernel
theorem dX12_readStack_25 : decode cX12_readStack 25 = .ok (.iaload, 1) := by decide +kernel
theorem dX12_readStack_26 : decode cX12_readStack 26 = .ok (.invokevirtual 289, 3) := by decide +kernel
theorem dX12_readStack_29 : decode cX12_readStack 29 = .ok (.return_, 1) := by decide +kernel
theorem dX12_writeStack_0 : decode cX12_writeStack 0 = .ok (.aload_n 0, 1) := by decide +kernel
theorem dX12_writeStack_1 : decode cX12_writeStack 1 = .ok (.invokevirtual 295, 3) := by decide +kernel
theorem dX12_writeStack_4 : decode cX12_writeStack 4 = .ok (.istore_n 1, 1) := by decide +kernel
theorem dX12_writeStack_5 : decode cX12_writeStack 5 = .ok (.aload_n 0, 1) := by decide +kernel
theorem dX12_writeStack_6 : decode cX12_writeStack 6 = .ok (.invokevirtual 295, 3) := by decide +kernel
theorem dX12_writeStack_9 : decode cX12_writeStack 9 = .ok (.istore_n 2, 1) := by decide +kernel
theorem dX12_writeStack_10 : decode cX12_writeStack 10 = .ok (.iload_n 1, 1) := by decide +kernel
theorem dX12_writeStack_11 : decode cX12_writeStack 11 = .ok (.invokestatic 317, 3) := by decide +kernel
theorem dX12_writeStack_14 : decode cX12_writeStack 14 = .ok (.ifCond .ne 10, 3) := by decide +kernel
theorem dX12_writeStack_17 : decode cX12_writeStack 17 = .ok (.aload_n 0, 1) := by decide +kernel
theorem dX12_writeStack_18 : decode cX12_writeStack 18 = .ok (.iconst 0, 1) := by decide +kernel
theorem dX12_writeStack_19 : decode cX12_writeStack 19 = .ok (.iconst 3, 1) := by decide +kernel
theorem dX12_writeStack_20 : decode cX12_writeStack 20 = .ok (.invokevirtual 286, 3) := by decide +kernel
theorem dX12_writeStack_23 : decode cX12_writeStack 23 = .ok (.return_, 1) := by decide +kernel
theorem dX12_writeStack_24 : decode cX12_writeStack 24 = .ok (.aload_n 0, 1) := by decide +kernel
theorem dX12_writeStack_25 : decode cX12_writeStack 25 = .ok (.getfield 95, 3) := by decide +kernel
theorem dX12_writeStack_28 : decode cX12_writeStack 28 = .ok (.iload_n 1, 1) := by decide +kernel
theorem dX12_writeStack_29 : decode cX12_writeStack 29 = .ok (.iload_n 2, 1) := by decide +kernel
theorem dX12_writeStack_30 : decode cX12_writeStack 30 = .ok (.iastore, 1) := by decide +kernel
theorem dX12_writeStack_31 : decode cX12_writeStack 31 = .ok (.return_, 1) := by decide +kernel
theorem dX12_workStack_0 : decode cX12_workStack 0 = .ok (.aload_n 0, 1) := by decide +kernel
theorem dX12_workStack_1 : decode cX12_workStack 1 = .ok (.invokevirtual 295, 3) := by decide +kernel
theorem dX12_workStack_4 : decode cX12_workStack 4 = .ok (.istore_n 2, 1) := by decide +kernel
theorem dX12_workStack_5 : decode cX12_workStack 5 = .ok (.aload_n 0, 1) := by decide +kernel
theorem dX12_workStack_6 : decode cX12_workStack 6 = .ok (.invokevirtual 295, 3) := by decide +kernel
theorem dX12_workStack_9 : decode cX12_workStack 9 = .ok (.istore_n 3, 1) := by decide +kernel
theorem dX12_workStack_10 : decode cX12_workStack 10 = .ok (.iload_n 1, 1) := by decide +kernel
theorem dX12_workStack_11 : decode cX12_workStack 11 = .ok (.bipush 6, 2) := by decide +kernel
theorem dX12_workStack_13 : decode cX12_workStack 13 = .ok (.if_icmp .ne 14, 3) := by decide +kernel
theorem dX12_workStack_16 : decode cX12_workStack 16 = .ok (.iload_n 2, 1) := by decide +kernel
theorem dX12_workStack_17 : decode cX12_workStack 17 = .ok (.ifCond .ne 10, 3) := by decide +kernel
theorem dX12_workStack_20 : decode cX12_workStack 20 = .ok (.aload_n 0, 1) := by decide +kernel
theorem dX12_workStack_21 : decode cX12_workStack 21 = .ok (.iconst 0, 1) := by decide +kernel
theorem dX12_workStack_22 : decode cX12_workStack 22 = .ok (.iconst 2, 1) := by decide +kernel
theorem dX12_workStack_23 : decode cX12_workStack 23 = .ok (.invokevirtual 286, 3) := by decide +kernel
theorem dX12_workStack_26 : decode cX12_workStack 26 = .ok (.return_, 1) := by decide +kernel
theorem dX12_workStack_27 : decode cX12_workStack 27 = .ok (.aload_n 0, 1) := by decide +kernel
theorem dX12_workStack_28 : decode cX12_workStack 28 = .ok (.aload_n 0, 1) := by decide +kernel
theorem dX12_workStack_29 : decode cX12_workStack 29 = .ok (.iload_n 1, 1) := by decide +kernel
theorem dX12_workStack_30 : decode cX12_workStack 30 = .ok (.iload_n 3, 1) := by decide +kernel
theorem dX12_workStack_31 : decode cX12_workStack 31 = .ok (.iload_n 2, 1) := by decide +kernel
theorem dX12_workStack_32 : decode cX12_workStack 32 = .ok (.invokevirtual 320, 3) := by decide +kernel
theorem dX12_workStack_35 : decode cX12_workStack 35 = .ok (.invokevirtual 289, 3) := by decide +kernel
theorem dX12_workStack_38 : decode cX12_workStack 38 = .ok (.return_, 1) := by decide +kernel
theorem dX12_stepRegisters_0 : decode cX12_stepRegisters 0 = .ok (.aload_n 0, 1) := by decide +kernel
theorem dX12_stepRegisters_1 : decode cX12_stepRegisters 1 = .ok (.getfield 110, 3) := by decide +kernel
theorem dX12_stepRegisters_4 : decode cX12_stepRegisters 4 = .ok (.iconst 1, 1) := by decide +kernel
theorem dX12_stepRegisters_5 : decode cX12_stepRegisters 5 = .ok (.iaload, 1) := by decide +kernel
theorem dX12_stepRegisters_6 : decode cX12_stepRegisters 6 = .ok (.ifCond .ne 9, 3) := by decide +kernel
theorem dX12_stepRegisters_9 : decode cX12_stepRegisters 9 = .ok (.aload_n 0, 1) := by decide +kernel
theorem dX12_stepRegisters_10 : decode cX12_stepRegisters 10 = .ok (.iconst 1, 1) := by decide +kernel
theorem dX12_stepRegisters_11 : decode cX12_stepRegisters 11 = .ok (.iconst 0, 1) := by decide +kernel
theorem dX12_stepRegisters_12 : decode cX12_stepRegisters 12 = .ok (.invokevirtual 292, 3) := by decide +kernel
theorem dX12_stepRegisters_15 : decode cX12_stepRegisters 15 = .ok (.bipush 30, 2) := by decide +kernel
theorem dX12_stepRegisters_17 : decode cX12_stepRegisters 17 = .ok (.aload_n 0, 1) := by decide +kernel
theorem dX12_stepRegisters_18 : decode cX12_stepRegisters 18 = .ok (.getfield 110, 3) := by decide +kernel
theorem dX12_stepRegisters_21 : decode cX12_stepRegisters 21 = .ok (.iconst 1, 1) := by decide +kernel
theorem dX12_stepRegisters_22 : decode cX12_stepRegisters 22 = .ok (.iaload, 1) := by decide +kernel
theorem dX12_stepRegisters_23 : decode cX12_stepRegisters 23 = .ok (.iadd, 1) := by decide +kernel
theorem dX12_stepRegisters_24 : decode cX12_stepRegisters 24 = .ok (.iconst 1, 1) := by decide +kernel
theorem dX12_stepRegisters_25 : decode cX12_stepRegisters 25 = .ok (.isub, 1) := by decide +kernel
theorem dX12_stepRegisters_26 : decode cX12_stepRegisters 26 = .ok (.istore_n 1, 1) := by decide +kernel
theorem dX12_stepRegisters_27 : decode cX12_stepRegisters 27 = .ok (.iconst 5, 1) := by decide +kernel
theorem dX12_stepRegisters_28 : decode cX12_stepRegisters 28 = .ok (.aload_n 0, 1) := by decide +kernel
theorem dX12_stepRegisters_29 : decode cX12_stepRegisters 29 = .ok (.getfield 86, 3) := by decide +kernel
theorem dX12_stepRegisters_32 : decode cX12_stepRegisters 32 = .ok (.aload_n 0, 1) := by decide +kernel
theorem dX12_stepRegisters_33 : decode cX12_stepRegisters 33 = .ok (.getfield 113, 3) := by decide +kernel
theorem dX12_stepRegisters_36 : decode cX12_stepRegisters 36 = .ok (.iload_n 1, 1) := by decide +kernel
theorem dX12_stepRegisters_37 : decode cX12_stepRegisters 37 = .ok (.iaload, 1) := by decide +kernel
theorem dX12_stepRegisters_38 : decode cX12_stepRegisters 38 = .ok (.iaload, 1) := by decide +kernel
theorem dX12_stepRegisters_39 : decode cX12_stepRegisters 39 = .ok (.aload_n 0, 1) := by decide +kernel
theorem dX12_stepRegisters_40 : decode cX12_stepRegisters 40 = .ok (.getfield 116, 3) := by decide +kernel
theorem dX12_stepRegisters_43 : decode cX12_stepRegisters 43 = .ok (.iload_n 1, 1) := by decide +kernel
theorem dX12_stepRegisters_44 : decode cX12_stepRegisters 44 = .ok (.iaload, 1) := by decide +kernel
theorem dX12_stepRegisters_45 : decode cX12_stepRegisters 45 = .ok (.iadd, 1) := by decide +kernel
theorem dX12_stepRegisters_46 : decode cX12_stepRegisters 46 = .ok (.imul, 1) := by decide +kernel
theorem dX12_stepRegisters_47 : decode cX12_stepRegisters 47 = .ok (.istore_n 2, 1) := by decide +kernel
theorem dX12_stepRegisters_48 : decode cX12_stepRegisters 48 = .ok (.aload_n 0, 1) := by decide +kernel
theorem dX12_stepRegisters_49 : decode cX12_stepRegisters 49 = .ok (.getfield 83, 3) := by decide +kernel
theorem dX12_stepRegisters_52 : decode cX12_stepRegisters 52 = .ok (.iload_n 2, 1) := by decide +kernel
theorem dX12_stepRegisters_53 : decode cX12_stepRegisters 53 = .ok (.iconst 1, 1) := by decide +kernel
theorem dX12_stepRegisters_54 : decode cX12_stepRegisters 54 = .ok (.iadd, 1) := by decide +kernel
theorem dX12_stepRegisters_55 : decode cX12_stepRegisters 55 = .ok (.iaload, 1) := by decide +kernel
theorem dX12_stepRegisters_56 : decode cX12_stepRegisters 56 = .ok (.istore_n 3, 1) := by decide +kernel
theorem dX12_stepRegisters_57 : decode cX12_stepRegisters 57 = .ok (.aload_n 0, 1) := by decide +kernel
theorem dX12_stepRegisters_58 : decode cX12_stepRegisters 58 = .ok (.getfield 83, 3) := by decide +kernel
theorem dX12_stepRegisters_61 : decode cX12_stepRegisters 61 = .ok (.iload_n 2, 1) := by decide +kernel
theorem dX12_stepRegisters_62 : decode cX12_stepRegisters 62 = .ok (.iconst 2, 1) := by decide +kernel
theorem dX12_stepRegisters_63 : decode cX12_stepRegisters 63 = .ok (.iadd, 1) := by decide +kernel
theorem dX12_stepRegisters_64 : decode cX12_stepRegisters 64 = .ok (.iaload, 1) := by decide +kernel
theorem dX12_stepRegisters_65 : decode cX12_stepRegisters 65 = .ok (.istore 4, 2) := by decide +kernel
theorem dX12_stepRegisters_67 : decode cX12_stepRegisters 67 = .ok (.aload_n 0, 1) := by decide +kernel
theorem dX12_stepRegisters_68 : decode cX12_stepRegisters 68 = .ok (.getfield 83, 3) := by decide +kernel
theorem dX12_stepRegisters_71 : decode cX12_stepRegisters 71 = .ok (.iload_n 2, 1) := by decide +kernel
theorem dX12_stepRegisters_72 : decode cX12_stepRegisters 72 = .ok (.iconst 3, 1) := by decide +kernel
theorem dX12_stepRegisters_73 : decode cX12_stepRegisters 73 = .ok (.iadd, 1) := by decide +kernel
theorem dX12_stepRegisters_74 : decode cX12_stepRegisters 74 = .ok (.iaload, 1) := by decide +kernel
theorem dX12_stepRegisters_75 : decode cX12_stepRegisters 75 = .ok (.istore 5, 2) := by decide +kernel
theorem dX12_stepRegisters_77 : decode cX12_stepRegisters 77 = .ok (.bipush 24, 2) := by decide +kernel
theorem dX12_stepRegisters_79 : decode cX12_stepRegisters 79 = .ok (.iload_n 1, 1) := by decide +kernel
theorem dX12_stepRegisters_80 : decode cX12_stepRegisters 80 = .ok (.imul, 1) := by decide +kernel
theorem dX12_stepRegisters_81 : decode cX12_stepRegisters 81 = .ok (.istore 6, 2) := by decide +kernel
theorem dX12_stepRegisters_83 : decode cX12_stepRegisters 83 = .ok (.aload_n 0, 1) := by decide +kernel
theorem dX12_stepRegisters_84 : decode cX12_stepRegisters 84 = .ok (.getfield 116, 3) := by decide +kernel
theorem dX12_stepRegisters_87 : decode cX12_stepRegisters 87 = .ok (.iload_n 1, 1) := by decide +kernel
theorem dX12_stepRegisters_88 : decode cX12_stepRegisters 88 = .ok (.dup2, 1) := by decide +kernel
theorem dX12_stepRegisters_89 : decode cX12_stepRegisters 89 = .ok (.iaload, 1) := by decide +kernel
theorem dX12_stepRegisters_90 : decode cX12_stepRegisters 90 = .ok (.iconst 1, 1) := by decide +kernel
theorem dX12_stepRegisters_91 : decode cX12_stepRegisters 91 = .ok (.iadd, 1) := by decide +kernel
theorem dX12_stepRegisters_92 : decode cX12_stepRegisters 92 = .ok (.iastore, 1) := by decide +kernel
theorem dX12_stepRegisters_93 : decode cX12_stepRegisters 93 = .ok (.aload_n 0, 1) := by decide +kernel
theorem dX12_stepRegisters_94 : decode cX12_stepRegisters 94 = .ok (.getfield 104, 3) := by decide +kernel
theorem dX12_stepRegisters_97 : decode cX12_stepRegisters 97 = .ok (.iconst 1, 1) := by decide +kernel
theorem dX12_stepRegisters_98 : decode cX12_stepRegisters 98 = .ok (.dup2, 1) := by decide +kernel
theorem dX12_stepRegisters_99 : decode cX12_stepRegisters 99 = .ok (.iaload, 1) := by decide +kernel
theorem dX12_stepRegisters_100 : decode cX12_stepRegisters 100 = .ok (.iconst 1, 1) := by decide +kernel
theorem dX12_stepRegisters_101 : decode cX12_stepRegisters 101 = .ok (.iadd, 1) := by decide +kernel
theorem dX12_stepRegisters_102 : decode cX12_stepRegisters 102 = .ok (.iastore, 1) := by decide +kernel
theorem dX12_stepRegisters_103 : decode cX12_stepRegisters 103 = .ok (.aload_n 0, 1) := by decide +kernel
theorem dX12_stepRegisters_104 : decode cX12_stepRegisters 104 = .ok (.getfield 83, 3) := by decide +kernel
theorem dX12_stepRegisters_107 : decode cX12_stepRegisters 107 = .ok (.iload_n 2, 1) := by decide +kernel
theorem dX12_stepRegisters_108 : decode cX12_stepRegisters 108 = .ok (.iaload, 1) := by decide +kernel
theorem dX12_stepRegisters_109 : decode cX12_stepRegisters 109 = .ok (.tableswitch 355 0 8 #[51, 63, 83, 158, 201, 209, 239, 254, 305], 51) := by decide +kernel
theorem dX12_stepRegisters_160 : decode cX12_stepRegisters 160 = .ok (.aload_n 0, 1) := by decide +kernel
theorem dX12_stepRegisters_161 : decode cX12_stepRegisters 161 = .ok (.getfield 119, 3) := by decide +kernel
theorem dX12_stepRegisters_164 : decode cX12_stepRegisters 164 = .ok (.iload 6, 2) := by decide +kernel
theorem dX12_stepRegisters_166 : decode cX12_stepRegisters 166 = .ok (.iload_n 3, 1) := by decide +kernel
theorem dX12_stepRegisters_167 : decode cX12_stepRegisters 167 = .ok (.iadd, 1) := by decide +kernel
theorem dX12_stepRegisters_168 : decode cX12_stepRegisters 168 = .ok (.iload 4, 2) := by decide +kernel
theorem dX12_stepRegisters_170 : decode cX12_stepRegisters 170 = .ok (.iastore, 1) := by decide +kernel
theorem dX12_stepRegisters_171 : decode cX12_stepRegisters 171 = .ok (.return_, 1) := by decide +kernel
theorem dX12_stepRegisters_172 : decode cX12_stepRegisters 172 = .ok (.aload_n 0, 1) := by decide +kernel
theorem dX12_stepRegisters_173 : decode cX12_stepRegisters 173 = .ok (.getfield 119, 3) := by decide +kernel
theorem dX12_stepRegisters_176 : decode cX12_stepRegisters 176 = .ok (.iload 6, 2) := by decide +kernel
theorem dX12_stepRegisters_178 : decode cX12_stepRegisters 178 = .ok (.iload_n 3, 1) := by decide +kernel
theorem dX12_stepRegisters_179 : decode cX12_stepRegisters 179 = .ok (.iadd, 1) := by decide +kernel
theorem dX12_stepRegisters_180 : decode cX12_stepRegisters 180 = .ok (.aload_n 0, 1) := by decide +kernel
theorem dX12_stepRegisters_181 : decode cX12_stepRegisters 181 = .ok (.getfield 119, 3) := by decide +kernel
theorem dX12_stepRegisters_184 : decode cX12_stepRegisters 184 = .ok (.iload 6, 2) := by decide +kernel
theorem dX12_stepRegisters_186 : decode cX12_stepRegisters 186 = .ok (.iload 4, 2) := by decide +kernel
theorem dX12_stepRegisters_188 : decode cX12_stepRegisters 188 = .ok (.iadd, 1) := by decide +kernel
theorem dX12_stepRegisters_189 : decode cX12_stepRegisters 189 = .ok (.iaload, 1) := by decide +kernel
theorem dX12_stepRegisters_190 : decode cX12_stepRegisters 190 = .ok (.iastore, 1) := by decide +kernel
theorem dX12_stepRegisters_191 : decode cX12_stepRegisters 191 = .ok (.return_, 1) := by decide +kernel
theorem dX12_stepRegisters_192 : decode cX12_stepRegisters 192 = .ok (.aload_n 0, 1) := by decide +kernel
theorem dX12_stepRegisters_193 : decode cX12_stepRegisters 193 = .ok (.getfield 83, 3) := by decide +kernel
theorem dX12_stepRegisters_196 : decode cX12_stepRegisters 196 = .ok (.iload_n 2, 1) := by decide +kernel
theorem dX12_stepRegisters_197 : decode cX12_stepRegisters 197 = .ok (.iconst 4, 1) := by decide +kernel
theorem dX12_stepRegisters_198 : decode cX12_stepRegisters 198 = .ok (.iadd, 1) := by decide +kernel
theorem dX12_stepRegisters_199 : decode cX12_stepRegisters 199 = .ok (.iaload, 1) := by decide +kernel
theorem dX12_stepRegisters_200 : decode cX12_stepRegisters 200 = .ok (.bipush 6, 2) := by decide +kernel
theorem dX12_stepRegisters_202 : decode cX12_stepRegisters 202 = .ok (.if_icmp .ne 23, 3) := by decide +kernel
theorem dX12_stepRegisters_205 : decode cX12_stepRegisters 205 = .ok (.aload_n 0, 1) := by decide +kernel
theorem dX12_stepRegisters_206 : decode cX12_stepRegisters 206 = .ok (.getfield 119, 3) := by decide +kernel
theorem dX12_stepRegisters_209 : decode cX12_stepRegisters 209 = .ok (.iload 6, 2) := by decide +kernel
theorem dX12_stepRegisters_211 : decode cX12_stepRegisters 211 = .ok (.iload 5, 2) := by decide +kernel
theorem dX12_stepRegisters_213 : decode cX12_stepRegisters 213 = .ok (.iadd, 1) := by decide +kernel
theorem dX12_stepRegisters_214 : decode cX12_stepRegisters 214 = .ok (.iaload, 1) := by decide +kernel
theorem dX12_stepRegisters_215 : decode cX12_stepRegisters 215 = .ok (.ifCond .ne 10, 3) := by decide +kernel
theorem dX12_stepRegisters_218 : decode cX12_stepRegisters 218 = .ok (.aload_n 0, 1) := by decide +kernel
theorem dX12_stepRegisters_219 : decode cX12_stepRegisters 219 = .ok (.iconst 1, 1) := by decide +kernel
theorem dX12_stepRegisters_220 : decode cX12_stepRegisters 220 = .ok (.iconst 2, 1) := by decide +kernel
theorem dX12_stepRegisters_221 : decode cX12_stepRegisters 221 = .ok (.invokevirtual 286, 3) := by decide +kernel
theorem dX12_stepRegisters_224 : decode cX12_stepRegisters 224 = .ok (.return_, 1) := by decide +kernel
theorem dX12_stepRegisters_225 : decode cX12_stepRegisters 225 = .ok (.aload_n 0, 1) := by decide +kernel
theorem dX12_stepRegisters_226 : decode cX12_stepRegisters 226 = .ok (.getfield 119, 3) := by decide +kernel
theorem dX12_stepRegisters_229 : decode cX12_stepRegisters 229 = .ok (.iload 6, 2) := by decide +kernel
theorem dX12_stepRegisters_231 : decode cX12_stepRegisters 231 = .ok (.iload_n 3, 1) := by decide +kernel
theorem dX12_stepRegisters_232 : decode cX12_stepRegisters 232 = .ok (.iadd, 1) := by decide +kernel
theorem dX12_stepRegisters_233 : decode cX12_stepRegisters 233 = .ok (.aload_n 0, 1) := by decide +kernel
theorem dX12_stepRegisters_234 : decode cX12_stepRegisters 234 = .ok (.aload_n 0, 1) := by decide +kernel
theorem dX12_stepRegisters_235 : decode cX12_stepRegisters 235 = .ok (.getfield 83, 3) := by decide +kernel
theorem dX12_stepRegisters_238 : decode cX12_stepRegisters 238 = .ok (.iload_n 2, 1) := by decide +kernel
theorem dX12_stepRegisters_239 : decode cX12_stepRegisters 239 = .ok (.iconst 4, 1) := by decide +kernel
theorem dX12_stepRegisters_240 : decode cX12_stepRegisters 240 = .ok (.iadd, 1) := by decide +kernel
theorem dX12_stepRegisters_241 : decode cX12_stepRegisters 241 = .ok (.iaload, 1) := by decide +kernel
theorem dX12_stepRegisters_242 : decode cX12_stepRegisters 242 = .ok (.aload_n 0, 1) := by decide +kernel
theorem dX12_stepRegisters_243 : decode cX12_stepRegisters 243 = .ok (.getfield 119, 3) := by decide +kernel
theorem dX12_stepRegisters_246 : decode cX12_stepRegisters 246 = .ok (.iload 6, 2) := by decide +kernel
theorem dX12_stepRegisters_248 : decode cX12_stepRegisters 248 = .ok (.iload 4, 2) := by decide +kernel
theorem dX12_stepRegisters_250 : decode cX12_stepRegisters 250 = .ok (.iadd, 1) := by decide +kernel
theorem dX12_stepRegisters_251 : decode cX12_stepRegisters 251 = .ok (.iaload, 1) := by decide +kernel
theorem dX12_stepRegisters_252 : decode cX12_stepRegisters 252 = .ok (.aload_n 0, 1) := by decide +kernel
theorem dX12_stepRegisters_253 : decode cX12_stepRegisters 253 = .ok (.getfield 119, 3) := by decide +kernel
theorem dX12_stepRegisters_256 : decode cX12_stepRegisters 256 = .ok (.iload 6, 2) := by decide +kernel
theorem dX12_stepRegisters_258 : decode cX12_stepRegisters 258 = .ok (.iload 5, 2) := by decide +kernel
theorem dX12_stepRegisters_260 : decode cX12_stepRegisters 260 = .ok (.iadd, 1) := by decide +kernel
theorem dX12_stepRegisters_261 : decode cX12_stepRegisters 261 = .ok (.iaload, 1) := by decide +kernel
theorem dX12_stepRegisters_262 : decode cX12_stepRegisters 262 = .ok (.invokevirtual 320, 3) := by decide +kernel
theorem dX12_stepRegisters_265 : decode cX12_stepRegisters 265 = .ok (.iastore, 1) := by decide +kernel
theorem dX12_stepRegisters_266 : decode cX12_stepRegisters 266 = .ok (.return_, 1) := by decide +kernel
theorem dX12_stepRegisters_267 : decode cX12_stepRegisters 267 = .ok (.aload_n 0, 1) := by decide +kernel
theorem dX12_stepRegisters_268 : decode cX12_stepRegisters 268 = .ok (.getfield 119, 3) := by decide +kernel
theorem dX12_stepRegisters_271 : decode cX12_stepRegisters 271 = .ok (.iload 6, 2) := by decide +kernel
theorem dX12_stepRegisters_273 : decode cX12_stepRegisters 273 = .ok (.iload_n 3, 1) := by decide +kernel
theorem dX12_stepRegisters_274 : decode cX12_stepRegisters 274 = .ok (.iadd, 1) := by decide +kernel
theorem dX12_stepRegisters_275 : decode cX12_stepRegisters 275 = .ok (.iaload, 1) := by decide +kernel
theorem dX12_stepRegisters_276 : decode cX12_stepRegisters 276 = .ok (.istore 7, 2) := by decide +kernel
theorem dX12_stepRegisters_278 : decode cX12_stepRegisters 278 = .ok (.aload_n 0, 1) := by decide +kernel
theorem dX12_stepRegisters_279 : decode cX12_stepRegisters 279 = .ok (.getfield 119, 3) := by decide +kernel
theorem dX12_stepRegisters_282 : decode cX12_stepRegisters 282 = .ok (.iload 6, 2) := by decide +kernel
theorem dX12_stepRegisters_284 : decode cX12_stepRegisters 284 = .ok (.iload_n 3, 1) := by decide +kernel
theorem dX12_stepRegisters_285 : decode cX12_stepRegisters 285 = .ok (.iadd, 1) := by decide +kernel
theorem dX12_stepRegisters_286 : decode cX12_stepRegisters 286 = .ok (.aload_n 0, 1) := by decide +kernel
theorem dX12_stepRegisters_287 : decode cX12_stepRegisters 287 = .ok (.getfield 119, 3) := by decide +kernel
theorem dX12_stepRegisters_290 : decode cX12_stepRegisters 290 = .ok (.iload 6, 2) := by decide +kernel
theorem dX12_stepRegisters_292 : decode cX12_stepRegisters 292 = .ok (.iload 4, 2) := by decide +kernel
theorem dX12_stepRegisters_294 : decode cX12_stepRegisters 294 = .ok (.iadd, 1) := by decide +kernel
theorem dX12_stepRegisters_295 : decode cX12_stepRegisters 295 = .ok (.iaload, 1) := by decide +kernel
theorem dX12_stepRegisters_296 : decode cX12_stepRegisters 296 = .ok (.iastore, 1) := by decide +kernel
theorem dX12_stepRegisters_297 : decode cX12_stepRegisters 297 = .ok (.aload_n 0, 1) := by decide +kernel
theorem dX12_stepRegisters_298 : decode cX12_stepRegisters 298 = .ok (.getfield 119, 3) := by decide +kernel
theorem dX12_stepRegisters_301 : decode cX12_stepRegisters 301 = .ok (.iload 6, 2) := by decide +kernel
theorem dX12_stepRegisters_303 : decode cX12_stepRegisters 303 = .ok (.iload 4, 2) := by decide +kernel
theorem dX12_stepRegisters_305 : decode cX12_stepRegisters 305 = .ok (.iadd, 1) := by decide +kernel
theorem dX12_stepRegisters_306 : decode cX12_stepRegisters 306 = .ok (.iload 7, 2) := by decide +kernel
theorem dX12_stepRegisters_308 : decode cX12_stepRegisters 308 = .ok (.iastore, 1) := by decide +kernel
theorem dX12_stepRegisters_309 : decode cX12_stepRegisters 309 = .ok (.return_, 1) := by decide +kernel
theorem dX12_stepRegisters_310 : decode cX12_stepRegisters 310 = .ok (.aload_n 0, 1) := by decide +kernel
theorem dX12_stepRegisters_311 : decode cX12_stepRegisters 311 = .ok (.getfield 116, 3) := by decide +kernel
theorem dX12_stepRegisters_314 : decode cX12_stepRegisters 314 = .ok (.iload_n 1, 1) := by decide +kernel
theorem dX12_stepRegisters_315 : decode cX12_stepRegisters 315 = .ok (.iload_n 3, 1) := by decide +kernel
theorem dX12_stepRegisters_316 : decode cX12_stepRegisters 316 = .ok (.iastore, 1) := by decide +kernel
theorem dX12_stepRegisters_317 : decode cX12_stepRegisters 317 = .ok (.return_, 1) := by decide +kernel
theorem dX12_stepRegisters_318 : decode cX12_stepRegisters 318 = .ok (.aload_n 0, 1) := by decide +kernel
theorem dX12_stepRegisters_319 : decode cX12_stepRegisters 319 = .ok (.getfield 116, 3) := by decide +kernel
theorem dX12_stepRegisters_322 : decode cX12_stepRegisters 322 = .ok (.iload_n 1, 1) := by decide +kernel
theorem dX12_stepRegisters_323 : decode cX12_stepRegisters 323 = .ok (.aload_n 0, 1) := by decide +kernel
theorem dX12_stepRegisters_324 : decode cX12_stepRegisters 324 = .ok (.getfield 119, 3) := by decide +kernel
theorem dX12_stepRegisters_327 : decode cX12_stepRegisters 327 = .ok (.iload 6, 2) := by decide +kernel
theorem dX12_stepRegisters_329 : decode cX12_stepRegisters 329 = .ok (.iload_n 3, 1) := by decide +kernel
theorem dX12_stepRegisters_330 : decode cX12_stepRegisters 330 = .ok (.iadd, 1) := by decide +kernel
theorem dX12_stepRegisters_331 : decode cX12_stepRegisters 331 = .ok (.iaload, 1) := by decide +kernel
theorem dX12_stepRegisters_332 : decode cX12_stepRegisters 332 = .ok (.ifCond .ne 8, 3) := by decide +kernel
theorem dX12_stepRegisters_335 : decode cX12_stepRegisters 335 = .ok (.iload 4, 2) := by decide +kernel
theorem dX12_stepRegisters_337 : decode cX12_stepRegisters 337 = .ok (.goto 9, 3) := by decide +kernel
theorem dX12_stepRegisters_340 : decode cX12_stepRegisters 340 = .ok (.aload_n 0, 1) := by decide +kernel
theorem dX12_stepRegisters_341 : decode cX12_stepRegisters 341 = .ok (.getfield 116, 3) := by decide +kernel
theorem dX12_stepRegisters_344 : decode cX12_stepRegisters 344 = .ok (.iload_n 1, 1) := by decide +kernel
theorem dX12_stepRegisters_345 : decode cX12_stepRegisters 345 = .ok (.iaload, 1) := by decide +kernel
theorem dX12_stepRegisters_346 : decode cX12_stepRegisters 346 = .ok (.iastore, 1) := by decide +kernel
theorem dX12_stepRegisters_347 : decode cX12_stepRegisters 347 = .ok (.return_, 1) := by decide +kernel
theorem dX12_stepRegisters_348 : decode cX12_stepRegisters 348 = .ok (.aload_n 0, 1) := by decide +kernel
theorem dX12_stepRegisters_349 : decode cX12_stepRegisters 349 = .ok (.iconst 1, 1) := by decide +kernel
theorem dX12_stepRegisters_350 : decode cX12_stepRegisters 350 = .ok (.aload_n 0, 1) := by decide +kernel
theorem dX12_stepRegisters_351 : decode cX12_stepRegisters 351 = .ok (.getfield 119, 3) := by decide +kernel
theorem dX12_stepRegisters_354 : decode cX12_stepRegisters 354 = .ok (.iload 6, 2) := by decide +kernel
theorem dX12_stepRegisters_356 : decode cX12_stepRegisters 356 = .ok (.iload_n 3, 1) := by decide +kernel
theorem dX12_stepRegisters_357 : decode cX12_stepRegisters 357 = .ok (.iadd, 1) := by decide +kernel
theorem dX12_stepRegisters_358 : decode cX12_stepRegisters 358 = .ok (.iaload, 1) := by decide +kernel
theorem dX12_stepRegisters_359 : decode cX12_stepRegisters 359 = .ok (.invokevirtual 305, 3) := by decide +kernel
theorem dX12_stepRegisters_362 : decode cX12_stepRegisters 362 = .ok (.return_, 1) := by decide +kernel
theorem dX12_stepRegisters_363 : decode cX12_stepRegisters 363 = .ok (.aload_n 0, 1) := by decide +kernel
theorem dX12_stepRegisters_364 : decode cX12_stepRegisters 364 = .ok (.getfield 119, 3) := by decide +kernel
theorem dX12_stepRegisters_367 : decode cX12_stepRegisters 367 = .ok (.iload 6, 2) := by decide +kernel
theorem dX12_stepRegisters_369 : decode cX12_stepRegisters 369 = .ok (.iload 4, 2) := by decide +kernel
theorem dX12_stepRegisters_371 : decode cX12_stepRegisters 371 = .ok (.iadd, 1) := by decide +kernel
theorem dX12_stepRegisters_372 : decode cX12_stepRegisters 372 = .ok (.iaload, 1) := by decide +kernel
theorem dX12_stepRegisters_373 : decode cX12_stepRegisters 373 = .ok (.invokestatic 317, 3) := by decide +kernel
theorem dX12_stepRegisters_376 : decode cX12_stepRegisters 376 = .ok (.ifCond .ne 10, 3) := by decide +kernel
theorem dX12_stepRegisters_379 : decode cX12_stepRegisters 379 = .ok (.aload_n 0, 1) := by decide +kernel
theorem dX12_stepRegisters_380 : decode cX12_stepRegisters 380 = .ok (.iconst 1, 1) := by decide +kernel
theorem dX12_stepRegisters_381 : decode cX12_stepRegisters 381 = .ok (.iconst 3, 1) := by decide +kernel
theorem dX12_stepRegisters_382 : decode cX12_stepRegisters 382 = .ok (.invokevirtual 286, 3) := by decide +kernel
theorem dX12_stepRegisters_385 : decode cX12_stepRegisters 385 = .ok (.return_, 1) := by decide +kernel
theorem dX12_stepRegisters_386 : decode cX12_stepRegisters 386 = .ok (.aload_n 0, 1) := by decide +kernel
theorem dX12_stepRegisters_387 : decode cX12_stepRegisters 387 = .ok (.getfield 119, 3) := by decide +kernel
theorem dX12_stepRegisters_390 : decode cX12_stepRegisters 390 = .ok (.iload 6, 2) := by decide +kernel
theorem dX12_stepRegisters_392 : decode cX12_stepRegisters 392 = .ok (.iload_n 3, 1) := by decide +kernel
theorem dX12_stepRegisters_393 : decode cX12_stepRegisters 393 = .ok (.iadd, 1) := by decide +kernel
theorem dX12_stepRegisters_394 : decode cX12_stepRegisters 394 = .ok (.aload_n 0, 1) := by decide +kernel
theorem dX12_stepRegisters_395 : decode cX12_stepRegisters 395 = .ok (.getfield 95, 3) := by decide +kernel
theorem dX12_stepRegisters_398 : decode cX12_stepRegisters 398 = .ok (.bipush 64, 2) := by decide +kernel
theorem dX12_stepRegisters_400 : decode cX12_stepRegisters 400 = .ok (.aload_n 0, 1) := by decide +kernel
theorem dX12_stepRegisters_401 : decode cX12_stepRegisters 401 = .ok (.getfield 119, 3) := by decide +kernel
theorem dX12_stepRegisters_404 : decode cX12_stepRegisters 404 = .ok (.iload 6, 2) := by decide +kernel
theorem dX12_stepRegisters_406 : decode cX12_stepRegisters 406 = .ok (.iload 4, 2) := by decide +kernel
theorem dX12_stepRegisters_408 : decode cX12_stepRegisters 408 = .ok (.iadd, 1) := by decide +kernel
theorem dX12_stepRegisters_409 : decode cX12_stepRegisters 409 = .ok (.iaload, 1) := by decide +kernel
theorem dX12_stepRegisters_410 : decode cX12_stepRegisters 410 = .ok (.iadd, 1) := by decide +kernel
theorem dX12_stepRegisters_411 : decode cX12_stepRegisters 411 = .ok (.iaload, 1) := by decide +kernel
theorem dX12_stepRegisters_412 : decode cX12_stepRegisters 412 = .ok (.iastore, 1) := by decide +kernel
theorem dX12_stepRegisters_413 : decode cX12_stepRegisters 413 = .ok (.return_, 1) := by decide +kernel
theorem dX12_stepRegisters_414 : decode cX12_stepRegisters 414 = .ok (.aload_n 0, 1) := by decide +kernel
theorem dX12_stepRegisters_415 : decode cX12_stepRegisters 415 = .ok (.getfield 119, 3) := by decide +kernel
theorem dX12_stepRegisters_418 : decode cX12_stepRegisters 418 = .ok (.iload 6, 2) := by decide +kernel
theorem dX12_stepRegisters_420 : decode cX12_stepRegisters 420 = .ok (.iload_n 3, 1) := by decide +kernel
theorem dX12_stepRegisters_421 : decode cX12_stepRegisters 421 = .ok (.iadd, 1) := by decide +kernel
theorem dX12_stepRegisters_422 : decode cX12_stepRegisters 422 = .ok (.iaload, 1) := by decide +kernel
theorem dX12_stepRegisters_423 : decode cX12_stepRegisters 423 = .ok (.invokestatic 317, 3) := by decide +kernel
theorem dX12_stepRegisters_426 : decode cX12_stepRegisters 426 = .ok (.ifCond .ne 10, 3) := by decide +kernel
theorem dX12_stepRegisters_429 : decode cX12_stepRegisters 429 = .ok (.aload_n 0, 1) := by decide +kernel
theorem dX12_stepRegisters_430 : decode cX12_stepRegisters 430 = .ok (.iconst 1, 1) := by decide +kernel
theorem dX12_stepRegisters_431 : decode cX12_stepRegisters 431 = .ok (.iconst 3, 1) := by decide +kernel
theorem dX12_stepRegisters_432 : decode cX12_stepRegisters 432 = .ok (.invokevirtual 286, 3) := by decide +kernel
theorem dX12_stepRegisters_435 : decode cX12_stepRegisters 435 = .ok (.return_, 1) := by decide +kernel
theorem dX12_stepRegisters_436 : decode cX12_stepRegisters 436 = .ok (.aload_n 0, 1) := by decide +kernel
theorem dX12_stepRegisters_437 : decode cX12_stepRegisters 437 = .ok (.getfield 95, 3) := by decide +kernel
theorem dX12_stepRegisters_440 : decode cX12_stepRegisters 440 = .ok (.bipush 64, 2) := by decide +kernel
theorem dX12_stepRegisters_442 : decode cX12_stepRegisters 442 = .ok (.aload_n 0, 1) := by decide +kernel
theorem dX12_stepRegisters_443 : decode cX12_stepRegisters 443 = .ok (.getfield 119, 3) := by decide +kernel
theorem dX12_stepRegisters_446 : decode cX12_stepRegisters 446 = .ok (.iload 6, 2) := by decide +kernel
theorem dX12_stepRegisters_448 : decode cX12_stepRegisters 448 = .ok (.iload_n 3, 1) := by decide +kernel
theorem dX12_stepRegisters_449 : decode cX12_stepRegisters 449 = .ok (.iadd, 1) := by decide +kernel
theorem dX12_stepRegisters_450 : decode cX12_stepRegisters 450 = .ok (.iaload, 1) := by decide +kernel
theorem dX12_stepRegisters_451 : decode cX12_stepRegisters 451 = .ok (.iadd, 1) := by decide +kernel
theorem dX12_stepRegisters_452 : decode cX12_stepRegisters 452 = .ok (.aload_n 0, 1) := by decide +kernel
theorem dX12_stepRegisters_453 : decode cX12_stepRegisters 453 = .ok (.getfield 119, 3) := by decide +kernel
theorem dX12_stepRegisters_456 : decode cX12_stepRegisters 456 = .ok (.iload 6, 2) := by decide +kernel
theorem dX12_stepRegisters_458 : decode cX12_stepRegisters 458 = .ok (.iload 4, 2) := by decide +kernel
theorem dX12_stepRegisters_460 : decode cX12_stepRegisters 460 = .ok (.iadd, 1) := by decide +kernel
theorem dX12_stepRegisters_461 : decode cX12_stepRegisters 461 = .ok (.iaload, 1) := by decide +kernel
theorem dX12_stepRegisters_462 : decode cX12_stepRegisters 462 = .ok (.iastore, 1) := by decide +kernel
theorem dX12_stepRegisters_463 : decode cX12_stepRegisters 463 = .ok (.return_, 1) := by decide +kernel
theorem dX12_stepRegisters_464 : decode cX12_stepRegisters 464 = .ok (.aload_n 0, 1) := by decide +kernel
theorem dX12_stepRegisters_465 : decode cX12_stepRegisters 465 = .ok (.aload_n 0, 1) := by decide +kernel
theorem dX12_stepRegisters_466 : decode cX12_stepRegisters 466 = .ok (.getfield 83, 3) := by decide +kernel
theorem dX12_stepRegisters_469 : decode cX12_stepRegisters 469 = .ok (.iload_n 2, 1) := by decide +kernel
theorem dX12_stepRegisters_470 : decode cX12_stepRegisters 470 = .ok (.iaload, 1) := by decide +kernel
theorem dX12_stepRegisters_471 : decode cX12_stepRegisters 471 = .ok (.iload_n 3, 1) := by decide +kernel
theorem dX12_stepRegisters_472 : decode cX12_stepRegisters 472 = .ok (.iload 4, 2) := by decide +kernel
theorem dX12_stepRegisters_474 : decode cX12_stepRegisters 474 = .ok (.iload_n 1, 1) := by decide +kernel
theorem dX12_stepRegisters_475 : decode cX12_stepRegisters 475 = .ok (.invokevirtual 323, 3) := by decide +kernel
theorem dX12_stepRegisters_478 : decode cX12_stepRegisters 478 = .ok (.return_, 1) := by decide +kernel
theorem dX12_stepCall_0 : decode cX12_stepCall 0 = .ok (.bipush 24, 2) := by decide +kernel
theorem dX12_stepCall_2 : decode cX12_stepCall 2 = .ok (.iload 4, 2) := by decide +kernel
theorem dX12_stepCall_4 : decode cX12_stepCall 4 = .ok (.imul, 1) := by decide +kernel
theorem dX12_stepCall_5 : decode cX12_stepCall 5 = .ok (.istore 5, 2) := by decide +kernel
theorem dX12_stepCall_7 : decode cX12_stepCall 7 = .ok (.iload_n 1, 1) := by decide +kernel
theorem dX12_stepCall_8 : decode cX12_stepCall 8 = .ok (.bipush 9, 2) := by decide +kernel
theorem dX12_stepCall_10 : decode cX12_stepCall 10 = .ok (.if_icmp .ne 24, 3) := by decide +kernel
theorem dX12_stepCall_13 : decode cX12_stepCall 13 = .ok (.aload_n 0, 1) := by decide +kernel
theorem dX12_stepCall_14 : decode cX12_stepCall 14 = .ok (.getfield 119, 3) := by decide +kernel
theorem dX12_stepCall_17 : decode cX12_stepCall 17 = .ok (.iload 5, 2) := by decide +kernel
theorem dX12_stepCall_19 : decode cX12_stepCall 19 = .ok (.iload_n 2, 1) := by decide +kernel
theorem dX12_stepCall_20 : decode cX12_stepCall 20 = .ok (.iadd, 1) := by decide +kernel
theorem dX12_stepCall_21 : decode cX12_stepCall 21 = .ok (.aload_n 0, 1) := by decide +kernel
theorem dX12_stepCall_22 : decode cX12_stepCall 22 = .ok (.getfield 125, 3) := by decide +kernel
theorem dX12_stepCall_25 : decode cX12_stepCall 25 = .ok (.iload 5, 2) := by decide +kernel
theorem dX12_stepCall_27 : decode cX12_stepCall 27 = .ok (.iload_n 3, 1) := by decide +kernel
theorem dX12_stepCall_28 : decode cX12_stepCall 28 = .ok (.iadd, 1) := by decide +kernel
theorem dX12_stepCall_29 : decode cX12_stepCall 29 = .ok (.iaload, 1) := by decide +kernel
theorem dX12_stepCall_30 : decode cX12_stepCall 30 = .ok (.iastore, 1) := by decide +kernel
theorem dX12_stepCall_31 : decode cX12_stepCall 31 = .ok (.goto 137, 3) := by decide +kernel
theorem dX12_stepCall_34 : decode cX12_stepCall 34 = .ok (.iload_n 1, 1) := by decide +kernel
theorem dX12_stepCall_35 : decode cX12_stepCall 35 = .ok (.bipush 10, 2) := by decide +kernel
theorem dX12_stepCall_37 : decode cX12_stepCall 37 = .ok (.if_icmp .ne 24, 3) := by decide +kernel
theorem dX12_stepCall_40 : decode cX12_stepCall 40 = .ok (.aload_n 0, 1) := by decide +kernel
theorem dX12_stepCall_41 : decode cX12_stepCall 41 = .ok (.getfield 125, 3) := by decide +kernel
theorem dX12_stepCall_44 : decode cX12_stepCall 44 = .ok (.iload 5, 2) := by decide +kernel
theorem dX12_stepCall_46 : decode cX12_stepCall 46 = .ok (.iload_n 2, 1) := by decide +kernel
theorem dX12_stepCall_47 : decode cX12_stepCall 47 = .ok (.iadd, 1) := by decide +kernel
theorem dX12_stepCall_48 : decode cX12_stepCall 48 = .ok (.aload_n 0, 1) := by decide +kernel
theorem dX12_stepCall_49 : decode cX12_stepCall 49 = .ok (.getfield 119, 3) := by decide +kernel
theorem dX12_stepCall_52 : decode cX12_stepCall 52 = .ok (.iload 5, 2) := by decide +kernel
theorem dX12_stepCall_54 : decode cX12_stepCall 54 = .ok (.iload_n 3, 1) := by decide +kernel
theorem dX12_stepCall_55 : decode cX12_stepCall 55 = .ok (.iadd, 1) := by decide +kernel
theorem dX12_stepCall_56 : decode cX12_stepCall 56 = .ok (.iaload, 1) := by decide +kernel
theorem dX12_stepCall_57 : decode cX12_stepCall 57 = .ok (.iastore, 1) := by decide +kernel
theorem dX12_stepCall_58 : decode cX12_stepCall 58 = .ok (.goto 110, 3) := by decide +kernel
theorem dX12_stepCall_61 : decode cX12_stepCall 61 = .ok (.iload_n 1, 1) := by decide +kernel
theorem dX12_stepCall_62 : decode cX12_stepCall 62 = .ok (.bipush 11, 2) := by decide +kernel
theorem dX12_stepCall_64 : decode cX12_stepCall 64 = .ok (.if_icmp .ne 27, 3) := by decide +kernel
theorem dX12_stepCall_67 : decode cX12_stepCall 67 = .ok (.aload_n 0, 1) := by decide +kernel
theorem dX12_stepCall_68 : decode cX12_stepCall 68 = .ok (.getfield 119, 3) := by decide +kernel
theorem dX12_stepCall_71 : decode cX12_stepCall 71 = .ok (.iload 5, 2) := by decide +kernel
theorem dX12_stepCall_73 : decode cX12_stepCall 73 = .ok (.iload_n 2, 1) := by decide +kernel
theorem dX12_stepCall_74 : decode cX12_stepCall 74 = .ok (.iadd, 1) := by decide +kernel
theorem dX12_stepCall_75 : decode cX12_stepCall 75 = .ok (.aload_n 0, 1) := by decide +kernel
theorem dX12_stepCall_76 : decode cX12_stepCall 76 = .ok (.getfield 128, 3) := by decide +kernel
theorem dX12_stepCall_79 : decode cX12_stepCall 79 = .ok (.bipush 7, 2) := by decide +kernel
theorem dX12_stepCall_81 : decode cX12_stepCall 81 = .ok (.iload 4, 2) := by decide +kernel
theorem dX12_stepCall_83 : decode cX12_stepCall 83 = .ok (.imul, 1) := by decide +kernel
theorem dX12_stepCall_84 : decode cX12_stepCall 84 = .ok (.iload_n 3, 1) := by decide +kernel
theorem dX12_stepCall_85 : decode cX12_stepCall 85 = .ok (.iadd, 1) := by decide +kernel
theorem dX12_stepCall_86 : decode cX12_stepCall 86 = .ok (.iaload, 1) := by decide +kernel
theorem dX12_stepCall_87 : decode cX12_stepCall 87 = .ok (.iastore, 1) := by decide +kernel
theorem dX12_stepCall_88 : decode cX12_stepCall 88 = .ok (.goto 80, 3) := by decide +kernel
theorem dX12_stepCall_91 : decode cX12_stepCall 91 = .ok (.iload_n 1, 1) := by decide +kernel
theorem dX12_stepCall_92 : decode cX12_stepCall 92 = .ok (.bipush 12, 2) := by decide +kernel
theorem dX12_stepCall_94 : decode cX12_stepCall 94 = .ok (.if_icmp .ne 24, 3) := by decide +kernel
theorem dX12_stepCall_97 : decode cX12_stepCall 97 = .ok (.aload_n 0, 1) := by decide +kernel
theorem dX12_stepCall_98 : decode cX12_stepCall 98 = .ok (.getfield 131, 3) := by decide +kernel
theorem dX12_stepCall_101 : decode cX12_stepCall 101 = .ok (.bipush 6, 2) := by decide +kernel
theorem dX12_stepCall_103 : decode cX12_stepCall 103 = .ok (.iload_n 2, 1) := by decide +kernel
theorem dX12_stepCall_104 : decode cX12_stepCall 104 = .ok (.iadd, 1) := by decide +kernel
theorem dX12_stepCall_105 : decode cX12_stepCall 105 = .ok (.aload_n 0, 1) := by decide +kernel
theorem dX12_stepCall_106 : decode cX12_stepCall 106 = .ok (.getfield 119, 3) := by decide +kernel
theorem dX12_stepCall_109 : decode cX12_stepCall 109 = .ok (.iload 5, 2) := by decide +kernel
theorem dX12_stepCall_111 : decode cX12_stepCall 111 = .ok (.iload_n 3, 1) := by decide +kernel
theorem dX12_stepCall_112 : decode cX12_stepCall 112 = .ok (.iadd, 1) := by decide +kernel
theorem dX12_stepCall_113 : decode cX12_stepCall 113 = .ok (.iaload, 1) := by decide +kernel
theorem dX12_stepCall_114 : decode cX12_stepCall 114 = .ok (.iastore, 1) := by decide +kernel
theorem dX12_stepCall_115 : decode cX12_stepCall 115 = .ok (.goto 53, 3) := by decide +kernel
theorem dX12_stepCall_118 : decode cX12_stepCall 118 = .ok (.iload_n 1, 1) := by decide +kernel
theorem dX12_stepCall_119 : decode cX12_stepCall 119 = .ok (.bipush 14, 2) := by decide +kernel
theorem dX12_stepCall_121 : decode cX12_stepCall 121 = .ok (.if_icmp .ne 21, 3) := by decide +kernel
theorem dX12_stepCall_124 : decode cX12_stepCall 124 = .ok (.aload_n 0, 1) := by decide +kernel
theorem dX12_stepCall_125 : decode cX12_stepCall 125 = .ok (.getfield 119, 3) := by decide +kernel
theorem dX12_stepCall_128 : decode cX12_stepCall 128 = .ok (.iload 5, 2) := by decide +kernel
theorem dX12_stepCall_130 : decode cX12_stepCall 130 = .ok (.iload_n 2, 1) := by decide +kernel
theorem dX12_stepCall_131 : decode cX12_stepCall 131 = .ok (.iadd, 1) := by decide +kernel
theorem dX12_stepCall_132 : decode cX12_stepCall 132 = .ok (.aload_n 0, 1) := by decide +kernel
theorem dX12_stepCall_133 : decode cX12_stepCall 133 = .ok (.getfield 134, 3) := by decide +kernel
theorem dX12_stepCall_136 : decode cX12_stepCall 136 = .ok (.iconst 1, 1) := by decide +kernel
theorem dX12_stepCall_137 : decode cX12_stepCall 137 = .ok (.iaload, 1) := by decide +kernel
theorem dX12_stepCall_138 : decode cX12_stepCall 138 = .ok (.iastore, 1) := by decide +kernel
theorem dX12_stepCall_139 : decode cX12_stepCall 139 = .ok (.goto 29, 3) := by decide +kernel
theorem dX12_stepCall_142 : decode cX12_stepCall 142 = .ok (.aload_n 0, 1) := by decide +kernel
theorem dX12_stepCall_143 : decode cX12_stepCall 143 = .ok (.getfield 110, 3) := by decide +kernel
theorem dX12_stepCall_146 : decode cX12_stepCall 146 = .ok (.iconst 1, 1) := by decide +kernel
theorem dX12_stepCall_147 : decode cX12_stepCall 147 = .ok (.iaload, 1) := by decide +kernel
theorem dX12_stepCall_148 : decode cX12_stepCall 148 = .ok (.bipush 30, 2) := by decide +kernel
theorem dX12_stepCall_150 : decode cX12_stepCall 150 = .ok (.if_icmp .ne 12, 3) := by decide +kernel
theorem dX12_stepCall_153 : decode cX12_stepCall 153 = .ok (.aload_n 0, 1) := by decide +kernel
theorem dX12_stepCall_154 : decode cX12_stepCall 154 = .ok (.iconst 1, 1) := by decide +kernel
theorem dX12_stepCall_155 : decode cX12_stepCall 155 = .ok (.iconst 4, 1) := by decide +kernel
theorem dX12_stepCall_156 : decode cX12_stepCall 156 = .ok (.invokevirtual 286, 3) := by decide +kernel
theorem dX12_stepCall_159 : decode cX12_stepCall 159 = .ok (.goto 9, 3) := by decide +kernel
theorem dX12_stepCall_162 : decode cX12_stepCall 162 = .ok (.aload_n 0, 1) := by decide +kernel
theorem dX12_stepCall_163 : decode cX12_stepCall 163 = .ok (.iconst 1, 1) := by decide +kernel
theorem dX12_stepCall_164 : decode cX12_stepCall 164 = .ok (.iload_n 2, 1) := by decide +kernel
theorem dX12_stepCall_165 : decode cX12_stepCall 165 = .ok (.invokevirtual 292, 3) := by decide +kernel
theorem dX12_stepCall_168 : decode cX12_stepCall 168 = .ok (.return_, 1) := by decide +kernel
theorem dX12_run_0 : decode cX12_run 0 = .ok (.iconst 0, 1) := by decide +kernel
theorem dX12_run_1 : decode cX12_run 1 = .ok (.istore_n 3, 1) := by decide +kernel
theorem dX12_run_2 : decode cX12_run 2 = .ok (.iload_n 3, 1) := by decide +kernel
theorem dX12_run_3 : decode cX12_run 3 = .ok (.iload_n 2, 1) := by decide +kernel
theorem dX12_run_4 : decode cX12_run 4 = .ok (.if_icmp .ge 33, 3) := by decide +kernel
theorem dX12_run_7 : decode cX12_run 7 = .ok (.aload_n 0, 1) := by decide +kernel
theorem dX12_run_8 : decode cX12_run 8 = .ok (.getfield 98, 3) := by decide +kernel
theorem dX12_run_11 : decode cX12_run 11 = .ok (.iload_n 1, 1) := by decide +kernel
theorem dX12_run_12 : decode cX12_run 12 = .ok (.iaload, 1) := by decide +kernel
theorem dX12_run_13 : decode cX12_run 13 = .ok (.ifCond .ne 24, 3) := by decide +kernel
theorem dX12_run_16 : decode cX12_run 16 = .ok (.iload_n 1, 1) := by decide +kernel
theorem dX12_run_17 : decode cX12_run 17 = .ok (.ifCond .ne 10, 3) := by decide +kernel
theorem dX12_run_20 : decode cX12_run 20 = .ok (.aload_n 0, 1) := by decide +kernel
theorem dX12_run_21 : decode cX12_run 21 = .ok (.invokevirtual 326, 3) := by decide +kernel
theorem dX12_run_24 : decode cX12_run 24 = .ok (.goto 7, 3) := by decide +kernel
theorem dX12_run_27 : decode cX12_run 27 = .ok (.aload_n 0, 1) := by decide +kernel
theorem dX12_run_28 : decode cX12_run 28 = .ok (.invokevirtual 329, 3) := by decide +kernel
theorem dX12_run_31 : decode cX12_run 31 = .ok (.iinc 3 1, 3) := by decide +kernel
theorem dX12_run_34 : decode cX12_run 34 = .ok (.goto (-32), 3) := by decide +kernel
theorem dX12_run_37 : decode cX12_run 37 = .ok (.aload_n 0, 1) := by decide +kernel
theorem dX12_run_38 : decode cX12_run 38 = .ok (.getfield 98, 3) := by decide +kernel
theorem dX12_run_41 : decode cX12_run 41 = .ok (.iload_n 1, 1) := by decide +kernel
theorem dX12_run_42 : decode cX12_run 42 = .ok (.iaload, 1) := by decide +kernel
theorem dX12_run_43 : decode cX12_run 43 = .ok (.ireturn, 1) := by decide +kernel
theorem dX12_runStack_0 : decode cX12_runStack 0 = .ok (.aload_n 0, 1) := by decide +kernel
theorem dX12_runStack_1 : decode cX12_runStack 1 = .ok (.iconst 0, 1) := by decide +kernel
theorem dX12_runStack_2 : decode cX12_runStack 2 = .ok (.putfield 137, 3) := by decide +kernel
theorem dX12_runStack_5 : decode cX12_runStack 5 = .ok (.aload_n 0, 1) := by decide +kernel
theorem dX12_runStack_6 : decode cX12_runStack 6 = .ok (.getfield 144, 3) := by decide +kernel
theorem dX12_runStack_9 : decode cX12_runStack 9 = .ok (.ifCond .eq 15, 3) := by decide +kernel
theorem dX12_runStack_12 : decode cX12_runStack 12 = .ok (.iload_n 1, 1) := by decide +kernel
theorem dX12_runStack_13 : decode cX12_runStack 13 = .ok (.iconst 1, 1) := by decide +kernel
theorem dX12_runStack_14 : decode cX12_runStack 14 = .ok (.if_icmp .lt 10, 3) := by decide +kernel
theorem dX12_runStack_17 : decode cX12_runStack 17 = .ok (.iload_n 1, 1) := by decide +kernel
theorem dX12_runStack_18 : decode cX12_runStack 18 = .ok (.sipush 20000, 3) := by decide +kernel
theorem dX12_runStack_21 : decode cX12_runStack 21 = .ok (.if_icmp .le 7, 3) := by decide +kernel
theorem dX12_runStack_24 : decode cX12_runStack 24 = .ok (.iconst (-1), 1) := by decide +kernel
theorem dX12_runStack_25 : decode cX12_runStack 25 = .ok (.goto 9, 3) := by decide +kernel
theorem dX12_runStack_28 : decode cX12_runStack 28 = .ok (.aload_n 0, 1) := by decide +kernel
theorem dX12_runStack_29 : decode cX12_runStack 29 = .ok (.iconst 0, 1) := by decide +kernel
theorem dX12_runStack_30 : decode cX12_runStack 30 = .ok (.iload_n 1, 1) := by decide +kernel
theorem dX12_runStack_31 : decode cX12_runStack 31 = .ok (.invokevirtual 332, 3) := by decide +kernel
theorem dX12_runStack_34 : decode cX12_runStack 34 = .ok (.ireturn, 1) := by decide +kernel
theorem dX12_runRegisters_0 : decode cX12_runRegisters 0 = .ok (.aload_n 0, 1) := by decide +kernel
theorem dX12_runRegisters_1 : decode cX12_runRegisters 1 = .ok (.iconst 0, 1) := by decide +kernel
theorem dX12_runRegisters_2 : decode cX12_runRegisters 2 = .ok (.putfield 137, 3) := by decide +kernel
theorem dX12_runRegisters_5 : decode cX12_runRegisters 5 = .ok (.aload_n 0, 1) := by decide +kernel
theorem dX12_runRegisters_6 : decode cX12_runRegisters 6 = .ok (.getfield 268, 3) := by decide +kernel
theorem dX12_runRegisters_9 : decode cX12_runRegisters 9 = .ok (.ifCond .eq 15, 3) := by decide +kernel
theorem dX12_runRegisters_12 : decode cX12_runRegisters 12 = .ok (.iload_n 1, 1) := by decide +kernel
theorem dX12_runRegisters_13 : decode cX12_runRegisters 13 = .ok (.iconst 1, 1) := by decide +kernel
theorem dX12_runRegisters_14 : decode cX12_runRegisters 14 = .ok (.if_icmp .lt 10, 3) := by decide +kernel
theorem dX12_runRegisters_17 : decode cX12_runRegisters 17 = .ok (.iload_n 1, 1) := by decide +kernel
theorem dX12_runRegisters_18 : decode cX12_runRegisters 18 = .ok (.sipush 20000, 3) := by decide +kernel
theorem dX12_runRegisters_21 : decode cX12_runRegisters 21 = .ok (.if_icmp .le 7, 3) := by decide +kernel
theorem dX12_runRegisters_24 : decode cX12_runRegisters 24 = .ok (.iconst (-1), 1) := by decide +kernel
theorem dX12_runRegisters_25 : decode cX12_runRegisters 25 = .ok (.goto 9, 3) := by decide +kernel
theorem dX12_runRegisters_28 : decode cX12_runRegisters 28 = .ok (.aload_n 0, 1) := by decide +kernel
theorem dX12_runRegisters_29 : decode cX12_runRegisters 29 = .ok (.iconst 1, 1) := by decide +kernel
theorem dX12_runRegisters_30 : decode cX12_runRegisters 30 = .ok (.iload_n 1, 1) := by decide +kernel
theorem dX12_runRegisters_31 : decode cX12_runRegisters 31 = .ok (.invokevirtual 332, 3) := by decide +kernel
theorem dX12_runRegisters_34 : decode cX12_runRegisters 34 = .ok (.ireturn, 1) := by decide +kernel
theorem dX12_again_0 : decode cX12_again 0 = .ok (.aload_n 0, 1) := by decide +kernel
theorem dX12_again_1 : decode cX12_again 1 = .ok (.iconst 0, 1) := by decide +kernel
theorem dX12_again_2 : decode cX12_again 2 = .ok (.putfield 137, 3) := by decide +kernel
theorem dX12_again_5 : decode cX12_again 5 = .ok (.aload_n 0, 1) := by decide +kernel
theorem dX12_again_6 : decode cX12_again 6 = .ok (.getfield 144, 3) := by decide +kernel
theorem dX12_again_9 : decode cX12_again 9 = .ok (.ifCond .eq 7, 3) := by decide +kernel
theorem dX12_again_12 : decode cX12_again 12 = .ok (.aload_n 0, 1) := by decide +kernel
theorem dX12_again_13 : decode cX12_again 13 = .ok (.invokevirtual 159, 3) := by decide +kernel
theorem dX12_again_16 : decode cX12_again 16 = .ok (.aload_n 0, 1) := by decide +kernel
theorem dX12_again_17 : decode cX12_again 17 = .ok (.getfield 144, 3) := by decide +kernel
theorem dX12_again_20 : decode cX12_again 20 = .ok (.ireturn, 1) := by decide +kernel
theorem dX12_cell_0 : decode cX12_cell 0 = .ok (.aload_n 0, 1) := by decide +kernel
theorem dX12_cell_1 : decode cX12_cell 1 = .ok (.iconst 0, 1) := by decide +kernel
theorem dX12_cell_2 : decode cX12_cell 2 = .ok (.putfield 137, 3) := by decide +kernel
theorem dX12_cell_5 : decode cX12_cell 5 = .ok (.iload_n 1, 1) := by decide +kernel
theorem dX12_cell_6 : decode cX12_cell 6 = .ok (.invokestatic 317, 3) := by decide +kernel
theorem dX12_cell_9 : decode cX12_cell 9 = .ok (.ifCond .ne 5, 3) := by decide +kernel
theorem dX12_cell_12 : decode cX12_cell 12 = .ok (.iconst 0, 1) := by decide +kernel
theorem dX12_cell_13 : decode cX12_cell 13 = .ok (.ireturn, 1) := by decide +kernel
theorem dX12_cell_14 : decode cX12_cell 14 = .ok (.aload_n 0, 1) := by decide +kernel
theorem dX12_cell_15 : decode cX12_cell 15 = .ok (.getfield 95, 3) := by decide +kernel
theorem dX12_cell_18 : decode cX12_cell 18 = .ok (.iload_n 1, 1) := by decide +kernel
theorem dX12_cell_19 : decode cX12_cell 19 = .ok (.iload_n 2, 1) := by decide +kernel
theorem dX12_cell_20 : decode cX12_cell 20 = .ok (.iastore, 1) := by decide +kernel
theorem dX12_cell_21 : decode cX12_cell 21 = .ok (.aload_n 0, 1) := by decide +kernel
theorem dX12_cell_22 : decode cX12_cell 22 = .ok (.getfield 95, 3) := by decide +kernel
theorem dX12_cell_25 : decode cX12_cell 25 = .ok (.bipush 64, 2) := by decide +kernel
theorem dX12_cell_27 : decode cX12_cell 27 = .ok (.iload_n 1, 1) := by decide +kernel
theorem dX12_cell_28 : decode cX12_cell 28 = .ok (.iadd, 1) := by decide +kernel
theorem dX12_cell_29 : decode cX12_cell 29 = .ok (.iload_n 2, 1) := by decide +kernel
theorem dX12_cell_30 : decode cX12_cell 30 = .ok (.iastore, 1) := by decide +kernel
theorem dX12_cell_31 : decode cX12_cell 31 = .ok (.iconst 1, 1) := by decide +kernel
theorem dX12_cell_32 : decode cX12_cell 32 = .ok (.ireturn, 1) := by decide +kernel
theorem dX12_clear_0 : decode cX12_clear 0 = .ok (.aload_n 0, 1) := by decide +kernel
theorem dX12_clear_1 : decode cX12_clear 1 = .ok (.iconst 0, 1) := by decide +kernel
theorem dX12_clear_2 : decode cX12_clear 2 = .ok (.putfield 137, 3) := by decide +kernel
theorem dX12_clear_5 : decode cX12_clear 5 = .ok (.aload_n 0, 1) := by decide +kernel
theorem dX12_clear_6 : decode cX12_clear 6 = .ok (.iconst 0, 1) := by decide +kernel
theorem dX12_clear_7 : decode cX12_clear 7 = .ok (.putfield 141, 3) := by decide +kernel
theorem dX12_clear_10 : decode cX12_clear 10 = .ok (.aload_n 0, 1) := by decide +kernel
theorem dX12_clear_11 : decode cX12_clear 11 = .ok (.iconst 0, 1) := by decide +kernel
theorem dX12_clear_12 : decode cX12_clear 12 = .ok (.putfield 148, 3) := by decide +kernel
theorem dX12_clear_15 : decode cX12_clear 15 = .ok (.aload_n 0, 1) := by decide +kernel
theorem dX12_clear_16 : decode cX12_clear 16 = .ok (.iconst 0, 1) := by decide +kernel
theorem dX12_clear_17 : decode cX12_clear 17 = .ok (.putfield 144, 3) := by decide +kernel
theorem dX12_clear_20 : decode cX12_clear 20 = .ok (.aload_n 0, 1) := by decide +kernel
theorem dX12_clear_21 : decode cX12_clear 21 = .ok (.iconst 0, 1) := by decide +kernel
theorem dX12_clear_22 : decode cX12_clear 22 = .ok (.putfield 268, 3) := by decide +kernel
theorem dX12_clear_25 : decode cX12_clear 25 = .ok (.iconst 0, 1) := by decide +kernel
theorem dX12_clear_26 : decode cX12_clear 26 = .ok (.istore_n 1, 1) := by decide +kernel
theorem dX12_clear_27 : decode cX12_clear 27 = .ok (.iload_n 1, 1) := by decide +kernel
theorem dX12_clear_28 : decode cX12_clear 28 = .ok (.sipush 128, 3) := by decide +kernel
theorem dX12_clear_31 : decode cX12_clear 31 = .ok (.if_icmp .ge 16, 3) := by decide +kernel
theorem dX12_clear_34 : decode cX12_clear 34 = .ok (.aload_n 0, 1) := by decide +kernel
theorem dX12_clear_35 : decode cX12_clear 35 = .ok (.getfield 95, 3) := by decide +kernel
theorem dX12_clear_38 : decode cX12_clear 38 = .ok (.iload_n 1, 1) := by decide +kernel
theorem dX12_clear_39 : decode cX12_clear 39 = .ok (.iconst 0, 1) := by decide +kernel
theorem dX12_clear_40 : decode cX12_clear 40 = .ok (.iastore, 1) := by decide +kernel
theorem dX12_clear_41 : decode cX12_clear 41 = .ok (.iinc 1 1, 3) := by decide +kernel
theorem dX12_clear_44 : decode cX12_clear 44 = .ok (.goto (-17), 3) := by decide +kernel
theorem dX12_clear_47 : decode cX12_clear 47 = .ok (.aload_n 0, 1) := by decide +kernel
theorem dX12_clear_48 : decode cX12_clear 48 = .ok (.invokevirtual 159, 3) := by decide +kernel
theorem dX12_clear_51 : decode cX12_clear 51 = .ok (.return_, 1) := by decide +kernel
theorem dX12_op_0 : decode cX12_op 0 = .ok (.aload_n 0, 1) := by decide +kernel
theorem dX12_op_1 : decode cX12_op 1 = .ok (.aload_n 0, 1) := by decide +kernel
theorem dX12_op_2 : decode cX12_op 2 = .ok (.getfield 268, 3) := by decide +kernel
theorem dX12_op_5 : decode cX12_op 5 = .ok (.ifCond .eq 42, 3) := by decide +kernel
theorem dX12_op_8 : decode cX12_op 8 = .ok (.iload_n 1, 1) := by decide +kernel
theorem dX12_op_9 : decode cX12_op 9 = .ok (.ifCond .lt 38, 3) := by decide +kernel
theorem dX12_op_12 : decode cX12_op 12 = .ok (.iload_n 1, 1) := by decide +kernel
theorem dX12_op_13 : decode cX12_op 13 = .ok (.aload_n 0, 1) := by decide +kernel
theorem dX12_op_14 : decode cX12_op 14 = .ok (.getfield 141, 3) := by decide +kernel
theorem dX12_op_17 : decode cX12_op 17 = .ok (.if_icmp .ge 30, 3) := by decide +kernel
theorem dX12_op_20 : decode cX12_op 20 = .ok (.iload_n 2, 1) := by decide +kernel
theorem dX12_op_21 : decode cX12_op 21 = .ok (.ifCond .lt 26, 3) := by decide +kernel
theorem dX12_op_24 : decode cX12_op 24 = .ok (.iload_n 2, 1) := by decide +kernel
theorem dX12_op_25 : decode cX12_op 25 = .ok (.aload_n 0, 1) := by decide +kernel
theorem dX12_op_26 : decode cX12_op 26 = .ok (.getfield 89, 3) := by decide +kernel
theorem dX12_op_29 : decode cX12_op 29 = .ok (.iload_n 1, 1) := by decide +kernel
theorem dX12_op_30 : decode cX12_op 30 = .ok (.iaload, 1) := by decide +kernel
theorem dX12_op_31 : decode cX12_op 31 = .ok (.if_icmp .ge 16, 3) := by decide +kernel
theorem dX12_op_34 : decode cX12_op 34 = .ok (.iload_n 3, 1) := by decide +kernel
theorem dX12_op_35 : decode cX12_op 35 = .ok (.ifCond .lt 12, 3) := by decide +kernel
theorem dX12_op_38 : decode cX12_op 38 = .ok (.iload_n 3, 1) := by decide +kernel
theorem dX12_op_39 : decode cX12_op 39 = .ok (.iconst 4, 1) := by decide +kernel
theorem dX12_op_40 : decode cX12_op 40 = .ok (.if_icmp .gt 7, 3) := by decide +kernel
theorem dX12_op_43 : decode cX12_op 43 = .ok (.iconst 0, 1) := by decide +kernel
theorem dX12_op_44 : decode cX12_op 44 = .ok (.goto 4, 3) := by decide +kernel
theorem dX12_op_47 : decode cX12_op 47 = .ok (.iconst 1, 1) := by decide +kernel
theorem dX12_op_48 : decode cX12_op 48 = .ok (.putfield 137, 3) := by decide +kernel
theorem dX12_op_51 : decode cX12_op 51 = .ok (.aload_n 0, 1) := by decide +kernel
theorem dX12_op_52 : decode cX12_op 52 = .ok (.getfield 137, 3) := by decide +kernel
theorem dX12_op_55 : decode cX12_op 55 = .ok (.ifCond .le 7, 3) := by decide +kernel
theorem dX12_op_58 : decode cX12_op 58 = .ok (.iconst 0, 1) := by decide +kernel
theorem dX12_op_59 : decode cX12_op 59 = .ok (.goto 20, 3) := by decide +kernel
theorem dX12_op_62 : decode cX12_op 62 = .ok (.aload_n 0, 1) := by decide +kernel
theorem dX12_op_63 : decode cX12_op 63 = .ok (.getfield 83, 3) := by decide +kernel
theorem dX12_op_66 : decode cX12_op 66 = .ok (.iconst 5, 1) := by decide +kernel
theorem dX12_op_67 : decode cX12_op 67 = .ok (.aload_n 0, 1) := by decide +kernel
theorem dX12_op_68 : decode cX12_op 68 = .ok (.getfield 86, 3) := by decide +kernel
theorem dX12_op_71 : decode cX12_op 71 = .ok (.iload_n 1, 1) := by decide +kernel
theorem dX12_op_72 : decode cX12_op 72 = .ok (.iaload, 1) := by decide +kernel
theorem dX12_op_73 : decode cX12_op 73 = .ok (.iload_n 2, 1) := by decide +kernel
theorem dX12_op_74 : decode cX12_op 74 = .ok (.iadd, 1) := by decide +kernel
theorem dX12_op_75 : decode cX12_op 75 = .ok (.imul, 1) := by decide +kernel
theorem dX12_op_76 : decode cX12_op 76 = .ok (.iload_n 3, 1) := by decide +kernel
theorem dX12_op_77 : decode cX12_op 77 = .ok (.iadd, 1) := by decide +kernel
theorem dX12_op_78 : decode cX12_op 78 = .ok (.iaload, 1) := by decide +kernel
theorem dX12_op_79 : decode cX12_op 79 = .ok (.ireturn, 1) := by decide +kernel
theorem dX12_isFunc_0 : decode cX12_isFunc 0 = .ok (.aload_n 0, 1) := by decide +kernel
theorem dX12_isFunc_1 : decode cX12_isFunc 1 = .ok (.getfield 268, 3) := by decide +kernel
theorem dX12_isFunc_4 : decode cX12_isFunc 4 = .ok (.ifCond .eq 19, 3) := by decide +kernel
theorem dX12_isFunc_7 : decode cX12_isFunc 7 = .ok (.iload_n 1, 1) := by decide +kernel
theorem dX12_isFunc_8 : decode cX12_isFunc 8 = .ok (.ifCond .lt 15, 3) := by decide +kernel
theorem dX12_isFunc_11 : decode cX12_isFunc 11 = .ok (.iload_n 1, 1) := by decide +kernel
theorem dX12_isFunc_12 : decode cX12_isFunc 12 = .ok (.aload_n 0, 1) := by decide +kernel
theorem dX12_isFunc_13 : decode cX12_isFunc 13 = .ok (.getfield 141, 3) := by decide +kernel
theorem dX12_isFunc_16 : decode cX12_isFunc 16 = .ok (.if_icmp .ge 7, 3) := by decide +kernel
theorem dX12_isFunc_19 : decode cX12_isFunc 19 = .ok (.iconst 1, 1) := by decide +kernel
theorem dX12_isFunc_20 : decode cX12_isFunc 20 = .ok (.goto 4, 3) := by decide +kernel
theorem dX12_isFunc_23 : decode cX12_isFunc 23 = .ok (.iconst 0, 1) := by decide +kernel
theorem dX12_isFunc_24 : decode cX12_isFunc 24 = .ok (.ireturn, 1) := by decide +kernel
theorem dX12_size_0 : decode cX12_size 0 = .ok (.aload_n 0, 1) := by decide +kernel
theorem dX12_size_1 : decode cX12_size 1 = .ok (.iconst 0, 1) := by decide +kernel
theorem dX12_size_2 : decode cX12_size 2 = .ok (.putfield 137, 3) := by decide +kernel
theorem dX12_size_5 : decode cX12_size 5 = .ok (.aload_n 0, 1) := by decide +kernel
theorem dX12_size_6 : decode cX12_size 6 = .ok (.iload_n 1, 1) := by decide +kernel
theorem dX12_size_7 : decode cX12_size 7 = .ok (.invokevirtual 335, 3) := by decide +kernel
theorem dX12_size_10 : decode cX12_size 10 = .ok (.ifCond .eq 12, 3) := by decide +kernel
theorem dX12_size_13 : decode cX12_size 13 = .ok (.aload_n 0, 1) := by decide +kernel
theorem dX12_size_14 : decode cX12_size 14 = .ok (.getfield 89, 3) := by decide +kernel
theorem dX12_size_17 : decode cX12_size 17 = .ok (.iload_n 1, 1) := by decide +kernel
theorem dX12_size_18 : decode cX12_size 18 = .ok (.iaload, 1) := by decide +kernel
theorem dX12_size_19 : decode cX12_size 19 = .ok (.goto 4, 3) := by decide +kernel
theorem dX12_size_22 : decode cX12_size 22 = .ok (.iconst (-1), 1) := by decide +kernel
theorem dX12_size_23 : decode cX12_size 23 = .ok (.ireturn, 1) := by decide +kernel
theorem dX12_value_0 : decode cX12_value 0 = .ok (.aload_n 0, 1) := by decide +kernel
theorem dX12_value_1 : decode cX12_value 1 = .ok (.iconst 0, 1) := by decide +kernel
theorem dX12_value_2 : decode cX12_value 2 = .ok (.putfield 137, 3) := by decide +kernel
theorem dX12_value_5 : decode cX12_value 5 = .ok (.aload_n 0, 1) := by decide +kernel
theorem dX12_value_6 : decode cX12_value 6 = .ok (.iload_n 1, 1) := by decide +kernel
theorem dX12_value_7 : decode cX12_value 7 = .ok (.invokevirtual 335, 3) := by decide +kernel
theorem dX12_value_10 : decode cX12_value 10 = .ok (.ifCond .eq 27, 3) := by decide +kernel
theorem dX12_value_13 : decode cX12_value 13 = .ok (.iload_n 2, 1) := by decide +kernel
theorem dX12_value_14 : decode cX12_value 14 = .ok (.ifCond .lt 23, 3) := by decide +kernel
theorem dX12_value_17 : decode cX12_value 17 = .ok (.iload_n 2, 1) := by decide +kernel
theorem dX12_value_18 : decode cX12_value 18 = .ok (.bipush 23, 2) := by decide +kernel
theorem dX12_value_20 : decode cX12_value 20 = .ok (.if_icmp .gt 17, 3) := by decide +kernel
theorem dX12_value_23 : decode cX12_value 23 = .ok (.aload_n 0, 1) := by decide +kernel
theorem dX12_value_24 : decode cX12_value 24 = .ok (.getfield 62, 3) := by decide +kernel
theorem dX12_value_27 : decode cX12_value 27 = .ok (.bipush 24, 2) := by decide +kernel
theorem dX12_value_29 : decode cX12_value 29 = .ok (.iload_n 1, 1) := by decide +kernel
theorem dX12_value_30 : decode cX12_value 30 = .ok (.imul, 1) := by decide +kernel
theorem dX12_value_31 : decode cX12_value 31 = .ok (.iload_n 2, 1) := by decide +kernel
theorem dX12_value_32 : decode cX12_value 32 = .ok (.iadd, 1) := by decide +kernel
theorem dX12_value_33 : decode cX12_value 33 = .ok (.iaload, 1) := by decide +kernel
theorem dX12_value_34 : decode cX12_value 34 = .ok (.ifCond .ge 5, 3) := by decide +kernel
theorem dX12_value_37 : decode cX12_value 37 = .ok (.iconst (-1), 1) := by decide +kernel
theorem dX12_value_38 : decode cX12_value 38 = .ok (.ireturn, 1) := by decide +kernel
theorem dX12_value_39 : decode cX12_value 39 = .ok (.bipush 24, 2) := by decide +kernel
theorem dX12_value_41 : decode cX12_value 41 = .ok (.iload_n 1, 1) := by decide +kernel
theorem dX12_value_42 : decode cX12_value 42 = .ok (.imul, 1) := by decide +kernel
theorem dX12_value_43 : decode cX12_value 43 = .ok (.iload_n 2, 1) := by decide +kernel
theorem dX12_value_44 : decode cX12_value 44 = .ok (.iadd, 1) := by decide +kernel
theorem dX12_value_45 : decode cX12_value 45 = .ok (.istore 4, 2) := by decide +kernel
theorem dX12_value_47 : decode cX12_value 47 = .ok (.iload_n 3, 1) := by decide +kernel
theorem dX12_value_48 : decode cX12_value 48 = .ok (.ifCond .ne 13, 3) := by decide +kernel
theorem dX12_value_51 : decode cX12_value 51 = .ok (.aload_n 0, 1) := by decide +kernel
theorem dX12_value_52 : decode cX12_value 52 = .ok (.getfield 62, 3) := by decide +kernel
theorem dX12_value_55 : decode cX12_value 55 = .ok (.iload 4, 2) := by decide +kernel
theorem dX12_value_57 : decode cX12_value 57 = .ok (.iaload, 1) := by decide +kernel
theorem dX12_value_58 : decode cX12_value 58 = .ok (.goto 49, 3) := by decide +kernel
theorem dX12_value_61 : decode cX12_value 61 = .ok (.iload_n 3, 1) := by decide +kernel
theorem dX12_value_62 : decode cX12_value 62 = .ok (.iconst 1, 1) := by decide +kernel
theorem dX12_value_63 : decode cX12_value 63 = .ok (.if_icmp .ne 13, 3) := by decide +kernel
theorem dX12_value_66 : decode cX12_value 66 = .ok (.aload_n 0, 1) := by decide +kernel
theorem dX12_value_67 : decode cX12_value 67 = .ok (.getfield 65, 3) := by decide +kernel
theorem dX12_value_70 : decode cX12_value 70 = .ok (.iload 4, 2) := by decide +kernel
theorem dX12_value_72 : decode cX12_value 72 = .ok (.iaload, 1) := by decide +kernel
theorem dX12_value_73 : decode cX12_value 73 = .ok (.goto 34, 3) := by decide +kernel
theorem dX12_value_76 : decode cX12_value 76 = .ok (.iload_n 3, 1) := by decide +kernel
theorem dX12_value_77 : decode cX12_value 77 = .ok (.iconst 2, 1) := by decide +kernel
theorem dX12_value_78 : decode cX12_value 78 = .ok (.if_icmp .ne 13, 3) := by decide +kernel
theorem dX12_value_81 : decode cX12_value 81 = .ok (.aload_n 0, 1) := by decide +kernel
theorem dX12_value_82 : decode cX12_value 82 = .ok (.getfield 68, 3) := by decide +kernel
theorem dX12_value_85 : decode cX12_value 85 = .ok (.iload 4, 2) := by decide +kernel
theorem dX12_value_87 : decode cX12_value 87 = .ok (.iaload, 1) := by decide +kernel
theorem dX12_value_88 : decode cX12_value 88 = .ok (.goto 19, 3) := by decide +kernel
theorem dX12_value_91 : decode cX12_value 91 = .ok (.iload_n 3, 1) := by decide +kernel
theorem dX12_value_92 : decode cX12_value 92 = .ok (.iconst 3, 1) := by decide +kernel
theorem dX12_value_93 : decode cX12_value 93 = .ok (.if_icmp .ne 13, 3) := by decide +kernel
theorem dX12_value_96 : decode cX12_value 96 = .ok (.aload_n 0, 1) := by decide +kernel
theorem dX12_value_97 : decode cX12_value 97 = .ok (.getfield 71, 3) := by decide +kernel
theorem dX12_value_100 : decode cX12_value 100 = .ok (.iload 4, 2) := by decide +kernel
theorem dX12_value_102 : decode cX12_value 102 = .ok (.iaload, 1) := by decide +kernel
theorem dX12_value_103 : decode cX12_value 103 = .ok (.goto 4, 3) := by decide +kernel
theorem dX12_value_106 : decode cX12_value 106 = .ok (.iconst (-1), 1) := by decide +kernel
theorem dX12_value_107 : decode cX12_value 107 = .ok (.ireturn, 1) := by decide +kernel
theorem dX12_slots_0 : decode cX12_slots 0 = .ok (.aload_n 0, 1) := by decide +kernel
theorem dX12_slots_1 : decode cX12_slots 1 = .ok (.iconst 0, 1) := by decide +kernel
theorem dX12_slots_2 : decode cX12_slots 2 = .ok (.putfield 137, 3) := by decide +kernel
theorem dX12_slots_5 : decode cX12_slots 5 = .ok (.aload_n 0, 1) := by decide +kernel
theorem dX12_slots_6 : decode cX12_slots 6 = .ok (.iload_n 1, 1) := by decide +kernel
theorem dX12_slots_7 : decode cX12_slots 7 = .ok (.invokevirtual 335, 3) := by decide +kernel
theorem dX12_slots_10 : decode cX12_slots 10 = .ok (.ifCond .eq 12, 3) := by decide +kernel
theorem dX12_slots_13 : decode cX12_slots 13 = .ok (.aload_n 0, 1) := by decide +kernel
theorem dX12_slots_14 : decode cX12_slots 14 = .ok (.getfield 74, 3) := by decide +kernel
theorem dX12_slots_17 : decode cX12_slots 17 = .ok (.iload_n 1, 1) := by decide +kernel
theorem dX12_slots_18 : decode cX12_slots 18 = .ok (.iaload, 1) := by decide +kernel
theorem dX12_slots_19 : decode cX12_slots 19 = .ok (.goto 4, 3) := by decide +kernel
theorem dX12_slots_22 : decode cX12_slots 22 = .ok (.iconst (-1), 1) := by decide +kernel
theorem dX12_slots_23 : decode cX12_slots 23 = .ok (.ireturn, 1) := by decide +kernel
theorem dX12_places_0 : decode cX12_places 0 = .ok (.aload_n 0, 1) := by decide +kernel
theorem dX12_places_1 : decode cX12_places 1 = .ok (.iconst 0, 1) := by decide +kernel
theorem dX12_places_2 : decode cX12_places 2 = .ok (.putfield 137, 3) := by decide +kernel
theorem dX12_places_5 : decode cX12_places 5 = .ok (.aload_n 0, 1) := by decide +kernel
theorem dX12_places_6 : decode cX12_places 6 = .ok (.iload_n 1, 1) := by decide +kernel
theorem dX12_places_7 : decode cX12_places 7 = .ok (.invokevirtual 335, 3) := by decide +kernel
theorem dX12_places_10 : decode cX12_places 10 = .ok (.ifCond .eq 12, 3) := by decide +kernel
theorem dX12_places_13 : decode cX12_places 13 = .ok (.aload_n 0, 1) := by decide +kernel
theorem dX12_places_14 : decode cX12_places 14 = .ok (.getfield 77, 3) := by decide +kernel
theorem dX12_places_17 : decode cX12_places 17 = .ok (.iload_n 1, 1) := by decide +kernel
theorem dX12_places_18 : decode cX12_places 18 = .ok (.iaload, 1) := by decide +kernel
theorem dX12_places_19 : decode cX12_places 19 = .ok (.goto 4, 3) := by decide +kernel
theorem dX12_places_22 : decode cX12_places 22 = .ok (.iconst (-1), 1) := by decide +kernel
theorem dX12_places_23 : decode cX12_places 23 = .ok (.ireturn, 1) := by decide +kernel
theorem dX12_look_0 : decode cX12_look 0 = .ok (.aload_n 0, 1) := by decide +kernel
theorem dX12_look_1 : decode cX12_look 1 = .ok (.iconst 0, 1) := by decide +kernel
theorem dX12_look_2 : decode cX12_look 2 = .ok (.putfield 137, 3) := by decide +kernel
theorem dX12_look_5 : decode cX12_look 5 = .ok (.iload_n 1, 1) := by decide +kernel
theorem dX12_look_6 : decode cX12_look 6 = .ok (.ifCond .lt 8, 3) := by decide +kernel
theorem dX12_look_9 : decode cX12_look 9 = .ok (.iload_n 1, 1) := by decide +kernel
theorem dX12_look_10 : decode cX12_look 10 = .ok (.iconst 1, 1) := by decide +kernel
theorem dX12_look_11 : decode cX12_look 11 = .ok (.if_icmp .le 5, 3) := by decide +kernel
theorem dX12_look_14 : decode cX12_look 14 = .ok (.iconst (-1), 1) := by decide +kernel
theorem dX12_look_15 : decode cX12_look 15 = .ok (.ireturn, 1) := by decide +kernel
theorem dX12_look_16 : decode cX12_look 16 = .ok (.iload_n 2, 1) := by decide +kernel
theorem dX12_look_17 : decode cX12_look 17 = .ok (.ifCond .ne 12, 3) := by decide +kernel
theorem dX12_look_20 : decode cX12_look 20 = .ok (.aload_n 0, 1) := by decide +kernel
theorem dX12_look_21 : decode cX12_look 21 = .ok (.getfield 98, 3) := by decide +kernel
theorem dX12_look_24 : decode cX12_look 24 = .ok (.iload_n 1, 1) := by decide +kernel
theorem dX12_look_25 : decode cX12_look 25 = .ok (.iaload, 1) := by decide +kernel
theorem dX12_look_26 : decode cX12_look 26 = .ok (.goto 60, 3) := by decide +kernel
theorem dX12_look_29 : decode cX12_look 29 = .ok (.iload_n 2, 1) := by decide +kernel
theorem dX12_look_30 : decode cX12_look 30 = .ok (.iconst 1, 1) := by decide +kernel
theorem dX12_look_31 : decode cX12_look 31 = .ok (.if_icmp .ne 12, 3) := by decide +kernel
theorem dX12_look_34 : decode cX12_look 34 = .ok (.aload_n 0, 1) := by decide +kernel
theorem dX12_look_35 : decode cX12_look 35 = .ok (.getfield 101, 3) := by decide +kernel
theorem dX12_look_38 : decode cX12_look 38 = .ok (.iload_n 1, 1) := by decide +kernel
theorem dX12_look_39 : decode cX12_look 39 = .ok (.iaload, 1) := by decide +kernel
theorem dX12_look_40 : decode cX12_look 40 = .ok (.goto 46, 3) := by decide +kernel
theorem dX12_look_43 : decode cX12_look 43 = .ok (.iload_n 2, 1) := by decide +kernel
theorem dX12_look_44 : decode cX12_look 44 = .ok (.iconst 2, 1) := by decide +kernel
theorem dX12_look_45 : decode cX12_look 45 = .ok (.if_icmp .ne 12, 3) := by decide +kernel
theorem dX12_look_48 : decode cX12_look 48 = .ok (.aload_n 0, 1) := by decide +kernel
theorem dX12_look_49 : decode cX12_look 49 = .ok (.getfield 104, 3) := by decide +kernel
theorem dX12_look_52 : decode cX12_look 52 = .ok (.iload_n 1, 1) := by decide +kernel
theorem dX12_look_53 : decode cX12_look 53 = .ok (.iaload, 1) := by decide +kernel
theorem dX12_look_54 : decode cX12_look 54 = .ok (.goto 32, 3) := by decide +kernel
theorem dX12_look_57 : decode cX12_look 57 = .ok (.iload_n 2, 1) := by decide +kernel
theorem dX12_look_58 : decode cX12_look 58 = .ok (.iconst 3, 1) := by decide +kernel
theorem dX12_look_59 : decode cX12_look 59 = .ok (.if_icmp .ne 12, 3) := by decide +kernel
theorem dX12_look_62 : decode cX12_look 62 = .ok (.aload_n 0, 1) := by decide +kernel
theorem dX12_look_63 : decode cX12_look 63 = .ok (.getfield 107, 3) := by decide +kernel
theorem dX12_look_66 : decode cX12_look 66 = .ok (.iload_n 1, 1) := by decide +kernel
theorem dX12_look_67 : decode cX12_look 67 = .ok (.iaload, 1) := by decide +kernel
theorem dX12_look_68 : decode cX12_look 68 = .ok (.goto 18, 3) := by decide +kernel
theorem dX12_look_71 : decode cX12_look 71 = .ok (.iload_n 2, 1) := by decide +kernel
theorem dX12_look_72 : decode cX12_look 72 = .ok (.iconst 4, 1) := by decide +kernel
theorem dX12_look_73 : decode cX12_look 73 = .ok (.if_icmp .ne 12, 3) := by decide +kernel
theorem dX12_look_76 : decode cX12_look 76 = .ok (.aload_n 0, 1) := by decide +kernel
theorem dX12_look_77 : decode cX12_look 77 = .ok (.getfield 110, 3) := by decide +kernel
theorem dX12_look_80 : decode cX12_look 80 = .ok (.iload_n 1, 1) := by decide +kernel
theorem dX12_look_81 : decode cX12_look 81 = .ok (.iaload, 1) := by decide +kernel
theorem dX12_look_82 : decode cX12_look 82 = .ok (.goto 4, 3) := by decide +kernel
theorem dX12_look_85 : decode cX12_look 85 = .ok (.iconst (-1), 1) := by decide +kernel
theorem dX12_look_86 : decode cX12_look 86 = .ok (.ireturn, 1) := by decide +kernel
theorem dX12_peek_0 : decode cX12_peek 0 = .ok (.aload_n 0, 1) := by decide +kernel
theorem dX12_peek_1 : decode cX12_peek 1 = .ok (.iload_n 1, 1) := by decide +kernel
theorem dX12_peek_2 : decode cX12_peek 2 = .ok (.ifCond .lt 19, 3) := by decide +kernel
theorem dX12_peek_5 : decode cX12_peek 5 = .ok (.iload_n 1, 1) := by decide +kernel
theorem dX12_peek_6 : decode cX12_peek 6 = .ok (.iconst 2, 1) := by decide +kernel
theorem dX12_peek_7 : decode cX12_peek 7 = .ok (.if_icmp .ge 14, 3) := by decide +kernel
theorem dX12_peek_10 : decode cX12_peek 10 = .ok (.iload_n 2, 1) := by decide +kernel
theorem dX12_peek_11 : decode cX12_peek 11 = .ok (.invokestatic 317, 3) := by decide +kernel
theorem dX12_peek_14 : decode cX12_peek 14 = .ok (.ifCond .eq 7, 3) := by decide +kernel
theorem dX12_peek_17 : decode cX12_peek 17 = .ok (.iconst 0, 1) := by decide +kernel
theorem dX12_peek_18 : decode cX12_peek 18 = .ok (.goto 4, 3) := by decide +kernel
theorem dX12_peek_21 : decode cX12_peek 21 = .ok (.iconst 1, 1) := by decide +kernel
theorem dX12_peek_22 : decode cX12_peek 22 = .ok (.putfield 137, 3) := by decide +kernel
theorem dX12_peek_25 : decode cX12_peek 25 = .ok (.aload_n 0, 1) := by decide +kernel
theorem dX12_peek_26 : decode cX12_peek 26 = .ok (.getfield 137, 3) := by decide +kernel
theorem dX12_peek_29 : decode cX12_peek 29 = .ok (.ifCond .le 7, 3) := by decide +kernel
theorem dX12_peek_32 : decode cX12_peek 32 = .ok (.iconst 0, 1) := by decide +kernel
theorem dX12_peek_33 : decode cX12_peek 33 = .ok (.goto 14, 3) := by decide +kernel
theorem dX12_peek_36 : decode cX12_peek 36 = .ok (.aload_n 0, 1) := by decide +kernel
theorem dX12_peek_37 : decode cX12_peek 37 = .ok (.getfield 95, 3) := by decide +kernel
theorem dX12_peek_40 : decode cX12_peek 40 = .ok (.bipush 64, 2) := by decide +kernel
theorem dX12_peek_42 : decode cX12_peek 42 = .ok (.iload_n 1, 1) := by decide +kernel
theorem dX12_peek_43 : decode cX12_peek 43 = .ok (.imul, 1) := by decide +kernel
theorem dX12_peek_44 : decode cX12_peek 44 = .ok (.iload_n 2, 1) := by decide +kernel
theorem dX12_peek_45 : decode cX12_peek 45 = .ok (.iadd, 1) := by decide +kernel
theorem dX12_peek_46 : decode cX12_peek 46 = .ok (.iaload, 1) := by decide +kernel
theorem dX12_peek_47 : decode cX12_peek 47 = .ok (.ireturn, 1) := by decide +kernel
theorem dX12_count_0 : decode cX12_count 0 = .ok (.aload_n 0, 1) := by decide +kernel
theorem dX12_count_1 : decode cX12_count 1 = .ok (.iconst 0, 1) := by decide +kernel
theorem dX12_count_2 : decode cX12_count 2 = .ok (.putfield 137, 3) := by decide +kernel
theorem dX12_count_5 : decode cX12_count 5 = .ok (.iload_n 1, 1) := by decide +kernel
theorem dX12_count_6 : decode cX12_count 6 = .ok (.ifCond .ne 10, 3) := by decide +kernel
theorem dX12_count_9 : decode cX12_count 9 = .ok (.aload_n 0, 1) := by decide +kernel
theorem dX12_count_10 : decode cX12_count 10 = .ok (.getfield 141, 3) := by decide +kernel
theorem dX12_count_13 : decode cX12_count 13 = .ok (.goto 82, 3) := by decide +kernel
theorem dX12_count_16 : decode cX12_count 16 = .ok (.iload_n 1, 1) := by decide +kernel
theorem dX12_count_17 : decode cX12_count 17 = .ok (.iconst 1, 1) := by decide +kernel
theorem dX12_count_18 : decode cX12_count 18 = .ok (.if_icmp .ne 10, 3) := by decide +kernel
theorem dX12_count_21 : decode cX12_count 21 = .ok (.aload_n 0, 1) := by decide +kernel
theorem dX12_count_22 : decode cX12_count 22 = .ok (.getfield 148, 3) := by decide +kernel
theorem dX12_count_25 : decode cX12_count 25 = .ok (.goto 70, 3) := by decide +kernel
theorem dX12_count_28 : decode cX12_count 28 = .ok (.iload_n 1, 1) := by decide +kernel
theorem dX12_count_29 : decode cX12_count 29 = .ok (.iconst 2, 1) := by decide +kernel
theorem dX12_count_30 : decode cX12_count 30 = .ok (.if_icmp .ne 18, 3) := by decide +kernel
theorem dX12_count_33 : decode cX12_count 33 = .ok (.aload_n 0, 1) := by decide +kernel
theorem dX12_count_34 : decode cX12_count 34 = .ok (.getfield 144, 3) := by decide +kernel
theorem dX12_count_37 : decode cX12_count 37 = .ok (.ifCond .eq 7, 3) := by decide +kernel
theorem dX12_count_40 : decode cX12_count 40 = .ok (.iconst 1, 1) := by decide +kernel
theorem dX12_count_41 : decode cX12_count 41 = .ok (.goto 54, 3) := by decide +kernel
theorem dX12_count_44 : decode cX12_count 44 = .ok (.iconst 0, 1) := by decide +kernel
theorem dX12_count_45 : decode cX12_count 45 = .ok (.goto 50, 3) := by decide +kernel
theorem dX12_count_48 : decode cX12_count 48 = .ok (.iload_n 1, 1) := by decide +kernel
theorem dX12_count_49 : decode cX12_count 49 = .ok (.iconst 3, 1) := by decide +kernel
theorem dX12_count_50 : decode cX12_count 50 = .ok (.if_icmp .ne 21, 3) := by decide +kernel
theorem dX12_count_53 : decode cX12_count 53 = .ok (.aload_n 0, 1) := by decide +kernel
theorem dX12_count_54 : decode cX12_count 54 = .ok (.getfield 268, 3) := by decide +kernel
theorem dX12_count_57 : decode cX12_count 57 = .ok (.ifCond .eq 10, 3) := by decide +kernel
theorem dX12_count_60 : decode cX12_count 60 = .ok (.aload_n 0, 1) := by decide +kernel
theorem dX12_count_61 : decode cX12_count 61 = .ok (.getfield 222, 3) := by decide +kernel
theorem dX12_count_64 : decode cX12_count 64 = .ok (.goto 31, 3) := by decide +kernel
theorem dX12_count_67 : decode cX12_count 67 = .ok (.iconst 0, 1) := by decide +kernel
theorem dX12_count_68 : decode cX12_count 68 = .ok (.goto 27, 3) := by decide +kernel
theorem dX12_count_71 : decode cX12_count 71 = .ok (.iload_n 1, 1) := by decide +kernel
theorem dX12_count_72 : decode cX12_count 72 = .ok (.iconst 4, 1) := by decide +kernel
theorem dX12_count_73 : decode cX12_count 73 = .ok (.if_icmp .ne 21, 3) := by decide +kernel
theorem dX12_count_76 : decode cX12_count 76 = .ok (.aload_n 0, 1) := by decide +kernel
theorem dX12_count_77 : decode cX12_count 77 = .ok (.getfield 268, 3) := by decide +kernel
theorem dX12_count_80 : decode cX12_count 80 = .ok (.ifCond .eq 10, 3) := by decide +kernel
theorem dX12_count_83 : decode cX12_count 83 = .ok (.aload_n 0, 1) := by decide +kernel
theorem dX12_count_84 : decode cX12_count 84 = .ok (.getfield 225, 3) := by decide +kernel
theorem dX12_count_87 : decode cX12_count 87 = .ok (.goto 8, 3) := by decide +kernel
theorem dX12_count_90 : decode cX12_count 90 = .ok (.iconst 0, 1) := by decide +kernel
theorem dX12_count_91 : decode cX12_count 91 = .ok (.goto 4, 3) := by decide +kernel
theorem dX12_count_94 : decode cX12_count 94 = .ok (.iconst (-1), 1) := by decide +kernel
theorem dX12_count_95 : decode cX12_count 95 = .ok (.ireturn, 1) := by decide +kernel
theorem dJ9_max_7cf53_0 : decode cJ9_max_7cf53 0 = .ok (.iload_n 0, 1) := by decide +kernel
theorem dJ9_max_7cf53_1 : decode cJ9_max_7cf53 1 = .ok (.iload_n 1, 1) := by decide +kernel
theorem dJ9_max_7cf53_2 : decode cJ9_max_7cf53 2 = .ok (.if_icmp .lt 7, 3) := by decide +kernel
theorem dJ9_max_7cf53_5 : decode cJ9_max_7cf53 5 = .ok (.iload_n 0, 1) := by decide +kernel
theorem dJ9_max_7cf53_6 : decode cJ9_max_7cf53 6 = .ok (.goto 4, 3) := by decide +kernel
theorem dJ9_max_7cf53_9 : decode cJ9_max_7cf53 9 = .ok (.iload_n 1, 1) := by decide +kernel
theorem dJ9_max_7cf53_10 : decode cJ9_max_7cf53 10 = .ok (.ireturn, 1) := by decide +kernel
theorem dJ9_min_7cf53_0 : decode cJ9_min_7cf53 0 = .ok (.iload_n 0, 1) := by decide +kernel
theorem dJ9_min_7cf53_1 : decode cJ9_min_7cf53 1 = .ok (.iload_n 1, 1) := by decide +kernel
theorem dJ9_min_7cf53_2 : decode cJ9_min_7cf53 2 = .ok (.if_icmp .gt 7, 3) := by decide +kernel
theorem dJ9_min_7cf53_5 : decode cJ9_min_7cf53 5 = .ok (.iload_n 0, 1) := by decide +kernel
theorem dJ9_min_7cf53_6 : decode cJ9_min_7cf53 6 = .ok (.goto 4, 3) := by decide +kernel
theorem dJ9_min_7cf53_9 : decode cJ9_min_7cf53 9 = .ok (.iload_n 1, 1) := by decide +kernel
theorem dJ9_min_7cf53_10 : decode cJ9_min_7cf53 10 = .ok (.ireturn, 1) := by decide +kernel
theorem dJ7_fill_53178_0 : decode cJ7_fill_53178 0 = .ok (.iconst 0, 1) := by decide +kernel
theorem dJ7_fill_53178_1 : decode cJ7_fill_53178 1 = .ok (.istore_n 2, 1) := by decide +kernel
theorem dJ7_fill_53178_2 : decode cJ7_fill_53178 2 = .ok (.aload_n 0, 1) := by decide +kernel
theorem dJ7_fill_53178_3 : decode cJ7_fill_53178 3 = .ok (.arraylength, 1) := by decide +kernel
theorem dJ7_fill_53178_4 : decode cJ7_fill_53178 4 = .ok (.istore_n 3, 1) := by decide +kernel
theorem dJ7_fill_53178_5 : decode cJ7_fill_53178 5 = .ok (.iload_n 2, 1) := by decide +kernel
theorem dJ7_fill_53178_6 : decode cJ7_fill_53178 6 = .ok (.iload_n 3, 1) := by decide +kernel
theorem dJ7_fill_53178_7 : decode cJ7_fill_53178 7 = .ok (.if_icmp .ge 13, 3) := by decide +kernel
theorem dJ7_fill_53178_10 : decode cJ7_fill_53178 10 = .ok (.aload_n 0, 1) := by decide +kernel
theorem dJ7_fill_53178_11 : decode cJ7_fill_53178 11 = .ok (.iload_n 2, 1) := by decide +kernel
theorem dJ7_fill_53178_12 : decode cJ7_fill_53178 12 = .ok (.iload_n 1, 1) := by decide +kernel
theorem dJ7_fill_53178_13 : decode cJ7_fill_53178 13 = .ok (.iastore, 1) := by decide +kernel
theorem dJ7_fill_53178_14 : decode cJ7_fill_53178 14 = .ok (.iinc 2 1, 3) := by decide +kernel
theorem dJ7_fill_53178_17 : decode cJ7_fill_53178 17 = .ok (.goto (-12), 3) := by decide +kernel
theorem dJ7_fill_53178_20 : decode cJ7_fill_53178 20 = .ok (.return_, 1) := by decide +kernel
theorem dJ7_copyOf_59c91_0 : decode cJ7_copyOf_59c91 0 = .ok (.iload_n 1, 1) := by decide +kernel
theorem dJ7_copyOf_59c91_1 : decode cJ7_copyOf_59c91 1 = .ok (.aload_n 0, 1) := by decide +kernel
theorem dJ7_copyOf_59c91_2 : decode cJ7_copyOf_59c91 2 = .ok (.arraylength, 1) := by decide +kernel
theorem dJ7_copyOf_59c91_3 : decode cJ7_copyOf_59c91 3 = .ok (.if_icmp .ne 11, 3) := by decide +kernel
theorem dJ7_copyOf_59c91_6 : decode cJ7_copyOf_59c91 6 = .ok (.aload_n 0, 1) := by decide +kernel
theorem dJ7_copyOf_59c91_7 : decode cJ7_copyOf_59c91 7 = .ok (.invokevirtual 316, 3) := by decide +kernel
theorem dJ7_copyOf_59c91_10 : decode cJ7_copyOf_59c91 10 = .ok (.checkcast 317, 3) := by decide +kernel
theorem dJ7_copyOf_59c91_13 : decode cJ7_copyOf_59c91 13 = .ok (.areturn, 1) := by decide +kernel
theorem dJ7_copyOf_59c91_14 : decode cJ7_copyOf_59c91 14 = .ok (.iload_n 1, 1) := by decide +kernel
theorem dJ7_copyOf_59c91_15 : decode cJ7_copyOf_59c91 15 = .ok (.newarray .int, 2) := by decide +kernel
theorem dJ7_copyOf_59c91_17 : decode cJ7_copyOf_59c91 17 = .ok (.astore_n 2, 1) := by decide +kernel
theorem dJ7_copyOf_59c91_18 : decode cJ7_copyOf_59c91 18 = .ok (.aload_n 0, 1) := by decide +kernel
theorem dJ7_copyOf_59c91_19 : decode cJ7_copyOf_59c91 19 = .ok (.iconst 0, 1) := by decide +kernel
theorem dJ7_copyOf_59c91_20 : decode cJ7_copyOf_59c91 20 = .ok (.aload_n 2, 1) := by decide +kernel
theorem dJ7_copyOf_59c91_21 : decode cJ7_copyOf_59c91 21 = .ok (.iconst 0, 1) := by decide +kernel
theorem dJ7_copyOf_59c91_22 : decode cJ7_copyOf_59c91 22 = .ok (.aload_n 0, 1) := by decide +kernel
theorem dJ7_copyOf_59c91_23 : decode cJ7_copyOf_59c91 23 = .ok (.arraylength, 1) := by decide +kernel
theorem dJ7_copyOf_59c91_24 : decode cJ7_copyOf_59c91 24 = .ok (.iload_n 1, 1) := by decide +kernel
theorem dJ7_copyOf_59c91_25 : decode cJ7_copyOf_59c91 25 = .ok (.invokestatic 304, 3) := by decide +kernel
theorem dJ7_copyOf_59c91_28 : decode cJ7_copyOf_59c91 28 = .ok (.invokestatic 150, 3) := by decide +kernel
theorem dJ7_copyOf_59c91_31 : decode cJ7_copyOf_59c91 31 = .ok (.aload_n 2, 1) := by decide +kernel
theorem dJ7_copyOf_59c91_32 : decode cJ7_copyOf_59c91 32 = .ok (.areturn, 1) := by decide +kernel
theorem dL_op_0 : decode cL_op 0 = .ok (.aload 4, 2) := by decide +kernel
theorem dL_op_2 : decode cL_op 2 = .ok (.iconst 0, 1) := by decide +kernel
theorem dL_op_3 : decode cL_op 3 = .ok (.aload_n 0, 1) := by decide +kernel
theorem dL_op_4 : decode cL_op 4 = .ok (.iload_n 1, 1) := by decide +kernel
theorem dL_op_5 : decode cL_op 5 = .ok (.iload_n 2, 1) := by decide +kernel
theorem dL_op_6 : decode cL_op 6 = .ok (.iload_n 3, 1) := by decide +kernel
theorem dL_op_7 : decode cL_op 7 = .ok (.invokevirtual 7, 3) := by decide +kernel
theorem dL_op_10 : decode cL_op 10 = .ok (.i2l, 1) := by decide +kernel
theorem dL_op_11 : decode cL_op 11 = .ok (.lastore, 1) := by decide +kernel
theorem dL_op_12 : decode cL_op 12 = .ok (.goto 7, 3) := by decide +kernel
theorem dL_op_15 : decode cL_op 15 = .ok (.astore 5, 2) := by decide +kernel
theorem dL_op_17 : decode cL_op 17 = .ok (.iconst 1, 1) := by decide +kernel
theorem dL_op_18 : decode cL_op 18 = .ok (.ireturn, 1) := by decide +kernel
theorem dL_op_19 : decode cL_op 19 = .ok (.iconst 0, 1) := by decide +kernel
theorem dL_op_20 : decode cL_op 20 = .ok (.ireturn, 1) := by decide +kernel
theorem dL_peek_0 : decode cL_peek 0 = .ok (.aload_n 3, 1) := by decide +kernel
theorem dL_peek_1 : decode cL_peek 1 = .ok (.iconst 0, 1) := by decide +kernel
theorem dL_peek_2 : decode cL_peek 2 = .ok (.aload_n 0, 1) := by decide +kernel
theorem dL_peek_3 : decode cL_peek 3 = .ok (.iload_n 1, 1) := by decide +kernel
theorem dL_peek_4 : decode cL_peek 4 = .ok (.iload_n 2, 1) := by decide +kernel
theorem dL_peek_5 : decode cL_peek 5 = .ok (.invokevirtual 15, 3) := by decide +kernel
theorem dL_peek_8 : decode cL_peek 8 = .ok (.i2l, 1) := by decide +kernel
theorem dL_peek_9 : decode cL_peek 9 = .ok (.lastore, 1) := by decide +kernel
theorem dL_peek_10 : decode cL_peek 10 = .ok (.goto 7, 3) := by decide +kernel
theorem dL_peek_13 : decode cL_peek 13 = .ok (.astore 4, 2) := by decide +kernel
theorem dL_peek_15 : decode cL_peek 15 = .ok (.iconst 1, 1) := by decide +kernel
theorem dL_peek_16 : decode cL_peek 16 = .ok (.ireturn, 1) := by decide +kernel
theorem dL_peek_17 : decode cL_peek 17 = .ok (.iconst 0, 1) := by decide +kernel
theorem dL_peek_18 : decode cL_peek 18 = .ok (.ireturn, 1) := by decide +kernel
theorem dL_law_0 : decode cL_law 0 = .ok (.new 8, 3) := by decide +kernel
theorem dL_law_3 : decode cL_law 3 = .ok (.dup, 1) := by decide +kernel
theorem dL_law_4 : decode cL_law 4 = .ok (.invokespecial 19, 3) := by decide +kernel
theorem dL_law_7 : decode cL_law 7 = .ok (.astore_n 1, 1) := by decide +kernel
theorem dL_law_8 : decode cL_law 8 = .ok (.new 20, 3) := by decide +kernel
theorem dL_law_11 : decode cL_law 11 = .ok (.dup, 1) := by decide +kernel
theorem dL_law_12 : decode cL_law 12 = .ok (.invokespecial 22, 3) := by decide +kernel
theorem dL_law_15 : decode cL_law 15 = .ok (.astore_n 2, 1) := by decide +kernel
theorem dL_law_16 : decode cL_law 16 = .ok (.iconst 1, 1) := by decide +kernel
theorem dL_law_17 : decode cL_law 17 = .ok (.newarray .long, 2) := by decide +kernel
theorem dL_law_19 : decode cL_law 19 = .ok (.astore_n 3, 1) := by decide +kernel
theorem dL_law_20 : decode cL_law 20 = .ok (.iconst 0, 1) := by decide +kernel
theorem dL_law_21 : decode cL_law 21 = .ok (.istore 4, 2) := by decide +kernel
theorem dL_law_23 : decode cL_law 23 = .ok (.iload 4, 2) := by decide +kernel
theorem dL_law_25 : decode cL_law 25 = .ok (.aload_n 0, 1) := by decide +kernel
theorem dL_law_26 : decode cL_law 26 = .ok (.arraylength, 1) := by decide +kernel
theorem dL_law_27 : decode cL_law 27 = .ok (.iconst 4, 1) := by decide +kernel
theorem dL_law_28 : decode cL_law 28 = .ok (.isub, 1) := by decide +kernel
theorem dL_law_29 : decode cL_law 29 = .ok (.if_icmp .gt 639, 3) := by decide +kernel
theorem dL_law_32 : decode cL_law 32 = .ok (.aload_n 0, 1) := by decide +kernel
theorem dL_law_33 : decode cL_law 33 = .ok (.iload 4, 2) := by decide +kernel
theorem dL_law_35 : decode cL_law 35 = .ok (.iaload, 1) := by decide +kernel
theorem dL_law_36 : decode cL_law 36 = .ok (.bipush 31, 2) := by decide +kernel
theorem dL_law_38 : decode cL_law 38 = .ok (.iand, 1) := by decide +kernel
theorem dL_law_39 : decode cL_law 39 = .ok (.tableswitch 623 0 17 #[85, 122, 159, 172, 209, 220, 245, 297, 322, 371, 396, 421, 458, 471, 496, 521, 558, 598], 85) := by decide +kernel
theorem dL_law_124 : decode cL_law 124 = .ok (.aload_n 1, 1) := by decide +kernel
theorem dL_law_125 : decode cL_law 125 = .ok (.aload_n 0, 1) := by decide +kernel
theorem dL_law_126 : decode cL_law 126 = .ok (.iload 4, 2) := by decide +kernel
theorem dL_law_128 : decode cL_law 128 = .ok (.iconst 1, 1) := by decide +kernel
theorem dL_law_129 : decode cL_law 129 = .ok (.iadd, 1) := by decide +kernel
theorem dL_law_130 : decode cL_law 130 = .ok (.iaload, 1) := by decide +kernel
theorem dL_law_131 : decode cL_law 131 = .ok (.aload_n 0, 1) := by decide +kernel
theorem dL_law_132 : decode cL_law 132 = .ok (.iload 4, 2) := by decide +kernel
theorem dL_law_134 : decode cL_law 134 = .ok (.iconst 2, 1) := by decide +kernel
theorem dL_law_135 : decode cL_law 135 = .ok (.iadd, 1) := by decide +kernel
theorem dL_law_136 : decode cL_law 136 = .ok (.iaload, 1) := by decide +kernel
theorem dL_law_137 : decode cL_law 137 = .ok (.invokevirtual 23, 3) := by decide +kernel
theorem dL_law_140 : decode cL_law 140 = .ok (.pop, 1) := by decide +kernel
theorem dL_law_141 : decode cL_law 141 = .ok (.aload_n 2, 1) := by decide +kernel
theorem dL_law_142 : decode cL_law 142 = .ok (.aload_n 0, 1) := by decide +kernel
theorem dL_law_143 : decode cL_law 143 = .ok (.iload 4, 2) := by decide +kernel
theorem dL_law_145 : decode cL_law 145 = .ok (.iconst 1, 1) := by decide +kernel
theorem dL_law_146 : decode cL_law 146 = .ok (.iadd, 1) := by decide +kernel
theorem dL_law_147 : decode cL_law 147 = .ok (.iaload, 1) := by decide +kernel
theorem dL_law_148 : decode cL_law 148 = .ok (.aload_n 0, 1) := by decide +kernel
theorem dL_law_149 : decode cL_law 149 = .ok (.iload 4, 2) := by decide +kernel
theorem dL_law_151 : decode cL_law 151 = .ok (.iconst 2, 1) := by decide +kernel
theorem dL_law_152 : decode cL_law 152 = .ok (.iadd, 1) := by decide +kernel
theorem dL_law_153 : decode cL_law 153 = .ok (.iaload, 1) := by decide +kernel
theorem dL_law_154 : decode cL_law 154 = .ok (.invokevirtual 26, 3) := by decide +kernel
theorem dL_law_157 : decode cL_law 157 = .ok (.pop, 1) := by decide +kernel
theorem dL_law_158 : decode cL_law 158 = .ok (.goto 504, 3) := by decide +kernel
theorem dL_law_161 : decode cL_law 161 = .ok (.aload_n 1, 1) := by decide +kernel
theorem dL_law_162 : decode cL_law 162 = .ok (.aload_n 0, 1) := by decide +kernel
theorem dL_law_163 : decode cL_law 163 = .ok (.iload 4, 2) := by decide +kernel
theorem dL_law_165 : decode cL_law 165 = .ok (.iconst 1, 1) := by decide +kernel
theorem dL_law_166 : decode cL_law 166 = .ok (.iadd, 1) := by decide +kernel
theorem dL_law_167 : decode cL_law 167 = .ok (.iaload, 1) := by decide +kernel
theorem dL_law_168 : decode cL_law 168 = .ok (.aload_n 0, 1) := by decide +kernel
theorem dL_law_169 : decode cL_law 169 = .ok (.iload 4, 2) := by decide +kernel
theorem dL_law_171 : decode cL_law 171 = .ok (.iconst 2, 1) := by decide +kernel
theorem dL_law_172 : decode cL_law 172 = .ok (.iadd, 1) := by decide +kernel
theorem dL_law_173 : decode cL_law 173 = .ok (.iaload, 1) := by decide +kernel
theorem dL_law_174 : decode cL_law 174 = .ok (.invokevirtual 27, 3) := by decide +kernel
theorem dL_law_177 : decode cL_law 177 = .ok (.pop, 1) := by decide +kernel
theorem dL_law_178 : decode cL_law 178 = .ok (.aload_n 2, 1) := by decide +kernel
theorem dL_law_179 : decode cL_law 179 = .ok (.aload_n 0, 1) := by decide +kernel
theorem dL_law_180 : decode cL_law 180 = .ok (.iload 4, 2) := by decide +kernel
theorem dL_law_182 : decode cL_law 182 = .ok (.iconst 1, 1) := by decide +kernel
theorem dL_law_183 : decode cL_law 183 = .ok (.iadd, 1) := by decide +kernel
theorem dL_law_184 : decode cL_law 184 = .ok (.iaload, 1) := by decide +kernel
theorem dL_law_185 : decode cL_law 185 = .ok (.aload_n 0, 1) := by decide +kernel
theorem dL_law_186 : decode cL_law 186 = .ok (.iload 4, 2) := by decide +kernel
theorem dL_law_188 : decode cL_law 188 = .ok (.iconst 2, 1) := by decide +kernel
theorem dL_law_189 : decode cL_law 189 = .ok (.iadd, 1) := by decide +kernel
theorem dL_law_190 : decode cL_law 190 = .ok (.iaload, 1) := by decide +kernel
theorem dL_law_191 : decode cL_law 191 = .ok (.invokevirtual 30, 3) := by decide +kernel
theorem dL_law_194 : decode cL_law 194 = .ok (.pop, 1) := by decide +kernel
theorem dL_law_195 : decode cL_law 195 = .ok (.goto 467, 3) := by decide +kernel
theorem dL_law_198 : decode cL_law 198 = .ok (.aload_n 1, 1) := by decide +kernel
theorem dL_law_199 : decode cL_law 199 = .ok (.invokevirtual 31, 3) := by decide +kernel
theorem dL_law_202 : decode cL_law 202 = .ok (.pop, 1) := by decide +kernel
theorem dL_law_203 : decode cL_law 203 = .ok (.aload_n 2, 1) := by decide +kernel
theorem dL_law_204 : decode cL_law 204 = .ok (.invokevirtual 35, 3) := by decide +kernel
theorem dL_law_207 : decode cL_law 207 = .ok (.pop, 1) := by decide +kernel
theorem dL_law_208 : decode cL_law 208 = .ok (.goto 454, 3) := by decide +kernel
theorem dL_law_211 : decode cL_law 211 = .ok (.aload_n 1, 1) := by decide +kernel
theorem dL_law_212 : decode cL_law 212 = .ok (.aload_n 0, 1) := by decide +kernel
theorem dL_law_213 : decode cL_law 213 = .ok (.iload 4, 2) := by decide +kernel
theorem dL_law_215 : decode cL_law 215 = .ok (.iconst 1, 1) := by decide +kernel
theorem dL_law_216 : decode cL_law 216 = .ok (.iadd, 1) := by decide +kernel
theorem dL_law_217 : decode cL_law 217 = .ok (.iaload, 1) := by decide +kernel
theorem dL_law_218 : decode cL_law 218 = .ok (.aload_n 0, 1) := by decide +kernel
theorem dL_law_219 : decode cL_law 219 = .ok (.iload 4, 2) := by decide +kernel
theorem dL_law_221 : decode cL_law 221 = .ok (.iconst 2, 1) := by decide +kernel
theorem dL_law_222 : decode cL_law 222 = .ok (.iadd, 1) := by decide +kernel
theorem dL_law_223 : decode cL_law 223 = .ok (.iaload, 1) := by decide +kernel
theorem dL_law_224 : decode cL_law 224 = .ok (.invokevirtual 36, 3) := by decide +kernel
theorem dL_law_227 : decode cL_law 227 = .ok (.pop, 1) := by decide +kernel
theorem dL_law_228 : decode cL_law 228 = .ok (.aload_n 2, 1) := by decide +kernel
theorem dL_law_229 : decode cL_law 229 = .ok (.aload_n 0, 1) := by decide +kernel
theorem dL_law_230 : decode cL_law 230 = .ok (.iload 4, 2) := by decide +kernel
theorem dL_law_232 : decode cL_law 232 = .ok (.iconst 1, 1) := by decide +kernel
theorem dL_law_233 : decode cL_law 233 = .ok (.iadd, 1) := by decide +kernel
theorem dL_law_234 : decode cL_law 234 = .ok (.iaload, 1) := by decide +kernel
theorem dL_law_235 : decode cL_law 235 = .ok (.aload_n 0, 1) := by decide +kernel
theorem dL_law_236 : decode cL_law 236 = .ok (.iload 4, 2) := by decide +kernel
theorem dL_law_238 : decode cL_law 238 = .ok (.iconst 2, 1) := by decide +kernel
theorem dL_law_239 : decode cL_law 239 = .ok (.iadd, 1) := by decide +kernel
theorem dL_law_240 : decode cL_law 240 = .ok (.iaload, 1) := by decide +kernel
theorem dL_law_241 : decode cL_law 241 = .ok (.invokevirtual 39, 3) := by decide +kernel
theorem dL_law_244 : decode cL_law 244 = .ok (.pop, 1) := by decide +kernel
theorem dL_law_245 : decode cL_law 245 = .ok (.goto 417, 3) := by decide +kernel
theorem dL_law_248 : decode cL_law 248 = .ok (.aload_n 1, 1) := by decide +kernel
theorem dL_law_249 : decode cL_law 249 = .ok (.invokevirtual 40, 3) := by decide +kernel
theorem dL_law_252 : decode cL_law 252 = .ok (.aload_n 2, 1) := by decide +kernel
theorem dL_law_253 : decode cL_law 253 = .ok (.invokevirtual 43, 3) := by decide +kernel
theorem dL_law_256 : decode cL_law 256 = .ok (.goto 406, 3) := by decide +kernel
theorem dL_law_259 : decode cL_law 259 = .ok (.aload_n 1, 1) := by decide +kernel
theorem dL_law_260 : decode cL_law 260 = .ok (.aload_n 0, 1) := by decide +kernel
theorem dL_law_261 : decode cL_law 261 = .ok (.iload 4, 2) := by decide +kernel
theorem dL_law_263 : decode cL_law 263 = .ok (.iconst 1, 1) := by decide +kernel
theorem dL_law_264 : decode cL_law 264 = .ok (.iadd, 1) := by decide +kernel
theorem dL_law_265 : decode cL_law 265 = .ok (.iaload, 1) := by decide +kernel
theorem dL_law_266 : decode cL_law 266 = .ok (.invokevirtual 44, 3) := by decide +kernel
theorem dL_law_269 : decode cL_law 269 = .ok (.pop, 1) := by decide +kernel
theorem dL_law_270 : decode cL_law 270 = .ok (.aload_n 2, 1) := by decide +kernel
theorem dL_law_271 : decode cL_law 271 = .ok (.aload_n 0, 1) := by decide +kernel
theorem dL_law_272 : decode cL_law 272 = .ok (.iload 4, 2) := by decide +kernel
theorem dL_law_274 : decode cL_law 274 = .ok (.iconst 1, 1) := by decide +kernel
theorem dL_law_275 : decode cL_law 275 = .ok (.iadd, 1) := by decide +kernel
theorem dL_law_276 : decode cL_law 276 = .ok (.iaload, 1) := by decide +kernel
theorem dL_law_277 : decode cL_law 277 = .ok (.invokevirtual 48, 3) := by decide +kernel
theorem dL_law_280 : decode cL_law 280 = .ok (.pop, 1) := by decide +kernel
theorem dL_law_281 : decode cL_law 281 = .ok (.goto 381, 3) := by decide +kernel
theorem dL_law_284 : decode cL_law 284 = .ok (.aload_n 1, 1) := by decide +kernel
theorem dL_law_285 : decode cL_law 285 = .ok (.aload_n 0, 1) := by decide +kernel
theorem dL_law_286 : decode cL_law 286 = .ok (.iload 4, 2) := by decide +kernel
theorem dL_law_288 : decode cL_law 288 = .ok (.iconst 1, 1) := by decide +kernel
theorem dL_law_289 : decode cL_law 289 = .ok (.iadd, 1) := by decide +kernel
theorem dL_law_290 : decode cL_law 290 = .ok (.iaload, 1) := by decide +kernel
theorem dL_law_291 : decode cL_law 291 = .ok (.aload_n 0, 1) := by decide +kernel
theorem dL_law_292 : decode cL_law 292 = .ok (.iload 4, 2) := by decide +kernel
theorem dL_law_294 : decode cL_law 294 = .ok (.iconst 2, 1) := by decide +kernel
theorem dL_law_295 : decode cL_law 295 = .ok (.iadd, 1) := by decide +kernel
theorem dL_law_296 : decode cL_law 296 = .ok (.iaload, 1) := by decide +kernel
theorem dL_law_297 : decode cL_law 297 = .ok (.aload_n 0, 1) := by decide +kernel
theorem dL_law_298 : decode cL_law 298 = .ok (.iload 4, 2) := by decide +kernel
theorem dL_law_300 : decode cL_law 300 = .ok (.iconst 3, 1) := by decide +kernel
theorem dL_law_301 : decode cL_law 301 = .ok (.iadd, 1) := by decide +kernel
theorem dL_law_302 : decode cL_law 302 = .ok (.iaload, 1) := by decide +kernel
theorem dL_law_303 : decode cL_law 303 = .ok (.aload_n 3, 1) := by decide +kernel
theorem dL_law_304 : decode cL_law 304 = .ok (.invokestatic 49, 3) := by decide +kernel
theorem dL_law_307 : decode cL_law 307 = .ok (.istore 5, 2) := by decide +kernel
theorem dL_law_309 : decode cL_law 309 = .ok (.aload_n 2, 1) := by decide +kernel
theorem dL_law_310 : decode cL_law 310 = .ok (.aload_n 0, 1) := by decide +kernel
theorem dL_law_311 : decode cL_law 311 = .ok (.iload 4, 2) := by decide +kernel
theorem dL_law_313 : decode cL_law 313 = .ok (.iconst 1, 1) := by decide +kernel
theorem dL_law_314 : decode cL_law 314 = .ok (.iadd, 1) := by decide +kernel
theorem dL_law_315 : decode cL_law 315 = .ok (.iaload, 1) := by decide +kernel
theorem dL_law_316 : decode cL_law 316 = .ok (.aload_n 0, 1) := by decide +kernel
theorem dL_law_317 : decode cL_law 317 = .ok (.iload 4, 2) := by decide +kernel
theorem dL_law_319 : decode cL_law 319 = .ok (.iconst 2, 1) := by decide +kernel
theorem dL_law_320 : decode cL_law 320 = .ok (.iadd, 1) := by decide +kernel
theorem dL_law_321 : decode cL_law 321 = .ok (.iaload, 1) := by decide +kernel
theorem dL_law_322 : decode cL_law 322 = .ok (.aload_n 0, 1) := by decide +kernel
theorem dL_law_323 : decode cL_law 323 = .ok (.iload 4, 2) := by decide +kernel
theorem dL_law_325 : decode cL_law 325 = .ok (.iconst 3, 1) := by decide +kernel
theorem dL_law_326 : decode cL_law 326 = .ok (.iadd, 1) := by decide +kernel
theorem dL_law_327 : decode cL_law 327 = .ok (.iaload, 1) := by decide +kernel
theorem dL_law_328 : decode cL_law 328 = .ok (.invokevirtual 54, 3) := by decide +kernel
theorem dL_law_331 : decode cL_law 331 = .ok (.istore 6, 2) := by decide +kernel
theorem dL_law_333 : decode cL_law 333 = .ok (.goto 329, 3) := by decide +kernel
theorem dL_law_336 : decode cL_law 336 = .ok (.aload_n 1, 1) := by decide +kernel
theorem dL_law_337 : decode cL_law 337 = .ok (.aload_n 0, 1) := by decide +kernel
theorem dL_law_338 : decode cL_law 338 = .ok (.iload 4, 2) := by decide +kernel
theorem dL_law_340 : decode cL_law 340 = .ok (.iconst 1, 1) := by decide +kernel
theorem dL_law_341 : decode cL_law 341 = .ok (.iadd, 1) := by decide +kernel
theorem dL_law_342 : decode cL_law 342 = .ok (.iaload, 1) := by decide +kernel
theorem dL_law_343 : decode cL_law 343 = .ok (.invokevirtual 55, 3) := by decide +kernel
theorem dL_law_346 : decode cL_law 346 = .ok (.pop, 1) := by decide +kernel
theorem dL_law_347 : decode cL_law 347 = .ok (.aload_n 2, 1) := by decide +kernel
theorem dL_law_348 : decode cL_law 348 = .ok (.aload_n 0, 1) := by decide +kernel
theorem dL_law_349 : decode cL_law 349 = .ok (.iload 4, 2) := by decide +kernel
theorem dL_law_351 : decode cL_law 351 = .ok (.iconst 1, 1) := by decide +kernel
theorem dL_law_352 : decode cL_law 352 = .ok (.iadd, 1) := by decide +kernel
theorem dL_law_353 : decode cL_law 353 = .ok (.iaload, 1) := by decide +kernel
theorem dL_law_354 : decode cL_law 354 = .ok (.invokevirtual 58, 3) := by decide +kernel
theorem dL_law_357 : decode cL_law 357 = .ok (.pop, 1) := by decide +kernel
theorem dL_law_358 : decode cL_law 358 = .ok (.goto 304, 3) := by decide +kernel
theorem dL_law_361 : decode cL_law 361 = .ok (.aload_n 1, 1) := by decide +kernel
theorem dL_law_362 : decode cL_law 362 = .ok (.aload_n 0, 1) := by decide +kernel
theorem dL_law_363 : decode cL_law 363 = .ok (.iload 4, 2) := by decide +kernel
theorem dL_law_365 : decode cL_law 365 = .ok (.iconst 1, 1) := by decide +kernel
theorem dL_law_366 : decode cL_law 366 = .ok (.iadd, 1) := by decide +kernel
theorem dL_law_367 : decode cL_law 367 = .ok (.iaload, 1) := by decide +kernel
theorem dL_law_368 : decode cL_law 368 = .ok (.aload_n 0, 1) := by decide +kernel
theorem dL_law_369 : decode cL_law 369 = .ok (.iload 4, 2) := by decide +kernel
theorem dL_law_371 : decode cL_law 371 = .ok (.iconst 2, 1) := by decide +kernel
theorem dL_law_372 : decode cL_law 372 = .ok (.iadd, 1) := by decide +kernel
theorem dL_law_373 : decode cL_law 373 = .ok (.iaload, 1) := by decide +kernel
theorem dL_law_374 : decode cL_law 374 = .ok (.aload_n 0, 1) := by decide +kernel
theorem dL_law_375 : decode cL_law 375 = .ok (.iload 4, 2) := by decide +kernel
theorem dL_law_377 : decode cL_law 377 = .ok (.iconst 3, 1) := by decide +kernel
theorem dL_law_378 : decode cL_law 378 = .ok (.iadd, 1) := by decide +kernel
theorem dL_law_379 : decode cL_law 379 = .ok (.iaload, 1) := by decide +kernel
theorem dL_law_380 : decode cL_law 380 = .ok (.invokevirtual 59, 3) := by decide +kernel
theorem dL_law_383 : decode cL_law 383 = .ok (.pop, 1) := by decide +kernel
theorem dL_law_384 : decode cL_law 384 = .ok (.aload_n 2, 1) := by decide +kernel
theorem dL_law_385 : decode cL_law 385 = .ok (.aload_n 0, 1) := by decide +kernel
theorem dL_law_386 : decode cL_law 386 = .ok (.iload 4, 2) := by decide +kernel
theorem dL_law_388 : decode cL_law 388 = .ok (.iconst 1, 1) := by decide +kernel
theorem dL_law_389 : decode cL_law 389 = .ok (.iadd, 1) := by decide +kernel
theorem dL_law_390 : decode cL_law 390 = .ok (.iaload, 1) := by decide +kernel
theorem dL_law_391 : decode cL_law 391 = .ok (.aload_n 0, 1) := by decide +kernel
theorem dL_law_392 : decode cL_law 392 = .ok (.iload 4, 2) := by decide +kernel
theorem dL_law_394 : decode cL_law 394 = .ok (.iconst 2, 1) := by decide +kernel
theorem dL_law_395 : decode cL_law 395 = .ok (.iadd, 1) := by decide +kernel
theorem dL_law_396 : decode cL_law 396 = .ok (.iaload, 1) := by decide +kernel
theorem dL_law_397 : decode cL_law 397 = .ok (.aload_n 0, 1) := by decide +kernel
theorem dL_law_398 : decode cL_law 398 = .ok (.iload 4, 2) := by decide +kernel
theorem dL_law_400 : decode cL_law 400 = .ok (.iconst 3, 1) := by decide +kernel
theorem dL_law_401 : decode cL_law 401 = .ok (.iadd, 1) := by decide +kernel
theorem dL_law_402 : decode cL_law 402 = .ok (.iaload, 1) := by decide +kernel
theorem dL_law_403 : decode cL_law 403 = .ok (.invokevirtual 62, 3) := by decide +kernel
theorem dL_law_406 : decode cL_law 406 = .ok (.pop, 1) := by decide +kernel
theorem dL_law_407 : decode cL_law 407 = .ok (.goto 255, 3) := by decide +kernel
theorem dL_law_410 : decode cL_law 410 = .ok (.aload_n 1, 1) := by decide +kernel
theorem dL_law_411 : decode cL_law 411 = .ok (.aload_n 0, 1) := by decide +kernel
theorem dL_law_412 : decode cL_law 412 = .ok (.iload 4, 2) := by decide +kernel
theorem dL_law_414 : decode cL_law 414 = .ok (.iconst 1, 1) := by decide +kernel
theorem dL_law_415 : decode cL_law 415 = .ok (.iadd, 1) := by decide +kernel
theorem dL_law_416 : decode cL_law 416 = .ok (.iaload, 1) := by decide +kernel
theorem dL_law_417 : decode cL_law 417 = .ok (.invokevirtual 63, 3) := by decide +kernel
theorem dL_law_420 : decode cL_law 420 = .ok (.pop, 1) := by decide +kernel
theorem dL_law_421 : decode cL_law 421 = .ok (.aload_n 2, 1) := by decide +kernel
theorem dL_law_422 : decode cL_law 422 = .ok (.aload_n 0, 1) := by decide +kernel
theorem dL_law_423 : decode cL_law 423 = .ok (.iload 4, 2) := by decide +kernel
theorem dL_law_425 : decode cL_law 425 = .ok (.iconst 1, 1) := by decide +kernel
theorem dL_law_426 : decode cL_law 426 = .ok (.iadd, 1) := by decide +kernel
theorem dL_law_427 : decode cL_law 427 = .ok (.iaload, 1) := by decide +kernel
theorem dL_law_428 : decode cL_law 428 = .ok (.invokevirtual 66, 3) := by decide +kernel
theorem dL_law_431 : decode cL_law 431 = .ok (.pop, 1) := by decide +kernel
theorem dL_law_432 : decode cL_law 432 = .ok (.goto 230, 3) := by decide +kernel
theorem dL_law_435 : decode cL_law 435 = .ok (.aload_n 1, 1) := by decide +kernel
theorem dL_law_436 : decode cL_law 436 = .ok (.aload_n 0, 1) := by decide +kernel
theorem dL_law_437 : decode cL_law 437 = .ok (.iload 4, 2) := by decide +kernel
theorem dL_law_439 : decode cL_law 439 = .ok (.iconst 1, 1) := by decide +kernel
theorem dL_law_440 : decode cL_law 440 = .ok (.iadd, 1) := by decide +kernel
theorem dL_law_441 : decode cL_law 441 = .ok (.iaload, 1) := by decide +kernel
theorem dL_law_442 : decode cL_law 442 = .ok (.invokevirtual 67, 3) := by decide +kernel
theorem dL_law_445 : decode cL_law 445 = .ok (.pop, 1) := by decide +kernel
theorem dL_law_446 : decode cL_law 446 = .ok (.aload_n 2, 1) := by decide +kernel
theorem dL_law_447 : decode cL_law 447 = .ok (.aload_n 0, 1) := by decide +kernel
theorem dL_law_448 : decode cL_law 448 = .ok (.iload 4, 2) := by decide +kernel
theorem dL_law_450 : decode cL_law 450 = .ok (.iconst 1, 1) := by decide +kernel
theorem dL_law_451 : decode cL_law 451 = .ok (.iadd, 1) := by decide +kernel
theorem dL_law_452 : decode cL_law 452 = .ok (.iaload, 1) := by decide +kernel
theorem dL_law_453 : decode cL_law 453 = .ok (.invokevirtual 70, 3) := by decide +kernel
theorem dL_law_456 : decode cL_law 456 = .ok (.pop, 1) := by decide +kernel
theorem dL_law_457 : decode cL_law 457 = .ok (.goto 205, 3) := by decide +kernel
theorem dL_law_460 : decode cL_law 460 = .ok (.aload_n 1, 1) := by decide +kernel
theorem dL_law_461 : decode cL_law 461 = .ok (.aload_n 0, 1) := by decide +kernel
theorem dL_law_462 : decode cL_law 462 = .ok (.iload 4, 2) := by decide +kernel
theorem dL_law_464 : decode cL_law 464 = .ok (.iconst 1, 1) := by decide +kernel
theorem dL_law_465 : decode cL_law 465 = .ok (.iadd, 1) := by decide +kernel
theorem dL_law_466 : decode cL_law 466 = .ok (.iaload, 1) := by decide +kernel
theorem dL_law_467 : decode cL_law 467 = .ok (.aload_n 0, 1) := by decide +kernel
theorem dL_law_468 : decode cL_law 468 = .ok (.iload 4, 2) := by decide +kernel
theorem dL_law_470 : decode cL_law 470 = .ok (.iconst 2, 1) := by decide +kernel
theorem dL_law_471 : decode cL_law 471 = .ok (.iadd, 1) := by decide +kernel
theorem dL_law_472 : decode cL_law 472 = .ok (.iaload, 1) := by decide +kernel
theorem dL_law_473 : decode cL_law 473 = .ok (.invokevirtual 71, 3) := by decide +kernel
theorem dL_law_476 : decode cL_law 476 = .ok (.pop, 1) := by decide +kernel
theorem dL_law_477 : decode cL_law 477 = .ok (.aload_n 2, 1) := by decide +kernel
theorem dL_law_478 : decode cL_law 478 = .ok (.aload_n 0, 1) := by decide +kernel
theorem dL_law_479 : decode cL_law 479 = .ok (.iload 4, 2) := by decide +kernel
theorem dL_law_481 : decode cL_law 481 = .ok (.iconst 1, 1) := by decide +kernel
theorem dL_law_482 : decode cL_law 482 = .ok (.iadd, 1) := by decide +kernel
theorem dL_law_483 : decode cL_law 483 = .ok (.iaload, 1) := by decide +kernel
theorem dL_law_484 : decode cL_law 484 = .ok (.aload_n 0, 1) := by decide +kernel
theorem dL_law_485 : decode cL_law 485 = .ok (.iload 4, 2) := by decide +kernel
theorem dL_law_487 : decode cL_law 487 = .ok (.iconst 2, 1) := by decide +kernel
theorem dL_law_488 : decode cL_law 488 = .ok (.iadd, 1) := by decide +kernel
theorem dL_law_489 : decode cL_law 489 = .ok (.iaload, 1) := by decide +kernel
theorem dL_law_490 : decode cL_law 490 = .ok (.invokevirtual 75, 3) := by decide +kernel
theorem dL_law_493 : decode cL_law 493 = .ok (.pop, 1) := by decide +kernel
theorem dL_law_494 : decode cL_law 494 = .ok (.goto 168, 3) := by decide +kernel
theorem dL_law_497 : decode cL_law 497 = .ok (.aload_n 1, 1) := by decide +kernel
theorem dL_law_498 : decode cL_law 498 = .ok (.invokevirtual 76, 3) := by decide +kernel
theorem dL_law_501 : decode cL_law 501 = .ok (.pop, 1) := by decide +kernel
theorem dL_law_502 : decode cL_law 502 = .ok (.aload_n 2, 1) := by decide +kernel
theorem dL_law_503 : decode cL_law 503 = .ok (.invokevirtual 80, 3) := by decide +kernel
theorem dL_law_506 : decode cL_law 506 = .ok (.pop, 1) := by decide +kernel
theorem dL_law_507 : decode cL_law 507 = .ok (.goto 155, 3) := by decide +kernel
theorem dL_law_510 : decode cL_law 510 = .ok (.aload_n 1, 1) := by decide +kernel
theorem dL_law_511 : decode cL_law 511 = .ok (.aload_n 0, 1) := by decide +kernel
theorem dL_law_512 : decode cL_law 512 = .ok (.iload 4, 2) := by decide +kernel
theorem dL_law_514 : decode cL_law 514 = .ok (.iconst 1, 1) := by decide +kernel
theorem dL_law_515 : decode cL_law 515 = .ok (.iadd, 1) := by decide +kernel
theorem dL_law_516 : decode cL_law 516 = .ok (.iaload, 1) := by decide +kernel
theorem dL_law_517 : decode cL_law 517 = .ok (.invokevirtual 81, 3) := by decide +kernel
theorem dL_law_520 : decode cL_law 520 = .ok (.aload_n 2, 1) := by decide +kernel
theorem dL_law_521 : decode cL_law 521 = .ok (.aload_n 0, 1) := by decide +kernel
theorem dL_law_522 : decode cL_law 522 = .ok (.iload 4, 2) := by decide +kernel
theorem dL_law_524 : decode cL_law 524 = .ok (.iconst 1, 1) := by decide +kernel
theorem dL_law_525 : decode cL_law 525 = .ok (.iadd, 1) := by decide +kernel
theorem dL_law_526 : decode cL_law 526 = .ok (.iaload, 1) := by decide +kernel
theorem dL_law_527 : decode cL_law 527 = .ok (.invokevirtual 84, 3) := by decide +kernel
theorem dL_law_530 : decode cL_law 530 = .ok (.if_icmp .eq 132, 3) := by decide +kernel
theorem dL_law_533 : decode cL_law 533 = .ok (.iconst 0, 1) := by decide +kernel
theorem dL_law_534 : decode cL_law 534 = .ok (.ireturn, 1) := by decide +kernel
theorem dL_law_535 : decode cL_law 535 = .ok (.aload_n 1, 1) := by decide +kernel
theorem dL_law_536 : decode cL_law 536 = .ok (.aload_n 0, 1) := by decide +kernel
theorem dL_law_537 : decode cL_law 537 = .ok (.iload 4, 2) := by decide +kernel
theorem dL_law_539 : decode cL_law 539 = .ok (.iconst 1, 1) := by decide +kernel
theorem dL_law_540 : decode cL_law 540 = .ok (.iadd, 1) := by decide +kernel
theorem dL_law_541 : decode cL_law 541 = .ok (.iaload, 1) := by decide +kernel
theorem dL_law_542 : decode cL_law 542 = .ok (.invokevirtual 85, 3) := by decide +kernel
theorem dL_law_545 : decode cL_law 545 = .ok (.pop, 1) := by decide +kernel
theorem dL_law_546 : decode cL_law 546 = .ok (.aload_n 2, 1) := by decide +kernel
theorem dL_law_547 : decode cL_law 547 = .ok (.aload_n 0, 1) := by decide +kernel
theorem dL_law_548 : decode cL_law 548 = .ok (.iload 4, 2) := by decide +kernel
theorem dL_law_550 : decode cL_law 550 = .ok (.iconst 1, 1) := by decide +kernel
theorem dL_law_551 : decode cL_law 551 = .ok (.iadd, 1) := by decide +kernel
theorem dL_law_552 : decode cL_law 552 = .ok (.iaload, 1) := by decide +kernel
theorem dL_law_553 : decode cL_law 553 = .ok (.invokevirtual 88, 3) := by decide +kernel
theorem dL_law_556 : decode cL_law 556 = .ok (.pop, 1) := by decide +kernel
theorem dL_law_557 : decode cL_law 557 = .ok (.goto 105, 3) := by decide +kernel
theorem dL_law_560 : decode cL_law 560 = .ok (.aload_n 1, 1) := by decide +kernel
theorem dL_law_561 : decode cL_law 561 = .ok (.aload_n 0, 1) := by decide +kernel
theorem dL_law_562 : decode cL_law 562 = .ok (.iload 4, 2) := by decide +kernel
theorem dL_law_564 : decode cL_law 564 = .ok (.iconst 1, 1) := by decide +kernel
theorem dL_law_565 : decode cL_law 565 = .ok (.iadd, 1) := by decide +kernel
theorem dL_law_566 : decode cL_law 566 = .ok (.iaload, 1) := by decide +kernel
theorem dL_law_567 : decode cL_law 567 = .ok (.aload_n 0, 1) := by decide +kernel
theorem dL_law_568 : decode cL_law 568 = .ok (.iload 4, 2) := by decide +kernel
theorem dL_law_570 : decode cL_law 570 = .ok (.iconst 2, 1) := by decide +kernel
theorem dL_law_571 : decode cL_law 571 = .ok (.iadd, 1) := by decide +kernel
theorem dL_law_572 : decode cL_law 572 = .ok (.iaload, 1) := by decide +kernel
theorem dL_law_573 : decode cL_law 573 = .ok (.invokevirtual 89, 3) := by decide +kernel
theorem dL_law_576 : decode cL_law 576 = .ok (.pop, 1) := by decide +kernel
theorem dL_law_577 : decode cL_law 577 = .ok (.aload_n 2, 1) := by decide +kernel
theorem dL_law_578 : decode cL_law 578 = .ok (.aload_n 0, 1) := by decide +kernel
theorem dL_law_579 : decode cL_law 579 = .ok (.iload 4, 2) := by decide +kernel
theorem dL_law_581 : decode cL_law 581 = .ok (.iconst 1, 1) := by decide +kernel
theorem dL_law_582 : decode cL_law 582 = .ok (.iadd, 1) := by decide +kernel
theorem dL_law_583 : decode cL_law 583 = .ok (.iaload, 1) := by decide +kernel
theorem dL_law_584 : decode cL_law 584 = .ok (.aload_n 0, 1) := by decide +kernel
theorem dL_law_585 : decode cL_law 585 = .ok (.iload 4, 2) := by decide +kernel
theorem dL_law_587 : decode cL_law 587 = .ok (.iconst 2, 1) := by decide +kernel
theorem dL_law_588 : decode cL_law 588 = .ok (.iadd, 1) := by decide +kernel
theorem dL_law_589 : decode cL_law 589 = .ok (.iaload, 1) := by decide +kernel
theorem dL_law_590 : decode cL_law 590 = .ok (.invokevirtual 92, 3) := by decide +kernel
theorem dL_law_593 : decode cL_law 593 = .ok (.pop, 1) := by decide +kernel
theorem dL_law_594 : decode cL_law 594 = .ok (.goto 68, 3) := by decide +kernel
theorem dL_law_597 : decode cL_law 597 = .ok (.aload_n 1, 1) := by decide +kernel
theorem dL_law_598 : decode cL_law 598 = .ok (.aload_n 0, 1) := by decide +kernel
theorem dL_law_599 : decode cL_law 599 = .ok (.iload 4, 2) := by decide +kernel
theorem dL_law_601 : decode cL_law 601 = .ok (.iconst 1, 1) := by decide +kernel
theorem dL_law_602 : decode cL_law 602 = .ok (.iadd, 1) := by decide +kernel
theorem dL_law_603 : decode cL_law 603 = .ok (.iaload, 1) := by decide +kernel
theorem dL_law_604 : decode cL_law 604 = .ok (.aload_n 0, 1) := by decide +kernel
theorem dL_law_605 : decode cL_law 605 = .ok (.iload 4, 2) := by decide +kernel
theorem dL_law_607 : decode cL_law 607 = .ok (.iconst 2, 1) := by decide +kernel
theorem dL_law_608 : decode cL_law 608 = .ok (.iadd, 1) := by decide +kernel
theorem dL_law_609 : decode cL_law 609 = .ok (.iaload, 1) := by decide +kernel
theorem dL_law_610 : decode cL_law 610 = .ok (.aload_n 3, 1) := by decide +kernel
theorem dL_law_611 : decode cL_law 611 = .ok (.invokestatic 93, 3) := by decide +kernel
theorem dL_law_614 : decode cL_law 614 = .ok (.istore 5, 2) := by decide +kernel
theorem dL_law_616 : decode cL_law 616 = .ok (.aload_n 2, 1) := by decide +kernel
theorem dL_law_617 : decode cL_law 617 = .ok (.aload_n 0, 1) := by decide +kernel
theorem dL_law_618 : decode cL_law 618 = .ok (.iload 4, 2) := by decide +kernel
theorem dL_law_620 : decode cL_law 620 = .ok (.iconst 1, 1) := by decide +kernel
theorem dL_law_621 : decode cL_law 621 = .ok (.iadd, 1) := by decide +kernel
theorem dL_law_622 : decode cL_law 622 = .ok (.iaload, 1) := by decide +kernel
theorem dL_law_623 : decode cL_law 623 = .ok (.aload_n 0, 1) := by decide +kernel
theorem dL_law_624 : decode cL_law 624 = .ok (.iload 4, 2) := by decide +kernel
theorem dL_law_626 : decode cL_law 626 = .ok (.iconst 2, 1) := by decide +kernel
theorem dL_law_627 : decode cL_law 627 = .ok (.iadd, 1) := by decide +kernel
theorem dL_law_628 : decode cL_law 628 = .ok (.iaload, 1) := by decide +kernel
theorem dL_law_629 : decode cL_law 629 = .ok (.invokevirtual 96, 3) := by decide +kernel
theorem dL_law_632 : decode cL_law 632 = .ok (.istore 6, 2) := by decide +kernel
theorem dL_law_634 : decode cL_law 634 = .ok (.goto 28, 3) := by decide +kernel
theorem dL_law_637 : decode cL_law 637 = .ok (.aload_n 1, 1) := by decide +kernel
theorem dL_law_638 : decode cL_law 638 = .ok (.aload_n 0, 1) := by decide +kernel
theorem dL_law_639 : decode cL_law 639 = .ok (.iload 4, 2) := by decide +kernel
theorem dL_law_641 : decode cL_law 641 = .ok (.iconst 1, 1) := by decide +kernel
theorem dL_law_642 : decode cL_law 642 = .ok (.iadd, 1) := by decide +kernel
theorem dL_law_643 : decode cL_law 643 = .ok (.iaload, 1) := by decide +kernel
theorem dL_law_644 : decode cL_law 644 = .ok (.invokevirtual 97, 3) := by decide +kernel
theorem dL_law_647 : decode cL_law 647 = .ok (.pop, 1) := by decide +kernel
theorem dL_law_648 : decode cL_law 648 = .ok (.aload_n 2, 1) := by decide +kernel
theorem dL_law_649 : decode cL_law 649 = .ok (.aload_n 0, 1) := by decide +kernel
theorem dL_law_650 : decode cL_law 650 = .ok (.iload 4, 2) := by decide +kernel
theorem dL_law_652 : decode cL_law 652 = .ok (.iconst 1, 1) := by decide +kernel
theorem dL_law_653 : decode cL_law 653 = .ok (.iadd, 1) := by decide +kernel
theorem dL_law_654 : decode cL_law 654 = .ok (.iaload, 1) := by decide +kernel
theorem dL_law_655 : decode cL_law 655 = .ok (.invokevirtual 100, 3) := by decide +kernel
theorem dL_law_658 : decode cL_law 658 = .ok (.pop, 1) := by decide +kernel
theorem dL_law_659 : decode cL_law 659 = .ok (.goto 3, 3) := by decide +kernel
theorem dL_law_662 : decode cL_law 662 = .ok (.iinc 4 4, 3) := by decide +kernel
theorem dL_law_665 : decode cL_law 665 = .ok (.goto (-642), 3) := by decide +kernel
theorem dL_law_668 : decode cL_law 668 = .ok (.iconst 1, 1) := by decide +kernel
theorem dL_law_669 : decode cL_law 669 = .ok (.ireturn, 1) := by decide +kernel
