theorem dX12_takes_1 : decode cX12_takes 1 = .ok (.tableswitch 94 0 16 #[83, 83, 85, 94, 94, 94, 94, 94, 94, 85, 94, 85, 83, 85, 87, 85, 85], 83) := by decide +kernel
theorem dX12_takes_84 : decode cX12_takes 84 = .ok (.iconst 0, 1) := by decide +kernel
theorem dX12_takes_85 : decode cX12_takes 85 = .ok (.ireturn, 1) := by decide +kernel
theorem dX12_takes_86 : decode cX12_takes 86 = .ok (.iconst 1, 1) := by decide +kernel
theorem dX12_takes_87 : decode cX12_takes 87 = .ok (.ireturn, 1) := by decide +kernel
theorem dX12_takes_88 : decode cX12_takes 88 = .ok (.aload_n 0, 1) := by decide +kernel
theorem dX12_takes_89 : decode cX12_takes 89 = .ok (.getfield 7, 3) := by decide +kernel
theorem dX12_takes_92 : decode cX12_takes 92 = .ok (.iload_n 2, 1) := by decide +kernel
theorem dX12_takes_93 : decode cX12_takes 93 = .ok (.iaload, 1) := by decide +kernel
theorem dX12_takes_94 : decode cX12_takes 94 = .ok (.ireturn, 1) := by decide +kernel
theorem dX12_takes_95 : decode cX12_takes 95 = .ok (.iconst 2, 1) := by decide +kernel
theorem dX12_takes_96 : decode cX12_takes 96 = .ok (.ireturn, 1) := by decide +kernel
theorem dX12_behind_0 : decode cX12_behind 0 = .ok (.iload_n 1, 1) := by decide +kernel
theorem dX12_behind_1 : decode cX12_behind 1 = .ok (.bipush 10, 2) := by decide +kernel
theorem dX12_behind_3 : decode cX12_behind 3 = .ok (.if_icmp .eq 9, 3) := by decide +kernel
theorem dX12_behind_6 : decode cX12_behind 6 = .ok (.iload_n 1, 1) := by decide +kernel
theorem dX12_behind_7 : decode cX12_behind 7 = .ok (.bipush 9, 2) := by decide +kernel
theorem dX12_behind_9 : decode cX12_behind 9 = .ok (.if_icmp .ne 7, 3) := by decide +kernel
theorem dX12_behind_12 : decode cX12_behind 12 = .ok (.iconst 2, 1) := by decide +kernel
theorem dX12_behind_13 : decode cX12_behind 13 = .ok (.goto 43, 3) := by decide +kernel
theorem dX12_behind_16 : decode cX12_behind 16 = .ok (.iload_n 1, 1) := by decide +kernel
theorem dX12_behind_17 : decode cX12_behind 17 = .ok (.iconst 2, 1) := by decide +kernel
theorem dX12_behind_18 : decode cX12_behind 18 = .ok (.if_icmp .eq 33, 3) := by decide +kernel
theorem dX12_behind_21 : decode cX12_behind 21 = .ok (.iload_n 1, 1) := by decide +kernel
theorem dX12_behind_22 : decode cX12_behind 22 = .ok (.bipush 11, 2) := by decide +kernel
theorem dX12_behind_24 : decode cX12_behind 24 = .ok (.if_icmp .eq 27, 3) := by decide +kernel
theorem dX12_behind_27 : decode cX12_behind 27 = .ok (.iload_n 1, 1) := by decide +kernel
theorem dX12_behind_28 : decode cX12_behind 28 = .ok (.bipush 12, 2) := by decide +kernel
theorem dX12_behind_30 : decode cX12_behind 30 = .ok (.if_icmp .eq 21, 3) := by decide +kernel
theorem dX12_behind_33 : decode cX12_behind 33 = .ok (.iload_n 1, 1) := by decide +kernel
theorem dX12_behind_34 : decode cX12_behind 34 = .ok (.bipush 13, 2) := by decide +kernel
theorem dX12_behind_36 : decode cX12_behind 36 = .ok (.if_icmp .eq 15, 3) := by decide +kernel
theorem dX12_behind_39 : decode cX12_behind 39 = .ok (.iload_n 1, 1) := by decide +kernel
theorem dX12_behind_40 : decode cX12_behind 40 = .ok (.bipush 15, 2) := by decide +kernel
theorem dX12_behind_42 : decode cX12_behind 42 = .ok (.if_icmp .eq 9, 3) := by decide +kernel
theorem dX12_behind_45 : decode cX12_behind 45 = .ok (.iload_n 1, 1) := by decide +kernel
theorem dX12_behind_46 : decode cX12_behind 46 = .ok (.bipush 17, 2) := by decide +kernel
theorem dX12_behind_48 : decode cX12_behind 48 = .ok (.if_icmp .ne 7, 3) := by decide +kernel
theorem dX12_behind_51 : decode cX12_behind 51 = .ok (.iconst 0, 1) := by decide +kernel
theorem dX12_behind_52 : decode cX12_behind 52 = .ok (.goto 4, 3) := by decide +kernel
theorem dX12_behind_55 : decode cX12_behind 55 = .ok (.iconst 1, 1) := by decide +kernel
theorem dX12_behind_56 : decode cX12_behind 56 = .ok (.istore 4, 2) := by decide +kernel
theorem dX12_behind_58 : decode cX12_behind 58 = .ok (.iload_n 3, 1) := by decide +kernel
theorem dX12_behind_59 : decode cX12_behind 59 = .ok (.aload_n 0, 1) := by decide +kernel
theorem dX12_behind_60 : decode cX12_behind 60 = .ok (.iload_n 1, 1) := by decide +kernel
theorem dX12_behind_61 : decode cX12_behind 61 = .ok (.iload_n 2, 1) := by decide +kernel
theorem dX12_behind_62 : decode cX12_behind 62 = .ok (.invokevirtual 151, 3) := by decide +kernel
theorem dX12_behind_65 : decode cX12_behind 65 = .ok (.isub, 1) := by decide +kernel
theorem dX12_behind_66 : decode cX12_behind 66 = .ok (.iload 4, 2) := by decide +kernel
theorem dX12_behind_68 : decode cX12_behind 68 = .ok (.iadd, 1) := by decide +kernel
theorem dX12_behind_69 : decode cX12_behind 69 = .ok (.ireturn, 1) := by decide +kernel
theorem dX12_isTold_0 : decode cX12_isTold 0 = .ok (.iload_n 2, 1) := by decide +kernel
theorem dX12_isTold_1 : decode cX12_isTold 1 = .ok (.ifCond .lt 9, 3) := by decide +kernel
theorem dX12_isTold_4 : decode cX12_isTold 4 = .ok (.iload_n 2, 1) := by decide +kernel
theorem dX12_isTold_5 : decode cX12_isTold 5 = .ok (.bipush 17, 2) := by decide +kernel
theorem dX12_isTold_7 : decode cX12_isTold 7 = .ok (.if_icmp .le 5, 3) := by decide +kernel
theorem dX12_isTold_10 : decode cX12_isTold 10 = .ok (.iconst 0, 1) := by decide +kernel
theorem dX12_isTold_11 : decode cX12_isTold 11 = .ok (.ireturn, 1) := by decide +kernel
theorem dX12_isTold_12 : decode cX12_isTold 12 = .ok (.iload_n 2, 1) := by decide +kernel
theorem dX12_isTold_13 : decode cX12_isTold 13 = .ok (.iconst 1, 1) := by decide +kernel
theorem dX12_isTold_14 : decode cX12_isTold 14 = .ok (.if_icmp .eq 8, 3) := by decide +kernel
theorem dX12_isTold_17 : decode cX12_isTold 17 = .ok (.iload_n 2, 1) := by decide +kernel
theorem dX12_isTold_18 : decode cX12_isTold 18 = .ok (.iconst 2, 1) := by decide +kernel
theorem dX12_isTold_19 : decode cX12_isTold 19 = .ok (.if_icmp .ne 23, 3) := by decide +kernel
theorem dX12_isTold_22 : decode cX12_isTold 22 = .ok (.iload_n 3, 1) := by decide +kernel
theorem dX12_isTold_23 : decode cX12_isTold 23 = .ok (.ifCond .lt 17, 3) := by decide +kernel
theorem dX12_isTold_26 : decode cX12_isTold 26 = .ok (.iload_n 3, 1) := by decide +kernel
theorem dX12_isTold_27 : decode cX12_isTold 27 = .ok (.aload_n 0, 1) := by decide +kernel
theorem dX12_isTold_28 : decode cX12_isTold 28 = .ok (.getfield 13, 3) := by decide +kernel
theorem dX12_isTold_31 : decode cX12_isTold 31 = .ok (.iload_n 1, 1) := by decide +kernel
theorem dX12_isTold_32 : decode cX12_isTold 32 = .ok (.iaload, 1) := by decide +kernel
theorem dX12_isTold_33 : decode cX12_isTold 33 = .ok (.if_icmp .ge 7, 3) := by decide +kernel
theorem dX12_isTold_36 : decode cX12_isTold 36 = .ok (.iconst 1, 1) := by decide +kernel
theorem dX12_isTold_37 : decode cX12_isTold 37 = .ok (.goto 4, 3) := by decide +kernel
theorem dX12_isTold_40 : decode cX12_isTold 40 = .ok (.iconst 0, 1) := by decide +kernel
theorem dX12_isTold_41 : decode cX12_isTold 41 = .ok (.ireturn, 1) := by decide +kernel
theorem dX12_isTold_42 : decode cX12_isTold 42 = .ok (.iload_n 2, 1) := by decide +kernel
theorem dX12_isTold_43 : decode cX12_isTold 43 = .ok (.bipush 12, 2) := by decide +kernel
theorem dX12_isTold_45 : decode cX12_isTold 45 = .ok (.if_icmp .eq 9, 3) := by decide +kernel
theorem dX12_isTold_48 : decode cX12_isTold 48 = .ok (.iload_n 2, 1) := by decide +kernel
theorem dX12_isTold_49 : decode cX12_isTold 49 = .ok (.bipush 13, 2) := by decide +kernel
theorem dX12_isTold_51 : decode cX12_isTold 51 = .ok (.if_icmp .ne 23, 3) := by decide +kernel
theorem dX12_isTold_54 : decode cX12_isTold 54 = .ok (.iload_n 3, 1) := by decide +kernel
theorem dX12_isTold_55 : decode cX12_isTold 55 = .ok (.ifCond .lt 17, 3) := by decide +kernel
theorem dX12_isTold_58 : decode cX12_isTold 58 = .ok (.iload_n 3, 1) := by decide +kernel
theorem dX12_isTold_59 : decode cX12_isTold 59 = .ok (.aload_n 0, 1) := by decide +kernel
theorem dX12_isTold_60 : decode cX12_isTold 60 = .ok (.getfield 19, 3) := by decide +kernel
theorem dX12_isTold_63 : decode cX12_isTold 63 = .ok (.iload_n 1, 1) := by decide +kernel
theorem dX12_isTold_64 : decode cX12_isTold 64 = .ok (.iaload, 1) := by decide +kernel
theorem dX12_isTold_65 : decode cX12_isTold 65 = .ok (.if_icmp .ge 7, 3) := by decide +kernel
theorem dX12_isTold_68 : decode cX12_isTold 68 = .ok (.iconst 1, 1) := by decide +kernel
theorem dX12_isTold_69 : decode cX12_isTold 69 = .ok (.goto 4, 3) := by decide +kernel
theorem dX12_isTold_72 : decode cX12_isTold 72 = .ok (.iconst 0, 1) := by decide +kernel
theorem dX12_isTold_73 : decode cX12_isTold 73 = .ok (.ireturn, 1) := by decide +kernel
theorem dX12_isTold_74 : decode cX12_isTold 74 = .ok (.iload_n 2, 1) := by decide +kernel
theorem dX12_isTold_75 : decode cX12_isTold 75 = .ok (.bipush 14, 2) := by decide +kernel
theorem dX12_isTold_77 : decode cX12_isTold 77 = .ok (.if_icmp .ne 15, 3) := by decide +kernel
theorem dX12_isTold_80 : decode cX12_isTold 80 = .ok (.iload_n 3, 1) := by decide +kernel
theorem dX12_isTold_81 : decode cX12_isTold 81 = .ok (.ifCond .lt 15, 3) := by decide +kernel
theorem dX12_isTold_84 : decode cX12_isTold 84 = .ok (.iload_n 3, 1) := by decide +kernel
theorem dX12_isTold_85 : decode cX12_isTold 85 = .ok (.aload_n 0, 1) := by decide +kernel
theorem dX12_isTold_86 : decode cX12_isTold 86 = .ok (.getfield 141, 3) := by decide +kernel
theorem dX12_isTold_89 : decode cX12_isTold 89 = .ok (.if_icmp .ge 7, 3) := by decide +kernel
theorem dX12_isTold_92 : decode cX12_isTold 92 = .ok (.iconst 1, 1) := by decide +kernel
theorem dX12_isTold_93 : decode cX12_isTold 93 = .ok (.goto 4, 3) := by decide +kernel
theorem dX12_isTold_96 : decode cX12_isTold 96 = .ok (.iconst 0, 1) := by decide +kernel
theorem dX12_isTold_97 : decode cX12_isTold 97 = .ok (.ireturn, 1) := by decide +kernel
theorem dX12_check_0 : decode cX12_check 0 = .ok (.aload_n 0, 1) := by decide +kernel
theorem dX12_check_1 : decode cX12_check 1 = .ok (.iconst 0, 1) := by decide +kernel
theorem dX12_check_2 : decode cX12_check 2 = .ok (.putfield 137, 3) := by decide +kernel
theorem dX12_check_5 : decode cX12_check 5 = .ok (.aload_n 0, 1) := by decide +kernel
theorem dX12_check_6 : decode cX12_check 6 = .ok (.getfield 144, 3) := by decide +kernel
theorem dX12_check_9 : decode cX12_check 9 = .ok (.ifCond .eq 5, 3) := by decide +kernel
theorem dX12_check_12 : decode cX12_check 12 = .ok (.iconst 0, 1) := by decide +kernel
theorem dX12_check_13 : decode cX12_check 13 = .ok (.ireturn, 1) := by decide +kernel
theorem dX12_check_14 : decode cX12_check 14 = .ok (.aload_n 0, 1) := by decide +kernel
theorem dX12_check_15 : decode cX12_check 15 = .ok (.getfield 141, 3) := by decide +kernel
theorem dX12_check_18 : decode cX12_check 18 = .ok (.ifCond .ne 6, 3) := by decide +kernel
theorem dX12_check_21 : decode cX12_check 21 = .ok (.bipush 7, 2) := by decide +kernel
theorem dX12_check_23 : decode cX12_check 23 = .ok (.ireturn, 1) := by decide +kernel
theorem dX12_check_24 : decode cX12_check 24 = .ok (.iconst 0, 1) := by decide +kernel
theorem dX12_check_25 : decode cX12_check 25 = .ok (.istore_n 1, 1) := by decide +kernel
theorem dX12_check_26 : decode cX12_check 26 = .ok (.iload_n 1, 1) := by decide +kernel
theorem dX12_check_27 : decode cX12_check 27 = .ok (.aload_n 0, 1) := by decide +kernel
theorem dX12_check_28 : decode cX12_check 28 = .ok (.getfield 141, 3) := by decide +kernel
theorem dX12_check_31 : decode cX12_check 31 = .ok (.if_icmp .ge 26, 3) := by decide +kernel
theorem dX12_check_34 : decode cX12_check 34 = .ok (.aload_n 0, 1) := by decide +kernel
theorem dX12_check_35 : decode cX12_check 35 = .ok (.getfield 19, 3) := by decide +kernel
theorem dX12_check_38 : decode cX12_check 38 = .ok (.iload_n 1, 1) := by decide +kernel
theorem dX12_check_39 : decode cX12_check 39 = .ok (.iaload, 1) := by decide +kernel
theorem dX12_check_40 : decode cX12_check 40 = .ok (.ifCond .ne 11, 3) := by decide +kernel
theorem dX12_check_43 : decode cX12_check 43 = .ok (.bipush 6, 2) := by decide +kernel
theorem dX12_check_45 : decode cX12_check 45 = .ok (.bipush 8, 2) := by decide +kernel
theorem dX12_check_47 : decode cX12_check 47 = .ok (.iload_n 1, 1) := by decide +kernel
theorem dX12_check_48 : decode cX12_check 48 = .ok (.imul, 1) := by decide +kernel
theorem dX12_check_49 : decode cX12_check 49 = .ok (.iadd, 1) := by decide +kernel
theorem dX12_check_50 : decode cX12_check 50 = .ok (.ireturn, 1) := by decide +kernel
theorem dX12_check_51 : decode cX12_check 51 = .ok (.iinc 1 1, 3) := by decide +kernel
theorem dX12_check_54 : decode cX12_check 54 = .ok (.goto (-28), 3) := by decide +kernel
theorem dX12_check_57 : decode cX12_check 57 = .ok (.iconst 0, 1) := by decide +kernel
theorem dX12_check_58 : decode cX12_check 58 = .ok (.istore_n 1, 1) := by decide +kernel
theorem dX12_check_59 : decode cX12_check 59 = .ok (.iload_n 1, 1) := by decide +kernel
theorem dX12_check_60 : decode cX12_check 60 = .ok (.aload_n 0, 1) := by decide +kernel
theorem dX12_check_61 : decode cX12_check 61 = .ok (.getfield 141, 3) := by decide +kernel
theorem dX12_check_64 : decode cX12_check 64 = .ok (.if_icmp .ge 21, 3) := by decide +kernel
theorem dX12_check_67 : decode cX12_check 67 = .ok (.aload_n 0, 1) := by decide +kernel
theorem dX12_check_68 : decode cX12_check 68 = .ok (.iload_n 1, 1) := by decide +kernel
theorem dX12_check_69 : decode cX12_check 69 = .ok (.invokevirtual 155, 3) := by decide +kernel
theorem dX12_check_72 : decode cX12_check 72 = .ok (.istore_n 2, 1) := by decide +kernel
theorem dX12_check_73 : decode cX12_check 73 = .ok (.iload_n 2, 1) := by decide +kernel
theorem dX12_check_74 : decode cX12_check 74 = .ok (.ifCond .le 5, 3) := by decide +kernel
theorem dX12_check_77 : decode cX12_check 77 = .ok (.iload_n 2, 1) := by decide +kernel
theorem dX12_check_78 : decode cX12_check 78 = .ok (.ireturn, 1) := by decide +kernel
theorem dX12_check_79 : decode cX12_check 79 = .ok (.iinc 1 1, 3) := by decide +kernel
theorem dX12_check_82 : decode cX12_check 82 = .ok (.goto (-23), 3) := by decide +kernel
theorem dX12_check_85 : decode cX12_check 85 = .ok (.aload_n 0, 1) := by decide +kernel
theorem dX12_check_86 : decode cX12_check 86 = .ok (.iconst 1, 1) := by decide +kernel
theorem dX12_check_87 : decode cX12_check 87 = .ok (.putfield 144, 3) := by decide +kernel
theorem dX12_check_90 : decode cX12_check 90 = .ok (.aload_n 0, 1) := by decide +kernel
theorem dX12_check_91 : decode cX12_check 91 = .ok (.invokevirtual 159, 3) := by decide +kernel
theorem dX12_check_94 : decode cX12_check 94 = .ok (.iconst 0, 1) := by decide +kernel
theorem dX12_check_95 : decode cX12_check 95 = .ok (.ireturn, 1) := by decide +kernel
theorem dX12_checks_0 : decode cX12_checks 0 = .ok (.aload_n 0, 1) := by decide +kernel
theorem dX12_checks_1 : decode cX12_checks 1 = .ok (.getfield 16, 3) := by decide +kernel
theorem dX12_checks_4 : decode cX12_checks 4 = .ok (.iload_n 1, 1) := by decide +kernel
theorem dX12_checks_5 : decode cX12_checks 5 = .ok (.iaload, 1) := by decide +kernel
theorem dX12_checks_6 : decode cX12_checks 6 = .ok (.istore_n 2, 1) := by decide +kernel
theorem dX12_checks_7 : decode cX12_checks 7 = .ok (.iconst 0, 1) := by decide +kernel
theorem dX12_checks_8 : decode cX12_checks 8 = .ok (.istore_n 3, 1) := by decide +kernel
theorem dX12_checks_9 : decode cX12_checks 9 = .ok (.iload_n 3, 1) := by decide +kernel
theorem dX12_checks_10 : decode cX12_checks 10 = .ok (.aload_n 0, 1) := by decide +kernel
theorem dX12_checks_11 : decode cX12_checks 11 = .ok (.getfield 19, 3) := by decide +kernel
theorem dX12_checks_14 : decode cX12_checks 14 = .ok (.iload_n 1, 1) := by decide +kernel
theorem dX12_checks_15 : decode cX12_checks 15 = .ok (.iaload, 1) := by decide +kernel
theorem dX12_checks_16 : decode cX12_checks 16 = .ok (.if_icmp .ge 27, 3) := by decide +kernel
theorem dX12_checks_19 : decode cX12_checks 19 = .ok (.aload_n 0, 1) := by decide +kernel
theorem dX12_checks_20 : decode cX12_checks 20 = .ok (.getfield 28, 3) := by decide +kernel
theorem dX12_checks_23 : decode cX12_checks 23 = .ok (.iload_n 2, 1) := by decide +kernel
theorem dX12_checks_24 : decode cX12_checks 24 = .ok (.iload_n 3, 1) := by decide +kernel
theorem dX12_checks_25 : decode cX12_checks 25 = .ok (.iadd, 1) := by decide +kernel
theorem dX12_checks_26 : decode cX12_checks 26 = .ok (.iconst (-1), 1) := by decide +kernel
theorem dX12_checks_27 : decode cX12_checks 27 = .ok (.iastore, 1) := by decide +kernel
theorem dX12_checks_28 : decode cX12_checks 28 = .ok (.aload_n 0, 1) := by decide +kernel
theorem dX12_checks_29 : decode cX12_checks 29 = .ok (.getfield 31, 3) := by decide +kernel
theorem dX12_checks_32 : decode cX12_checks 32 = .ok (.iload_n 2, 1) := by decide +kernel
theorem dX12_checks_33 : decode cX12_checks 33 = .ok (.iload_n 3, 1) := by decide +kernel
theorem dX12_checks_34 : decode cX12_checks 34 = .ok (.iadd, 1) := by decide +kernel
theorem dX12_checks_35 : decode cX12_checks 35 = .ok (.iconst 0, 1) := by decide +kernel
theorem dX12_checks_36 : decode cX12_checks 36 = .ok (.bastore, 1) := by decide +kernel
theorem dX12_checks_37 : decode cX12_checks 37 = .ok (.iinc 3 1, 3) := by decide +kernel
theorem dX12_checks_40 : decode cX12_checks 40 = .ok (.goto (-31), 3) := by decide +kernel
theorem dX12_checks_43 : decode cX12_checks 43 = .ok (.aload_n 0, 1) := by decide +kernel
theorem dX12_checks_44 : decode cX12_checks 44 = .ok (.getfield 28, 3) := by decide +kernel
theorem dX12_checks_47 : decode cX12_checks 47 = .ok (.iload_n 2, 1) := by decide +kernel
theorem dX12_checks_48 : decode cX12_checks 48 = .ok (.iconst 0, 1) := by decide +kernel
theorem dX12_checks_49 : decode cX12_checks 49 = .ok (.iastore, 1) := by decide +kernel
theorem dX12_checks_50 : decode cX12_checks 50 = .ok (.iconst 0, 1) := by decide +kernel
theorem dX12_checks_51 : decode cX12_checks 51 = .ok (.istore_n 3, 1) := by decide +kernel
theorem dX12_checks_52 : decode cX12_checks 52 = .ok (.iload_n 3, 1) := by decide +kernel
theorem dX12_checks_53 : decode cX12_checks 53 = .ok (.aload_n 0, 1) := by decide +kernel
theorem dX12_checks_54 : decode cX12_checks 54 = .ok (.getfield 19, 3) := by decide +kernel
theorem dX12_checks_57 : decode cX12_checks 57 = .ok (.iload_n 1, 1) := by decide +kernel
theorem dX12_checks_58 : decode cX12_checks 58 = .ok (.iaload, 1) := by decide +kernel
theorem dX12_checks_59 : decode cX12_checks 59 = .ok (.if_icmp .ge 72, 3) := by decide +kernel
theorem dX12_checks_62 : decode cX12_checks 62 = .ok (.aload_n 0, 1) := by decide +kernel
theorem dX12_checks_63 : decode cX12_checks 63 = .ok (.getfield 28, 3) := by decide +kernel
theorem dX12_checks_66 : decode cX12_checks 66 = .ok (.iload_n 2, 1) := by decide +kernel
theorem dX12_checks_67 : decode cX12_checks 67 = .ok (.iload_n 3, 1) := by decide +kernel
theorem dX12_checks_68 : decode cX12_checks 68 = .ok (.iadd, 1) := by decide +kernel
theorem dX12_checks_69 : decode cX12_checks 69 = .ok (.iaload, 1) := by decide +kernel
theorem dX12_checks_70 : decode cX12_checks 70 = .ok (.ifCond .lt 14, 3) := by decide +kernel
theorem dX12_checks_73 : decode cX12_checks 73 = .ok (.aload_n 0, 1) := by decide +kernel
theorem dX12_checks_74 : decode cX12_checks 74 = .ok (.getfield 31, 3) := by decide +kernel
theorem dX12_checks_77 : decode cX12_checks 77 = .ok (.iload_n 2, 1) := by decide +kernel
theorem dX12_checks_78 : decode cX12_checks 78 = .ok (.iload_n 3, 1) := by decide +kernel
theorem dX12_checks_79 : decode cX12_checks 79 = .ok (.iadd, 1) := by decide +kernel
theorem dX12_checks_80 : decode cX12_checks 80 = .ok (.baload, 1) := by decide +kernel
theorem dX12_checks_81 : decode cX12_checks 81 = .ok (.ifCond .eq 9, 3) := by decide +kernel
theorem dX12_checks_84 : decode cX12_checks 84 = .ok (.iinc 3 1, 3) := by decide +kernel
theorem dX12_checks_87 : decode cX12_checks 87 = .ok (.goto (-35), 3) := by decide +kernel
theorem dX12_checks_90 : decode cX12_checks 90 = .ok (.aload_n 0, 1) := by decide +kernel
theorem dX12_checks_91 : decode cX12_checks 91 = .ok (.getfield 31, 3) := by decide +kernel
theorem dX12_checks_94 : decode cX12_checks 94 = .ok (.iload_n 2, 1) := by decide +kernel
theorem dX12_checks_95 : decode cX12_checks 95 = .ok (.iload_n 3, 1) := by decide +kernel
theorem dX12_checks_96 : decode cX12_checks 96 = .ok (.iadd, 1) := by decide +kernel
theorem dX12_checks_97 : decode cX12_checks 97 = .ok (.iconst 1, 1) := by decide +kernel
theorem dX12_checks_98 : decode cX12_checks 98 = .ok (.bastore, 1) := by decide +kernel
theorem dX12_checks_99 : decode cX12_checks 99 = .ok (.aload_n 0, 1) := by decide +kernel
theorem dX12_checks_100 : decode cX12_checks 100 = .ok (.iload_n 1, 1) := by decide +kernel
theorem dX12_checks_101 : decode cX12_checks 101 = .ok (.iload_n 3, 1) := by decide +kernel
theorem dX12_checks_102 : decode cX12_checks 102 = .ok (.invokevirtual 162, 3) := by decide +kernel
theorem dX12_checks_105 : decode cX12_checks 105 = .ok (.istore 4, 2) := by decide +kernel
theorem dX12_checks_107 : decode cX12_checks 107 = .ok (.iload 4, 2) := by decide +kernel
theorem dX12_checks_109 : decode cX12_checks 109 = .ok (.ifCond .le 17, 3) := by decide +kernel
theorem dX12_checks_112 : decode cX12_checks 112 = .ok (.iload 4, 2) := by decide +kernel
theorem dX12_checks_114 : decode cX12_checks 114 = .ok (.bipush 8, 2) := by decide +kernel
theorem dX12_checks_116 : decode cX12_checks 116 = .ok (.iload_n 1, 1) := by decide +kernel
theorem dX12_checks_117 : decode cX12_checks 117 = .ok (.imul, 1) := by decide +kernel
theorem dX12_checks_118 : decode cX12_checks 118 = .ok (.iadd, 1) := by decide +kernel
theorem dX12_checks_119 : decode cX12_checks 119 = .ok (.sipush 128, 3) := by decide +kernel
theorem dX12_checks_122 : decode cX12_checks 122 = .ok (.iload_n 3, 1) := by decide +kernel
theorem dX12_checks_123 : decode cX12_checks 123 = .ok (.imul, 1) := by decide +kernel
theorem dX12_checks_124 : decode cX12_checks 124 = .ok (.iadd, 1) := by decide +kernel
theorem dX12_checks_125 : decode cX12_checks 125 = .ok (.ireturn, 1) := by decide +kernel
theorem dX12_checks_126 : decode cX12_checks 126 = .ok (.iconst 0, 1) := by decide +kernel
theorem dX12_checks_127 : decode cX12_checks 127 = .ok (.istore_n 3, 1) := by decide +kernel
theorem dX12_checks_128 : decode cX12_checks 128 = .ok (.goto (-76), 3) := by decide +kernel
theorem dX12_checks_131 : decode cX12_checks 131 = .ok (.iconst 0, 1) := by decide +kernel
theorem dX12_checks_132 : decode cX12_checks 132 = .ok (.ireturn, 1) := by decide +kernel
theorem dX12_looksAt_0 : decode cX12_looksAt 0 = .ok (.aload_n 0, 1) := by decide +kernel
theorem dX12_looksAt_1 : decode cX12_looksAt 1 = .ok (.getfield 22, 3) := by decide +kernel
theorem dX12_looksAt_4 : decode cX12_looksAt 4 = .ok (.aload_n 0, 1) := by decide +kernel
theorem dX12_looksAt_5 : decode cX12_looksAt 5 = .ok (.getfield 16, 3) := by decide +kernel
theorem dX12_looksAt_8 : decode cX12_looksAt 8 = .ok (.iload_n 1, 1) := by decide +kernel
theorem dX12_looksAt_9 : decode cX12_looksAt 9 = .ok (.iaload, 1) := by decide +kernel
theorem dX12_looksAt_10 : decode cX12_looksAt 10 = .ok (.iload_n 2, 1) := by decide +kernel
theorem dX12_looksAt_11 : decode cX12_looksAt 11 = .ok (.iadd, 1) := by decide +kernel
theorem dX12_looksAt_12 : decode cX12_looksAt 12 = .ok (.iaload, 1) := by decide +kernel
theorem dX12_looksAt_13 : decode cX12_looksAt 13 = .ok (.istore_n 3, 1) := by decide +kernel
theorem dX12_looksAt_14 : decode cX12_looksAt 14 = .ok (.aload_n 0, 1) := by decide +kernel
theorem dX12_looksAt_15 : decode cX12_looksAt 15 = .ok (.getfield 25, 3) := by decide +kernel
theorem dX12_looksAt_18 : decode cX12_looksAt 18 = .ok (.aload_n 0, 1) := by decide +kernel
theorem dX12_looksAt_19 : decode cX12_looksAt 19 = .ok (.getfield 16, 3) := by decide +kernel
theorem dX12_looksAt_22 : decode cX12_looksAt 22 = .ok (.iload_n 1, 1) := by decide +kernel
theorem dX12_looksAt_23 : decode cX12_looksAt 23 = .ok (.iaload, 1) := by decide +kernel
theorem dX12_looksAt_24 : decode cX12_looksAt 24 = .ok (.iload_n 2, 1) := by decide +kernel
theorem dX12_looksAt_25 : decode cX12_looksAt 25 = .ok (.iadd, 1) := by decide +kernel
theorem dX12_looksAt_26 : decode cX12_looksAt 26 = .ok (.iaload, 1) := by decide +kernel
theorem dX12_looksAt_27 : decode cX12_looksAt 27 = .ok (.istore 4, 2) := by decide +kernel
theorem dX12_looksAt_29 : decode cX12_looksAt 29 = .ok (.aload_n 0, 1) := by decide +kernel
theorem dX12_looksAt_30 : decode cX12_looksAt 30 = .ok (.getfield 28, 3) := by decide +kernel
theorem dX12_looksAt_33 : decode cX12_looksAt 33 = .ok (.aload_n 0, 1) := by decide +kernel
theorem dX12_looksAt_34 : decode cX12_looksAt 34 = .ok (.getfield 16, 3) := by decide +kernel
theorem dX12_looksAt_37 : decode cX12_looksAt 37 = .ok (.iload_n 1, 1) := by decide +kernel
theorem dX12_looksAt_38 : decode cX12_looksAt 38 = .ok (.iaload, 1) := by decide +kernel
theorem dX12_looksAt_39 : decode cX12_looksAt 39 = .ok (.iload_n 2, 1) := by decide +kernel
theorem dX12_looksAt_40 : decode cX12_looksAt 40 = .ok (.iadd, 1) := by decide +kernel
theorem dX12_looksAt_41 : decode cX12_looksAt 41 = .ok (.iaload, 1) := by decide +kernel
theorem dX12_looksAt_42 : decode cX12_looksAt 42 = .ok (.istore 5, 2) := by decide +kernel
theorem dX12_looksAt_44 : decode cX12_looksAt 44 = .ok (.aload_n 0, 1) := by decide +kernel
theorem dX12_looksAt_45 : decode cX12_looksAt 45 = .ok (.iload_n 1, 1) := by decide +kernel
theorem dX12_looksAt_46 : decode cX12_looksAt 46 = .ok (.iload_n 3, 1) := by decide +kernel
theorem dX12_looksAt_47 : decode cX12_looksAt 47 = .ok (.iload 4, 2) := by decide +kernel
theorem dX12_looksAt_49 : decode cX12_looksAt 49 = .ok (.invokevirtual 165, 3) := by decide +kernel
theorem dX12_looksAt_52 : decode cX12_looksAt 52 = .ok (.ifCond .ne 5, 3) := by decide +kernel
theorem dX12_looksAt_55 : decode cX12_looksAt 55 = .ok (.iconst 1, 1) := by decide +kernel
theorem dX12_looksAt_56 : decode cX12_looksAt 56 = .ok (.ireturn, 1) := by decide +kernel
theorem dX12_looksAt_57 : decode cX12_looksAt 57 = .ok (.iload 5, 2) := by decide +kernel
theorem dX12_looksAt_59 : decode cX12_looksAt 59 = .ok (.aload_n 0, 1) := by decide +kernel
theorem dX12_looksAt_60 : decode cX12_looksAt 60 = .ok (.iload_n 3, 1) := by decide +kernel
theorem dX12_looksAt_61 : decode cX12_looksAt 61 = .ok (.iload 4, 2) := by decide +kernel
theorem dX12_looksAt_63 : decode cX12_looksAt 63 = .ok (.invokevirtual 151, 3) := by decide +kernel
theorem dX12_looksAt_66 : decode cX12_looksAt 66 = .ok (.if_icmp .ge 5, 3) := by decide +kernel
theorem dX12_looksAt_69 : decode cX12_looksAt 69 = .ok (.iconst 2, 1) := by decide +kernel
theorem dX12_looksAt_70 : decode cX12_looksAt 70 = .ok (.ireturn, 1) := by decide +kernel
theorem dX12_looksAt_71 : decode cX12_looksAt 71 = .ok (.aload_n 0, 1) := by decide +kernel
theorem dX12_looksAt_72 : decode cX12_looksAt 72 = .ok (.iload_n 3, 1) := by decide +kernel
theorem dX12_looksAt_73 : decode cX12_looksAt 73 = .ok (.iload 4, 2) := by decide +kernel
theorem dX12_looksAt_75 : decode cX12_looksAt 75 = .ok (.iload 5, 2) := by decide +kernel
theorem dX12_looksAt_77 : decode cX12_looksAt 77 = .ok (.invokevirtual 169, 3) := by decide +kernel
theorem dX12_looksAt_80 : decode cX12_looksAt 80 = .ok (.istore 6, 2) := by decide +kernel
theorem dX12_looksAt_82 : decode cX12_looksAt 82 = .ok (.iload 6, 2) := by decide +kernel
theorem dX12_looksAt_84 : decode cX12_looksAt 84 = .ok (.bipush 12, 2) := by decide +kernel
theorem dX12_looksAt_86 : decode cX12_looksAt 86 = .ok (.if_icmp .le 5, 3) := by decide +kernel
theorem dX12_looksAt_89 : decode cX12_looksAt 89 = .ok (.iconst 3, 1) := by decide +kernel
theorem dX12_looksAt_90 : decode cX12_looksAt 90 = .ok (.ireturn, 1) := by decide +kernel
theorem dX12_looksAt_91 : decode cX12_looksAt 91 = .ok (.iconst 0, 1) := by decide +kernel
theorem dX12_looksAt_92 : decode cX12_looksAt 92 = .ok (.istore 7, 2) := by decide +kernel
theorem dX12_looksAt_94 : decode cX12_looksAt 94 = .ok (.iload_n 3, 1) := by decide +kernel
theorem dX12_looksAt_95 : decode cX12_looksAt 95 = .ok (.bipush 12, 2) := by decide +kernel
theorem dX12_looksAt_97 : decode cX12_looksAt 97 = .ok (.if_icmp .eq 37, 3) := by decide +kernel
theorem dX12_looksAt_100 : decode cX12_looksAt 100 = .ok (.iload_n 3, 1) := by decide +kernel
theorem dX12_looksAt_101 : decode cX12_looksAt 101 = .ok (.bipush 15, 2) := by decide +kernel
theorem dX12_looksAt_103 : decode cX12_looksAt 103 = .ok (.if_icmp .eq 31, 3) := by decide +kernel
theorem dX12_looksAt_106 : decode cX12_looksAt 106 = .ok (.iload_n 2, 1) := by decide +kernel
theorem dX12_looksAt_107 : decode cX12_looksAt 107 = .ok (.iconst 1, 1) := by decide +kernel
theorem dX12_looksAt_108 : decode cX12_looksAt 108 = .ok (.iadd, 1) := by decide +kernel
theorem dX12_looksAt_109 : decode cX12_looksAt 109 = .ok (.aload_n 0, 1) := by decide +kernel
theorem dX12_looksAt_110 : decode cX12_looksAt 110 = .ok (.getfield 19, 3) := by decide +kernel
theorem dX12_looksAt_113 : decode cX12_looksAt 113 = .ok (.iload_n 1, 1) := by decide +kernel
theorem dX12_looksAt_114 : decode cX12_looksAt 114 = .ok (.iaload, 1) := by decide +kernel
theorem dX12_looksAt_115 : decode cX12_looksAt 115 = .ok (.if_icmp .ne 7, 3) := by decide +kernel
theorem dX12_looksAt_118 : decode cX12_looksAt 118 = .ok (.iconst 4, 1) := by decide +kernel
theorem dX12_looksAt_119 : decode cX12_looksAt 119 = .ok (.goto 13, 3) := by decide +kernel
theorem dX12_looksAt_122 : decode cX12_looksAt 122 = .ok (.aload_n 0, 1) := by decide +kernel
theorem dX12_looksAt_123 : decode cX12_looksAt 123 = .ok (.iload_n 1, 1) := by decide +kernel
theorem dX12_looksAt_124 : decode cX12_looksAt 124 = .ok (.iload_n 2, 1) := by decide +kernel
theorem dX12_looksAt_125 : decode cX12_looksAt 125 = .ok (.iconst 1, 1) := by decide +kernel
theorem dX12_looksAt_126 : decode cX12_looksAt 126 = .ok (.iadd, 1) := by decide +kernel
theorem dX12_looksAt_127 : decode cX12_looksAt 127 = .ok (.iload 6, 2) := by decide +kernel
theorem dX12_looksAt_129 : decode cX12_looksAt 129 = .ok (.invokevirtual 173, 3) := by decide +kernel
theorem dX12_looksAt_132 : decode cX12_looksAt 132 = .ok (.istore 7, 2) := by decide +kernel
theorem dX12_looksAt_134 : decode cX12_looksAt 134 = .ok (.iload 7, 2) := by decide +kernel
theorem dX12_looksAt_136 : decode cX12_looksAt 136 = .ok (.ifCond .ne 26, 3) := by decide +kernel
theorem dX12_looksAt_139 : decode cX12_looksAt 139 = .ok (.iload_n 3, 1) := by decide +kernel
theorem dX12_looksAt_140 : decode cX12_looksAt 140 = .ok (.bipush 12, 2) := by decide +kernel
theorem dX12_looksAt_142 : decode cX12_looksAt 142 = .ok (.if_icmp .eq 9, 3) := by decide +kernel
theorem dX12_looksAt_145 : decode cX12_looksAt 145 = .ok (.iload_n 3, 1) := by decide +kernel
theorem dX12_looksAt_146 : decode cX12_looksAt 146 = .ok (.bipush 13, 2) := by decide +kernel
theorem dX12_looksAt_148 : decode cX12_looksAt 148 = .ok (.if_icmp .ne 14, 3) := by decide +kernel
theorem dX12_looksAt_151 : decode cX12_looksAt 151 = .ok (.aload_n 0, 1) := by decide +kernel
theorem dX12_looksAt_152 : decode cX12_looksAt 152 = .ok (.iload_n 1, 1) := by decide +kernel
theorem dX12_looksAt_153 : decode cX12_looksAt 153 = .ok (.iload 4, 2) := by decide +kernel
theorem dX12_looksAt_155 : decode cX12_looksAt 155 = .ok (.iload 6, 2) := by decide +kernel
theorem dX12_looksAt_157 : decode cX12_looksAt 157 = .ok (.invokevirtual 173, 3) := by decide +kernel
theorem dX12_looksAt_160 : decode cX12_looksAt 160 = .ok (.istore 7, 2) := by decide +kernel
theorem dX12_looksAt_162 : decode cX12_looksAt 162 = .ok (.iload 7, 2) := by decide +kernel
theorem dX12_looksAt_164 : decode cX12_looksAt 164 = .ok (.ireturn, 1) := by decide +kernel
theorem dX12_comes_0 : decode cX12_comes 0 = .ok (.aload_n 0, 1) := by decide +kernel
theorem dX12_comes_1 : decode cX12_comes 1 = .ok (.getfield 16, 3) := by decide +kernel
theorem dX12_comes_4 : decode cX12_comes 4 = .ok (.iload_n 1, 1) := by decide +kernel
theorem dX12_comes_5 : decode cX12_comes 5 = .ok (.iaload, 1) := by decide +kernel
theorem dX12_comes_6 : decode cX12_comes 6 = .ok (.iload_n 2, 1) := by decide +kernel
theorem dX12_comes_7 : decode cX12_comes 7 = .ok (.iadd, 1) := by decide +kernel
theorem dX12_comes_8 : decode cX12_comes 8 = .ok (.istore 4, 2) := by decide +kernel
theorem dX12_comes_10 : decode cX12_comes 10 = .ok (.aload_n 0, 1) := by decide +kernel
theorem dX12_comes_11 : decode cX12_comes 11 = .ok (.getfield 28, 3) := by decide +kernel
theorem dX12_comes_14 : decode cX12_comes 14 = .ok (.iload 4, 2) := by decide +kernel
theorem dX12_comes_16 : decode cX12_comes 16 = .ok (.iaload, 1) := by decide +kernel
theorem dX12_comes_17 : decode cX12_comes 17 = .ok (.ifCond .lt 20, 3) := by decide +kernel
theorem dX12_comes_20 : decode cX12_comes 20 = .ok (.aload_n 0, 1) := by decide +kernel
theorem dX12_comes_21 : decode cX12_comes 21 = .ok (.getfield 28, 3) := by decide +kernel
theorem dX12_comes_24 : decode cX12_comes 24 = .ok (.iload 4, 2) := by decide +kernel
theorem dX12_comes_26 : decode cX12_comes 26 = .ok (.iaload, 1) := by decide +kernel
theorem dX12_comes_27 : decode cX12_comes 27 = .ok (.iload_n 3, 1) := by decide +kernel
theorem dX12_comes_28 : decode cX12_comes 28 = .ok (.if_icmp .ne 7, 3) := by decide +kernel
theorem dX12_comes_31 : decode cX12_comes 31 = .ok (.iconst 0, 1) := by decide +kernel
theorem dX12_comes_32 : decode cX12_comes 32 = .ok (.goto 4, 3) := by decide +kernel
theorem dX12_comes_35 : decode cX12_comes 35 = .ok (.iconst 5, 1) := by decide +kernel
theorem dX12_comes_36 : decode cX12_comes 36 = .ok (.ireturn, 1) := by decide +kernel
theorem dX12_comes_37 : decode cX12_comes 37 = .ok (.aload_n 0, 1) := by decide +kernel
theorem dX12_comes_38 : decode cX12_comes 38 = .ok (.getfield 28, 3) := by decide +kernel
theorem dX12_comes_41 : decode cX12_comes 41 = .ok (.iload 4, 2) := by decide +kernel
theorem dX12_comes_43 : decode cX12_comes 43 = .ok (.iload_n 3, 1) := by decide +kernel
theorem dX12_comes_44 : decode cX12_comes 44 = .ok (.iastore, 1) := by decide +kernel
theorem dX12_comes_45 : decode cX12_comes 45 = .ok (.iconst 0, 1) := by decide +kernel
theorem dX12_comes_46 : decode cX12_comes 46 = .ok (.ireturn, 1) := by decide +kernel
theorem dX12_depth_0 : decode cX12_depth 0 = .ok (.aload_n 0, 1) := by decide +kernel
theorem dX12_depth_1 : decode cX12_depth 1 = .ok (.iconst 0, 1) := by decide +kernel
theorem dX12_depth_2 : decode cX12_depth 2 = .ok (.putfield 137, 3) := by decide +kernel
theorem dX12_depth_5 : decode cX12_depth 5 = .ok (.aload_n 0, 1) := by decide +kernel
theorem dX12_depth_6 : decode cX12_depth 6 = .ok (.getfield 144, 3) := by decide +kernel
theorem dX12_depth_9 : decode cX12_depth 9 = .ok (.ifCond .eq 29, 3) := by decide +kernel
theorem dX12_depth_12 : decode cX12_depth 12 = .ok (.iload_n 1, 1) := by decide +kernel
theorem dX12_depth_13 : decode cX12_depth 13 = .ok (.ifCond .lt 25, 3) := by decide +kernel
theorem dX12_depth_16 : decode cX12_depth 16 = .ok (.iload_n 1, 1) := by decide +kernel
theorem dX12_depth_17 : decode cX12_depth 17 = .ok (.aload_n 0, 1) := by decide +kernel
theorem dX12_depth_18 : decode cX12_depth 18 = .ok (.getfield 141, 3) := by decide +kernel
theorem dX12_depth_21 : decode cX12_depth 21 = .ok (.if_icmp .ge 17, 3) := by decide +kernel
theorem dX12_depth_24 : decode cX12_depth 24 = .ok (.iload_n 2, 1) := by decide +kernel
theorem dX12_depth_25 : decode cX12_depth 25 = .ok (.ifCond .lt 13, 3) := by decide +kernel
theorem dX12_depth_28 : decode cX12_depth 28 = .ok (.iload_n 2, 1) := by decide +kernel
theorem dX12_depth_29 : decode cX12_depth 29 = .ok (.aload_n 0, 1) := by decide +kernel
theorem dX12_depth_30 : decode cX12_depth 30 = .ok (.getfield 19, 3) := by decide +kernel
theorem dX12_depth_33 : decode cX12_depth 33 = .ok (.iload_n 1, 1) := by decide +kernel
theorem dX12_depth_34 : decode cX12_depth 34 = .ok (.iaload, 1) := by decide +kernel
theorem dX12_depth_35 : decode cX12_depth 35 = .ok (.if_icmp .lt 5, 3) := by decide +kernel
theorem dX12_depth_38 : decode cX12_depth 38 = .ok (.iconst (-1), 1) := by decide +kernel
theorem dX12_depth_39 : decode cX12_depth 39 = .ok (.ireturn, 1) := by decide +kernel
theorem dX12_depth_40 : decode cX12_depth 40 = .ok (.aload_n 0, 1) := by decide +kernel
theorem dX12_depth_41 : decode cX12_depth 41 = .ok (.getfield 28, 3) := by decide +kernel
theorem dX12_depth_44 : decode cX12_depth 44 = .ok (.aload_n 0, 1) := by decide +kernel
theorem dX12_depth_45 : decode cX12_depth 45 = .ok (.getfield 16, 3) := by decide +kernel
theorem dX12_depth_48 : decode cX12_depth 48 = .ok (.iload_n 1, 1) := by decide +kernel
theorem dX12_depth_49 : decode cX12_depth 49 = .ok (.iaload, 1) := by decide +kernel
theorem dX12_depth_50 : decode cX12_depth 50 = .ok (.iload_n 2, 1) := by decide +kernel
theorem dX12_depth_51 : decode cX12_depth 51 = .ok (.iadd, 1) := by decide +kernel
theorem dX12_depth_52 : decode cX12_depth 52 = .ok (.iaload, 1) := by decide +kernel
theorem dX12_depth_53 : decode cX12_depth 53 = .ok (.ireturn, 1) := by decide +kernel
theorem dX12_place_0 : decode cX12_place 0 = .ok (.aload_n 0, 1) := by decide +kernel
theorem dX12_place_1 : decode cX12_place 1 = .ok (.getfield 35, 3) := by decide +kernel
theorem dX12_place_4 : decode cX12_place 4 = .ok (.aload_n 0, 1) := by decide +kernel
theorem dX12_place_5 : decode cX12_place 5 = .ok (.getfield 176, 3) := by decide +kernel
theorem dX12_place_8 : decode cX12_place 8 = .ok (.iload_n 1, 1) := by decide +kernel
theorem dX12_place_9 : decode cX12_place 9 = .ok (.iastore, 1) := by decide +kernel
theorem dX12_place_10 : decode cX12_place 10 = .ok (.aload_n 0, 1) := by decide +kernel
theorem dX12_place_11 : decode cX12_place 11 = .ok (.getfield 38, 3) := by decide +kernel
theorem dX12_place_14 : decode cX12_place 14 = .ok (.aload_n 0, 1) := by decide +kernel
theorem dX12_place_15 : decode cX12_place 15 = .ok (.getfield 176, 3) := by decide +kernel
theorem dX12_place_18 : decode cX12_place 18 = .ok (.iload_n 2, 1) := by decide +kernel
theorem dX12_place_19 : decode cX12_place 19 = .ok (.iastore, 1) := by decide +kernel
theorem dX12_place_20 : decode cX12_place 20 = .ok (.aload_n 0, 1) := by decide +kernel
theorem dX12_place_21 : decode cX12_place 21 = .ok (.getfield 44, 3) := by decide +kernel
theorem dX12_place_24 : decode cX12_place 24 = .ok (.aload_n 0, 1) := by decide +kernel
theorem dX12_place_25 : decode cX12_place 25 = .ok (.getfield 176, 3) := by decide +kernel
theorem dX12_place_28 : decode cX12_place 28 = .ok (.iconst 0, 1) := by decide +kernel
theorem dX12_place_29 : decode cX12_place 29 = .ok (.iastore, 1) := by decide +kernel
theorem dX12_place_30 : decode cX12_place 30 = .ok (.aload_n 0, 1) := by decide +kernel
theorem dX12_place_31 : decode cX12_place 31 = .ok (.dup, 1) := by decide +kernel
theorem dX12_place_32 : decode cX12_place 32 = .ok (.getfield 176, 3) := by decide +kernel
theorem dX12_place_35 : decode cX12_place 35 = .ok (.iconst 1, 1) := by decide +kernel
theorem dX12_place_36 : decode cX12_place 36 = .ok (.iadd, 1) := by decide +kernel
theorem dX12_place_37 : decode cX12_place 37 = .ok (.putfield 176, 3) := by decide +kernel
theorem dX12_place_40 : decode cX12_place 40 = .ok (.return_, 1) := by decide +kernel
theorem dX12_tells_0 : decode cX12_tells 0 = .ok (.aload_n 0, 1) := by decide +kernel
theorem dX12_tells_1 : decode cX12_tells 1 = .ok (.getfield 41, 3) := by decide +kernel
theorem dX12_tells_4 : decode cX12_tells 4 = .ok (.bipush 8, 2) := by decide +kernel
theorem dX12_tells_6 : decode cX12_tells 6 = .ok (.aload_n 0, 1) := by decide +kernel
theorem dX12_tells_7 : decode cX12_tells 7 = .ok (.getfield 176, 3) := by decide +kernel
theorem dX12_tells_10 : decode cX12_tells 10 = .ok (.iconst 1, 1) := by decide +kernel
theorem dX12_tells_11 : decode cX12_tells 11 = .ok (.isub, 1) := by decide +kernel
theorem dX12_tells_12 : decode cX12_tells 12 = .ok (.imul, 1) := by decide +kernel
theorem dX12_tells_13 : decode cX12_tells 13 = .ok (.aload_n 0, 1) := by decide +kernel
theorem dX12_tells_14 : decode cX12_tells 14 = .ok (.getfield 44, 3) := by decide +kernel
theorem dX12_tells_17 : decode cX12_tells 17 = .ok (.aload_n 0, 1) := by decide +kernel
theorem dX12_tells_18 : decode cX12_tells 18 = .ok (.getfield 176, 3) := by decide +kernel
theorem dX12_tells_21 : decode cX12_tells 21 = .ok (.iconst 1, 1) := by decide +kernel
theorem dX12_tells_22 : decode cX12_tells 22 = .ok (.isub, 1) := by decide +kernel
theorem dX12_tells_23 : decode cX12_tells 23 = .ok (.iaload, 1) := by decide +kernel
theorem dX12_tells_24 : decode cX12_tells 24 = .ok (.iadd, 1) := by decide +kernel
theorem dX12_tells_25 : decode cX12_tells 25 = .ok (.iload_n 1, 1) := by decide +kernel
theorem dX12_tells_26 : decode cX12_tells 26 = .ok (.iastore, 1) := by decide +kernel
theorem dX12_tells_27 : decode cX12_tells 27 = .ok (.aload_n 0, 1) := by decide +kernel
theorem dX12_tells_28 : decode cX12_tells 28 = .ok (.getfield 44, 3) := by decide +kernel
theorem dX12_tells_31 : decode cX12_tells 31 = .ok (.aload_n 0, 1) := by decide +kernel
theorem dX12_tells_32 : decode cX12_tells 32 = .ok (.getfield 176, 3) := by decide +kernel
theorem dX12_tells_35 : decode cX12_tells 35 = .ok (.iconst 1, 1) := by decide +kernel
theorem dX12_tells_36 : decode cX12_tells 36 = .ok (.isub, 1) := by decide +kernel
theorem dX12_tells_37 : decode cX12_tells 37 = .ok (.dup2, 1) := by decide +kernel
theorem dX12_tells_38 : decode cX12_tells 38 = .ok (.iaload, 1) := by decide +kernel
theorem dX12_tells_39 : decode cX12_tells 39 = .ok (.iconst 1, 1) := by decide +kernel
theorem dX12_tells_40 : decode cX12_tells 40 = .ok (.iadd, 1) := by decide +kernel
theorem dX12_tells_41 : decode cX12_tells 41 = .ok (.iastore, 1) := by decide +kernel
theorem dX12_tells_42 : decode cX12_tells 42 = .ok (.return_, 1) := by decide +kernel
theorem dX12_writes_0 : decode cX12_writes 0 = .ok (.iload_n 0, 1) := by decide +kernel
theorem dX12_writes_1 : decode cX12_writes 1 = .ok (.ifCond .eq 25, 3) := by decide +kernel
theorem dX12_writes_4 : decode cX12_writes 4 = .ok (.iload_n 0, 1) := by decide +kernel
theorem dX12_writes_5 : decode cX12_writes 5 = .ok (.iconst 1, 1) := by decide +kernel
theorem dX12_writes_6 : decode cX12_writes 6 = .ok (.if_icmp .eq 20, 3) := by decide +kernel
theorem dX12_writes_9 : decode cX12_writes 9 = .ok (.iload_n 0, 1) := by decide +kernel
theorem dX12_writes_10 : decode cX12_writes 10 = .ok (.iconst 2, 1) := by decide +kernel
theorem dX12_writes_11 : decode cX12_writes 11 = .ok (.if_icmp .eq 15, 3) := by decide +kernel
theorem dX12_writes_14 : decode cX12_writes 14 = .ok (.iload_n 0, 1) := by decide +kernel
theorem dX12_writes_15 : decode cX12_writes 15 = .ok (.bipush 7, 2) := by decide +kernel
theorem dX12_writes_17 : decode cX12_writes 17 = .ok (.if_icmp .eq 9, 3) := by decide +kernel
theorem dX12_writes_20 : decode cX12_writes 20 = .ok (.iload_n 0, 1) := by decide +kernel
theorem dX12_writes_21 : decode cX12_writes 21 = .ok (.bipush 13, 2) := by decide +kernel
theorem dX12_writes_23 : decode cX12_writes 23 = .ok (.if_icmp .ne 7, 3) := by decide +kernel
theorem dX12_writes_26 : decode cX12_writes 26 = .ok (.iconst 1, 1) := by decide +kernel
theorem dX12_writes_27 : decode cX12_writes 27 = .ok (.goto 4, 3) := by decide +kernel
theorem dX12_writes_30 : decode cX12_writes 30 = .ok (.iconst 0, 1) := by decide +kernel
theorem dX12_writes_31 : decode cX12_writes 31 = .ok (.ireturn, 1) := by decide +kernel
theorem dX12_isJump_0 : decode cX12_isJump 0 = .ok (.iload_n 0, 1) := by decide +kernel
theorem dX12_isJump_1 : decode cX12_isJump 1 = .ok (.iconst 4, 1) := by decide +kernel
theorem dX12_isJump_2 : decode cX12_isJump 2 = .ok (.if_icmp .eq 8, 3) := by decide +kernel
theorem dX12_isJump_5 : decode cX12_isJump 5 = .ok (.iload_n 0, 1) := by decide +kernel
theorem dX12_isJump_6 : decode cX12_isJump 6 = .ok (.iconst 5, 1) := by decide +kernel
theorem dX12_isJump_7 : decode cX12_isJump 7 = .ok (.if_icmp .ne 7, 3) := by decide +kernel
theorem dX12_isJump_10 : decode cX12_isJump 10 = .ok (.iconst 1, 1) := by decide +kernel
theorem dX12_isJump_11 : decode cX12_isJump 11 = .ok (.goto 4, 3) := by decide +kernel
theorem dX12_isJump_14 : decode cX12_isJump 14 = .ok (.iconst 0, 1) := by decide +kernel
theorem dX12_isJump_15 : decode cX12_isJump 15 = .ok (.ireturn, 1) := by decide +kernel
theorem dX12_lays_0 : decode cX12_lays 0 = .ok (.aload_n 0, 1) := by decide +kernel
theorem dX12_lays_1 : decode cX12_lays 1 = .ok (.iconst 0, 1) := by decide +kernel
theorem dX12_lays_2 : decode cX12_lays 2 = .ok (.putfield 176, 3) := by decide +kernel
theorem dX12_lays_5 : decode cX12_lays 5 = .ok (.aload_n 0, 1) := by decide +kernel
theorem dX12_lays_6 : decode cX12_lays 6 = .ok (.getfield 16, 3) := by decide +kernel
theorem dX12_lays_9 : decode cX12_lays 9 = .ok (.iload_n 1, 1) := by decide +kernel
theorem dX12_lays_10 : decode cX12_lays 10 = .ok (.iaload, 1) := by decide +kernel
theorem dX12_lays_11 : decode cX12_lays 11 = .ok (.istore_n 2, 1) := by decide +kernel
theorem dX12_lays_12 : decode cX12_lays 12 = .ok (.iconst 0, 1) := by decide +kernel
theorem dX12_lays_13 : decode cX12_lays 13 = .ok (.istore_n 3, 1) := by decide +kernel
theorem dX12_lays_14 : decode cX12_lays 14 = .ok (.iload_n 3, 1) := by decide +kernel
theorem dX12_lays_15 : decode cX12_lays 15 = .ok (.aload_n 0, 1) := by decide +kernel
theorem dX12_lays_16 : decode cX12_lays 16 = .ok (.getfield 19, 3) := by decide +kernel
theorem dX12_lays_19 : decode cX12_lays 19 = .ok (.iload_n 1, 1) := by decide +kernel
theorem dX12_lays_20 : decode cX12_lays 20 = .ok (.iaload, 1) := by decide +kernel
theorem dX12_lays_21 : decode cX12_lays 21 = .ok (.if_icmp .ge 66, 3) := by decide +kernel
theorem dX12_lays_24 : decode cX12_lays 24 = .ok (.aload_n 0, 1) := by decide +kernel
theorem dX12_lays_25 : decode cX12_lays 25 = .ok (.getfield 47, 3) := by decide +kernel
theorem dX12_lays_28 : decode cX12_lays 28 = .ok (.iload_n 3, 1) := by decide +kernel
theorem dX12_lays_29 : decode cX12_lays 29 = .ok (.aload_n 0, 1) := by decide +kernel
theorem dX12_lays_30 : decode cX12_lays 30 = .ok (.getfield 176, 3) := by decide +kernel
theorem dX12_lays_33 : decode cX12_lays 33 = .ok (.iastore, 1) := by decide +kernel
theorem dX12_lays_34 : decode cX12_lays 34 = .ok (.aload_n 0, 1) := by decide +kernel
theorem dX12_lays_35 : decode cX12_lays 35 = .ok (.getfield 28, 3) := by decide +kernel
theorem dX12_lays_38 : decode cX12_lays 38 = .ok (.iload_n 2, 1) := by decide +kernel
theorem dX12_lays_39 : decode cX12_lays 39 = .ok (.iload_n 3, 1) := by decide +kernel
theorem dX12_lays_40 : decode cX12_lays 40 = .ok (.iadd, 1) := by decide +kernel
theorem dX12_lays_41 : decode cX12_lays 41 = .ok (.iaload, 1) := by decide +kernel
theorem dX12_lays_42 : decode cX12_lays 42 = .ok (.ifCond .lt 39, 3) := by decide +kernel
theorem dX12_lays_45 : decode cX12_lays 45 = .ok (.aload_n 0, 1) := by decide +kernel
theorem dX12_lays_46 : decode cX12_lays 46 = .ok (.iload_n 1, 1) := by decide +kernel
theorem dX12_lays_47 : decode cX12_lays 47 = .ok (.aload_n 0, 1) := by decide +kernel
theorem dX12_lays_48 : decode cX12_lays 48 = .ok (.getfield 22, 3) := by decide +kernel
theorem dX12_lays_51 : decode cX12_lays 51 = .ok (.iload_n 2, 1) := by decide +kernel
theorem dX12_lays_52 : decode cX12_lays 52 = .ok (.iload_n 3, 1) := by decide +kernel
theorem dX12_lays_53 : decode cX12_lays 53 = .ok (.iadd, 1) := by decide +kernel
theorem dX12_lays_54 : decode cX12_lays 54 = .ok (.iaload, 1) := by decide +kernel
theorem dX12_lays_55 : decode cX12_lays 55 = .ok (.aload_n 0, 1) := by decide +kernel
theorem dX12_lays_56 : decode cX12_lays 56 = .ok (.getfield 25, 3) := by decide +kernel
theorem dX12_lays_59 : decode cX12_lays 59 = .ok (.iload_n 2, 1) := by decide +kernel
theorem dX12_lays_60 : decode cX12_lays 60 = .ok (.iload_n 3, 1) := by decide +kernel
theorem dX12_lays_61 : decode cX12_lays 61 = .ok (.iadd, 1) := by decide +kernel
theorem dX12_lays_62 : decode cX12_lays 62 = .ok (.iaload, 1) := by decide +kernel
theorem dX12_lays_63 : decode cX12_lays 63 = .ok (.aload_n 0, 1) := by decide +kernel
theorem dX12_lays_64 : decode cX12_lays 64 = .ok (.getfield 13, 3) := by decide +kernel
theorem dX12_lays_67 : decode cX12_lays 67 = .ok (.iload_n 1, 1) := by decide +kernel
theorem dX12_lays_68 : decode cX12_lays 68 = .ok (.iaload, 1) := by decide +kernel
theorem dX12_lays_69 : decode cX12_lays 69 = .ok (.aload_n 0, 1) := by decide +kernel
theorem dX12_lays_70 : decode cX12_lays 70 = .ok (.getfield 28, 3) := by decide +kernel
theorem dX12_lays_73 : decode cX12_lays 73 = .ok (.iload_n 2, 1) := by decide +kernel
theorem dX12_lays_74 : decode cX12_lays 74 = .ok (.iload_n 3, 1) := by decide +kernel
theorem dX12_lays_75 : decode cX12_lays 75 = .ok (.iadd, 1) := by decide +kernel
theorem dX12_lays_76 : decode cX12_lays 76 = .ok (.iaload, 1) := by decide +kernel
theorem dX12_lays_77 : decode cX12_lays 77 = .ok (.iadd, 1) := by decide +kernel
theorem dX12_lays_78 : decode cX12_lays 78 = .ok (.invokevirtual 179, 3) := by decide +kernel
theorem dX12_lays_81 : decode cX12_lays 81 = .ok (.iinc 3 1, 3) := by decide +kernel
theorem dX12_lays_84 : decode cX12_lays 84 = .ok (.goto (-70), 3) := by decide +kernel
theorem dX12_lays_87 : decode cX12_lays 87 = .ok (.iconst 0, 1) := by decide +kernel
theorem dX12_lays_88 : decode cX12_lays 88 = .ok (.istore_n 3, 1) := by decide +kernel
theorem dX12_lays_89 : decode cX12_lays 89 = .ok (.iload_n 3, 1) := by decide +kernel
theorem dX12_lays_90 : decode cX12_lays 90 = .ok (.aload_n 0, 1) := by decide +kernel
theorem dX12_lays_91 : decode cX12_lays 91 = .ok (.getfield 176, 3) := by decide +kernel
theorem dX12_lays_94 : decode cX12_lays 94 = .ok (.if_icmp .ge 38, 3) := by decide +kernel
theorem dX12_lays_97 : decode cX12_lays 97 = .ok (.aload_n 0, 1) := by decide +kernel
theorem dX12_lays_98 : decode cX12_lays 98 = .ok (.getfield 35, 3) := by decide +kernel
theorem dX12_lays_101 : decode cX12_lays 101 = .ok (.iload_n 3, 1) := by decide +kernel
theorem dX12_lays_102 : decode cX12_lays 102 = .ok (.iaload, 1) := by decide +kernel
theorem dX12_lays_103 : decode cX12_lays 103 = .ok (.invokestatic 183, 3) := by decide +kernel
theorem dX12_lays_106 : decode cX12_lays 106 = .ok (.ifCond .eq 20, 3) := by decide +kernel
theorem dX12_lays_109 : decode cX12_lays 109 = .ok (.aload_n 0, 1) := by decide +kernel
theorem dX12_lays_110 : decode cX12_lays 110 = .ok (.getfield 38, 3) := by decide +kernel
theorem dX12_lays_113 : decode cX12_lays 113 = .ok (.iload_n 3, 1) := by decide +kernel
theorem dX12_lays_114 : decode cX12_lays 114 = .ok (.aload_n 0, 1) := by decide +kernel
theorem dX12_lays_115 : decode cX12_lays 115 = .ok (.getfield 47, 3) := by decide +kernel
theorem dX12_lays_118 : decode cX12_lays 118 = .ok (.aload_n 0, 1) := by decide +kernel
theorem dX12_lays_119 : decode cX12_lays 119 = .ok (.getfield 38, 3) := by decide +kernel
theorem dX12_lays_122 : decode cX12_lays 122 = .ok (.iload_n 3, 1) := by decide +kernel
theorem dX12_lays_123 : decode cX12_lays 123 = .ok (.iaload, 1) := by decide +kernel
theorem dX12_lays_124 : decode cX12_lays 124 = .ok (.iaload, 1) := by decide +kernel
theorem dX12_lays_125 : decode cX12_lays 125 = .ok (.iastore, 1) := by decide +kernel
theorem dX12_lays_126 : decode cX12_lays 126 = .ok (.iinc 3 1, 3) := by decide +kernel
theorem dX12_lays_129 : decode cX12_lays 129 = .ok (.goto (-40), 3) := by decide +kernel
theorem dX12_lays_132 : decode cX12_lays 132 = .ok (.return_, 1) := by decide +kernel
theorem dX12_lay_0 : decode cX12_lay 0 = .ok (.iload_n 2, 1) := by decide +kernel
theorem dX12_lay_1 : decode cX12_lay 1 = .ok (.tableswitch 326 0 17 #[87, 100, 118, 326, 326, 326, 326, 326, 326, 138, 159, 182, 183, 190, 205, 262, 278, 302], 87) := by decide +kernel
theorem dX12_lay_88 : decode cX12_lay 88 = .ok (.aload_n 0, 1) := by decide +kernel
theorem dX12_lay_89 : decode cX12_lay 89 = .ok (.iconst 0, 1) := by decide +kernel
theorem dX12_lay_90 : decode cX12_lay 90 = .ok (.iload_n 3, 1) := by decide +kernel
theorem dX12_lay_91 : decode cX12_lay 91 = .ok (.invokevirtual 187, 3) := by decide +kernel
theorem dX12_lay_94 : decode cX12_lay 94 = .ok (.aload_n 0, 1) := by decide +kernel
theorem dX12_lay_95 : decode cX12_lay 95 = .ok (.iload 4, 2) := by decide +kernel
theorem dX12_lay_97 : decode cX12_lay 97 = .ok (.invokevirtual 191, 3) := by decide +kernel
theorem dX12_lay_100 : decode cX12_lay 100 = .ok (.return_, 1) := by decide +kernel
theorem dX12_lay_101 : decode cX12_lay 101 = .ok (.aload_n 0, 1) := by decide +kernel
theorem dX12_lay_102 : decode cX12_lay 102 = .ok (.iconst 1, 1) := by decide +kernel
theorem dX12_lay_103 : decode cX12_lay 103 = .ok (.iconst 0, 1) := by decide +kernel
theorem dX12_lay_104 : decode cX12_lay 104 = .ok (.invokevirtual 187, 3) := by decide +kernel
theorem dX12_lay_107 : decode cX12_lay 107 = .ok (.aload_n 0, 1) := by decide +kernel
theorem dX12_lay_108 : decode cX12_lay 108 = .ok (.iload 4, 2) := by decide +kernel
theorem dX12_lay_110 : decode cX12_lay 110 = .ok (.invokevirtual 191, 3) := by decide +kernel
theorem dX12_lay_113 : decode cX12_lay 113 = .ok (.aload_n 0, 1) := by decide +kernel
theorem dX12_lay_114 : decode cX12_lay 114 = .ok (.iload_n 3, 1) := by decide +kernel
theorem dX12_lay_115 : decode cX12_lay 115 = .ok (.invokevirtual 191, 3) := by decide +kernel
theorem dX12_lay_118 : decode cX12_lay 118 = .ok (.return_, 1) := by decide +kernel
theorem dX12_lay_119 : decode cX12_lay 119 = .ok (.aload_n 0, 1) := by decide +kernel
theorem dX12_lay_120 : decode cX12_lay 120 = .ok (.iconst 1, 1) := by decide +kernel
theorem dX12_lay_121 : decode cX12_lay 121 = .ok (.iconst 0, 1) := by decide +kernel
theorem dX12_lay_122 : decode cX12_lay 122 = .ok (.invokevirtual 187, 3) := by decide +kernel
theorem dX12_lay_125 : decode cX12_lay 125 = .ok (.aload_n 0, 1) := by decide +kernel
theorem dX12_lay_126 : decode cX12_lay 126 = .ok (.iload_n 3, 1) := by decide +kernel
theorem dX12_lay_127 : decode cX12_lay 127 = .ok (.invokevirtual 191, 3) := by decide +kernel
theorem dX12_lay_130 : decode cX12_lay 130 = .ok (.aload_n 0, 1) := by decide +kernel
theorem dX12_lay_131 : decode cX12_lay 131 = .ok (.iload 4, 2) := by decide +kernel
theorem dX12_lay_133 : decode cX12_lay 133 = .ok (.iconst 1, 1) := by decide +kernel
theorem dX12_lay_134 : decode cX12_lay 134 = .ok (.isub, 1) := by decide +kernel
theorem dX12_lay_135 : decode cX12_lay 135 = .ok (.invokevirtual 191, 3) := by decide +kernel
theorem dX12_lay_138 : decode cX12_lay 138 = .ok (.return_, 1) := by decide +kernel
theorem dX12_lay_139 : decode cX12_lay 139 = .ok (.aload_n 0, 1) := by decide +kernel
theorem dX12_lay_140 : decode cX12_lay 140 = .ok (.iconst 1, 1) := by decide +kernel
theorem dX12_lay_141 : decode cX12_lay 141 = .ok (.iconst 0, 1) := by decide +kernel
theorem dX12_lay_142 : decode cX12_lay 142 = .ok (.invokevirtual 187, 3) := by decide +kernel
theorem dX12_lay_145 : decode cX12_lay 145 = .ok (.aload_n 0, 1) := by decide +kernel
theorem dX12_lay_146 : decode cX12_lay 146 = .ok (.iload 4, 2) := by decide +kernel
theorem dX12_lay_148 : decode cX12_lay 148 = .ok (.invokevirtual 191, 3) := by decide +kernel
theorem dX12_lay_151 : decode cX12_lay 151 = .ok (.aload_n 0, 1) := by decide +kernel
theorem dX12_lay_152 : decode cX12_lay 152 = .ok (.iload 4, 2) := by decide +kernel
theorem dX12_lay_154 : decode cX12_lay 154 = .ok (.iconst 1, 1) := by decide +kernel
theorem dX12_lay_155 : decode cX12_lay 155 = .ok (.isub, 1) := by decide +kernel
theorem dX12_lay_156 : decode cX12_lay 156 = .ok (.invokevirtual 191, 3) := by decide +kernel
theorem dX12_lay_159 : decode cX12_lay 159 = .ok (.return_, 1) := by decide +kernel
theorem dX12_lay_160 : decode cX12_lay 160 = .ok (.aload_n 0, 1) := by decide +kernel
theorem dX12_lay_161 : decode cX12_lay 161 = .ok (.iconst 3, 1) := by decide +kernel
theorem dX12_lay_162 : decode cX12_lay 162 = .ok (.iconst 0, 1) := by decide +kernel
theorem dX12_lay_163 : decode cX12_lay 163 = .ok (.invokevirtual 187, 3) := by decide +kernel
theorem dX12_lay_166 : decode cX12_lay 166 = .ok (.aload_n 0, 1) := by decide +kernel
theorem dX12_lay_167 : decode cX12_lay 167 = .ok (.iload 4, 2) := by decide +kernel
theorem dX12_lay_169 : decode cX12_lay 169 = .ok (.iconst 1, 1) := by decide +kernel
theorem dX12_lay_170 : decode cX12_lay 170 = .ok (.isub, 1) := by decide +kernel
theorem dX12_lay_171 : decode cX12_lay 171 = .ok (.invokevirtual 191, 3) := by decide +kernel
theorem dX12_lay_174 : decode cX12_lay 174 = .ok (.aload_n 0, 1) := by decide +kernel
theorem dX12_lay_175 : decode cX12_lay 175 = .ok (.iload 4, 2) := by decide +kernel
theorem dX12_lay_177 : decode cX12_lay 177 = .ok (.iconst 2, 1) := by decide +kernel
theorem dX12_lay_178 : decode cX12_lay 178 = .ok (.isub, 1) := by decide +kernel
theorem dX12_lay_179 : decode cX12_lay 179 = .ok (.invokevirtual 191, 3) := by decide +kernel
theorem dX12_lay_182 : decode cX12_lay 182 = .ok (.return_, 1) := by decide +kernel
theorem dX12_lay_183 : decode cX12_lay 183 = .ok (.return_, 1) := by decide +kernel
theorem dX12_lay_184 : decode cX12_lay 184 = .ok (.aload_n 0, 1) := by decide +kernel
theorem dX12_lay_185 : decode cX12_lay 185 = .ok (.iconst 4, 1) := by decide +kernel
theorem dX12_lay_186 : decode cX12_lay 186 = .ok (.iload_n 3, 1) := by decide +kernel
theorem dX12_lay_187 : decode cX12_lay 187 = .ok (.invokevirtual 187, 3) := by decide +kernel
theorem dX12_lay_190 : decode cX12_lay 190 = .ok (.return_, 1) := by decide +kernel
theorem dX12_lay_191 : decode cX12_lay 191 = .ok (.aload_n 0, 1) := by decide +kernel
theorem dX12_lay_192 : decode cX12_lay 192 = .ok (.iconst 5, 1) := by decide +kernel
theorem dX12_lay_193 : decode cX12_lay 193 = .ok (.iload_n 3, 1) := by decide +kernel
theorem dX12_lay_194 : decode cX12_lay 194 = .ok (.invokevirtual 187, 3) := by decide +kernel
theorem dX12_lay_197 : decode cX12_lay 197 = .ok (.aload_n 0, 1) := by decide +kernel
theorem dX12_lay_198 : decode cX12_lay 198 = .ok (.iload 4, 2) := by decide +kernel
theorem dX12_lay_200 : decode cX12_lay 200 = .ok (.iconst 1, 1) := by decide +kernel
theorem dX12_lay_201 : decode cX12_lay 201 = .ok (.isub, 1) := by decide +kernel
theorem dX12_lay_202 : decode cX12_lay 202 = .ok (.invokevirtual 191, 3) := by decide +kernel
theorem dX12_lay_205 : decode cX12_lay 205 = .ok (.return_, 1) := by decide +kernel
theorem dX12_lay_206 : decode cX12_lay 206 = .ok (.aload_n 0, 1) := by decide +kernel
theorem dX12_lay_207 : decode cX12_lay 207 = .ok (.bipush 13, 2) := by decide +kernel
theorem dX12_lay_209 : decode cX12_lay 209 = .ok (.iload_n 3, 1) := by decide +kernel
theorem dX12_lay_210 : decode cX12_lay 210 = .ok (.invokevirtual 187, 3) := by decide +kernel
theorem dX12_lay_213 : decode cX12_lay 213 = .ok (.aload_n 0, 1) := by decide +kernel
theorem dX12_lay_214 : decode cX12_lay 214 = .ok (.iload 4, 2) := by decide +kernel
theorem dX12_lay_216 : decode cX12_lay 216 = .ok (.aload_n 0, 1) := by decide +kernel
theorem dX12_lay_217 : decode cX12_lay 217 = .ok (.getfield 7, 3) := by decide +kernel
theorem dX12_lay_220 : decode cX12_lay 220 = .ok (.iload_n 3, 1) := by decide +kernel
theorem dX12_lay_221 : decode cX12_lay 221 = .ok (.iaload, 1) := by decide +kernel
theorem dX12_lay_222 : decode cX12_lay 222 = .ok (.isub, 1) := by decide +kernel
theorem dX12_lay_223 : decode cX12_lay 223 = .ok (.invokevirtual 191, 3) := by decide +kernel
theorem dX12_lay_226 : decode cX12_lay 226 = .ok (.iconst 0, 1) := by decide +kernel
theorem dX12_lay_227 : decode cX12_lay 227 = .ok (.istore 5, 2) := by decide +kernel
theorem dX12_lay_229 : decode cX12_lay 229 = .ok (.iload 5, 2) := by decide +kernel
theorem dX12_lay_231 : decode cX12_lay 231 = .ok (.aload_n 0, 1) := by decide +kernel
theorem dX12_lay_232 : decode cX12_lay 232 = .ok (.getfield 7, 3) := by decide +kernel
theorem dX12_lay_235 : decode cX12_lay 235 = .ok (.iload_n 3, 1) := by decide +kernel
theorem dX12_lay_236 : decode cX12_lay 236 = .ok (.iaload, 1) := by decide +kernel
theorem dX12_lay_237 : decode cX12_lay 237 = .ok (.if_icmp .ge 25, 3) := by decide +kernel
theorem dX12_lay_240 : decode cX12_lay 240 = .ok (.aload_n 0, 1) := by decide +kernel
theorem dX12_lay_241 : decode cX12_lay 241 = .ok (.iload 4, 2) := by decide +kernel
theorem dX12_lay_243 : decode cX12_lay 243 = .ok (.aload_n 0, 1) := by decide +kernel
theorem dX12_lay_244 : decode cX12_lay 244 = .ok (.getfield 7, 3) := by decide +kernel
theorem dX12_lay_247 : decode cX12_lay 247 = .ok (.iload_n 3, 1) := by decide +kernel
theorem dX12_lay_248 : decode cX12_lay 248 = .ok (.iaload, 1) := by decide +kernel
theorem dX12_lay_249 : decode cX12_lay 249 = .ok (.isub, 1) := by decide +kernel
theorem dX12_lay_250 : decode cX12_lay 250 = .ok (.iload 5, 2) := by decide +kernel
theorem dX12_lay_252 : decode cX12_lay 252 = .ok (.iadd, 1) := by decide +kernel
theorem dX12_lay_253 : decode cX12_lay 253 = .ok (.invokevirtual 191, 3) := by decide +kernel
theorem dX12_lay_256 : decode cX12_lay 256 = .ok (.iinc 5 1, 3) := by decide +kernel
theorem dX12_lay_259 : decode cX12_lay 259 = .ok (.goto (-30), 3) := by decide +kernel
theorem dX12_lay_262 : decode cX12_lay 262 = .ok (.return_, 1) := by decide +kernel
theorem dX12_lay_263 : decode cX12_lay 263 = .ok (.aload_n 0, 1) := by decide +kernel
theorem dX12_lay_264 : decode cX12_lay 264 = .ok (.bipush 6, 2) := by decide +kernel
theorem dX12_lay_266 : decode cX12_lay 266 = .ok (.iconst 0, 1) := by decide +kernel
theorem dX12_lay_267 : decode cX12_lay 267 = .ok (.invokevirtual 187, 3) := by decide +kernel
theorem dX12_lay_270 : decode cX12_lay 270 = .ok (.aload_n 0, 1) := by decide +kernel
theorem dX12_lay_271 : decode cX12_lay 271 = .ok (.iload 4, 2) := by decide +kernel
theorem dX12_lay_273 : decode cX12_lay 273 = .ok (.iconst 1, 1) := by decide +kernel
theorem dX12_lay_274 : decode cX12_lay 274 = .ok (.isub, 1) := by decide +kernel
theorem dX12_lay_275 : decode cX12_lay 275 = .ok (.invokevirtual 191, 3) := by decide +kernel
theorem dX12_lay_278 : decode cX12_lay 278 = .ok (.return_, 1) := by decide +kernel
theorem dX12_lay_279 : decode cX12_lay 279 = .ok (.aload_n 0, 1) := by decide +kernel
theorem dX12_lay_280 : decode cX12_lay 280 = .ok (.bipush 7, 2) := by decide +kernel
theorem dX12_lay_282 : decode cX12_lay 282 = .ok (.iconst 0, 1) := by decide +kernel
theorem dX12_lay_283 : decode cX12_lay 283 = .ok (.invokevirtual 187, 3) := by decide +kernel
theorem dX12_lay_286 : decode cX12_lay 286 = .ok (.aload_n 0, 1) := by decide +kernel
theorem dX12_lay_287 : decode cX12_lay 287 = .ok (.iload 4, 2) := by decide +kernel
theorem dX12_lay_289 : decode cX12_lay 289 = .ok (.iconst 1, 1) := by decide +kernel
theorem dX12_lay_290 : decode cX12_lay 290 = .ok (.isub, 1) := by decide +kernel
theorem dX12_lay_291 : decode cX12_lay 291 = .ok (.invokevirtual 191, 3) := by decide +kernel
theorem dX12_lay_294 : decode cX12_lay 294 = .ok (.aload_n 0, 1) := by decide +kernel
theorem dX12_lay_295 : decode cX12_lay 295 = .ok (.iload 4, 2) := by decide +kernel
theorem dX12_lay_297 : decode cX12_lay 297 = .ok (.iconst 1, 1) := by decide +kernel
theorem dX12_lay_298 : decode cX12_lay 298 = .ok (.isub, 1) := by decide +kernel
theorem dX12_lay_299 : decode cX12_lay 299 = .ok (.invokevirtual 191, 3) := by decide +kernel
theorem dX12_lay_302 : decode cX12_lay 302 = .ok (.return_, 1) := by decide +kernel
theorem dX12_lay_303 : decode cX12_lay 303 = .ok (.aload_n 0, 1) := by decide +kernel
theorem dX12_lay_304 : decode cX12_lay 304 = .ok (.bipush 8, 2) := by decide +kernel
theorem dX12_lay_306 : decode cX12_lay 306 = .ok (.iconst 0, 1) := by decide +kernel
theorem dX12_lay_307 : decode cX12_lay 307 = .ok (.invokevirtual 187, 3) := by decide +kernel
theorem dX12_lay_310 : decode cX12_lay 310 = .ok (.aload_n 0, 1) := by decide +kernel
theorem dX12_lay_311 : decode cX12_lay 311 = .ok (.iload 4, 2) := by decide +kernel
theorem dX12_lay_313 : decode cX12_lay 313 = .ok (.iconst 1, 1) := by decide +kernel
theorem dX12_lay_314 : decode cX12_lay 314 = .ok (.isub, 1) := by decide +kernel
theorem dX12_lay_315 : decode cX12_lay 315 = .ok (.invokevirtual 191, 3) := by decide +kernel
theorem dX12_lay_318 : decode cX12_lay 318 = .ok (.aload_n 0, 1) := by decide +kernel
theorem dX12_lay_319 : decode cX12_lay 319 = .ok (.iload 4, 2) := by decide +kernel
theorem dX12_lay_321 : decode cX12_lay 321 = .ok (.iconst 2, 1) := by decide +kernel
theorem dX12_lay_322 : decode cX12_lay 322 = .ok (.isub, 1) := by decide +kernel
theorem dX12_lay_323 : decode cX12_lay 323 = .ok (.invokevirtual 191, 3) := by decide +kernel
theorem dX12_lay_326 : decode cX12_lay 326 = .ok (.return_, 1) := by decide +kernel
theorem dX12_lay_327 : decode cX12_lay 327 = .ok (.aload_n 0, 1) := by decide +kernel
theorem dX12_lay_328 : decode cX12_lay 328 = .ok (.iconst 2, 1) := by decide +kernel
theorem dX12_lay_329 : decode cX12_lay 329 = .ok (.iload_n 2, 1) := by decide +kernel
theorem dX12_lay_330 : decode cX12_lay 330 = .ok (.invokevirtual 187, 3) := by decide +kernel
theorem dX12_lay_333 : decode cX12_lay 333 = .ok (.aload_n 0, 1) := by decide +kernel
theorem dX12_lay_334 : decode cX12_lay 334 = .ok (.iload 4, 2) := by decide +kernel
theorem dX12_lay_336 : decode cX12_lay 336 = .ok (.iconst 2, 1) := by decide +kernel
theorem dX12_lay_337 : decode cX12_lay 337 = .ok (.isub, 1) := by decide +kernel
theorem dX12_lay_338 : decode cX12_lay 338 = .ok (.invokevirtual 191, 3) := by decide +kernel
theorem dX12_lay_341 : decode cX12_lay 341 = .ok (.aload_n 0, 1) := by decide +kernel
theorem dX12_lay_342 : decode cX12_lay 342 = .ok (.iload 4, 2) := by decide +kernel
theorem dX12_lay_344 : decode cX12_lay 344 = .ok (.iconst 2, 1) := by decide +kernel
theorem dX12_lay_345 : decode cX12_lay 345 = .ok (.isub, 1) := by decide +kernel
theorem dX12_lay_346 : decode cX12_lay 346 = .ok (.invokevirtual 191, 3) := by decide +kernel
theorem dX12_lay_349 : decode cX12_lay 349 = .ok (.aload_n 0, 1) := by decide +kernel
theorem dX12_lay_350 : decode cX12_lay 350 = .ok (.iload 4, 2) := by decide +kernel
theorem dX12_lay_352 : decode cX12_lay 352 = .ok (.iconst 1, 1) := by decide +kernel
theorem dX12_lay_353 : decode cX12_lay 353 = .ok (.isub, 1) := by decide +kernel
theorem dX12_lay_354 : decode cX12_lay 354 = .ok (.invokevirtual 191, 3) := by decide +kernel
theorem dX12_lay_357 : decode cX12_lay 357 = .ok (.return_, 1) := by decide +kernel
theorem dX12_forwards_0 : decode cX12_forwards 0 = .ok (.iconst 0, 1) := by decide +kernel
theorem dX12_forwards_1 : decode cX12_forwards 1 = .ok (.istore_n 1, 1) := by decide +kernel
theorem dX12_forwards_2 : decode cX12_forwards 2 = .ok (.iload_n 1, 1) := by decide +kernel
theorem dX12_forwards_3 : decode cX12_forwards 3 = .ok (.aload_n 0, 1) := by decide +kernel
theorem dX12_forwards_4 : decode cX12_forwards 4 = .ok (.getfield 176, 3) := by decide +kernel
theorem dX12_forwards_7 : decode cX12_forwards 7 = .ok (.if_icmp .gt 24, 3) := by decide +kernel
theorem dX12_forwards_10 : decode cX12_forwards 10 = .ok (.aload_n 0, 1) := by decide +kernel
theorem dX12_forwards_11 : decode cX12_forwards 11 = .ok (.getfield 53, 3) := by decide +kernel
theorem dX12_forwards_14 : decode cX12_forwards 14 = .ok (.iload_n 1, 1) := by decide +kernel
theorem dX12_forwards_15 : decode cX12_forwards 15 = .ok (.iload_n 1, 1) := by decide +kernel
theorem dX12_forwards_16 : decode cX12_forwards 16 = .ok (.ifCond .ne 7, 3) := by decide +kernel
theorem dX12_forwards_19 : decode cX12_forwards 19 = .ok (.iconst 1, 1) := by decide +kernel
theorem dX12_forwards_20 : decode cX12_forwards 20 = .ok (.goto 4, 3) := by decide +kernel
theorem dX12_forwards_23 : decode cX12_forwards 23 = .ok (.iconst 0, 1) := by decide +kernel
theorem dX12_forwards_24 : decode cX12_forwards 24 = .ok (.bastore, 1) := by decide +kernel
theorem dX12_forwards_25 : decode cX12_forwards 25 = .ok (.iinc 1 1, 3) := by decide +kernel
theorem dX12_forwards_28 : decode cX12_forwards 28 = .ok (.goto (-26), 3) := by decide +kernel
theorem dX12_forwards_31 : decode cX12_forwards 31 = .ok (.iconst 0, 1) := by decide +kernel
theorem dX12_forwards_32 : decode cX12_forwards 32 = .ok (.istore_n 1, 1) := by decide +kernel
theorem dX12_forwards_33 : decode cX12_forwards 33 = .ok (.iload_n 1, 1) := by decide +kernel
theorem dX12_forwards_34 : decode cX12_forwards 34 = .ok (.aload_n 0, 1) := by decide +kernel
theorem dX12_forwards_35 : decode cX12_forwards 35 = .ok (.getfield 176, 3) := by decide +kernel
theorem dX12_forwards_38 : decode cX12_forwards 38 = .ok (.if_icmp .ge 65, 3) := by decide +kernel
theorem dX12_forwards_41 : decode cX12_forwards 41 = .ok (.aload_n 0, 1) := by decide +kernel
theorem dX12_forwards_42 : decode cX12_forwards 42 = .ok (.getfield 35, 3) := by decide +kernel
theorem dX12_forwards_45 : decode cX12_forwards 45 = .ok (.iload_n 1, 1) := by decide +kernel
theorem dX12_forwards_46 : decode cX12_forwards 46 = .ok (.iaload, 1) := by decide +kernel
theorem dX12_forwards_47 : decode cX12_forwards 47 = .ok (.invokestatic 183, 3) := by decide +kernel
theorem dX12_forwards_50 : decode cX12_forwards 50 = .ok (.ifCond .eq 15, 3) := by decide +kernel
theorem dX12_forwards_53 : decode cX12_forwards 53 = .ok (.aload_n 0, 1) := by decide +kernel
theorem dX12_forwards_54 : decode cX12_forwards 54 = .ok (.getfield 53, 3) := by decide +kernel
theorem dX12_forwards_57 : decode cX12_forwards 57 = .ok (.aload_n 0, 1) := by decide +kernel
theorem dX12_forwards_58 : decode cX12_forwards 58 = .ok (.getfield 38, 3) := by decide +kernel
theorem dX12_forwards_61 : decode cX12_forwards 61 = .ok (.iload_n 1, 1) := by decide +kernel
theorem dX12_forwards_62 : decode cX12_forwards 62 = .ok (.iaload, 1) := by decide +kernel
theorem dX12_forwards_63 : decode cX12_forwards 63 = .ok (.iconst 1, 1) := by decide +kernel
theorem dX12_forwards_64 : decode cX12_forwards 64 = .ok (.bastore, 1) := by decide +kernel
theorem dX12_forwards_65 : decode cX12_forwards 65 = .ok (.aload_n 0, 1) := by decide +kernel
theorem dX12_forwards_66 : decode cX12_forwards 66 = .ok (.getfield 35, 3) := by decide +kernel
theorem dX12_forwards_69 : decode cX12_forwards 69 = .ok (.iload_n 1, 1) := by decide +kernel
theorem dX12_forwards_70 : decode cX12_forwards 70 = .ok (.iaload, 1) := by decide +kernel
theorem dX12_forwards_71 : decode cX12_forwards 71 = .ok (.invokestatic 183, 3) := by decide +kernel
theorem dX12_forwards_74 : decode cX12_forwards 74 = .ok (.ifCond .ne 14, 3) := by decide +kernel
theorem dX12_forwards_77 : decode cX12_forwards 77 = .ok (.aload_n 0, 1) := by decide +kernel
theorem dX12_forwards_78 : decode cX12_forwards 78 = .ok (.getfield 35, 3) := by decide +kernel
theorem dX12_forwards_81 : decode cX12_forwards 81 = .ok (.iload_n 1, 1) := by decide +kernel
theorem dX12_forwards_82 : decode cX12_forwards 82 = .ok (.iaload, 1) := by decide +kernel
theorem dX12_forwards_83 : decode cX12_forwards 83 = .ok (.bipush 6, 2) := by decide +kernel
theorem dX12_forwards_85 : decode cX12_forwards 85 = .ok (.if_icmp .ne 12, 3) := by decide +kernel
theorem dX12_forwards_88 : decode cX12_forwards 88 = .ok (.aload_n 0, 1) := by decide +kernel
theorem dX12_forwards_89 : decode cX12_forwards 89 = .ok (.getfield 53, 3) := by decide +kernel
theorem dX12_forwards_92 : decode cX12_forwards 92 = .ok (.iload_n 1, 1) := by decide +kernel
theorem dX12_forwards_93 : decode cX12_forwards 93 = .ok (.iconst 1, 1) := by decide +kernel
theorem dX12_forwards_94 : decode cX12_forwards 94 = .ok (.iadd, 1) := by decide +kernel
theorem dX12_forwards_95 : decode cX12_forwards 95 = .ok (.iconst 1, 1) := by decide +kernel
theorem dX12_forwards_96 : decode cX12_forwards 96 = .ok (.bastore, 1) := by decide +kernel
theorem dX12_forwards_97 : decode cX12_forwards 97 = .ok (.iinc 1 1, 3) := by decide +kernel
theorem dX12_forwards_100 : decode cX12_forwards 100 = .ok (.goto (-67), 3) := by decide +kernel
theorem dX12_forwards_103 : decode cX12_forwards 103 = .ok (.iconst 0, 1) := by decide +kernel
theorem dX12_forwards_104 : decode cX12_forwards 104 = .ok (.istore_n 1, 1) := by decide +kernel
theorem dX12_forwards_105 : decode cX12_forwards 105 = .ok (.iload_n 1, 1) := by decide +kernel
theorem dX12_forwards_106 : decode cX12_forwards 106 = .ok (.aload_n 0, 1) := by decide +kernel
theorem dX12_forwards_107 : decode cX12_forwards 107 = .ok (.getfield 176, 3) := by decide +kernel
theorem dX12_forwards_110 : decode cX12_forwards 110 = .ok (.if_icmp .ge 44, 3) := by decide +kernel
theorem dX12_forwards_113 : decode cX12_forwards 113 = .ok (.aload_n 0, 1) := by decide +kernel
theorem dX12_forwards_114 : decode cX12_forwards 114 = .ok (.getfield 53, 3) := by decide +kernel
theorem dX12_forwards_117 : decode cX12_forwards 117 = .ok (.iload_n 1, 1) := by decide +kernel
theorem dX12_forwards_118 : decode cX12_forwards 118 = .ok (.baload, 1) := by decide +kernel
theorem dX12_forwards_119 : decode cX12_forwards 119 = .ok (.ifCond .eq 24, 3) := by decide +kernel
theorem dX12_forwards_122 : decode cX12_forwards 122 = .ok (.iconst 0, 1) := by decide +kernel
theorem dX12_forwards_123 : decode cX12_forwards 123 = .ok (.istore_n 2, 1) := by decide +kernel
theorem dX12_forwards_124 : decode cX12_forwards 124 = .ok (.iload_n 2, 1) := by decide +kernel
theorem dX12_forwards_125 : decode cX12_forwards 125 = .ok (.bipush 24, 2) := by decide +kernel
theorem dX12_forwards_127 : decode cX12_forwards 127 = .ok (.if_icmp .ge 16, 3) := by decide +kernel
theorem dX12_forwards_130 : decode cX12_forwards 130 = .ok (.aload_n 0, 1) := by decide +kernel
theorem dX12_forwards_131 : decode cX12_forwards 131 = .ok (.getfield 56, 3) := by decide +kernel
theorem dX12_forwards_134 : decode cX12_forwards 134 = .ok (.iload_n 2, 1) := by decide +kernel
theorem dX12_forwards_135 : decode cX12_forwards 135 = .ok (.iconst (-1), 1) := by decide +kernel
theorem dX12_forwards_136 : decode cX12_forwards 136 = .ok (.iastore, 1) := by decide +kernel
theorem dX12_forwards_137 : decode cX12_forwards 137 = .ok (.iinc 2 1, 3) := by decide +kernel
theorem dX12_forwards_140 : decode cX12_forwards 140 = .ok (.goto (-16), 3) := by decide +kernel
theorem dX12_forwards_143 : decode cX12_forwards 143 = .ok (.aload_n 0, 1) := by decide +kernel
theorem dX12_forwards_144 : decode cX12_forwards 144 = .ok (.iload_n 1, 1) := by decide +kernel
theorem dX12_forwards_145 : decode cX12_forwards 145 = .ok (.invokevirtual 195, 3) := by decide +kernel
theorem dX12_forwards_148 : decode cX12_forwards 148 = .ok (.iinc 1 1, 3) := by decide +kernel
theorem dX12_forwards_151 : decode cX12_forwards 151 = .ok (.goto (-46), 3) := by decide +kernel
theorem dX12_forwards_154 : decode cX12_forwards 154 = .ok (.return_, 1) := by decide +kernel
theorem dX12_forward_0 : decode cX12_forward 0 = .ok (.aload_n 0, 1) := by decide +kernel
theorem dX12_forward_1 : decode cX12_forward 1 = .ok (.getfield 35, 3) := by decide +kernel
theorem dX12_forward_4 : decode cX12_forward 4 = .ok (.iload_n 1, 1) := by decide +kernel
theorem dX12_forward_5 : decode cX12_forward 5 = .ok (.iaload, 1) := by decide +kernel
theorem dX12_forward_6 : decode cX12_forward 6 = .ok (.istore_n 2, 1) := by decide +kernel
theorem dX12_forward_7 : decode cX12_forward 7 = .ok (.iload_n 2, 1) := by decide +kernel
theorem dX12_forward_8 : decode cX12_forward 8 = .ok (.invokestatic 198, 3) := by decide +kernel
theorem dX12_forward_11 : decode cX12_forward 11 = .ok (.ifCond .eq 7, 3) := by decide +kernel
theorem dX12_forward_14 : decode cX12_forward 14 = .ok (.iconst 1, 1) := by decide +kernel
theorem dX12_forward_15 : decode cX12_forward 15 = .ok (.goto 4, 3) := by decide +kernel
theorem dX12_forward_18 : decode cX12_forward 18 = .ok (.iconst 0, 1) := by decide +kernel
theorem dX12_forward_19 : decode cX12_forward 19 = .ok (.istore_n 3, 1) := by decide +kernel
theorem dX12_forward_20 : decode cX12_forward 20 = .ok (.iload_n 3, 1) := by decide +kernel
theorem dX12_forward_21 : decode cX12_forward 21 = .ok (.aload_n 0, 1) := by decide +kernel
theorem dX12_forward_22 : decode cX12_forward 22 = .ok (.getfield 44, 3) := by decide +kernel
theorem dX12_forward_25 : decode cX12_forward 25 = .ok (.iload_n 1, 1) := by decide +kernel
theorem dX12_forward_26 : decode cX12_forward 26 = .ok (.iaload, 1) := by decide +kernel
theorem dX12_forward_27 : decode cX12_forward 27 = .ok (.if_icmp .ge 60, 3) := by decide +kernel
theorem dX12_forward_30 : decode cX12_forward 30 = .ok (.iload_n 2, 1) := by decide +kernel
theorem dX12_forward_31 : decode cX12_forward 31 = .ok (.iconst 3, 1) := by decide +kernel
theorem dX12_forward_32 : decode cX12_forward 32 = .ok (.if_icmp .eq 55, 3) := by decide +kernel
theorem dX12_forward_35 : decode cX12_forward 35 = .ok (.aload_n 0, 1) := by decide +kernel
theorem dX12_forward_36 : decode cX12_forward 36 = .ok (.getfield 41, 3) := by decide +kernel
theorem dX12_forward_39 : decode cX12_forward 39 = .ok (.bipush 8, 2) := by decide +kernel
theorem dX12_forward_41 : decode cX12_forward 41 = .ok (.iload_n 1, 1) := by decide +kernel
theorem dX12_forward_42 : decode cX12_forward 42 = .ok (.imul, 1) := by decide +kernel
theorem dX12_forward_43 : decode cX12_forward 43 = .ok (.iload_n 3, 1) := by decide +kernel
theorem dX12_forward_44 : decode cX12_forward 44 = .ok (.iadd, 1) := by decide +kernel
theorem dX12_forward_45 : decode cX12_forward 45 = .ok (.iaload, 1) := by decide +kernel
theorem dX12_forward_46 : decode cX12_forward 46 = .ok (.istore 4, 2) := by decide +kernel
theorem dX12_forward_48 : decode cX12_forward 48 = .ok (.aload_n 0, 1) := by decide +kernel
theorem dX12_forward_49 : decode cX12_forward 49 = .ok (.getfield 41, 3) := by decide +kernel
theorem dX12_forward_52 : decode cX12_forward 52 = .ok (.bipush 8, 2) := by decide +kernel
theorem dX12_forward_54 : decode cX12_forward 54 = .ok (.iload_n 1, 1) := by decide +kernel
theorem dX12_forward_55 : decode cX12_forward 55 = .ok (.imul, 1) := by decide +kernel
theorem dX12_forward_56 : decode cX12_forward 56 = .ok (.iload_n 3, 1) := by decide +kernel
theorem dX12_forward_57 : decode cX12_forward 57 = .ok (.iadd, 1) := by decide +kernel
theorem dX12_forward_58 : decode cX12_forward 58 = .ok (.aload_n 0, 1) := by decide +kernel
theorem dX12_forward_59 : decode cX12_forward 59 = .ok (.getfield 56, 3) := by decide +kernel
theorem dX12_forward_62 : decode cX12_forward 62 = .ok (.iload 4, 2) := by decide +kernel
theorem dX12_forward_64 : decode cX12_forward 64 = .ok (.iaload, 1) := by decide +kernel
theorem dX12_forward_65 : decode cX12_forward 65 = .ok (.ifCond .lt 13, 3) := by decide +kernel
theorem dX12_forward_68 : decode cX12_forward 68 = .ok (.aload_n 0, 1) := by decide +kernel
theorem dX12_forward_69 : decode cX12_forward 69 = .ok (.getfield 56, 3) := by decide +kernel
theorem dX12_forward_72 : decode cX12_forward 72 = .ok (.iload 4, 2) := by decide +kernel
theorem dX12_forward_74 : decode cX12_forward 74 = .ok (.iaload, 1) := by decide +kernel
theorem dX12_forward_75 : decode cX12_forward 75 = .ok (.goto 5, 3) := by decide +kernel
theorem dX12_forward_78 : decode cX12_forward 78 = .ok (.iload 4, 2) := by decide +kernel
theorem dX12_forward_80 : decode cX12_forward 80 = .ok (.iastore, 1) := by decide +kernel
theorem dX12_forward_81 : decode cX12_forward 81 = .ok (.iinc 3 1, 3) := by decide +kernel
theorem dX12_forward_84 : decode cX12_forward 84 = .ok (.goto (-64), 3) := by decide +kernel
theorem dX12_forward_87 : decode cX12_forward 87 = .ok (.iload_n 2, 1) := by decide +kernel
theorem dX12_forward_88 : decode cX12_forward 88 = .ok (.invokestatic 198, 3) := by decide +kernel
theorem dX12_forward_91 : decode cX12_forward 91 = .ok (.ifCond .eq 16, 3) := by decide +kernel
theorem dX12_forward_94 : decode cX12_forward 94 = .ok (.aload_n 0, 1) := by decide +kernel
theorem dX12_forward_95 : decode cX12_forward 95 = .ok (.aload_n 0, 1) := by decide +kernel
theorem dX12_forward_96 : decode cX12_forward 96 = .ok (.getfield 41, 3) := by decide +kernel
theorem dX12_forward_99 : decode cX12_forward 99 = .ok (.bipush 8, 2) := by decide +kernel
theorem dX12_forward_101 : decode cX12_forward 101 = .ok (.iload_n 1, 1) := by decide +kernel
theorem dX12_forward_102 : decode cX12_forward 102 = .ok (.imul, 1) := by decide +kernel
theorem dX12_forward_103 : decode cX12_forward 103 = .ok (.iaload, 1) := by decide +kernel
theorem dX12_forward_104 : decode cX12_forward 104 = .ok (.invokevirtual 201, 3) := by decide +kernel
theorem dX12_forward_107 : decode cX12_forward 107 = .ok (.iload_n 2, 1) := by decide +kernel
theorem dX12_forward_108 : decode cX12_forward 108 = .ok (.iconst 3, 1) := by decide +kernel
theorem dX12_forward_109 : decode cX12_forward 109 = .ok (.if_icmp .ne 31, 3) := by decide +kernel
theorem dX12_forward_112 : decode cX12_forward 112 = .ok (.aload_n 0, 1) := by decide +kernel
theorem dX12_forward_113 : decode cX12_forward 113 = .ok (.aload_n 0, 1) := by decide +kernel
theorem dX12_forward_114 : decode cX12_forward 114 = .ok (.getfield 41, 3) := by decide +kernel
theorem dX12_forward_117 : decode cX12_forward 117 = .ok (.bipush 8, 2) := by decide +kernel
theorem dX12_forward_119 : decode cX12_forward 119 = .ok (.iload_n 1, 1) := by decide +kernel
theorem dX12_forward_120 : decode cX12_forward 120 = .ok (.imul, 1) := by decide +kernel
theorem dX12_forward_121 : decode cX12_forward 121 = .ok (.iaload, 1) := by decide +kernel
theorem dX12_forward_122 : decode cX12_forward 122 = .ok (.invokevirtual 201, 3) := by decide +kernel
theorem dX12_forward_125 : decode cX12_forward 125 = .ok (.aload_n 0, 1) := by decide +kernel
theorem dX12_forward_126 : decode cX12_forward 126 = .ok (.aload_n 0, 1) := by decide +kernel
theorem dX12_forward_127 : decode cX12_forward 127 = .ok (.getfield 41, 3) := by decide +kernel
theorem dX12_forward_130 : decode cX12_forward 130 = .ok (.bipush 8, 2) := by decide +kernel
theorem dX12_forward_132 : decode cX12_forward 132 = .ok (.iload_n 1, 1) := by decide +kernel
theorem dX12_forward_133 : decode cX12_forward 133 = .ok (.imul, 1) := by decide +kernel
theorem dX12_forward_134 : decode cX12_forward 134 = .ok (.iconst 1, 1) := by decide +kernel
theorem dX12_forward_135 : decode cX12_forward 135 = .ok (.iadd, 1) := by decide +kernel
theorem dX12_forward_136 : decode cX12_forward 136 = .ok (.iaload, 1) := by decide +kernel
theorem dX12_forward_137 : decode cX12_forward 137 = .ok (.invokevirtual 201, 3) := by decide +kernel
theorem dX12_forward_140 : decode cX12_forward 140 = .ok (.iload_n 2, 1) := by decide +kernel
theorem dX12_forward_141 : decode cX12_forward 141 = .ok (.iconst 1, 1) := by decide +kernel
theorem dX12_forward_142 : decode cX12_forward 142 = .ok (.if_icmp .ne 51, 3) := by decide +kernel
theorem dX12_forward_145 : decode cX12_forward 145 = .ok (.aload_n 0, 1) := by decide +kernel
theorem dX12_forward_146 : decode cX12_forward 146 = .ok (.getfield 41, 3) := by decide +kernel
theorem dX12_forward_149 : decode cX12_forward 149 = .ok (.bipush 8, 2) := by decide +kernel
theorem dX12_forward_151 : decode cX12_forward 151 = .ok (.iload_n 1, 1) := by decide +kernel
theorem dX12_forward_152 : decode cX12_forward 152 = .ok (.imul, 1) := by decide +kernel
theorem dX12_forward_153 : decode cX12_forward 153 = .ok (.iaload, 1) := by decide +kernel
theorem dX12_forward_154 : decode cX12_forward 154 = .ok (.aload_n 0, 1) := by decide +kernel
theorem dX12_forward_155 : decode cX12_forward 155 = .ok (.getfield 41, 3) := by decide +kernel
theorem dX12_forward_158 : decode cX12_forward 158 = .ok (.bipush 8, 2) := by decide +kernel
theorem dX12_forward_160 : decode cX12_forward 160 = .ok (.iload_n 1, 1) := by decide +kernel
theorem dX12_forward_161 : decode cX12_forward 161 = .ok (.imul, 1) := by decide +kernel
theorem dX12_forward_162 : decode cX12_forward 162 = .ok (.iconst 1, 1) := by decide +kernel
theorem dX12_forward_163 : decode cX12_forward 163 = .ok (.iadd, 1) := by decide +kernel
theorem dX12_forward_164 : decode cX12_forward 164 = .ok (.iaload, 1) := by decide +kernel
theorem dX12_forward_165 : decode cX12_forward 165 = .ok (.if_icmp .eq 28, 3) := by decide +kernel
theorem dX12_forward_168 : decode cX12_forward 168 = .ok (.aload_n 0, 1) := by decide +kernel
theorem dX12_forward_169 : decode cX12_forward 169 = .ok (.getfield 56, 3) := by decide +kernel
theorem dX12_forward_172 : decode cX12_forward 172 = .ok (.aload_n 0, 1) := by decide +kernel
theorem dX12_forward_173 : decode cX12_forward 173 = .ok (.getfield 41, 3) := by decide +kernel
theorem dX12_forward_176 : decode cX12_forward 176 = .ok (.bipush 8, 2) := by decide +kernel
theorem dX12_forward_178 : decode cX12_forward 178 = .ok (.iload_n 1, 1) := by decide +kernel
theorem dX12_forward_179 : decode cX12_forward 179 = .ok (.imul, 1) := by decide +kernel
theorem dX12_forward_180 : decode cX12_forward 180 = .ok (.iaload, 1) := by decide +kernel
theorem dX12_forward_181 : decode cX12_forward 181 = .ok (.aload_n 0, 1) := by decide +kernel
theorem dX12_forward_182 : decode cX12_forward 182 = .ok (.getfield 41, 3) := by decide +kernel
theorem dX12_forward_185 : decode cX12_forward 185 = .ok (.bipush 8, 2) := by decide +kernel
theorem dX12_forward_187 : decode cX12_forward 187 = .ok (.iload_n 1, 1) := by decide +kernel
theorem dX12_forward_188 : decode cX12_forward 188 = .ok (.imul, 1) := by decide +kernel
theorem dX12_forward_189 : decode cX12_forward 189 = .ok (.iconst 1, 1) := by decide +kernel
theorem dX12_forward_190 : decode cX12_forward 190 = .ok (.iadd, 1) := by decide +kernel
theorem dX12_forward_191 : decode cX12_forward 191 = .ok (.iaload, 1) := by decide +kernel
theorem dX12_forward_192 : decode cX12_forward 192 = .ok (.iastore, 1) := by decide +kernel
theorem dX12_forward_193 : decode cX12_forward 193 = .ok (.return_, 1) := by decide +kernel
theorem dX12_forgets_0 : decode cX12_forgets 0 = .ok (.aload_n 0, 1) := by decide +kernel
theorem dX12_forgets_1 : decode cX12_forgets 1 = .ok (.getfield 56, 3) := by decide +kernel
theorem dX12_forgets_4 : decode cX12_forgets 4 = .ok (.iload_n 1, 1) := by decide +kernel
theorem dX12_forgets_5 : decode cX12_forgets 5 = .ok (.iconst (-1), 1) := by decide +kernel
theorem dX12_forgets_6 : decode cX12_forgets 6 = .ok (.iastore, 1) := by decide +kernel
theorem dX12_forgets_7 : decode cX12_forgets 7 = .ok (.iconst 0, 1) := by decide +kernel
theorem dX12_forgets_8 : decode cX12_forgets 8 = .ok (.istore_n 2, 1) := by decide +kernel
theorem dX12_forgets_9 : decode cX12_forgets 9 = .ok (.iload_n 2, 1) := by decide +kernel
theorem dX12_forgets_10 : decode cX12_forgets 10 = .ok (.bipush 24, 2) := by decide +kernel
theorem dX12_forgets_12 : decode cX12_forgets 12 = .ok (.if_icmp .ge 35, 3) := by decide +kernel
theorem dX12_forgets_15 : decode cX12_forgets 15 = .ok (.aload_n 0, 1) := by decide +kernel
theorem dX12_forgets_16 : decode cX12_forgets 16 = .ok (.getfield 56, 3) := by decide +kernel
theorem dX12_forgets_19 : decode cX12_forgets 19 = .ok (.iload_n 2, 1) := by decide +kernel
theorem dX12_forgets_20 : decode cX12_forgets 20 = .ok (.aload_n 0, 1) := by decide +kernel
theorem dX12_forgets_21 : decode cX12_forgets 21 = .ok (.getfield 56, 3) := by decide +kernel
theorem dX12_forgets_24 : decode cX12_forgets 24 = .ok (.iload_n 2, 1) := by decide +kernel
theorem dX12_forgets_25 : decode cX12_forgets 25 = .ok (.iaload, 1) := by decide +kernel
theorem dX12_forgets_26 : decode cX12_forgets 26 = .ok (.iload_n 1, 1) := by decide +kernel
theorem dX12_forgets_27 : decode cX12_forgets 27 = .ok (.if_icmp .ne 7, 3) := by decide +kernel
theorem dX12_forgets_30 : decode cX12_forgets 30 = .ok (.iconst (-1), 1) := by decide +kernel
theorem dX12_forgets_31 : decode cX12_forgets 31 = .ok (.goto 9, 3) := by decide +kernel
theorem dX12_forgets_34 : decode cX12_forgets 34 = .ok (.aload_n 0, 1) := by decide +kernel
theorem dX12_forgets_35 : decode cX12_forgets 35 = .ok (.getfield 56, 3) := by decide +kernel
theorem dX12_forgets_38 : decode cX12_forgets 38 = .ok (.iload_n 2, 1) := by decide +kernel
theorem dX12_forgets_39 : decode cX12_forgets 39 = .ok (.iaload, 1) := by decide +kernel
theorem dX12_forgets_40 : decode cX12_forgets 40 = .ok (.iastore, 1) := by decide +kernel
theorem dX12_forgets_41 : decode cX12_forgets 41 = .ok (.iinc 2 1, 3) := by decide +kernel
theorem dX12_forgets_44 : decode cX12_forgets 44 = .ok (.goto (-35), 3) := by decide +kernel
theorem dX12_forgets_47 : decode cX12_forgets 47 = .ok (.return_, 1) := by decide +kernel
theorem dX12_liveBehind_0 : decode cX12_liveBehind 0 = .ok (.aload_n 0, 1) := by decide +kernel
theorem dX12_liveBehind_1 : decode cX12_liveBehind 1 = .ok (.getfield 35, 3) := by decide +kernel
theorem dX12_liveBehind_4 : decode cX12_liveBehind 4 = .ok (.iload_n 1, 1) := by decide +kernel
theorem dX12_liveBehind_5 : decode cX12_liveBehind 5 = .ok (.iaload, 1) := by decide +kernel
theorem dX12_liveBehind_6 : decode cX12_liveBehind 6 = .ok (.istore_n 2, 1) := by decide +kernel
theorem dX12_liveBehind_7 : decode cX12_liveBehind 7 = .ok (.iload_n 2, 1) := by decide +kernel
theorem dX12_liveBehind_8 : decode cX12_liveBehind 8 = .ok (.bipush 6, 2) := by decide +kernel
theorem dX12_liveBehind_10 : decode cX12_liveBehind 10 = .ok (.if_icmp .ne 5, 3) := by decide +kernel
theorem dX12_liveBehind_13 : decode cX12_liveBehind 13 = .ok (.iconst 0, 1) := by decide +kernel
theorem dX12_liveBehind_14 : decode cX12_liveBehind 14 = .ok (.ireturn, 1) := by decide +kernel
theorem dX12_liveBehind_15 : decode cX12_liveBehind 15 = .ok (.iload_n 2, 1) := by decide +kernel
theorem dX12_liveBehind_16 : decode cX12_liveBehind 16 = .ok (.iconst 4, 1) := by decide +kernel
theorem dX12_liveBehind_17 : decode cX12_liveBehind 17 = .ok (.if_icmp .ne 7, 3) := by decide +kernel
theorem dX12_liveBehind_20 : decode cX12_liveBehind 20 = .ok (.iconst 0, 1) := by decide +kernel
theorem dX12_liveBehind_21 : decode cX12_liveBehind 21 = .ok (.goto 11, 3) := by decide +kernel
theorem dX12_liveBehind_24 : decode cX12_liveBehind 24 = .ok (.aload_n 0, 1) := by decide +kernel
theorem dX12_liveBehind_25 : decode cX12_liveBehind 25 = .ok (.getfield 59, 3) := by decide +kernel
theorem dX12_liveBehind_28 : decode cX12_liveBehind 28 = .ok (.iload_n 1, 1) := by decide +kernel
theorem dX12_liveBehind_29 : decode cX12_liveBehind 29 = .ok (.iconst 1, 1) := by decide +kernel
theorem dX12_liveBehind_30 : decode cX12_liveBehind 30 = .ok (.iadd, 1) := by decide +kernel
theorem dX12_liveBehind_31 : decode cX12_liveBehind 31 = .ok (.iaload, 1) := by decide +kernel
theorem dX12_liveBehind_32 : decode cX12_liveBehind 32 = .ok (.istore_n 3, 1) := by decide +kernel
theorem dX12_liveBehind_33 : decode cX12_liveBehind 33 = .ok (.iload_n 2, 1) := by decide +kernel
theorem dX12_liveBehind_34 : decode cX12_liveBehind 34 = .ok (.invokestatic 183, 3) := by decide +kernel
theorem dX12_liveBehind_37 : decode cX12_liveBehind 37 = .ok (.ifCond .eq 19, 3) := by decide +kernel
theorem dX12_liveBehind_40 : decode cX12_liveBehind 40 = .ok (.iload_n 3, 1) := by decide +kernel
theorem dX12_liveBehind_41 : decode cX12_liveBehind 41 = .ok (.aload_n 0, 1) := by decide +kernel
theorem dX12_liveBehind_42 : decode cX12_liveBehind 42 = .ok (.getfield 59, 3) := by decide +kernel
theorem dX12_liveBehind_45 : decode cX12_liveBehind 45 = .ok (.aload_n 0, 1) := by decide +kernel
theorem dX12_liveBehind_46 : decode cX12_liveBehind 46 = .ok (.getfield 38, 3) := by decide +kernel
theorem dX12_liveBehind_49 : decode cX12_liveBehind 49 = .ok (.iload_n 1, 1) := by decide +kernel
theorem dX12_liveBehind_50 : decode cX12_liveBehind 50 = .ok (.iaload, 1) := by decide +kernel
theorem dX12_liveBehind_51 : decode cX12_liveBehind 51 = .ok (.iaload, 1) := by decide +kernel
theorem dX12_liveBehind_52 : decode cX12_liveBehind 52 = .ok (.ior, 1) := by decide +kernel
theorem dX12_liveBehind_53 : decode cX12_liveBehind 53 = .ok (.goto 4, 3) := by decide +kernel
theorem dX12_liveBehind_56 : decode cX12_liveBehind 56 = .ok (.iload_n 3, 1) := by decide +kernel
theorem dX12_liveBehind_57 : decode cX12_liveBehind 57 = .ok (.ireturn, 1) := by decide +kernel
theorem dX12_liveAhead_0 : decode cX12_liveAhead 0 = .ok (.aload_n 0, 1) := by decide +kernel
theorem dX12_liveAhead_1 : decode cX12_liveAhead 1 = .ok (.iload_n 1, 1) := by decide +kernel
theorem dX12_liveAhead_2 : decode cX12_liveAhead 2 = .ok (.invokevirtual 204, 3) := by decide +kernel
theorem dX12_liveAhead_5 : decode cX12_liveAhead 5 = .ok (.istore_n 2, 1) := by decide +kernel
theorem dX12_liveAhead_6 : decode cX12_liveAhead 6 = .ok (.aload_n 0, 1) := by decide +kernel
theorem dX12_liveAhead_7 : decode cX12_liveAhead 7 = .ok (.getfield 35, 3) := by decide +kernel
theorem dX12_liveAhead_10 : decode cX12_liveAhead 10 = .ok (.iload_n 1, 1) := by decide +kernel
theorem dX12_liveAhead_11 : decode cX12_liveAhead 11 = .ok (.iaload, 1) := by decide +kernel
theorem dX12_liveAhead_12 : decode cX12_liveAhead 12 = .ok (.istore_n 3, 1) := by decide +kernel
theorem dX12_liveAhead_13 : decode cX12_liveAhead 13 = .ok (.iload_n 3, 1) := by decide +kernel
theorem dX12_liveAhead_14 : decode cX12_liveAhead 14 = .ok (.invokestatic 198, 3) := by decide +kernel
theorem dX12_liveAhead_17 : decode cX12_liveAhead 17 = .ok (.ifCond .eq 19, 3) := by decide +kernel
theorem dX12_liveAhead_20 : decode cX12_liveAhead 20 = .ok (.iload_n 2, 1) := by decide +kernel
theorem dX12_liveAhead_21 : decode cX12_liveAhead 21 = .ok (.iconst 1, 1) := by decide +kernel
theorem dX12_liveAhead_22 : decode cX12_liveAhead 22 = .ok (.aload_n 0, 1) := by decide +kernel
theorem dX12_liveAhead_23 : decode cX12_liveAhead 23 = .ok (.getfield 41, 3) := by decide +kernel
theorem dX12_liveAhead_26 : decode cX12_liveAhead 26 = .ok (.bipush 8, 2) := by decide +kernel
theorem dX12_liveAhead_28 : decode cX12_liveAhead 28 = .ok (.iload_n 1, 1) := by decide +kernel
theorem dX12_liveAhead_29 : decode cX12_liveAhead 29 = .ok (.imul, 1) := by decide +kernel
theorem dX12_liveAhead_30 : decode cX12_liveAhead 30 = .ok (.iaload, 1) := by decide +kernel
theorem dX12_liveAhead_31 : decode cX12_liveAhead 31 = .ok (.ishl, 1) := by decide +kernel
theorem dX12_liveAhead_32 : decode cX12_liveAhead 32 = .ok (.iconst (-1), 1) := by decide +kernel
theorem dX12_liveAhead_33 : decode cX12_liveAhead 33 = .ok (.ixor, 1) := by decide +kernel
theorem dX12_liveAhead_34 : decode cX12_liveAhead 34 = .ok (.iand, 1) := by decide +kernel
theorem dX12_liveAhead_35 : decode cX12_liveAhead 35 = .ok (.istore_n 2, 1) := by decide +kernel
theorem dX12_liveAhead_36 : decode cX12_liveAhead 36 = .ok (.iload_n 3, 1) := by decide +kernel
theorem dX12_liveAhead_37 : decode cX12_liveAhead 37 = .ok (.invokestatic 198, 3) := by decide +kernel
theorem dX12_liveAhead_40 : decode cX12_liveAhead 40 = .ok (.ifCond .eq 7, 3) := by decide +kernel
theorem dX12_liveAhead_43 : decode cX12_liveAhead 43 = .ok (.iconst 1, 1) := by decide +kernel
theorem dX12_liveAhead_44 : decode cX12_liveAhead 44 = .ok (.goto 4, 3) := by decide +kernel
theorem dX12_liveAhead_47 : decode cX12_liveAhead 47 = .ok (.iconst 0, 1) := by decide +kernel
theorem dX12_liveAhead_48 : decode cX12_liveAhead 48 = .ok (.istore 4, 2) := by decide +kernel
theorem dX12_liveAhead_50 : decode cX12_liveAhead 50 = .ok (.iload 4, 2) := by decide +kernel
theorem dX12_liveAhead_52 : decode cX12_liveAhead 52 = .ok (.aload_n 0, 1) := by decide +kernel
theorem dX12_liveAhead_53 : decode cX12_liveAhead 53 = .ok (.getfield 44, 3) := by decide +kernel
theorem dX12_liveAhead_56 : decode cX12_liveAhead 56 = .ok (.iload_n 1, 1) := by decide +kernel
theorem dX12_liveAhead_57 : decode cX12_liveAhead 57 = .ok (.iaload, 1) := by decide +kernel
theorem dX12_liveAhead_58 : decode cX12_liveAhead 58 = .ok (.if_icmp .ge 26, 3) := by decide +kernel
theorem dX12_liveAhead_61 : decode cX12_liveAhead 61 = .ok (.iload_n 2, 1) := by decide +kernel
theorem dX12_liveAhead_62 : decode cX12_liveAhead 62 = .ok (.iconst 1, 1) := by decide +kernel
theorem dX12_liveAhead_63 : decode cX12_liveAhead 63 = .ok (.aload_n 0, 1) := by decide +kernel
theorem dX12_liveAhead_64 : decode cX12_liveAhead 64 = .ok (.getfield 41, 3) := by decide +kernel
theorem dX12_liveAhead_67 : decode cX12_liveAhead 67 = .ok (.bipush 8, 2) := by decide +kernel
theorem dX12_liveAhead_69 : decode cX12_liveAhead 69 = .ok (.iload_n 1, 1) := by decide +kernel
theorem dX12_liveAhead_70 : decode cX12_liveAhead 70 = .ok (.imul, 1) := by decide +kernel
theorem dX12_liveAhead_71 : decode cX12_liveAhead 71 = .ok (.iload 4, 2) := by decide +kernel
theorem dX12_liveAhead_73 : decode cX12_liveAhead 73 = .ok (.iadd, 1) := by decide +kernel
theorem dX12_liveAhead_74 : decode cX12_liveAhead 74 = .ok (.iaload, 1) := by decide +kernel
theorem dX12_liveAhead_75 : decode cX12_liveAhead 75 = .ok (.ishl, 1) := by decide +kernel
theorem dX12_liveAhead_76 : decode cX12_liveAhead 76 = .ok (.ior, 1) := by decide +kernel
theorem dX12_liveAhead_77 : decode cX12_liveAhead 77 = .ok (.istore_n 2, 1) := by decide +kernel
theorem dX12_liveAhead_78 : decode cX12_liveAhead 78 = .ok (.iinc 4 1, 3) := by decide +kernel
theorem dX12_liveAhead_81 : decode cX12_liveAhead 81 = .ok (.goto (-31), 3) := by decide +kernel
theorem dX12_liveAhead_84 : decode cX12_liveAhead 84 = .ok (.iload_n 2, 1) := by decide +kernel
theorem dX12_liveAhead_85 : decode cX12_liveAhead 85 = .ok (.ireturn, 1) := by decide +kernel
theorem dX12_lives_0 : decode cX12_lives 0 = .ok (.iconst 0, 1) := by decide +kernel
theorem dX12_lives_1 : decode cX12_lives 1 = .ok (.istore_n 1, 1) := by decide +kernel
theorem dX12_lives_2 : decode cX12_lives 2 = .ok (.iload_n 1, 1) := by decide +kernel
theorem dX12_lives_3 : decode cX12_lives 3 = .ok (.aload_n 0, 1) := by decide +kernel
theorem dX12_lives_4 : decode cX12_lives 4 = .ok (.getfield 176, 3) := by decide +kernel
theorem dX12_lives_7 : decode cX12_lives 7 = .ok (.if_icmp .gt 16, 3) := by decide +kernel
theorem dX12_lives_10 : decode cX12_lives 10 = .ok (.aload_n 0, 1) := by decide +kernel
theorem dX12_lives_11 : decode cX12_lives 11 = .ok (.getfield 59, 3) := by decide +kernel
theorem dX12_lives_14 : decode cX12_lives 14 = .ok (.iload_n 1, 1) := by decide +kernel
theorem dX12_lives_15 : decode cX12_lives 15 = .ok (.iconst 0, 1) := by decide +kernel
theorem dX12_lives_16 : decode cX12_lives 16 = .ok (.iastore, 1) := by decide +kernel
theorem dX12_lives_17 : decode cX12_lives 17 = .ok (.iinc 1 1, 3) := by decide +kernel
theorem dX12_lives_20 : decode cX12_lives 20 = .ok (.goto (-18), 3) := by decide +kernel
theorem dX12_lives_23 : decode cX12_lives 23 = .ok (.iconst 1, 1) := by decide +kernel
theorem dX12_lives_24 : decode cX12_lives 24 = .ok (.istore_n 1, 1) := by decide +kernel
theorem dX12_lives_25 : decode cX12_lives 25 = .ok (.iload_n 1, 1) := by decide +kernel
theorem dX12_lives_26 : decode cX12_lives 26 = .ok (.ifCond .eq 58, 3) := by decide +kernel
theorem dX12_lives_29 : decode cX12_lives 29 = .ok (.iconst 0, 1) := by decide +kernel
theorem dX12_lives_30 : decode cX12_lives 30 = .ok (.istore_n 1, 1) := by decide +kernel
theorem dX12_lives_31 : decode cX12_lives 31 = .ok (.aload_n 0, 1) := by decide +kernel
theorem dX12_lives_32 : decode cX12_lives 32 = .ok (.getfield 176, 3) := by decide +kernel
theorem dX12_lives_35 : decode cX12_lives 35 = .ok (.iconst 1, 1) := by decide +kernel
theorem dX12_lives_36 : decode cX12_lives 36 = .ok (.isub, 1) := by decide +kernel
theorem dX12_lives_37 : decode cX12_lives 37 = .ok (.istore_n 2, 1) := by decide +kernel
theorem dX12_lives_38 : decode cX12_lives 38 = .ok (.iload_n 2, 1) := by decide +kernel
theorem dX12_lives_39 : decode cX12_lives 39 = .ok (.ifCond .lt 42, 3) := by decide +kernel
theorem dX12_lives_42 : decode cX12_lives 42 = .ok (.aload_n 0, 1) := by decide +kernel
theorem dX12_lives_43 : decode cX12_lives 43 = .ok (.iload_n 2, 1) := by decide +kernel
theorem dX12_lives_44 : decode cX12_lives 44 = .ok (.invokevirtual 207, 3) := by decide +kernel
theorem dX12_lives_47 : decode cX12_lives 47 = .ok (.istore_n 3, 1) := by decide +kernel
theorem dX12_lives_48 : decode cX12_lives 48 = .ok (.iload_n 1, 1) := by decide +kernel
theorem dX12_lives_49 : decode cX12_lives 49 = .ok (.ifCond .ne 13, 3) := by decide +kernel
theorem dX12_lives_52 : decode cX12_lives 52 = .ok (.iload_n 3, 1) := by decide +kernel
theorem dX12_lives_53 : decode cX12_lives 53 = .ok (.aload_n 0, 1) := by decide +kernel
theorem dX12_lives_54 : decode cX12_lives 54 = .ok (.getfield 59, 3) := by decide +kernel
theorem dX12_lives_57 : decode cX12_lives 57 = .ok (.iload_n 2, 1) := by decide +kernel
theorem dX12_lives_58 : decode cX12_lives 58 = .ok (.iaload, 1) := by decide +kernel
theorem dX12_lives_59 : decode cX12_lives 59 = .ok (.if_icmp .eq 7, 3) := by decide +kernel
theorem dX12_lives_62 : decode cX12_lives 62 = .ok (.iconst 1, 1) := by decide +kernel
theorem dX12_lives_63 : decode cX12_lives 63 = .ok (.goto 4, 3) := by decide +kernel
theorem dX12_lives_66 : decode cX12_lives 66 = .ok (.iconst 0, 1) := by decide +kernel
theorem dX12_lives_67 : decode cX12_lives 67 = .ok (.istore_n 1, 1) := by decide +kernel
theorem dX12_lives_68 : decode cX12_lives 68 = .ok (.aload_n 0, 1) := by decide +kernel
theorem dX12_lives_69 : decode cX12_lives 69 = .ok (.getfield 59, 3) := by decide +kernel
theorem dX12_lives_72 : decode cX12_lives 72 = .ok (.iload_n 2, 1) := by decide +kernel
theorem dX12_lives_73 : decode cX12_lives 73 = .ok (.iload_n 3, 1) := by decide +kernel
theorem dX12_lives_74 : decode cX12_lives 74 = .ok (.iastore, 1) := by decide +kernel
theorem dX12_lives_75 : decode cX12_lives 75 = .ok (.iinc 2 (-1), 3) := by decide +kernel
theorem dX12_lives_78 : decode cX12_lives 78 = .ok (.goto (-40), 3) := by decide +kernel
theorem dX12_lives_81 : decode cX12_lives 81 = .ok (.goto (-56), 3) := by decide +kernel
theorem dX12_lives_84 : decode cX12_lives 84 = .ok (.return_, 1) := by decide +kernel
theorem dX12_isLeftOut_0 : decode cX12_isLeftOut 0 = .ok (.aload_n 0, 1) := by decide +kernel
theorem dX12_isLeftOut_1 : decode cX12_isLeftOut 1 = .ok (.getfield 35, 3) := by decide +kernel
theorem dX12_isLeftOut_4 : decode cX12_isLeftOut 4 = .ok (.iload_n 1, 1) := by decide +kernel
theorem dX12_isLeftOut_5 : decode cX12_isLeftOut 5 = .ok (.iaload, 1) := by decide +kernel
theorem dX12_isLeftOut_6 : decode cX12_isLeftOut 6 = .ok (.istore_n 2, 1) := by decide +kernel
theorem dX12_isLeftOut_7 : decode cX12_isLeftOut 7 = .ok (.iload_n 2, 1) := by decide +kernel
theorem dX12_isLeftOut_8 : decode cX12_isLeftOut 8 = .ok (.ifCond .eq 10, 3) := by decide +kernel
theorem dX12_isLeftOut_11 : decode cX12_isLeftOut 11 = .ok (.iload_n 2, 1) := by decide +kernel
theorem dX12_isLeftOut_12 : decode cX12_isLeftOut 12 = .ok (.iconst 1, 1) := by decide +kernel
theorem dX12_isLeftOut_13 : decode cX12_isLeftOut 13 = .ok (.if_icmp .eq 5, 3) := by decide +kernel
theorem dX12_isLeftOut_16 : decode cX12_isLeftOut 16 = .ok (.iconst 0, 1) := by decide +kernel
theorem dX12_isLeftOut_17 : decode cX12_isLeftOut 17 = .ok (.ireturn, 1) := by decide +kernel
theorem dX12_isLeftOut_18 : decode cX12_isLeftOut 18 = .ok (.aload_n 0, 1) := by decide +kernel
theorem dX12_isLeftOut_19 : decode cX12_isLeftOut 19 = .ok (.iload_n 1, 1) := by decide +kernel
theorem dX12_isLeftOut_20 : decode cX12_isLeftOut 20 = .ok (.invokevirtual 204, 3) := by decide +kernel
theorem dX12_isLeftOut_23 : decode cX12_isLeftOut 23 = .ok (.aload_n 0, 1) := by decide +kernel
theorem dX12_isLeftOut_24 : decode cX12_isLeftOut 24 = .ok (.getfield 41, 3) := by decide +kernel
theorem dX12_isLeftOut_27 : decode cX12_isLeftOut 27 = .ok (.bipush 8, 2) := by decide +kernel
theorem dX12_isLeftOut_29 : decode cX12_isLeftOut 29 = .ok (.iload_n 1, 1) := by decide +kernel
theorem dX12_isLeftOut_30 : decode cX12_isLeftOut 30 = .ok (.imul, 1) := by decide +kernel
theorem dX12_isLeftOut_31 : decode cX12_isLeftOut 31 = .ok (.iaload, 1) := by decide +kernel
theorem dX12_isLeftOut_32 : decode cX12_isLeftOut 32 = .ok (.ishr, 1) := by decide +kernel
theorem dX12_isLeftOut_33 : decode cX12_isLeftOut 33 = .ok (.iconst 1, 1) := by decide +kernel
theorem dX12_isLeftOut_34 : decode cX12_isLeftOut 34 = .ok (.iand, 1) := by decide +kernel
theorem dX12_isLeftOut_35 : decode cX12_isLeftOut 35 = .ok (.ifCond .eq 31, 3) := by decide +kernel
theorem dX12_isLeftOut_38 : decode cX12_isLeftOut 38 = .ok (.iload_n 2, 1) := by decide +kernel
theorem dX12_isLeftOut_39 : decode cX12_isLeftOut 39 = .ok (.iconst 1, 1) := by decide +kernel
theorem dX12_isLeftOut_40 : decode cX12_isLeftOut 40 = .ok (.if_icmp .ne 30, 3) := by decide +kernel
theorem dX12_isLeftOut_43 : decode cX12_isLeftOut 43 = .ok (.aload_n 0, 1) := by decide +kernel
theorem dX12_isLeftOut_44 : decode cX12_isLeftOut 44 = .ok (.getfield 41, 3) := by decide +kernel
theorem dX12_isLeftOut_47 : decode cX12_isLeftOut 47 = .ok (.bipush 8, 2) := by decide +kernel
theorem dX12_isLeftOut_49 : decode cX12_isLeftOut 49 = .ok (.iload_n 1, 1) := by decide +kernel
theorem dX12_isLeftOut_50 : decode cX12_isLeftOut 50 = .ok (.imul, 1) := by decide +kernel
theorem dX12_isLeftOut_51 : decode cX12_isLeftOut 51 = .ok (.iaload, 1) := by decide +kernel
theorem dX12_isLeftOut_52 : decode cX12_isLeftOut 52 = .ok (.aload_n 0, 1) := by decide +kernel
theorem dX12_isLeftOut_53 : decode cX12_isLeftOut 53 = .ok (.getfield 41, 3) := by decide +kernel
theorem dX12_isLeftOut_56 : decode cX12_isLeftOut 56 = .ok (.bipush 8, 2) := by decide +kernel
theorem dX12_isLeftOut_58 : decode cX12_isLeftOut 58 = .ok (.iload_n 1, 1) := by decide +kernel
theorem dX12_isLeftOut_59 : decode cX12_isLeftOut 59 = .ok (.imul, 1) := by decide +kernel
theorem dX12_isLeftOut_60 : decode cX12_isLeftOut 60 = .ok (.iconst 1, 1) := by decide +kernel
theorem dX12_isLeftOut_61 : decode cX12_isLeftOut 61 = .ok (.iadd, 1) := by decide +kernel
theorem dX12_isLeftOut_62 : decode cX12_isLeftOut 62 = .ok (.iaload, 1) := by decide +kernel
theorem dX12_isLeftOut_63 : decode cX12_isLeftOut 63 = .ok (.if_icmp .ne 7, 3) := by decide +kernel
theorem dX12_isLeftOut_66 : decode cX12_isLeftOut 66 = .ok (.iconst 1, 1) := by decide +kernel
theorem dX12_isLeftOut_67 : decode cX12_isLeftOut 67 = .ok (.goto 4, 3) := by decide +kernel
theorem dX12_isLeftOut_70 : decode cX12_isLeftOut 70 = .ok (.iconst 0, 1) := by decide +kernel
theorem dX12_isLeftOut_71 : decode cX12_isLeftOut 71 = .ok (.ireturn, 1) := by decide +kernel
theorem dX12_leavesOut_0 : decode cX12_leavesOut 0 = .ok (.iconst 1, 1) := by decide +kernel
theorem dX12_leavesOut_1 : decode cX12_leavesOut 1 = .ok (.istore_n 1, 1) := by decide +kernel
theorem dX12_leavesOut_2 : decode cX12_leavesOut 2 = .ok (.iload_n 1, 1) := by decide +kernel
theorem dX12_leavesOut_3 : decode cX12_leavesOut 3 = .ok (.ifCond .eq 84, 3) := by decide +kernel
theorem dX12_leavesOut_6 : decode cX12_leavesOut 6 = .ok (.aload_n 0, 1) := by decide +kernel
theorem dX12_leavesOut_7 : decode cX12_leavesOut 7 = .ok (.invokevirtual 210, 3) := by decide +kernel
theorem dX12_leavesOut_10 : decode cX12_leavesOut 10 = .ok (.iconst 0, 1) := by decide +kernel
theorem dX12_leavesOut_11 : decode cX12_leavesOut 11 = .ok (.istore_n 2, 1) := by decide +kernel
theorem dX12_leavesOut_12 : decode cX12_leavesOut 12 = .ok (.iconst 0, 1) := by decide +kernel
theorem dX12_leavesOut_13 : decode cX12_leavesOut 13 = .ok (.istore_n 3, 1) := by decide +kernel
theorem dX12_leavesOut_14 : decode cX12_leavesOut 14 = .ok (.iload_n 3, 1) := by decide +kernel
theorem dX12_leavesOut_15 : decode cX12_leavesOut 15 = .ok (.aload_n 0, 1) := by decide +kernel
theorem dX12_leavesOut_16 : decode cX12_leavesOut 16 = .ok (.getfield 176, 3) := by decide +kernel
theorem dX12_leavesOut_19 : decode cX12_leavesOut 19 = .ok (.if_icmp .ge 32, 3) := by decide +kernel
theorem dX12_leavesOut_22 : decode cX12_leavesOut 22 = .ok (.aload_n 0, 1) := by decide +kernel
theorem dX12_leavesOut_23 : decode cX12_leavesOut 23 = .ok (.getfield 50, 3) := by decide +kernel
theorem dX12_leavesOut_26 : decode cX12_leavesOut 26 = .ok (.iload_n 3, 1) := by decide +kernel
theorem dX12_leavesOut_27 : decode cX12_leavesOut 27 = .ok (.iload_n 2, 1) := by decide +kernel
theorem dX12_leavesOut_28 : decode cX12_leavesOut 28 = .ok (.iastore, 1) := by decide +kernel
theorem dX12_leavesOut_29 : decode cX12_leavesOut 29 = .ok (.iload_n 2, 1) := by decide +kernel
theorem dX12_leavesOut_30 : decode cX12_leavesOut 30 = .ok (.aload_n 0, 1) := by decide +kernel
theorem dX12_leavesOut_31 : decode cX12_leavesOut 31 = .ok (.iload_n 3, 1) := by decide +kernel
theorem dX12_leavesOut_32 : decode cX12_leavesOut 32 = .ok (.invokevirtual 213, 3) := by decide +kernel
theorem dX12_leavesOut_35 : decode cX12_leavesOut 35 = .ok (.ifCond .eq 7, 3) := by decide +kernel
theorem dX12_leavesOut_38 : decode cX12_leavesOut 38 = .ok (.iconst 0, 1) := by decide +kernel
theorem dX12_leavesOut_39 : decode cX12_leavesOut 39 = .ok (.goto 4, 3) := by decide +kernel
theorem dX12_leavesOut_42 : decode cX12_leavesOut 42 = .ok (.iconst 1, 1) := by decide +kernel
theorem dX12_leavesOut_43 : decode cX12_leavesOut 43 = .ok (.iadd, 1) := by decide +kernel
theorem dX12_leavesOut_44 : decode cX12_leavesOut 44 = .ok (.istore_n 2, 1) := by decide +kernel
theorem dX12_leavesOut_45 : decode cX12_leavesOut 45 = .ok (.iinc 3 1, 3) := by decide +kernel
theorem dX12_leavesOut_48 : decode cX12_leavesOut 48 = .ok (.goto (-34), 3) := by decide +kernel
theorem dX12_leavesOut_51 : decode cX12_leavesOut 51 = .ok (.aload_n 0, 1) := by decide +kernel
theorem dX12_leavesOut_52 : decode cX12_leavesOut 52 = .ok (.getfield 50, 3) := by decide +kernel
theorem dX12_leavesOut_55 : decode cX12_leavesOut 55 = .ok (.aload_n 0, 1) := by decide +kernel
theorem dX12_leavesOut_56 : decode cX12_leavesOut 56 = .ok (.getfield 176, 3) := by decide +kernel
theorem dX12_leavesOut_59 : decode cX12_leavesOut 59 = .ok (.iload_n 2, 1) := by decide +kernel
theorem dX12_leavesOut_60 : decode cX12_leavesOut 60 = .ok (.iastore, 1) := by decide +kernel
theorem dX12_leavesOut_61 : decode cX12_leavesOut 61 = .ok (.iload_n 2, 1) := by decide +kernel
theorem dX12_leavesOut_62 : decode cX12_leavesOut 62 = .ok (.aload_n 0, 1) := by decide +kernel
theorem dX12_leavesOut_63 : decode cX12_leavesOut 63 = .ok (.getfield 176, 3) := by decide +kernel
theorem dX12_leavesOut_66 : decode cX12_leavesOut 66 = .ok (.if_icmp .ge 7, 3) := by decide +kernel
theorem dX12_leavesOut_69 : decode cX12_leavesOut 69 = .ok (.iconst 1, 1) := by decide +kernel
theorem dX12_leavesOut_70 : decode cX12_leavesOut 70 = .ok (.goto 4, 3) := by decide +kernel
theorem dX12_leavesOut_73 : decode cX12_leavesOut 73 = .ok (.iconst 0, 1) := by decide +kernel
theorem dX12_leavesOut_74 : decode cX12_leavesOut 74 = .ok (.istore_n 1, 1) := by decide +kernel
theorem dX12_leavesOut_75 : decode cX12_leavesOut 75 = .ok (.iload_n 1, 1) := by decide +kernel
theorem dX12_leavesOut_76 : decode cX12_leavesOut 76 = .ok (.ifCond .eq 8, 3) := by decide +kernel
theorem dX12_leavesOut_79 : decode cX12_leavesOut 79 = .ok (.aload_n 0, 1) := by decide +kernel
theorem dX12_leavesOut_80 : decode cX12_leavesOut 80 = .ok (.iload_n 2, 1) := by decide +kernel
theorem dX12_leavesOut_81 : decode cX12_leavesOut 81 = .ok (.invokevirtual 216, 3) := by decide +kernel
theorem dX12_leavesOut_84 : decode cX12_leavesOut 84 = .ok (.goto (-82), 3) := by decide +kernel
theorem dX12_leavesOut_87 : decode cX12_leavesOut 87 = .ok (.return_, 1) := by decide +kernel
theorem dX12_closesUp_0 : decode cX12_closesUp 0 = .ok (.iconst 0, 1) := by decide +kernel
theorem dX12_closesUp_1 : decode cX12_closesUp 1 = .ok (.istore_n 2, 1) := by decide +kernel
theorem dX12_closesUp_2 : decode cX12_closesUp 2 = .ok (.iload_n 2, 1) := by decide +kernel
theorem dX12_closesUp_3 : decode cX12_closesUp 3 = .ok (.aload_n 0, 1) := by decide +kernel
theorem dX12_closesUp_4 : decode cX12_closesUp 4 = .ok (.getfield 176, 3) := by decide +kernel
theorem dX12_closesUp_7 : decode cX12_closesUp 7 = .ok (.if_icmp .ge 139, 3) := by decide +kernel
theorem dX12_closesUp_10 : decode cX12_closesUp 10 = .ok (.aload_n 0, 1) := by decide +kernel
theorem dX12_closesUp_11 : decode cX12_closesUp 11 = .ok (.getfield 50, 3) := by decide +kernel
theorem dX12_closesUp_14 : decode cX12_closesUp 14 = .ok (.iload_n 2, 1) := by decide +kernel
theorem dX12_closesUp_15 : decode cX12_closesUp 15 = .ok (.iconst 1, 1) := by decide +kernel
theorem dX12_closesUp_16 : decode cX12_closesUp 16 = .ok (.iadd, 1) := by decide +kernel
theorem dX12_closesUp_17 : decode cX12_closesUp 17 = .ok (.iaload, 1) := by decide +kernel
theorem dX12_closesUp_18 : decode cX12_closesUp 18 = .ok (.aload_n 0, 1) := by decide +kernel
theorem dX12_closesUp_19 : decode cX12_closesUp 19 = .ok (.getfield 50, 3) := by decide +kernel
theorem dX12_closesUp_22 : decode cX12_closesUp 22 = .ok (.iload_n 2, 1) := by decide +kernel
theorem dX12_closesUp_23 : decode cX12_closesUp 23 = .ok (.iaload, 1) := by decide +kernel
theorem dX12_closesUp_24 : decode cX12_closesUp 24 = .ok (.if_icmp .le 116, 3) := by decide +kernel
theorem dX12_closesUp_27 : decode cX12_closesUp 27 = .ok (.aload_n 0, 1) := by decide +kernel
theorem dX12_closesUp_28 : decode cX12_closesUp 28 = .ok (.getfield 50, 3) := by decide +kernel
theorem dX12_closesUp_31 : decode cX12_closesUp 31 = .ok (.iload_n 2, 1) := by decide +kernel
theorem dX12_closesUp_32 : decode cX12_closesUp 32 = .ok (.iaload, 1) := by decide +kernel
theorem dX12_closesUp_33 : decode cX12_closesUp 33 = .ok (.istore_n 3, 1) := by decide +kernel
theorem dX12_closesUp_34 : decode cX12_closesUp 34 = .ok (.aload_n 0, 1) := by decide +kernel
theorem dX12_closesUp_35 : decode cX12_closesUp 35 = .ok (.getfield 35, 3) := by decide +kernel
theorem dX12_closesUp_38 : decode cX12_closesUp 38 = .ok (.iload_n 3, 1) := by decide +kernel
theorem dX12_closesUp_39 : decode cX12_closesUp 39 = .ok (.aload_n 0, 1) := by decide +kernel
theorem dX12_closesUp_40 : decode cX12_closesUp 40 = .ok (.getfield 35, 3) := by decide +kernel
theorem dX12_closesUp_43 : decode cX12_closesUp 43 = .ok (.iload_n 2, 1) := by decide +kernel
theorem dX12_closesUp_44 : decode cX12_closesUp 44 = .ok (.iaload, 1) := by decide +kernel
theorem dX12_closesUp_45 : decode cX12_closesUp 45 = .ok (.iastore, 1) := by decide +kernel
theorem dX12_closesUp_46 : decode cX12_closesUp 46 = .ok (.aload_n 0, 1) := by decide +kernel
theorem dX12_closesUp_47 : decode cX12_closesUp 47 = .ok (.getfield 38, 3) := by decide +kernel
theorem dX12_closesUp_50 : decode cX12_closesUp 50 = .ok (.iload_n 3, 1) := by decide +kernel
theorem dX12_closesUp_51 : decode cX12_closesUp 51 = .ok (.aload_n 0, 1) := by decide +kernel
theorem dX12_closesUp_52 : decode cX12_closesUp 52 = .ok (.getfield 35, 3) := by decide +kernel
theorem dX12_closesUp_55 : decode cX12_closesUp 55 = .ok (.iload_n 2, 1) := by decide +kernel
theorem dX12_closesUp_56 : decode cX12_closesUp 56 = .ok (.iaload, 1) := by decide +kernel
theorem dX12_closesUp_57 : decode cX12_closesUp 57 = .ok (.invokestatic 183, 3) := by decide +kernel
theorem dX12_closesUp_60 : decode cX12_closesUp 60 = .ok (.ifCond .eq 17, 3) := by decide +kernel
theorem dX12_closesUp_63 : decode cX12_closesUp 63 = .ok (.aload_n 0, 1) := by decide +kernel
theorem dX12_closesUp_64 : decode cX12_closesUp 64 = .ok (.getfield 50, 3) := by decide +kernel
theorem dX12_closesUp_67 : decode cX12_closesUp 67 = .ok (.aload_n 0, 1) := by decide +kernel
theorem dX12_closesUp_68 : decode cX12_closesUp 68 = .ok (.getfield 38, 3) := by decide +kernel
theorem dX12_closesUp_71 : decode cX12_closesUp 71 = .ok (.iload_n 2, 1) := by decide +kernel
theorem dX12_closesUp_72 : decode cX12_closesUp 72 = .ok (.iaload, 1) := by decide +kernel
theorem dX12_closesUp_73 : decode cX12_closesUp 73 = .ok (.iaload, 1) := by decide +kernel
theorem dX12_closesUp_74 : decode cX12_closesUp 74 = .ok (.goto 9, 3) := by decide +kernel
theorem dX12_closesUp_77 : decode cX12_closesUp 77 = .ok (.aload_n 0, 1) := by decide +kernel
theorem dX12_closesUp_78 : decode cX12_closesUp 78 = .ok (.getfield 38, 3) := by decide +kernel
theorem dX12_closesUp_81 : decode cX12_closesUp 81 = .ok (.iload_n 2, 1) := by decide +kernel
theorem dX12_closesUp_82 : decode cX12_closesUp 82 = .ok (.iaload, 1) := by decide +kernel
theorem dX12_closesUp_83 : decode cX12_closesUp 83 = .ok (.iastore, 1) := by decide +kernel
theorem dX12_closesUp_84 : decode cX12_closesUp 84 = .ok (.aload_n 0, 1) := by decide +kernel
theorem dX12_closesUp_85 : decode cX12_closesUp 85 = .ok (.getfield 44, 3) := by decide +kernel
theorem dX12_closesUp_88 : decode cX12_closesUp 88 = .ok (.iload_n 3, 1) := by decide +kernel
theorem dX12_closesUp_89 : decode cX12_closesUp 89 = .ok (.aload_n 0, 1) := by decide +kernel
theorem dX12_closesUp_90 : decode cX12_closesUp 90 = .ok (.getfield 44, 3) := by decide +kernel
theorem dX12_closesUp_93 : decode cX12_closesUp 93 = .ok (.iload_n 2, 1) := by decide +kernel
theorem dX12_closesUp_94 : decode cX12_closesUp 94 = .ok (.iaload, 1) := by decide +kernel
theorem dX12_closesUp_95 : decode cX12_closesUp 95 = .ok (.iastore, 1) := by decide +kernel
theorem dX12_closesUp_96 : decode cX12_closesUp 96 = .ok (.iconst 0, 1) := by decide +kernel
theorem dX12_closesUp_97 : decode cX12_closesUp 97 = .ok (.istore 4, 2) := by decide +kernel
theorem dX12_closesUp_99 : decode cX12_closesUp 99 = .ok (.iload 4, 2) := by decide +kernel
theorem dX12_closesUp_101 : decode cX12_closesUp 101 = .ok (.aload_n 0, 1) := by decide +kernel
theorem dX12_closesUp_102 : decode cX12_closesUp 102 = .ok (.getfield 44, 3) := by decide +kernel
theorem dX12_closesUp_105 : decode cX12_closesUp 105 = .ok (.iload_n 2, 1) := by decide +kernel
theorem dX12_closesUp_106 : decode cX12_closesUp 106 = .ok (.iaload, 1) := by decide +kernel
theorem dX12_closesUp_107 : decode cX12_closesUp 107 = .ok (.if_icmp .ge 33, 3) := by decide +kernel
theorem dX12_closesUp_110 : decode cX12_closesUp 110 = .ok (.aload_n 0, 1) := by decide +kernel
theorem dX12_closesUp_111 : decode cX12_closesUp 111 = .ok (.getfield 41, 3) := by decide +kernel
theorem dX12_closesUp_114 : decode cX12_closesUp 114 = .ok (.bipush 8, 2) := by decide +kernel
theorem dX12_closesUp_116 : decode cX12_closesUp 116 = .ok (.iload_n 3, 1) := by decide +kernel
theorem dX12_closesUp_117 : decode cX12_closesUp 117 = .ok (.imul, 1) := by decide +kernel
theorem dX12_closesUp_118 : decode cX12_closesUp 118 = .ok (.iload 4, 2) := by decide +kernel
theorem dX12_closesUp_120 : decode cX12_closesUp 120 = .ok (.iadd, 1) := by decide +kernel
theorem dX12_closesUp_121 : decode cX12_closesUp 121 = .ok (.aload_n 0, 1) := by decide +kernel
theorem dX12_closesUp_122 : decode cX12_closesUp 122 = .ok (.getfield 41, 3) := by decide +kernel
theorem dX12_closesUp_125 : decode cX12_closesUp 125 = .ok (.bipush 8, 2) := by decide +kernel
theorem dX12_closesUp_127 : decode cX12_closesUp 127 = .ok (.iload_n 2, 1) := by decide +kernel
theorem dX12_closesUp_128 : decode cX12_closesUp 128 = .ok (.imul, 1) := by decide +kernel
theorem dX12_closesUp_129 : decode cX12_closesUp 129 = .ok (.iload 4, 2) := by decide +kernel
theorem dX12_closesUp_131 : decode cX12_closesUp 131 = .ok (.iadd, 1) := by decide +kernel
theorem dX12_closesUp_132 : decode cX12_closesUp 132 = .ok (.iaload, 1) := by decide +kernel
theorem dX12_closesUp_133 : decode cX12_closesUp 133 = .ok (.iastore, 1) := by decide +kernel
theorem dX12_closesUp_134 : decode cX12_closesUp 134 = .ok (.iinc 4 1, 3) := by decide +kernel
theorem dX12_closesUp_137 : decode cX12_closesUp 137 = .ok (.goto (-38), 3) := by decide +kernel
theorem dX12_closesUp_140 : decode cX12_closesUp 140 = .ok (.iinc 2 1, 3) := by decide +kernel
theorem dX12_closesUp_143 : decode cX12_closesUp 143 = .ok (.goto (-141), 3) := by decide +kernel
theorem dX12_closesUp_146 : decode cX12_closesUp 146 = .ok (.aload_n 0, 1) := by decide +kernel
theorem dX12_closesUp_147 : decode cX12_closesUp 147 = .ok (.iload_n 1, 1) := by decide +kernel
theorem dX12_closesUp_148 : decode cX12_closesUp 148 = .ok (.putfield 176, 3) := by decide +kernel
theorem dX12_closesUp_151 : decode cX12_closesUp 151 = .ok (.return_, 1) := by decide +kernel
theorem dX12_spans_0 : decode cX12_spans 0 = .ok (.iconst 0, 1) := by decide +kernel
theorem dX12_spans_1 : decode cX12_spans 1 = .ok (.istore_n 2, 1) := by decide +kernel
theorem dX12_spans_2 : decode cX12_spans 2 = .ok (.iload_n 2, 1) := by decide +kernel
theorem dX12_spans_3 : decode cX12_spans 3 = .ok (.bipush 24, 2) := by decide +kernel
theorem dX12_spans_5 : decode cX12_spans 5 = .ok (.if_icmp .ge 64, 3) := by decide +kernel
theorem dX12_spans_8 : decode cX12_spans 8 = .ok (.aload_n 0, 1) := by decide +kernel
theorem dX12_spans_9 : decode cX12_spans 9 = .ok (.getfield 62, 3) := by decide +kernel
theorem dX12_spans_12 : decode cX12_spans 12 = .ok (.bipush 24, 2) := by decide +kernel
theorem dX12_spans_14 : decode cX12_spans 14 = .ok (.iload_n 1, 1) := by decide +kernel
theorem dX12_spans_15 : decode cX12_spans 15 = .ok (.imul, 1) := by decide +kernel
theorem dX12_spans_16 : decode cX12_spans 16 = .ok (.iload_n 2, 1) := by decide +kernel
theorem dX12_spans_17 : decode cX12_spans 17 = .ok (.iadd, 1) := by decide +kernel
theorem dX12_spans_18 : decode cX12_spans 18 = .ok (.iconst (-1), 1) := by decide +kernel
theorem dX12_spans_19 : decode cX12_spans 19 = .ok (.iastore, 1) := by decide +kernel
theorem dX12_spans_20 : decode cX12_spans 20 = .ok (.aload_n 0, 1) := by decide +kernel
theorem dX12_spans_21 : decode cX12_spans 21 = .ok (.getfield 65, 3) := by decide +kernel
theorem dX12_spans_24 : decode cX12_spans 24 = .ok (.bipush 24, 2) := by decide +kernel
theorem dX12_spans_26 : decode cX12_spans 26 = .ok (.iload_n 1, 1) := by decide +kernel
theorem dX12_spans_27 : decode cX12_spans 27 = .ok (.imul, 1) := by decide +kernel
theorem dX12_spans_28 : decode cX12_spans 28 = .ok (.iload_n 2, 1) := by decide +kernel
theorem dX12_spans_29 : decode cX12_spans 29 = .ok (.iadd, 1) := by decide +kernel
theorem dX12_spans_30 : decode cX12_spans 30 = .ok (.iconst (-1), 1) := by decide +kernel
theorem dX12_spans_31 : decode cX12_spans 31 = .ok (.iastore, 1) := by decide +kernel
theorem dX12_spans_32 : decode cX12_spans 32 = .ok (.aload_n 0, 1) := by decide +kernel
theorem dX12_spans_33 : decode cX12_spans 33 = .ok (.getfield 68, 3) := by decide +kernel
theorem dX12_spans_36 : decode cX12_spans 36 = .ok (.bipush 24, 2) := by decide +kernel
theorem dX12_spans_38 : decode cX12_spans 38 = .ok (.iload_n 1, 1) := by decide +kernel
theorem dX12_spans_39 : decode cX12_spans 39 = .ok (.imul, 1) := by decide +kernel
theorem dX12_spans_40 : decode cX12_spans 40 = .ok (.iload_n 2, 1) := by decide +kernel
theorem dX12_spans_41 : decode cX12_spans 41 = .ok (.iadd, 1) := by decide +kernel
theorem dX12_spans_42 : decode cX12_spans 42 = .ok (.iconst (-1), 1) := by decide +kernel
theorem dX12_spans_43 : decode cX12_spans 43 = .ok (.iastore, 1) := by decide +kernel
theorem dX12_spans_44 : decode cX12_spans 44 = .ok (.aload_n 0, 1) := by decide +kernel
theorem dX12_spans_45 : decode cX12_spans 45 = .ok (.getfield 71, 3) := by decide +kernel
theorem dX12_spans_48 : decode cX12_spans 48 = .ok (.bipush 24, 2) := by decide +kernel
theorem dX12_spans_50 : decode cX12_spans 50 = .ok (.iload_n 1, 1) := by decide +kernel
theorem dX12_spans_51 : decode cX12_spans 51 = .ok (.imul, 1) := by decide +kernel
theorem dX12_spans_52 : decode cX12_spans 52 = .ok (.iload_n 2, 1) := by decide +kernel
theorem dX12_spans_53 : decode cX12_spans 53 = .ok (.iadd, 1) := by decide +kernel
theorem dX12_spans_54 : decode cX12_spans 54 = .ok (.iconst (-1), 1) := by decide +kernel
theorem dX12_spans_55 : decode cX12_spans 55 = .ok (.iastore, 1) := by decide +kernel
theorem dX12_spans_56 : decode cX12_spans 56 = .ok (.aload_n 0, 1) := by decide +kernel
theorem dX12_spans_57 : decode cX12_spans 57 = .ok (.getfield 80, 3) := by decide +kernel
theorem dX12_spans_60 : decode cX12_spans 60 = .ok (.iload_n 2, 1) := by decide +kernel
theorem dX12_spans_61 : decode cX12_spans 61 = .ok (.iconst 0, 1) := by decide +kernel
theorem dX12_spans_62 : decode cX12_spans 62 = .ok (.bastore, 1) := by decide +kernel
theorem dX12_spans_63 : decode cX12_spans 63 = .ok (.iinc 2 1, 3) := by decide +kernel
theorem dX12_spans_66 : decode cX12_spans 66 = .ok (.goto (-64), 3) := by decide +kernel
theorem dX12_spans_69 : decode cX12_spans 69 = .ok (.iconst 0, 1) := by decide +kernel
theorem dX12_spans_70 : decode cX12_spans 70 = .ok (.istore_n 2, 1) := by decide +kernel
theorem dX12_spans_71 : decode cX12_spans 71 = .ok (.iload_n 2, 1) := by decide +kernel
theorem dX12_spans_72 : decode cX12_spans 72 = .ok (.aload_n 0, 1) := by decide +kernel
theorem dX12_spans_73 : decode cX12_spans 73 = .ok (.getfield 176, 3) := by decide +kernel
theorem dX12_spans_76 : decode cX12_spans 76 = .ok (.if_icmp .ge 135, 3) := by decide +kernel
theorem dX12_spans_79 : decode cX12_spans 79 = .ok (.aload_n 0, 1) := by decide +kernel
theorem dX12_spans_80 : decode cX12_spans 80 = .ok (.getfield 59, 3) := by decide +kernel
theorem dX12_spans_83 : decode cX12_spans 83 = .ok (.iload_n 2, 1) := by decide +kernel
theorem dX12_spans_84 : decode cX12_spans 84 = .ok (.iaload, 1) := by decide +kernel
theorem dX12_spans_85 : decode cX12_spans 85 = .ok (.istore_n 3, 1) := by decide +kernel
theorem dX12_spans_86 : decode cX12_spans 86 = .ok (.iconst 0, 1) := by decide +kernel
theorem dX12_spans_87 : decode cX12_spans 87 = .ok (.istore 4, 2) := by decide +kernel
theorem dX12_spans_89 : decode cX12_spans 89 = .ok (.iload 4, 2) := by decide +kernel
theorem dX12_spans_91 : decode cX12_spans 91 = .ok (.aload_n 0, 1) := by decide +kernel
theorem dX12_spans_92 : decode cX12_spans 92 = .ok (.getfield 44, 3) := by decide +kernel
theorem dX12_spans_95 : decode cX12_spans 95 = .ok (.iload_n 2, 1) := by decide +kernel
theorem dX12_spans_96 : decode cX12_spans 96 = .ok (.iaload, 1) := by decide +kernel
theorem dX12_spans_97 : decode cX12_spans 97 = .ok (.if_icmp .ge 26, 3) := by decide +kernel
theorem dX12_spans_100 : decode cX12_spans 100 = .ok (.iload_n 3, 1) := by decide +kernel
theorem dX12_spans_101 : decode cX12_spans 101 = .ok (.iconst 1, 1) := by decide +kernel
theorem dX12_spans_102 : decode cX12_spans 102 = .ok (.aload_n 0, 1) := by decide +kernel
theorem dX12_spans_103 : decode cX12_spans 103 = .ok (.getfield 41, 3) := by decide +kernel
theorem dX12_spans_106 : decode cX12_spans 106 = .ok (.bipush 8, 2) := by decide +kernel
theorem dX12_spans_108 : decode cX12_spans 108 = .ok (.iload_n 2, 1) := by decide +kernel
theorem dX12_spans_109 : decode cX12_spans 109 = .ok (.imul, 1) := by decide +kernel
theorem dX12_spans_110 : decode cX12_spans 110 = .ok (.iload 4, 2) := by decide +kernel
theorem dX12_spans_112 : decode cX12_spans 112 = .ok (.iadd, 1) := by decide +kernel
theorem dX12_spans_113 : decode cX12_spans 113 = .ok (.iaload, 1) := by decide +kernel
theorem dX12_spans_114 : decode cX12_spans 114 = .ok (.ishl, 1) := by decide +kernel
theorem dX12_spans_115 : decode cX12_spans 115 = .ok (.ior, 1) := by decide +kernel
theorem dX12_spans_116 : decode cX12_spans 116 = .ok (.istore_n 3, 1) := by decide +kernel
theorem dX12_spans_117 : decode cX12_spans 117 = .ok (.iinc 4 1, 3) := by decide +kernel
theorem dX12_spans_120 : decode cX12_spans 120 = .ok (.goto (-31), 3) := by decide +kernel
theorem dX12_spans_123 : decode cX12_spans 123 = .ok (.iconst 0, 1) := by decide +kernel
theorem dX12_spans_124 : decode cX12_spans 124 = .ok (.istore 4, 2) := by decide +kernel
theorem dX12_spans_126 : decode cX12_spans 126 = .ok (.iload 4, 2) := by decide +kernel
theorem dX12_spans_128 : decode cX12_spans 128 = .ok (.bipush 24, 2) := by decide +kernel
theorem dX12_spans_130 : decode cX12_spans 130 = .ok (.if_icmp .ge 75, 3) := by decide +kernel
theorem dX12_spans_133 : decode cX12_spans 133 = .ok (.iload_n 3, 1) := by decide +kernel
theorem dX12_spans_134 : decode cX12_spans 134 = .ok (.iload 4, 2) := by decide +kernel
theorem dX12_spans_136 : decode cX12_spans 136 = .ok (.ishr, 1) := by decide +kernel
theorem dX12_spans_137 : decode cX12_spans 137 = .ok (.iconst 1, 1) := by decide +kernel
theorem dX12_spans_138 : decode cX12_spans 138 = .ok (.iand, 1) := by decide +kernel
theorem dX12_spans_139 : decode cX12_spans 139 = .ok (.iconst 1, 1) := by decide +kernel
theorem dX12_spans_140 : decode cX12_spans 140 = .ok (.if_icmp .ne 59, 3) := by decide +kernel
theorem dX12_spans_143 : decode cX12_spans 143 = .ok (.aload_n 0, 1) := by decide +kernel
theorem dX12_spans_144 : decode cX12_spans 144 = .ok (.getfield 62, 3) := by decide +kernel
theorem dX12_spans_147 : decode cX12_spans 147 = .ok (.bipush 24, 2) := by decide +kernel
theorem dX12_spans_149 : decode cX12_spans 149 = .ok (.iload_n 1, 1) := by decide +kernel
theorem dX12_spans_150 : decode cX12_spans 150 = .ok (.imul, 1) := by decide +kernel
theorem dX12_spans_151 : decode cX12_spans 151 = .ok (.iload 4, 2) := by decide +kernel
theorem dX12_spans_153 : decode cX12_spans 153 = .ok (.iadd, 1) := by decide +kernel
theorem dX12_spans_154 : decode cX12_spans 154 = .ok (.aload_n 0, 1) := by decide +kernel
theorem dX12_spans_155 : decode cX12_spans 155 = .ok (.getfield 62, 3) := by decide +kernel
theorem dX12_spans_158 : decode cX12_spans 158 = .ok (.bipush 24, 2) := by decide +kernel
theorem dX12_spans_160 : decode cX12_spans 160 = .ok (.iload_n 1, 1) := by decide +kernel
theorem dX12_spans_161 : decode cX12_spans 161 = .ok (.imul, 1) := by decide +kernel
theorem dX12_spans_162 : decode cX12_spans 162 = .ok (.iload 4, 2) := by decide +kernel
theorem dX12_spans_164 : decode cX12_spans 164 = .ok (.iadd, 1) := by decide +kernel
theorem dX12_spans_165 : decode cX12_spans 165 = .ok (.iaload, 1) := by decide +kernel
theorem dX12_spans_166 : decode cX12_spans 166 = .ok (.ifCond .ge 7, 3) := by decide +kernel
theorem dX12_spans_169 : decode cX12_spans 169 = .ok (.iload_n 2, 1) := by decide +kernel
theorem dX12_spans_170 : decode cX12_spans 170 = .ok (.goto 15, 3) := by decide +kernel
theorem dX12_spans_173 : decode cX12_spans 173 = .ok (.aload_n 0, 1) := by decide +kernel
theorem dX12_spans_174 : decode cX12_spans 174 = .ok (.getfield 62, 3) := by decide +kernel
theorem dX12_spans_177 : decode cX12_spans 177 = .ok (.bipush 24, 2) := by decide +kernel
theorem dX12_spans_179 : decode cX12_spans 179 = .ok (.iload_n 1, 1) := by decide +kernel
theorem dX12_spans_180 : decode cX12_spans 180 = .ok (.imul, 1) := by decide +kernel
theorem dX12_spans_181 : decode cX12_spans 181 = .ok (.iload 4, 2) := by decide +kernel
theorem dX12_spans_183 : decode cX12_spans 183 = .ok (.iadd, 1) := by decide +kernel
theorem dX12_spans_184 : decode cX12_spans 184 = .ok (.iaload, 1) := by decide +kernel
theorem dX12_spans_185 : decode cX12_spans 185 = .ok (.iastore, 1) := by decide +kernel
theorem dX12_spans_186 : decode cX12_spans 186 = .ok (.aload_n 0, 1) := by decide +kernel
theorem dX12_spans_187 : decode cX12_spans 187 = .ok (.getfield 65, 3) := by decide +kernel
theorem dX12_spans_190 : decode cX12_spans 190 = .ok (.bipush 24, 2) := by decide +kernel
theorem dX12_spans_192 : decode cX12_spans 192 = .ok (.iload_n 1, 1) := by decide +kernel
theorem dX12_spans_193 : decode cX12_spans 193 = .ok (.imul, 1) := by decide +kernel
theorem dX12_spans_194 : decode cX12_spans 194 = .ok (.iload 4, 2) := by decide +kernel
theorem dX12_spans_196 : decode cX12_spans 196 = .ok (.iadd, 1) := by decide +kernel
theorem dX12_spans_197 : decode cX12_spans 197 = .ok (.iload_n 2, 1) := by decide +kernel
theorem dX12_spans_198 : decode cX12_spans 198 = .ok (.iastore, 1) := by decide +kernel
theorem dX12_spans_199 : decode cX12_spans 199 = .ok (.iinc 4 1, 3) := by decide +kernel
theorem dX12_spans_202 : decode cX12_spans 202 = .ok (.goto (-76), 3) := by decide +kernel
theorem dX12_spans_205 : decode cX12_spans 205 = .ok (.iinc 2 1, 3) := by decide +kernel
theorem dX12_spans_208 : decode cX12_spans 208 = .ok (.goto (-137), 3) := by decide +kernel
theorem dX12_spans_211 : decode cX12_spans 211 = .ok (.aload_n 0, 1) := by decide +kernel
theorem dX12_spans_212 : decode cX12_spans 212 = .ok (.getfield 74, 3) := by decide +kernel
theorem dX12_spans_215 : decode cX12_spans 215 = .ok (.iload_n 1, 1) := by decide +kernel
theorem dX12_spans_216 : decode cX12_spans 216 = .ok (.iconst 0, 1) := by decide +kernel
theorem dX12_spans_217 : decode cX12_spans 217 = .ok (.iastore, 1) := by decide +kernel
theorem dX12_spans_218 : decode cX12_spans 218 = .ok (.iconst 0, 1) := by decide +kernel
theorem dX12_spans_219 : decode cX12_spans 219 = .ok (.istore_n 2, 1) := by decide +kernel
theorem dX12_spans_220 : decode cX12_spans 220 = .ok (.iload_n 2, 1) := by decide +kernel
theorem dX12_spans_221 : decode cX12_spans 221 = .ok (.aload_n 0, 1) := by decide +kernel
theorem dX12_spans_222 : decode cX12_spans 222 = .ok (.getfield 176, 3) := by decide +kernel
theorem dX12_spans_225 : decode cX12_spans 225 = .ok (.if_icmp .ge 44, 3) := by decide +kernel
theorem dX12_spans_228 : decode cX12_spans 228 = .ok (.iconst 0, 1) := by decide +kernel
theorem dX12_spans_229 : decode cX12_spans 229 = .ok (.istore_n 3, 1) := by decide +kernel
theorem dX12_spans_230 : decode cX12_spans 230 = .ok (.iload_n 3, 1) := by decide +kernel
theorem dX12_spans_231 : decode cX12_spans 231 = .ok (.bipush 24, 2) := by decide +kernel
theorem dX12_spans_233 : decode cX12_spans 233 = .ok (.if_icmp .ge 30, 3) := by decide +kernel
theorem dX12_spans_236 : decode cX12_spans 236 = .ok (.aload_n 0, 1) := by decide +kernel
theorem dX12_spans_237 : decode cX12_spans 237 = .ok (.getfield 62, 3) := by decide +kernel
theorem dX12_spans_240 : decode cX12_spans 240 = .ok (.bipush 24, 2) := by decide +kernel
theorem dX12_spans_242 : decode cX12_spans 242 = .ok (.iload_n 1, 1) := by decide +kernel
theorem dX12_spans_243 : decode cX12_spans 243 = .ok (.imul, 1) := by decide +kernel
theorem dX12_spans_244 : decode cX12_spans 244 = .ok (.iload_n 3, 1) := by decide +kernel
theorem dX12_spans_245 : decode cX12_spans 245 = .ok (.iadd, 1) := by decide +kernel
theorem dX12_spans_246 : decode cX12_spans 246 = .ok (.iaload, 1) := by decide +kernel
theorem dX12_spans_247 : decode cX12_spans 247 = .ok (.iload_n 2, 1) := by decide +kernel
theorem dX12_spans_248 : decode cX12_spans 248 = .ok (.if_icmp .ne 9, 3) := by decide +kernel
theorem dX12_spans_251 : decode cX12_spans 251 = .ok (.aload_n 0, 1) := by decide +kernel
theorem dX12_spans_252 : decode cX12_spans 252 = .ok (.iload_n 1, 1) := by decide +kernel
theorem dX12_spans_253 : decode cX12_spans 253 = .ok (.iload_n 3, 1) := by decide +kernel
theorem dX12_spans_254 : decode cX12_spans 254 = .ok (.invokevirtual 219, 3) := by decide +kernel
theorem dX12_spans_257 : decode cX12_spans 257 = .ok (.iinc 3 1, 3) := by decide +kernel
theorem dX12_spans_260 : decode cX12_spans 260 = .ok (.goto (-30), 3) := by decide +kernel
theorem dX12_spans_263 : decode cX12_spans 263 = .ok (.iinc 2 1, 3) := by decide +kernel
theorem dX12_spans_266 : decode cX12_spans 266 = .ok (.goto (-46), 3) := by decide +kernel
theorem dX12_spans_269 : decode cX12_spans 269 = .ok (.return_, 1) := by decide +kernel
theorem dX12_scans_0 : decode cX12_scans 0 = .ok (.aload_n 0, 1) := by decide +kernel
theorem dX12_scans_1 : decode cX12_scans 1 = .ok (.getfield 62, 3) := by decide +kernel
theorem dX12_scans_4 : decode cX12_scans 4 = .ok (.bipush 24, 2) := by decide +kernel
theorem dX12_scans_6 : decode cX12_scans 6 = .ok (.iload_n 1, 1) := by decide +kernel
theorem dX12_scans_7 : decode cX12_scans 7 = .ok (.imul, 1) := by decide +kernel
theorem dX12_scans_8 : decode cX12_scans 8 = .ok (.iload_n 2, 1) := by decide +kernel
theorem dX12_scans_9 : decode cX12_scans 9 = .ok (.iadd, 1) := by decide +kernel
theorem dX12_scans_10 : decode cX12_scans 10 = .ok (.iaload, 1) := by decide +kernel
theorem dX12_scans_11 : decode cX12_scans 11 = .ok (.istore_n 3, 1) := by decide +kernel
theorem dX12_scans_12 : decode cX12_scans 12 = .ok (.iconst 0, 1) := by decide +kernel
theorem dX12_scans_13 : decode cX12_scans 13 = .ok (.istore 4, 2) := by decide +kernel
theorem dX12_scans_15 : decode cX12_scans 15 = .ok (.iconst 0, 1) := by decide +kernel
theorem dX12_scans_16 : decode cX12_scans 16 = .ok (.istore 5, 2) := by decide +kernel
theorem dX12_scans_18 : decode cX12_scans 18 = .ok (.iload 5, 2) := by decide +kernel
theorem dX12_scans_20 : decode cX12_scans 20 = .ok (.bipush 24, 2) := by decide +kernel
theorem dX12_scans_22 : decode cX12_scans 22 = .ok (.if_icmp .ge 81, 3) := by decide +kernel
theorem dX12_scans_25 : decode cX12_scans 25 = .ok (.aload_n 0, 1) := by decide +kernel
theorem dX12_scans_26 : decode cX12_scans 26 = .ok (.getfield 80, 3) := by decide +kernel
theorem dX12_scans_29 : decode cX12_scans 29 = .ok (.iload 5, 2) := by decide +kernel
theorem dX12_scans_31 : decode cX12_scans 31 = .ok (.aload_n 0, 1) := by decide +kernel
theorem dX12_scans_32 : decode cX12_scans 32 = .ok (.getfield 80, 3) := by decide +kernel
theorem dX12_scans_35 : decode cX12_scans 35 = .ok (.iload 5, 2) := by decide +kernel
theorem dX12_scans_37 : decode cX12_scans 37 = .ok (.baload, 1) := by decide +kernel
theorem dX12_scans_38 : decode cX12_scans 38 = .ok (.ifCond .eq 23, 3) := by decide +kernel
theorem dX12_scans_41 : decode cX12_scans 41 = .ok (.aload_n 0, 1) := by decide +kernel
theorem dX12_scans_42 : decode cX12_scans 42 = .ok (.getfield 65, 3) := by decide +kernel
theorem dX12_scans_45 : decode cX12_scans 45 = .ok (.bipush 24, 2) := by decide +kernel
theorem dX12_scans_47 : decode cX12_scans 47 = .ok (.iload_n 1, 1) := by decide +kernel
theorem dX12_scans_48 : decode cX12_scans 48 = .ok (.imul, 1) := by decide +kernel
theorem dX12_scans_49 : decode cX12_scans 49 = .ok (.iload 5, 2) := by decide +kernel
theorem dX12_scans_51 : decode cX12_scans 51 = .ok (.iadd, 1) := by decide +kernel
theorem dX12_scans_52 : decode cX12_scans 52 = .ok (.iaload, 1) := by decide +kernel
theorem dX12_scans_53 : decode cX12_scans 53 = .ok (.iload_n 3, 1) := by decide +kernel
theorem dX12_scans_54 : decode cX12_scans 54 = .ok (.if_icmp .lt 7, 3) := by decide +kernel
theorem dX12_scans_57 : decode cX12_scans 57 = .ok (.iconst 1, 1) := by decide +kernel
theorem dX12_scans_58 : decode cX12_scans 58 = .ok (.goto 4, 3) := by decide +kernel
theorem dX12_scans_61 : decode cX12_scans 61 = .ok (.iconst 0, 1) := by decide +kernel
theorem dX12_scans_62 : decode cX12_scans 62 = .ok (.bastore, 1) := by decide +kernel
theorem dX12_scans_63 : decode cX12_scans 63 = .ok (.aload_n 0, 1) := by decide +kernel
theorem dX12_scans_64 : decode cX12_scans 64 = .ok (.getfield 80, 3) := by decide +kernel
theorem dX12_scans_67 : decode cX12_scans 67 = .ok (.iload 5, 2) := by decide +kernel
theorem dX12_scans_69 : decode cX12_scans 69 = .ok (.baload, 1) := by decide +kernel
theorem dX12_scans_70 : decode cX12_scans 70 = .ok (.ifCond .eq 23, 3) := by decide +kernel
theorem dX12_scans_73 : decode cX12_scans 73 = .ok (.iload 4, 2) := by decide +kernel
theorem dX12_scans_75 : decode cX12_scans 75 = .ok (.iconst 1, 1) := by decide +kernel
theorem dX12_scans_76 : decode cX12_scans 76 = .ok (.aload_n 0, 1) := by decide +kernel
theorem dX12_scans_77 : decode cX12_scans 77 = .ok (.getfield 68, 3) := by decide +kernel
theorem dX12_scans_80 : decode cX12_scans 80 = .ok (.bipush 24, 2) := by decide +kernel
theorem dX12_scans_82 : decode cX12_scans 82 = .ok (.iload_n 1, 1) := by decide +kernel
theorem dX12_scans_83 : decode cX12_scans 83 = .ok (.imul, 1) := by decide +kernel
theorem dX12_scans_84 : decode cX12_scans 84 = .ok (.iload 5, 2) := by decide +kernel
theorem dX12_scans_86 : decode cX12_scans 86 = .ok (.iadd, 1) := by decide +kernel
theorem dX12_scans_87 : decode cX12_scans 87 = .ok (.iaload, 1) := by decide +kernel
theorem dX12_scans_88 : decode cX12_scans 88 = .ok (.ishl, 1) := by decide +kernel
theorem dX12_scans_89 : decode cX12_scans 89 = .ok (.ior, 1) := by decide +kernel
theorem dX12_scans_90 : decode cX12_scans 90 = .ok (.goto 5, 3) := by decide +kernel
theorem dX12_scans_93 : decode cX12_scans 93 = .ok (.iload 4, 2) := by decide +kernel
theorem dX12_scans_95 : decode cX12_scans 95 = .ok (.istore 4, 2) := by decide +kernel
theorem dX12_scans_97 : decode cX12_scans 97 = .ok (.iinc 5 1, 3) := by decide +kernel
theorem dX12_scans_100 : decode cX12_scans 100 = .ok (.goto (-82), 3) := by decide +kernel
theorem dX12_scans_103 : decode cX12_scans 103 = .ok (.iconst 0, 1) := by decide +kernel
theorem dX12_scans_104 : decode cX12_scans 104 = .ok (.istore 5, 2) := by decide +kernel
theorem dX12_scans_106 : decode cX12_scans 106 = .ok (.iload 5, 2) := by decide +kernel
theorem dX12_scans_108 : decode cX12_scans 108 = .ok (.aload_n 0, 1) := by decide +kernel
theorem dX12_scans_109 : decode cX12_scans 109 = .ok (.getfield 222, 3) := by decide +kernel
theorem dX12_scans_112 : decode cX12_scans 112 = .ok (.iconst 2, 1) := by decide +kernel
theorem dX12_scans_113 : decode cX12_scans 113 = .ok (.isub, 1) := by decide +kernel
theorem dX12_scans_114 : decode cX12_scans 114 = .ok (.if_icmp .ge 20, 3) := by decide +kernel
theorem dX12_scans_117 : decode cX12_scans 117 = .ok (.iload 4, 2) := by decide +kernel
theorem dX12_scans_119 : decode cX12_scans 119 = .ok (.iload 5, 2) := by decide +kernel
theorem dX12_scans_121 : decode cX12_scans 121 = .ok (.ishr, 1) := by decide +kernel
theorem dX12_scans_122 : decode cX12_scans 122 = .ok (.iconst 1, 1) := by decide +kernel
theorem dX12_scans_123 : decode cX12_scans 123 = .ok (.iand, 1) := by decide +kernel
theorem dX12_scans_124 : decode cX12_scans 124 = .ok (.iconst 1, 1) := by decide +kernel
theorem dX12_scans_125 : decode cX12_scans 125 = .ok (.if_icmp .ne 9, 3) := by decide +kernel
theorem dX12_scans_128 : decode cX12_scans 128 = .ok (.iinc 5 1, 3) := by decide +kernel
theorem dX12_scans_131 : decode cX12_scans 131 = .ok (.goto (-25), 3) := by decide +kernel
theorem dX12_scans_134 : decode cX12_scans 134 = .ok (.iload 5, 2) := by decide +kernel
theorem dX12_scans_136 : decode cX12_scans 136 = .ok (.aload_n 0, 1) := by decide +kernel
theorem dX12_scans_137 : decode cX12_scans 137 = .ok (.getfield 222, 3) := by decide +kernel
theorem dX12_scans_140 : decode cX12_scans 140 = .ok (.iconst 2, 1) := by decide +kernel
theorem dX12_scans_141 : decode cX12_scans 141 = .ok (.isub, 1) := by decide +kernel
theorem dX12_scans_142 : decode cX12_scans 142 = .ok (.if_icmp .ge 24, 3) := by decide +kernel
theorem dX12_scans_145 : decode cX12_scans 145 = .ok (.aload_n 0, 1) := by decide +kernel
theorem dX12_scans_146 : decode cX12_scans 146 = .ok (.getfield 68, 3) := by decide +kernel
theorem dX12_scans_149 : decode cX12_scans 149 = .ok (.bipush 24, 2) := by decide +kernel
theorem dX12_scans_151 : decode cX12_scans 151 = .ok (.iload_n 1, 1) := by decide +kernel
theorem dX12_scans_152 : decode cX12_scans 152 = .ok (.imul, 1) := by decide +kernel
theorem dX12_scans_153 : decode cX12_scans 153 = .ok (.iload_n 2, 1) := by decide +kernel
theorem dX12_scans_154 : decode cX12_scans 154 = .ok (.iadd, 1) := by decide +kernel
theorem dX12_scans_155 : decode cX12_scans 155 = .ok (.iload 5, 2) := by decide +kernel
theorem dX12_scans_157 : decode cX12_scans 157 = .ok (.iastore, 1) := by decide +kernel
theorem dX12_scans_158 : decode cX12_scans 158 = .ok (.aload_n 0, 1) := by decide +kernel
theorem dX12_scans_159 : decode cX12_scans 159 = .ok (.getfield 80, 3) := by decide +kernel
theorem dX12_scans_162 : decode cX12_scans 162 = .ok (.iload_n 2, 1) := by decide +kernel
theorem dX12_scans_163 : decode cX12_scans 163 = .ok (.iconst 1, 1) := by decide +kernel
theorem dX12_scans_164 : decode cX12_scans 164 = .ok (.bastore, 1) := by decide +kernel
theorem dX12_scans_165 : decode cX12_scans 165 = .ok (.return_, 1) := by decide +kernel
theorem dX12_scans_166 : decode cX12_scans 166 = .ok (.iload_n 2, 1) := by decide +kernel
theorem dX12_scans_167 : decode cX12_scans 167 = .ok (.istore 6, 2) := by decide +kernel
theorem dX12_scans_169 : decode cX12_scans 169 = .ok (.iconst 0, 1) := by decide +kernel
theorem dX12_scans_170 : decode cX12_scans 170 = .ok (.istore 7, 2) := by decide +kernel
theorem dX12_scans_172 : decode cX12_scans 172 = .ok (.iload 7, 2) := by decide +kernel
theorem dX12_scans_174 : decode cX12_scans 174 = .ok (.bipush 24, 2) := by decide +kernel
theorem dX12_scans_176 : decode cX12_scans 176 = .ok (.if_icmp .ge 101, 3) := by decide +kernel
theorem dX12_scans_179 : decode cX12_scans 179 = .ok (.aload_n 0, 1) := by decide +kernel
theorem dX12_scans_180 : decode cX12_scans 180 = .ok (.getfield 65, 3) := by decide +kernel
theorem dX12_scans_183 : decode cX12_scans 183 = .ok (.bipush 24, 2) := by decide +kernel
theorem dX12_scans_185 : decode cX12_scans 185 = .ok (.iload_n 1, 1) := by decide +kernel
theorem dX12_scans_186 : decode cX12_scans 186 = .ok (.imul, 1) := by decide +kernel
theorem dX12_scans_187 : decode cX12_scans 187 = .ok (.iload 7, 2) := by decide +kernel
theorem dX12_scans_189 : decode cX12_scans 189 = .ok (.iadd, 1) := by decide +kernel
theorem dX12_scans_190 : decode cX12_scans 190 = .ok (.iaload, 1) := by decide +kernel
theorem dX12_scans_191 : decode cX12_scans 191 = .ok (.aload_n 0, 1) := by decide +kernel
theorem dX12_scans_192 : decode cX12_scans 192 = .ok (.getfield 65, 3) := by decide +kernel
theorem dX12_scans_195 : decode cX12_scans 195 = .ok (.bipush 24, 2) := by decide +kernel
theorem dX12_scans_197 : decode cX12_scans 197 = .ok (.iload_n 1, 1) := by decide +kernel
theorem dX12_scans_198 : decode cX12_scans 198 = .ok (.imul, 1) := by decide +kernel
theorem dX12_scans_199 : decode cX12_scans 199 = .ok (.iload 6, 2) := by decide +kernel
theorem dX12_scans_201 : decode cX12_scans 201 = .ok (.iadd, 1) := by decide +kernel
theorem dX12_scans_202 : decode cX12_scans 202 = .ok (.iaload, 1) := by decide +kernel
theorem dX12_scans_203 : decode cX12_scans 203 = .ok (.if_icmp .gt 37, 3) := by decide +kernel
theorem dX12_scans_206 : decode cX12_scans 206 = .ok (.aload_n 0, 1) := by decide +kernel
theorem dX12_scans_207 : decode cX12_scans 207 = .ok (.getfield 65, 3) := by decide +kernel
theorem dX12_scans_210 : decode cX12_scans 210 = .ok (.bipush 24, 2) := by decide +kernel
theorem dX12_scans_212 : decode cX12_scans 212 = .ok (.iload_n 1, 1) := by decide +kernel
theorem dX12_scans_213 : decode cX12_scans 213 = .ok (.imul, 1) := by decide +kernel
theorem dX12_scans_214 : decode cX12_scans 214 = .ok (.iload 7, 2) := by decide +kernel
theorem dX12_scans_216 : decode cX12_scans 216 = .ok (.iadd, 1) := by decide +kernel
theorem dX12_scans_217 : decode cX12_scans 217 = .ok (.iaload, 1) := by decide +kernel
theorem dX12_scans_218 : decode cX12_scans 218 = .ok (.aload_n 0, 1) := by decide +kernel
theorem dX12_scans_219 : decode cX12_scans 219 = .ok (.getfield 65, 3) := by decide +kernel
theorem dX12_scans_222 : decode cX12_scans 222 = .ok (.bipush 24, 2) := by decide +kernel
theorem dX12_scans_224 : decode cX12_scans 224 = .ok (.iload_n 1, 1) := by decide +kernel
theorem dX12_scans_225 : decode cX12_scans 225 = .ok (.imul, 1) := by decide +kernel
theorem dX12_scans_226 : decode cX12_scans 226 = .ok (.iload 6, 2) := by decide +kernel
theorem dX12_scans_228 : decode cX12_scans 228 = .ok (.iadd, 1) := by decide +kernel
theorem dX12_scans_229 : decode cX12_scans 229 = .ok (.iaload, 1) := by decide +kernel
theorem dX12_scans_230 : decode cX12_scans 230 = .ok (.if_icmp .ne 14, 3) := by decide +kernel
theorem dX12_scans_233 : decode cX12_scans 233 = .ok (.iload 7, 2) := by decide +kernel
theorem dX12_scans_235 : decode cX12_scans 235 = .ok (.iload 6, 2) := by decide +kernel
theorem dX12_scans_237 : decode cX12_scans 237 = .ok (.if_icmp .le 7, 3) := by decide +kernel
theorem dX12_scans_240 : decode cX12_scans 240 = .ok (.iconst 1, 1) := by decide +kernel
theorem dX12_scans_241 : decode cX12_scans 241 = .ok (.goto 4, 3) := by decide +kernel
theorem dX12_scans_244 : decode cX12_scans 244 = .ok (.iconst 0, 1) := by decide +kernel
theorem dX12_scans_245 : decode cX12_scans 245 = .ok (.istore 8, 2) := by decide +kernel
theorem dX12_scans_247 : decode cX12_scans 247 = .ok (.aload_n 0, 1) := by decide +kernel
theorem dX12_scans_248 : decode cX12_scans 248 = .ok (.getfield 80, 3) := by decide +kernel
theorem dX12_scans_251 : decode cX12_scans 251 = .ok (.iload 7, 2) := by decide +kernel
theorem dX12_scans_253 : decode cX12_scans 253 = .ok (.baload, 1) := by decide +kernel
theorem dX12_scans_254 : decode cX12_scans 254 = .ok (.ifCond .eq 13, 3) := by decide +kernel
theorem dX12_scans_257 : decode cX12_scans 257 = .ok (.iload 8, 2) := by decide +kernel
theorem dX12_scans_259 : decode cX12_scans 259 = .ok (.ifCond .eq 8, 3) := by decide +kernel
theorem dX12_scans_262 : decode cX12_scans 262 = .ok (.iload 7, 2) := by decide +kernel
theorem dX12_scans_264 : decode cX12_scans 264 = .ok (.goto 5, 3) := by decide +kernel
theorem dX12_scans_267 : decode cX12_scans 267 = .ok (.iload 6, 2) := by decide +kernel
theorem dX12_scans_269 : decode cX12_scans 269 = .ok (.istore 6, 2) := by decide +kernel
theorem dX12_scans_271 : decode cX12_scans 271 = .ok (.iinc 7 1, 3) := by decide +kernel
theorem dX12_scans_274 : decode cX12_scans 274 = .ok (.goto (-102), 3) := by decide +kernel
theorem dX12_scans_277 : decode cX12_scans 277 = .ok (.aload_n 0, 1) := by decide +kernel
theorem dX12_scans_278 : decode cX12_scans 278 = .ok (.getfield 71, 3) := by decide +kernel
theorem dX12_scans_281 : decode cX12_scans 281 = .ok (.bipush 24, 2) := by decide +kernel
theorem dX12_scans_283 : decode cX12_scans 283 = .ok (.iload_n 1, 1) := by decide +kernel
theorem dX12_scans_284 : decode cX12_scans 284 = .ok (.imul, 1) := by decide +kernel
theorem dX12_scans_285 : decode cX12_scans 285 = .ok (.iload 6, 2) := by decide +kernel
theorem dX12_scans_287 : decode cX12_scans 287 = .ok (.iadd, 1) := by decide +kernel
theorem dX12_scans_288 : decode cX12_scans 288 = .ok (.aload_n 0, 1) := by decide +kernel
theorem dX12_scans_289 : decode cX12_scans 289 = .ok (.getfield 74, 3) := by decide +kernel
theorem dX12_scans_292 : decode cX12_scans 292 = .ok (.iload_n 1, 1) := by decide +kernel
theorem dX12_scans_293 : decode cX12_scans 293 = .ok (.iaload, 1) := by decide +kernel
theorem dX12_scans_294 : decode cX12_scans 294 = .ok (.iastore, 1) := by decide +kernel
theorem dX12_scans_295 : decode cX12_scans 295 = .ok (.aload_n 0, 1) := by decide +kernel
theorem dX12_scans_296 : decode cX12_scans 296 = .ok (.getfield 74, 3) := by decide +kernel
theorem dX12_scans_299 : decode cX12_scans 299 = .ok (.iload_n 1, 1) := by decide +kernel
theorem dX12_scans_300 : decode cX12_scans 300 = .ok (.dup2, 1) := by decide +kernel
theorem dX12_scans_301 : decode cX12_scans 301 = .ok (.iaload, 1) := by decide +kernel
theorem dX12_scans_302 : decode cX12_scans 302 = .ok (.iconst 1, 1) := by decide +kernel
theorem dX12_scans_303 : decode cX12_scans 303 = .ok (.iadd, 1) := by decide +kernel
theorem dX12_scans_304 : decode cX12_scans 304 = .ok (.iastore, 1) := by decide +kernel
theorem dX12_scans_305 : decode cX12_scans 305 = .ok (.iload 6, 2) := by decide +kernel
theorem dX12_scans_307 : decode cX12_scans 307 = .ok (.iload_n 2, 1) := by decide +kernel
theorem dX12_scans_308 : decode cX12_scans 308 = .ok (.if_icmp .eq 54, 3) := by decide +kernel
theorem dX12_scans_311 : decode cX12_scans 311 = .ok (.aload_n 0, 1) := by decide +kernel
theorem dX12_scans_312 : decode cX12_scans 312 = .ok (.getfield 68, 3) := by decide +kernel
theorem dX12_scans_315 : decode cX12_scans 315 = .ok (.bipush 24, 2) := by decide +kernel
theorem dX12_scans_317 : decode cX12_scans 317 = .ok (.iload_n 1, 1) := by decide +kernel
theorem dX12_scans_318 : decode cX12_scans 318 = .ok (.imul, 1) := by decide +kernel
theorem dX12_scans_319 : decode cX12_scans 319 = .ok (.iload_n 2, 1) := by decide +kernel
theorem dX12_scans_320 : decode cX12_scans 320 = .ok (.iadd, 1) := by decide +kernel
theorem dX12_scans_321 : decode cX12_scans 321 = .ok (.aload_n 0, 1) := by decide +kernel
theorem dX12_scans_322 : decode cX12_scans 322 = .ok (.getfield 68, 3) := by decide +kernel
theorem dX12_scans_325 : decode cX12_scans 325 = .ok (.bipush 24, 2) := by decide +kernel
theorem dX12_scans_327 : decode cX12_scans 327 = .ok (.iload_n 1, 1) := by decide +kernel
theorem dX12_scans_328 : decode cX12_scans 328 = .ok (.imul, 1) := by decide +kernel
theorem dX12_scans_329 : decode cX12_scans 329 = .ok (.iload 6, 2) := by decide +kernel
theorem dX12_scans_331 : decode cX12_scans 331 = .ok (.iadd, 1) := by decide +kernel
theorem dX12_scans_332 : decode cX12_scans 332 = .ok (.iaload, 1) := by decide +kernel
theorem dX12_scans_333 : decode cX12_scans 333 = .ok (.iastore, 1) := by decide +kernel
theorem dX12_scans_334 : decode cX12_scans 334 = .ok (.aload_n 0, 1) := by decide +kernel
theorem dX12_scans_335 : decode cX12_scans 335 = .ok (.getfield 68, 3) := by decide +kernel
theorem dX12_scans_338 : decode cX12_scans 338 = .ok (.bipush 24, 2) := by decide +kernel
theorem dX12_scans_340 : decode cX12_scans 340 = .ok (.iload_n 1, 1) := by decide +kernel
theorem dX12_scans_341 : decode cX12_scans 341 = .ok (.imul, 1) := by decide +kernel
theorem dX12_scans_342 : decode cX12_scans 342 = .ok (.iload 6, 2) := by decide +kernel
theorem dX12_scans_344 : decode cX12_scans 344 = .ok (.iadd, 1) := by decide +kernel
theorem dX12_scans_345 : decode cX12_scans 345 = .ok (.iconst (-1), 1) := by decide +kernel
theorem dX12_scans_346 : decode cX12_scans 346 = .ok (.iastore, 1) := by decide +kernel
theorem dX12_scans_347 : decode cX12_scans 347 = .ok (.aload_n 0, 1) := by decide +kernel
theorem dX12_scans_348 : decode cX12_scans 348 = .ok (.getfield 80, 3) := by decide +kernel
theorem dX12_scans_351 : decode cX12_scans 351 = .ok (.iload 6, 2) := by decide +kernel
theorem dX12_scans_353 : decode cX12_scans 353 = .ok (.iconst 0, 1) := by decide +kernel
theorem dX12_scans_354 : decode cX12_scans 354 = .ok (.bastore, 1) := by decide +kernel
theorem dX12_scans_355 : decode cX12_scans 355 = .ok (.aload_n 0, 1) := by decide +kernel
theorem dX12_scans_356 : decode cX12_scans 356 = .ok (.getfield 80, 3) := by decide +kernel
theorem dX12_scans_359 : decode cX12_scans 359 = .ok (.iload_n 2, 1) := by decide +kernel
theorem dX12_scans_360 : decode cX12_scans 360 = .ok (.iconst 1, 1) := by decide +kernel
theorem dX12_scans_361 : decode cX12_scans 361 = .ok (.bastore, 1) := by decide +kernel
theorem dX12_scans_362 : decode cX12_scans 362 = .ok (.return_, 1) := by decide +kernel
theorem dX12_emit_0 : decode cX12_emit 0 = .ok (.aload_n 0, 1) := by decide +kernel
theorem dX12_emit_1 : decode cX12_emit 1 = .ok (.getfield 225, 3) := by decide +kernel
theorem dX12_emit_4 : decode cX12_emit 4 = .ok (.sipush 2000, 3) := by decide +kernel
theorem dX12_emit_7 : decode cX12_emit 7 = .ok (.if_icmp .ne 9, 3) := by decide +kernel
theorem dX12_emit_10 : decode cX12_emit 10 = .ok (.aload_n 0, 1) := by decide +kernel
theorem dX12_emit_11 : decode cX12_emit 11 = .ok (.iconst 1, 1) := by decide +kernel
theorem dX12_emit_12 : decode cX12_emit 12 = .ok (.putfield 228, 3) := by decide +kernel
theorem dX12_emit_15 : decode cX12_emit 15 = .ok (.return_, 1) := by decide +kernel
theorem dX12_emit_16 : decode cX12_emit 16 = .ok (.aload_n 0, 1) := by decide +kernel
theorem dX12_emit_17 : decode cX12_emit 17 = .ok (.getfield 83, 3) := by decide +kernel
theorem dX12_emit_20 : decode cX12_emit 20 = .ok (.iconst 5, 1) := by decide +kernel
theorem dX12_emit_21 : decode cX12_emit 21 = .ok (.aload_n 0, 1) := by decide +kernel
theorem dX12_emit_22 : decode cX12_emit 22 = .ok (.getfield 225, 3) := by decide +kernel
theorem dX12_emit_25 : decode cX12_emit 25 = .ok (.imul, 1) := by decide +kernel
theorem dX12_emit_26 : decode cX12_emit 26 = .ok (.iload_n 1, 1) := by decide +kernel
theorem dX12_emit_27 : decode cX12_emit 27 = .ok (.iastore, 1) := by decide +kernel
theorem dX12_emit_28 : decode cX12_emit 28 = .ok (.aload_n 0, 1) := by decide +kernel
theorem dX12_emit_29 : decode cX12_emit 29 = .ok (.getfield 83, 3) := by decide +kernel
theorem dX12_emit_32 : decode cX12_emit 32 = .ok (.iconst 5, 1) := by decide +kernel
theorem dX12_emit_33 : decode cX12_emit 33 = .ok (.aload_n 0, 1) := by decide +kernel
theorem dX12_emit_34 : decode cX12_emit 34 = .ok (.getfield 225, 3) := by decide +kernel
theorem dX12_emit_37 : decode cX12_emit 37 = .ok (.imul, 1) := by decide +kernel
theorem dX12_emit_38 : decode cX12_emit 38 = .ok (.iconst 1, 1) := by decide +kernel
theorem dX12_emit_39 : decode cX12_emit 39 = .ok (.iadd, 1) := by decide +kernel
theorem dX12_emit_40 : decode cX12_emit 40 = .ok (.iload_n 2, 1) := by decide +kernel
theorem dX12_emit_41 : decode cX12_emit 41 = .ok (.iastore, 1) := by decide +kernel
theorem dX12_emit_42 : decode cX12_emit 42 = .ok (.aload_n 0, 1) := by decide +kernel
theorem dX12_emit_43 : decode cX12_emit 43 = .ok (.getfield 83, 3) := by decide +kernel
theorem dX12_emit_46 : decode cX12_emit 46 = .ok (.iconst 5, 1) := by decide +kernel
theorem dX12_emit_47 : decode cX12_emit 47 = .ok (.aload_n 0, 1) := by decide +kernel
theorem dX12_emit_48 : decode cX12_emit 48 = .ok (.getfield 225, 3) := by decide +kernel
theorem dX12_emit_51 : decode cX12_emit 51 = .ok (.imul, 1) := by decide +kernel
theorem dX12_emit_52 : decode cX12_emit 52 = .ok (.iconst 2, 1) := by decide +kernel
theorem dX12_emit_53 : decode cX12_emit 53 = .ok (.iadd, 1) := by decide +kernel
theorem dX12_emit_54 : decode cX12_emit 54 = .ok (.iload_n 3, 1) := by decide +kernel
theorem dX12_emit_55 : decode cX12_emit 55 = .ok (.iastore, 1) := by decide +kernel
theorem dX12_emit_56 : decode cX12_emit 56 = .ok (.aload_n 0, 1) := by decide +kernel
theorem dX12_emit_57 : decode cX12_emit 57 = .ok (.getfield 83, 3) := by decide +kernel
theorem dX12_emit_60 : decode cX12_emit 60 = .ok (.iconst 5, 1) := by decide +kernel
theorem dX12_emit_61 : decode cX12_emit 61 = .ok (.aload_n 0, 1) := by decide +kernel
theorem dX12_emit_62 : decode cX12_emit 62 = .ok (.getfield 225, 3) := by decide +kernel
theorem dX12_emit_65 : decode cX12_emit 65 = .ok (.imul, 1) := by decide +kernel
theorem dX12_emit_66 : decode cX12_emit 66 = .ok (.iconst 3, 1) := by decide +kernel
theorem dX12_emit_67 : decode cX12_emit 67 = .ok (.iadd, 1) := by decide +kernel
theorem dX12_emit_68 : decode cX12_emit 68 = .ok (.iload 4, 2) := by decide +kernel
theorem dX12_emit_70 : decode cX12_emit 70 = .ok (.iastore, 1) := by decide +kernel
theorem dX12_emit_71 : decode cX12_emit 71 = .ok (.aload_n 0, 1) := by decide +kernel
theorem dX12_emit_72 : decode cX12_emit 72 = .ok (.getfield 83, 3) := by decide +kernel
theorem dX12_emit_75 : decode cX12_emit 75 = .ok (.iconst 5, 1) := by decide +kernel
theorem dX12_emit_76 : decode cX12_emit 76 = .ok (.aload_n 0, 1) := by decide +kernel
theorem dX12_emit_77 : decode cX12_emit 77 = .ok (.getfield 225, 3) := by decide +kernel
theorem dX12_emit_80 : decode cX12_emit 80 = .ok (.imul, 1) := by decide +kernel
theorem dX12_emit_81 : decode cX12_emit 81 = .ok (.iconst 4, 1) := by decide +kernel
theorem dX12_emit_82 : decode cX12_emit 82 = .ok (.iadd, 1) := by decide +kernel
theorem dX12_emit_83 : decode cX12_emit 83 = .ok (.iload 5, 2) := by decide +kernel
theorem dX12_emit_85 : decode cX12_emit 85 = .ok (.iastore, 1) := by decide +kernel
theorem dX12_emit_86 : decode cX12_emit 86 = .ok (.aload_n 0, 1) := by decide +kernel
theorem dX12_emit_87 : decode cX12_emit 87 = .ok (.dup, 1) := by decide +kernel
theorem dX12_emit_88 : decode cX12_emit 88 = .ok (.getfield 225, 3) := by decide +kernel
theorem dX12_emit_91 : decode cX12_emit 91 = .ok (.iconst 1, 1) := by decide +kernel
theorem dX12_emit_92 : decode cX12_emit 92 = .ok (.iadd, 1) := by decide +kernel
theorem dX12_emit_93 : decode cX12_emit 93 = .ok (.putfield 225, 3) := by decide +kernel
theorem dX12_emit_96 : decode cX12_emit 96 = .ok (.return_, 1) := by decide +kernel
theorem dX12_registerOf_0 : decode cX12_registerOf 0 = .ok (.aload_n 0, 1) := by decide +kernel
theorem dX12_registerOf_1 : decode cX12_registerOf 1 = .ok (.getfield 68, 3) := by decide +kernel
theorem dX12_registerOf_4 : decode cX12_registerOf 4 = .ok (.bipush 24, 2) := by decide +kernel
theorem dX12_registerOf_6 : decode cX12_registerOf 6 = .ok (.aload_n 0, 1) := by decide +kernel
theorem dX12_registerOf_7 : decode cX12_registerOf 7 = .ok (.getfield 231, 3) := by decide +kernel
theorem dX12_registerOf_10 : decode cX12_registerOf 10 = .ok (.imul, 1) := by decide +kernel
theorem dX12_registerOf_11 : decode cX12_registerOf 11 = .ok (.iload_n 1, 1) := by decide +kernel
theorem dX12_registerOf_12 : decode cX12_registerOf 12 = .ok (.iadd, 1) := by decide +kernel
theorem dX12_registerOf_13 : decode cX12_registerOf 13 = .ok (.iaload, 1) := by decide +kernel
theorem dX12_registerOf_14 : decode cX12_registerOf 14 = .ok (.ireturn, 1) := by decide +kernel
theorem dX12_slotOf_0 : decode cX12_slotOf 0 = .ok (.aload_n 0, 1) := by decide +kernel
theorem dX12_slotOf_1 : decode cX12_slotOf 1 = .ok (.getfield 71, 3) := by decide +kernel
theorem dX12_slotOf_4 : decode cX12_slotOf 4 = .ok (.bipush 24, 2) := by decide +kernel
theorem dX12_slotOf_6 : decode cX12_slotOf 6 = .ok (.aload_n 0, 1) := by decide +kernel
theorem dX12_slotOf_7 : decode cX12_slotOf 7 = .ok (.getfield 231, 3) := by decide +kernel
theorem dX12_slotOf_10 : decode cX12_slotOf 10 = .ok (.imul, 1) := by decide +kernel
theorem dX12_slotOf_11 : decode cX12_slotOf 11 = .ok (.iload_n 1, 1) := by decide +kernel
theorem dX12_slotOf_12 : decode cX12_slotOf 12 = .ok (.iadd, 1) := by decide +kernel
theorem dX12_slotOf_13 : decode cX12_slotOf 13 = .ok (.iaload, 1) := by decide +kernel
theorem dX12_slotOf_14 : decode cX12_slotOf 14 = .ok (.ireturn, 1) := by decide +kernel
theorem dX12_read_0 : decode cX12_read 0 = .ok (.aload_n 0, 1) := by decide +kernel
theorem dX12_read_1 : decode cX12_read 1 = .ok (.iload_n 1, 1) := by decide +kernel
theorem dX12_read_2 : decode cX12_read 2 = .ok (.invokevirtual 234, 3) := by decide +kernel
theorem dX12_read_5 : decode cX12_read 5 = .ok (.ifCond .ge 9, 3) := by decide +kernel
theorem dX12_read_8 : decode cX12_read 8 = .ok (.aload_n 0, 1) := by decide +kernel
theorem dX12_read_9 : decode cX12_read 9 = .ok (.iload_n 1, 1) := by decide +kernel
theorem dX12_read_10 : decode cX12_read 10 = .ok (.invokevirtual 237, 3) := by decide +kernel
theorem dX12_read_13 : decode cX12_read 13 = .ok (.ireturn, 1) := by decide +kernel
theorem dX12_read_14 : decode cX12_read 14 = .ok (.aload_n 0, 1) := by decide +kernel
theorem dX12_read_15 : decode cX12_read 15 = .ok (.bipush 9, 2) := by decide +kernel
theorem dX12_read_17 : decode cX12_read 17 = .ok (.iload_n 2, 1) := by decide +kernel
theorem dX12_read_18 : decode cX12_read 18 = .ok (.aload_n 0, 1) := by decide +kernel
theorem dX12_read_19 : decode cX12_read 19 = .ok (.iload_n 1, 1) := by decide +kernel
theorem dX12_read_20 : decode cX12_read 20 = .ok (.invokevirtual 234, 3) := by decide +kernel
theorem dX12_read_23 : decode cX12_read 23 = .ok (.iconst 0, 1) := by decide +kernel
theorem dX12_read_24 : decode cX12_read 24 = .ok (.iconst 0, 1) := by decide +kernel
theorem dX12_read_25 : decode cX12_read 25 = .ok (.invokevirtual 240, 3) := by decide +kernel
theorem dX12_read_28 : decode cX12_read 28 = .ok (.iload_n 2, 1) := by decide +kernel
theorem dX12_read_29 : decode cX12_read 29 = .ok (.ireturn, 1) := by decide +kernel
theorem dX12_written_0 : decode cX12_written 0 = .ok (.aload_n 0, 1) := by decide +kernel
theorem dX12_written_1 : decode cX12_written 1 = .ok (.iload_n 1, 1) := by decide +kernel
theorem dX12_written_2 : decode cX12_written 2 = .ok (.invokevirtual 234, 3) := by decide +kernel
theorem dX12_written_5 : decode cX12_written 5 = .ok (.ifCond .ge 11, 3) := by decide +kernel
theorem dX12_written_8 : decode cX12_written 8 = .ok (.aload_n 0, 1) := by decide +kernel
theorem dX12_written_9 : decode cX12_written 9 = .ok (.iload_n 1, 1) := by decide +kernel
theorem dX12_written_10 : decode cX12_written 10 = .ok (.invokevirtual 237, 3) := by decide +kernel
theorem dX12_written_13 : decode cX12_written 13 = .ok (.goto 9, 3) := by decide +kernel
theorem dX12_written_16 : decode cX12_written 16 = .ok (.aload_n 0, 1) := by decide +kernel
theorem dX12_written_17 : decode cX12_written 17 = .ok (.getfield 222, 3) := by decide +kernel
theorem dX12_written_20 : decode cX12_written 20 = .ok (.iconst 2, 1) := by decide +kernel
theorem dX12_written_21 : decode cX12_written 21 = .ok (.isub, 1) := by decide +kernel
theorem dX12_written_22 : decode cX12_written 22 = .ok (.ireturn, 1) := by decide +kernel
theorem dX12_saved_0 : decode cX12_saved 0 = .ok (.aload_n 0, 1) := by decide +kernel
theorem dX12_saved_1 : decode cX12_saved 1 = .ok (.iload_n 1, 1) := by decide +kernel
theorem dX12_saved_2 : decode cX12_saved 2 = .ok (.invokevirtual 234, 3) := by decide +kernel
theorem dX12_saved_5 : decode cX12_saved 5 = .ok (.ifCond .lt 22, 3) := by decide +kernel
theorem dX12_saved_8 : decode cX12_saved 8 = .ok (.aload_n 0, 1) := by decide +kernel
theorem dX12_saved_9 : decode cX12_saved 9 = .ok (.bipush 10, 2) := by decide +kernel
theorem dX12_saved_11 : decode cX12_saved 11 = .ok (.aload_n 0, 1) := by decide +kernel
theorem dX12_saved_12 : decode cX12_saved 12 = .ok (.iload_n 1, 1) := by decide +kernel
theorem dX12_saved_13 : decode cX12_saved 13 = .ok (.invokevirtual 234, 3) := by decide +kernel
theorem dX12_saved_16 : decode cX12_saved 16 = .ok (.aload_n 0, 1) := by decide +kernel
theorem dX12_saved_17 : decode cX12_saved 17 = .ok (.getfield 222, 3) := by decide +kernel
theorem dX12_saved_20 : decode cX12_saved 20 = .ok (.iconst 2, 1) := by decide +kernel
theorem dX12_saved_21 : decode cX12_saved 21 = .ok (.isub, 1) := by decide +kernel
theorem dX12_saved_22 : decode cX12_saved 22 = .ok (.iconst 0, 1) := by decide +kernel
theorem dX12_saved_23 : decode cX12_saved 23 = .ok (.iconst 0, 1) := by decide +kernel
theorem dX12_saved_24 : decode cX12_saved 24 = .ok (.invokevirtual 240, 3) := by decide +kernel
theorem dX12_saved_27 : decode cX12_saved 27 = .ok (.return_, 1) := by decide +kernel
theorem dX12_codes_0 : decode cX12_codes 0 = .ok (.aload_n 0, 1) := by decide +kernel
theorem dX12_codes_1 : decode cX12_codes 1 = .ok (.iload_n 1, 1) := by decide +kernel
theorem dX12_codes_2 : decode cX12_codes 2 = .ok (.putfield 231, 3) := by decide +kernel
theorem dX12_codes_5 : decode cX12_codes 5 = .ok (.aload_n 0, 1) := by decide +kernel
theorem dX12_codes_6 : decode cX12_codes 6 = .ok (.getfield 86, 3) := by decide +kernel
theorem dX12_codes_9 : decode cX12_codes 9 = .ok (.iload_n 1, 1) := by decide +kernel
theorem dX12_codes_10 : decode cX12_codes 10 = .ok (.aload_n 0, 1) := by decide +kernel
theorem dX12_codes_11 : decode cX12_codes 11 = .ok (.getfield 225, 3) := by decide +kernel
theorem dX12_codes_14 : decode cX12_codes 14 = .ok (.iastore, 1) := by decide +kernel
theorem dX12_codes_15 : decode cX12_codes 15 = .ok (.iconst 0, 1) := by decide +kernel
theorem dX12_codes_16 : decode cX12_codes 16 = .ok (.istore_n 2, 1) := by decide +kernel
theorem dX12_codes_17 : decode cX12_codes 17 = .ok (.iload_n 2, 1) := by decide +kernel
theorem dX12_codes_18 : decode cX12_codes 18 = .ok (.aload_n 0, 1) := by decide +kernel
theorem dX12_codes_19 : decode cX12_codes 19 = .ok (.getfield 13, 3) := by decide +kernel
theorem dX12_codes_22 : decode cX12_codes 22 = .ok (.iload_n 1, 1) := by decide +kernel
theorem dX12_codes_23 : decode cX12_codes 23 = .ok (.iaload, 1) := by decide +kernel
theorem dX12_codes_24 : decode cX12_codes 24 = .ok (.if_icmp .ge 75, 3) := by decide +kernel
theorem dX12_codes_27 : decode cX12_codes 27 = .ok (.aload_n 0, 1) := by decide +kernel
theorem dX12_codes_28 : decode cX12_codes 28 = .ok (.getfield 176, 3) := by decide +kernel
theorem dX12_codes_31 : decode cX12_codes 31 = .ok (.ifCond .le 62, 3) := by decide +kernel
theorem dX12_codes_34 : decode cX12_codes 34 = .ok (.aload_n 0, 1) := by decide +kernel
theorem dX12_codes_35 : decode cX12_codes 35 = .ok (.getfield 59, 3) := by decide +kernel
theorem dX12_codes_38 : decode cX12_codes 38 = .ok (.iconst 0, 1) := by decide +kernel
theorem dX12_codes_39 : decode cX12_codes 39 = .ok (.iaload, 1) := by decide +kernel
theorem dX12_codes_40 : decode cX12_codes 40 = .ok (.iload_n 2, 1) := by decide +kernel
theorem dX12_codes_41 : decode cX12_codes 41 = .ok (.ishr, 1) := by decide +kernel
theorem dX12_codes_42 : decode cX12_codes 42 = .ok (.iconst 1, 1) := by decide +kernel
theorem dX12_codes_43 : decode cX12_codes 43 = .ok (.iand, 1) := by decide +kernel
theorem dX12_codes_44 : decode cX12_codes 44 = .ok (.iconst 1, 1) := by decide +kernel
theorem dX12_codes_45 : decode cX12_codes 45 = .ok (.if_icmp .ne 48, 3) := by decide +kernel
theorem dX12_codes_48 : decode cX12_codes 48 = .ok (.iload_n 2, 1) := by decide +kernel
theorem dX12_codes_49 : decode cX12_codes 49 = .ok (.aload_n 0, 1) := by decide +kernel
theorem dX12_codes_50 : decode cX12_codes 50 = .ok (.getfield 7, 3) := by decide +kernel
theorem dX12_codes_53 : decode cX12_codes 53 = .ok (.iload_n 1, 1) := by decide +kernel
theorem dX12_codes_54 : decode cX12_codes 54 = .ok (.iaload, 1) := by decide +kernel
theorem dX12_codes_55 : decode cX12_codes 55 = .ok (.if_icmp .ge 20, 3) := by decide +kernel
theorem dX12_codes_58 : decode cX12_codes 58 = .ok (.aload_n 0, 1) := by decide +kernel
theorem dX12_codes_59 : decode cX12_codes 59 = .ok (.bipush 11, 2) := by decide +kernel
theorem dX12_codes_61 : decode cX12_codes 61 = .ok (.aload_n 0, 1) := by decide +kernel
theorem dX12_codes_62 : decode cX12_codes 62 = .ok (.iload_n 2, 1) := by decide +kernel
theorem dX12_codes_63 : decode cX12_codes 63 = .ok (.invokevirtual 244, 3) := by decide +kernel
theorem dX12_codes_66 : decode cX12_codes 66 = .ok (.iload_n 2, 1) := by decide +kernel
theorem dX12_codes_67 : decode cX12_codes 67 = .ok (.iconst 0, 1) := by decide +kernel
theorem dX12_codes_68 : decode cX12_codes 68 = .ok (.iconst 0, 1) := by decide +kernel
theorem dX12_codes_69 : decode cX12_codes 69 = .ok (.invokevirtual 240, 3) := by decide +kernel
theorem dX12_codes_72 : decode cX12_codes 72 = .ok (.goto 16, 3) := by decide +kernel
theorem dX12_codes_75 : decode cX12_codes 75 = .ok (.aload_n 0, 1) := by decide +kernel
theorem dX12_codes_76 : decode cX12_codes 76 = .ok (.iconst 0, 1) := by decide +kernel
theorem dX12_codes_77 : decode cX12_codes 77 = .ok (.aload_n 0, 1) := by decide +kernel
theorem dX12_codes_78 : decode cX12_codes 78 = .ok (.iload_n 2, 1) := by decide +kernel
theorem dX12_codes_79 : decode cX12_codes 79 = .ok (.invokevirtual 244, 3) := by decide +kernel
theorem dX12_codes_82 : decode cX12_codes 82 = .ok (.iconst 0, 1) := by decide +kernel
theorem dX12_codes_83 : decode cX12_codes 83 = .ok (.iconst 0, 1) := by decide +kernel
theorem dX12_codes_84 : decode cX12_codes 84 = .ok (.iconst 0, 1) := by decide +kernel
theorem dX12_codes_85 : decode cX12_codes 85 = .ok (.invokevirtual 240, 3) := by decide +kernel
theorem dX12_codes_88 : decode cX12_codes 88 = .ok (.aload_n 0, 1) := by decide +kernel
theorem dX12_codes_89 : decode cX12_codes 89 = .ok (.iload_n 2, 1) := by decide +kernel
theorem dX12_codes_90 : decode cX12_codes 90 = .ok (.invokevirtual 247, 3) := by decide +kernel
theorem dX12_codes_93 : decode cX12_codes 93 = .ok (.iinc 2 1, 3) := by decide +kernel
theorem dX12_codes_96 : decode cX12_codes 96 = .ok (.goto (-79), 3) := by decide +kernel
theorem dX12_codes_99 : decode cX12_codes 99 = .ok (.iconst 0, 1) := by decide +kernel
theorem dX12_codes_100 : decode cX12_codes 100 = .ok (.istore_n 2, 1) := by decide +kernel
theorem dX12_codes_101 : decode cX12_codes 101 = .ok (.iload_n 2, 1) := by decide +kernel
theorem dX12_codes_102 : decode cX12_codes 102 = .ok (.aload_n 0, 1) := by decide +kernel
theorem dX12_codes_103 : decode cX12_codes 103 = .ok (.getfield 176, 3) := by decide +kernel
theorem dX12_codes_106 : decode cX12_codes 106 = .ok (.if_icmp .ge 31, 3) := by decide +kernel
theorem dX12_codes_109 : decode cX12_codes 109 = .ok (.aload_n 0, 1) := by decide +kernel
theorem dX12_codes_110 : decode cX12_codes 110 = .ok (.getfield 92, 3) := by decide +kernel
theorem dX12_codes_113 : decode cX12_codes 113 = .ok (.iload_n 2, 1) := by decide +kernel
theorem dX12_codes_114 : decode cX12_codes 114 = .ok (.aload_n 0, 1) := by decide +kernel
theorem dX12_codes_115 : decode cX12_codes 115 = .ok (.getfield 225, 3) := by decide +kernel
theorem dX12_codes_118 : decode cX12_codes 118 = .ok (.aload_n 0, 1) := by decide +kernel
theorem dX12_codes_119 : decode cX12_codes 119 = .ok (.getfield 86, 3) := by decide +kernel
theorem dX12_codes_122 : decode cX12_codes 122 = .ok (.iload_n 1, 1) := by decide +kernel
theorem dX12_codes_123 : decode cX12_codes 123 = .ok (.iaload, 1) := by decide +kernel
theorem dX12_codes_124 : decode cX12_codes 124 = .ok (.isub, 1) := by decide +kernel
theorem dX12_codes_125 : decode cX12_codes 125 = .ok (.iastore, 1) := by decide +kernel
theorem dX12_codes_126 : decode cX12_codes 126 = .ok (.aload_n 0, 1) := by decide +kernel
theorem dX12_codes_127 : decode cX12_codes 127 = .ok (.iload_n 2, 1) := by decide +kernel
theorem dX12_codes_128 : decode cX12_codes 128 = .ok (.invokevirtual 250, 3) := by decide +kernel
theorem dX12_codes_131 : decode cX12_codes 131 = .ok (.iinc 2 1, 3) := by decide +kernel
theorem dX12_codes_134 : decode cX12_codes 134 = .ok (.goto (-33), 3) := by decide +kernel
theorem dX12_codes_137 : decode cX12_codes 137 = .ok (.aload_n 0, 1) := by decide +kernel
theorem dX12_codes_138 : decode cX12_codes 138 = .ok (.getfield 92, 3) := by decide +kernel
theorem dX12_codes_141 : decode cX12_codes 141 = .ok (.aload_n 0, 1) := by decide +kernel
theorem dX12_codes_142 : decode cX12_codes 142 = .ok (.getfield 176, 3) := by decide +kernel
theorem dX12_codes_145 : decode cX12_codes 145 = .ok (.aload_n 0, 1) := by decide +kernel
theorem dX12_codes_146 : decode cX12_codes 146 = .ok (.getfield 225, 3) := by decide +kernel
theorem dX12_codes_149 : decode cX12_codes 149 = .ok (.aload_n 0, 1) := by decide +kernel
theorem dX12_codes_150 : decode cX12_codes 150 = .ok (.getfield 86, 3) := by decide +kernel
theorem dX12_codes_153 : decode cX12_codes 153 = .ok (.iload_n 1, 1) := by decide +kernel
theorem dX12_codes_154 : decode cX12_codes 154 = .ok (.iaload, 1) := by decide +kernel
theorem dX12_codes_155 : decode cX12_codes 155 = .ok (.isub, 1) := by decide +kernel
theorem dX12_codes_156 : decode cX12_codes 156 = .ok (.iastore, 1) := by decide +kernel
theorem dX12_codes_157 : decode cX12_codes 157 = .ok (.aload_n 0, 1) := by decide +kernel
theorem dX12_codes_158 : decode cX12_codes 158 = .ok (.getfield 89, 3) := by decide +kernel
theorem dX12_codes_161 : decode cX12_codes 161 = .ok (.iload_n 1, 1) := by decide +kernel
theorem dX12_codes_162 : decode cX12_codes 162 = .ok (.aload_n 0, 1) := by decide +kernel
theorem dX12_codes_163 : decode cX12_codes 163 = .ok (.getfield 225, 3) := by decide +kernel
theorem dX12_codes_166 : decode cX12_codes 166 = .ok (.aload_n 0, 1) := by decide +kernel
theorem dX12_codes_167 : decode cX12_codes 167 = .ok (.getfield 86, 3) := by decide +kernel
theorem dX12_codes_170 : decode cX12_codes 170 = .ok (.iload_n 1, 1) := by decide +kernel
theorem dX12_codes_171 : decode cX12_codes 171 = .ok (.iaload, 1) := by decide +kernel
theorem dX12_codes_172 : decode cX12_codes 172 = .ok (.isub, 1) := by decide +kernel
theorem dX12_codes_173 : decode cX12_codes 173 = .ok (.iastore, 1) := by decide +kernel
theorem dX12_codes_174 : decode cX12_codes 174 = .ok (.aload_n 0, 1) := by decide +kernel
theorem dX12_codes_175 : decode cX12_codes 175 = .ok (.getfield 86, 3) := by decide +kernel
theorem dX12_codes_178 : decode cX12_codes 178 = .ok (.iload_n 1, 1) := by decide +kernel
theorem dX12_codes_179 : decode cX12_codes 179 = .ok (.iaload, 1) := by decide +kernel
theorem dX12_codes_180 : decode cX12_codes 180 = .ok (.istore_n 2, 1) := by decide +kernel
theorem dX12_codes_181 : decode cX12_codes 181 = .ok (.iload_n 2, 1) := by decide +kernel
theorem dX12_codes_182 : decode cX12_codes 182 = .ok (.aload_n 0, 1) := by decide +kernel
theorem dX12_codes_183 : decode cX12_codes 183 = .ok (.getfield 225, 3) := by decide +kernel
theorem dX12_codes_186 : decode cX12_codes 186 = .ok (.if_icmp .ge 86, 3) := by decide +kernel
theorem dX12_codes_189 : decode cX12_codes 189 = .ok (.aload_n 0, 1) := by decide +kernel
theorem dX12_codes_190 : decode cX12_codes 190 = .ok (.getfield 83, 3) := by decide +kernel
theorem dX12_codes_193 : decode cX12_codes 193 = .ok (.iconst 5, 1) := by decide +kernel
theorem dX12_codes_194 : decode cX12_codes 194 = .ok (.iload_n 2, 1) := by decide +kernel
theorem dX12_codes_195 : decode cX12_codes 195 = .ok (.imul, 1) := by decide +kernel
theorem dX12_codes_196 : decode cX12_codes 196 = .ok (.iaload, 1) := by decide +kernel
theorem dX12_codes_197 : decode cX12_codes 197 = .ok (.iconst 4, 1) := by decide +kernel
theorem dX12_codes_198 : decode cX12_codes 198 = .ok (.if_icmp .ne 31, 3) := by decide +kernel
theorem dX12_codes_201 : decode cX12_codes 201 = .ok (.aload_n 0, 1) := by decide +kernel
theorem dX12_codes_202 : decode cX12_codes 202 = .ok (.getfield 83, 3) := by decide +kernel
theorem dX12_codes_205 : decode cX12_codes 205 = .ok (.iconst 5, 1) := by decide +kernel
theorem dX12_codes_206 : decode cX12_codes 206 = .ok (.iload_n 2, 1) := by decide +kernel
theorem dX12_codes_207 : decode cX12_codes 207 = .ok (.imul, 1) := by decide +kernel
theorem dX12_codes_208 : decode cX12_codes 208 = .ok (.iconst 1, 1) := by decide +kernel
theorem dX12_codes_209 : decode cX12_codes 209 = .ok (.iadd, 1) := by decide +kernel
theorem dX12_codes_210 : decode cX12_codes 210 = .ok (.aload_n 0, 1) := by decide +kernel
theorem dX12_codes_211 : decode cX12_codes 211 = .ok (.getfield 92, 3) := by decide +kernel
theorem dX12_codes_214 : decode cX12_codes 214 = .ok (.aload_n 0, 1) := by decide +kernel
theorem dX12_codes_215 : decode cX12_codes 215 = .ok (.getfield 83, 3) := by decide +kernel
theorem dX12_codes_218 : decode cX12_codes 218 = .ok (.iconst 5, 1) := by decide +kernel
theorem dX12_codes_219 : decode cX12_codes 219 = .ok (.iload_n 2, 1) := by decide +kernel
theorem dX12_codes_220 : decode cX12_codes 220 = .ok (.imul, 1) := by decide +kernel
theorem dX12_codes_221 : decode cX12_codes 221 = .ok (.iconst 1, 1) := by decide +kernel
theorem dX12_codes_222 : decode cX12_codes 222 = .ok (.iadd, 1) := by decide +kernel
theorem dX12_codes_223 : decode cX12_codes 223 = .ok (.iaload, 1) := by decide +kernel
theorem dX12_codes_224 : decode cX12_codes 224 = .ok (.iaload, 1) := by decide +kernel
theorem dX12_codes_225 : decode cX12_codes 225 = .ok (.iastore, 1) := by decide +kernel
theorem dX12_codes_226 : decode cX12_codes 226 = .ok (.goto 40, 3) := by decide +kernel
theorem dX12_codes_229 : decode cX12_codes 229 = .ok (.aload_n 0, 1) := by decide +kernel
theorem dX12_codes_230 : decode cX12_codes 230 = .ok (.getfield 83, 3) := by decide +kernel
theorem dX12_codes_233 : decode cX12_codes 233 = .ok (.iconst 5, 1) := by decide +kernel
theorem dX12_codes_234 : decode cX12_codes 234 = .ok (.iload_n 2, 1) := by decide +kernel
theorem dX12_codes_235 : decode cX12_codes 235 = .ok (.imul, 1) := by decide +kernel
theorem dX12_codes_236 : decode cX12_codes 236 = .ok (.iaload, 1) := by decide +kernel
theorem dX12_codes_237 : decode cX12_codes 237 = .ok (.iconst 5, 1) := by decide +kernel
theorem dX12_codes_238 : decode cX12_codes 238 = .ok (.if_icmp .ne 28, 3) := by decide +kernel
theorem dX12_codes_241 : decode cX12_codes 241 = .ok (.aload_n 0, 1) := by decide +kernel
theorem dX12_codes_242 : decode cX12_codes 242 = .ok (.getfield 83, 3) := by decide +kernel
theorem dX12_codes_245 : decode cX12_codes 245 = .ok (.iconst 5, 1) := by decide +kernel
theorem dX12_codes_246 : decode cX12_codes 246 = .ok (.iload_n 2, 1) := by decide +kernel
theorem dX12_codes_247 : decode cX12_codes 247 = .ok (.imul, 1) := by decide +kernel
theorem dX12_codes_248 : decode cX12_codes 248 = .ok (.iconst 2, 1) := by decide +kernel
theorem dX12_codes_249 : decode cX12_codes 249 = .ok (.iadd, 1) := by decide +kernel
theorem dX12_codes_250 : decode cX12_codes 250 = .ok (.aload_n 0, 1) := by decide +kernel
theorem dX12_codes_251 : decode cX12_codes 251 = .ok (.getfield 92, 3) := by decide +kernel
theorem dX12_codes_254 : decode cX12_codes 254 = .ok (.aload_n 0, 1) := by decide +kernel
theorem dX12_codes_255 : decode cX12_codes 255 = .ok (.getfield 83, 3) := by decide +kernel
theorem dX12_codes_258 : decode cX12_codes 258 = .ok (.iconst 5, 1) := by decide +kernel
theorem dX12_codes_259 : decode cX12_codes 259 = .ok (.iload_n 2, 1) := by decide +kernel
theorem dX12_codes_260 : decode cX12_codes 260 = .ok (.imul, 1) := by decide +kernel
theorem dX12_codes_261 : decode cX12_codes 261 = .ok (.iconst 2, 1) := by decide +kernel
theorem dX12_codes_262 : decode cX12_codes 262 = .ok (.iadd, 1) := by decide +kernel
theorem dX12_codes_263 : decode cX12_codes 263 = .ok (.iaload, 1) := by decide +kernel
theorem dX12_codes_264 : decode cX12_codes 264 = .ok (.iaload, 1) := by decide +kernel
theorem dX12_codes_265 : decode cX12_codes 265 = .ok (.iastore, 1) := by decide +kernel
theorem dX12_codes_266 : decode cX12_codes 266 = .ok (.iinc 2 1, 3) := by decide +kernel
theorem dX12_codes_269 : decode cX12_codes 269 = .ok (.goto (-88), 3) := by decide +kernel
theorem dX12_codes_272 : decode cX12_codes 272 = .ok (.return_, 1) := by decide +kernel
theorem dX12_codePlace_0 : decode cX12_codePlace 0 = .ok (.aload_n 0, 1) := by decide +kernel
theorem dX12_codePlace_1 : decode cX12_codePlace 1 = .ok (.getfield 222, 3) := by decide +kernel
theorem dX12_codePlace_4 : decode cX12_codePlace 4 = .ok (.iconst 2, 1) := by decide +kernel
theorem dX12_codePlace_5 : decode cX12_codePlace 5 = .ok (.isub, 1) := by decide +kernel
theorem dX12_codePlace_6 : decode cX12_codePlace 6 = .ok (.istore_n 2, 1) := by decide +kernel
theorem dX12_codePlace_7 : decode cX12_codePlace 7 = .ok (.aload_n 0, 1) := by decide +kernel
theorem dX12_codePlace_8 : decode cX12_codePlace 8 = .ok (.getfield 222, 3) := by decide +kernel
theorem dX12_codePlace_11 : decode cX12_codePlace 11 = .ok (.iconst 1, 1) := by decide +kernel
theorem dX12_codePlace_12 : decode cX12_codePlace 12 = .ok (.isub, 1) := by decide +kernel
theorem dX12_codePlace_13 : decode cX12_codePlace 13 = .ok (.istore_n 3, 1) := by decide +kernel
theorem dX12_codePlace_14 : decode cX12_codePlace 14 = .ok (.aload_n 0, 1) := by decide +kernel
theorem dX12_codePlace_15 : decode cX12_codePlace 15 = .ok (.getfield 41, 3) := by decide +kernel
theorem dX12_codePlace_18 : decode cX12_codePlace 18 = .ok (.bipush 8, 2) := by decide +kernel
theorem dX12_codePlace_20 : decode cX12_codePlace 20 = .ok (.iload_n 1, 1) := by decide +kernel
theorem dX12_codePlace_21 : decode cX12_codePlace 21 = .ok (.imul, 1) := by decide +kernel
theorem dX12_codePlace_22 : decode cX12_codePlace 22 = .ok (.iaload, 1) := by decide +kernel
theorem dX12_codePlace_23 : decode cX12_codePlace 23 = .ok (.istore 4, 2) := by decide +kernel
theorem dX12_codePlace_25 : decode cX12_codePlace 25 = .ok (.aload_n 0, 1) := by decide +kernel
theorem dX12_codePlace_26 : decode cX12_codePlace 26 = .ok (.getfield 41, 3) := by decide +kernel
theorem dX12_codePlace_29 : decode cX12_codePlace 29 = .ok (.bipush 8, 2) := by decide +kernel
theorem dX12_codePlace_31 : decode cX12_codePlace 31 = .ok (.iload_n 1, 1) := by decide +kernel
theorem dX12_codePlace_32 : decode cX12_codePlace 32 = .ok (.imul, 1) := by decide +kernel
theorem dX12_codePlace_33 : decode cX12_codePlace 33 = .ok (.iconst 1, 1) := by decide +kernel
theorem dX12_codePlace_34 : decode cX12_codePlace 34 = .ok (.iadd, 1) := by decide +kernel
theorem dX12_codePlace_35 : decode cX12_codePlace 35 = .ok (.iaload, 1) := by decide +kernel
theorem dX12_codePlace_36 : decode cX12_codePlace 36 = .ok (.istore 5, 2) := by decide +kernel
theorem dX12_codePlace_38 : decode cX12_codePlace 38 = .ok (.aload_n 0, 1) := by decide +kernel
theorem dX12_codePlace_39 : decode cX12_codePlace 39 = .ok (.getfield 41, 3) := by decide +kernel
theorem dX12_codePlace_42 : decode cX12_codePlace 42 = .ok (.bipush 8, 2) := by decide +kernel
theorem dX12_codePlace_44 : decode cX12_codePlace 44 = .ok (.iload_n 1, 1) := by decide +kernel
theorem dX12_codePlace_45 : decode cX12_codePlace 45 = .ok (.imul, 1) := by decide +kernel
theorem dX12_codePlace_46 : decode cX12_codePlace 46 = .ok (.iconst 2, 1) := by decide +kernel
theorem dX12_codePlace_47 : decode cX12_codePlace 47 = .ok (.iadd, 1) := by decide +kernel
theorem dX12_codePlace_48 : decode cX12_codePlace 48 = .ok (.iaload, 1) := by decide +kernel
theorem dX12_codePlace_49 : decode cX12_codePlace 49 = .ok (.istore 6, 2) := by decide +kernel
theorem dX12_codePlace_51 : decode cX12_codePlace 51 = .ok (.aload_n 0, 1) := by decide +kernel
theorem dX12_codePlace_52 : decode cX12_codePlace 52 = .ok (.getfield 35, 3) := by decide +kernel
theorem dX12_codePlace_55 : decode cX12_codePlace 55 = .ok (.iload_n 1, 1) := by decide +kernel
theorem dX12_codePlace_56 : decode cX12_codePlace 56 = .ok (.iaload, 1) := by decide +kernel
theorem dX12_codePlace_57 : decode cX12_codePlace 57 = .ok (.tableswitch 267 0 8 #[51, 77, 86, 132, 143, 158, 183, 204, 236], 51) := by decide +kernel
theorem dX12_codePlace_108 : decode cX12_codePlace 108 = .ok (.aload_n 0, 1) := by decide +kernel
theorem dX12_codePlace_109 : decode cX12_codePlace 109 = .ok (.iconst 0, 1) := by decide +kernel
theorem dX12_codePlace_110 : decode cX12_codePlace 110 = .ok (.aload_n 0, 1) := by decide +kernel
theorem dX12_codePlace_111 : decode cX12_codePlace 111 = .ok (.iload 4, 2) := by decide +kernel
theorem dX12_codePlace_113 : decode cX12_codePlace 113 = .ok (.invokevirtual 244, 3) := by decide +kernel
theorem dX12_codePlace_116 : decode cX12_codePlace 116 = .ok (.aload_n 0, 1) := by decide +kernel
theorem dX12_codePlace_117 : decode cX12_codePlace 117 = .ok (.getfield 38, 3) := by decide +kernel
theorem dX12_codePlace_120 : decode cX12_codePlace 120 = .ok (.iload_n 1, 1) := by decide +kernel
theorem dX12_codePlace_121 : decode cX12_codePlace 121 = .ok (.iaload, 1) := by decide +kernel
theorem dX12_codePlace_122 : decode cX12_codePlace 122 = .ok (.iconst 0, 1) := by decide +kernel
theorem dX12_codePlace_123 : decode cX12_codePlace 123 = .ok (.iconst 0, 1) := by decide +kernel
theorem dX12_codePlace_124 : decode cX12_codePlace 124 = .ok (.invokevirtual 240, 3) := by decide +kernel
theorem dX12_codePlace_127 : decode cX12_codePlace 127 = .ok (.aload_n 0, 1) := by decide +kernel
theorem dX12_codePlace_128 : decode cX12_codePlace 128 = .ok (.iload 4, 2) := by decide +kernel
theorem dX12_codePlace_130 : decode cX12_codePlace 130 = .ok (.invokevirtual 247, 3) := by decide +kernel
theorem dX12_codePlace_133 : decode cX12_codePlace 133 = .ok (.return_, 1) := by decide +kernel
theorem dX12_codePlace_134 : decode cX12_codePlace 134 = .ok (.aload_n 0, 1) := by decide +kernel
theorem dX12_codePlace_135 : decode cX12_codePlace 135 = .ok (.iload 4, 2) := by decide +kernel
theorem dX12_codePlace_137 : decode cX12_codePlace 137 = .ok (.iload 5, 2) := by decide +kernel
theorem dX12_codePlace_139 : decode cX12_codePlace 139 = .ok (.invokevirtual 253, 3) := by decide +kernel
theorem dX12_codePlace_142 : decode cX12_codePlace 142 = .ok (.return_, 1) := by decide +kernel
theorem dX12_codePlace_143 : decode cX12_codePlace 143 = .ok (.aload_n 0, 1) := by decide +kernel
theorem dX12_codePlace_144 : decode cX12_codePlace 144 = .ok (.iload 5, 2) := by decide +kernel
theorem dX12_codePlace_146 : decode cX12_codePlace 146 = .ok (.iload_n 2, 1) := by decide +kernel
theorem dX12_codePlace_147 : decode cX12_codePlace 147 = .ok (.invokevirtual 256, 3) := by decide +kernel
theorem dX12_codePlace_150 : decode cX12_codePlace 150 = .ok (.istore 7, 2) := by decide +kernel
theorem dX12_codePlace_152 : decode cX12_codePlace 152 = .ok (.aload_n 0, 1) := by decide +kernel
theorem dX12_codePlace_153 : decode cX12_codePlace 153 = .ok (.iload 6, 2) := by decide +kernel
theorem dX12_codePlace_155 : decode cX12_codePlace 155 = .ok (.iload_n 3, 1) := by decide +kernel
theorem dX12_codePlace_156 : decode cX12_codePlace 156 = .ok (.invokevirtual 256, 3) := by decide +kernel
theorem dX12_codePlace_159 : decode cX12_codePlace 159 = .ok (.istore 8, 2) := by decide +kernel
theorem dX12_codePlace_161 : decode cX12_codePlace 161 = .ok (.aload_n 0, 1) := by decide +kernel
theorem dX12_codePlace_162 : decode cX12_codePlace 162 = .ok (.iconst 2, 1) := by decide +kernel
theorem dX12_codePlace_163 : decode cX12_codePlace 163 = .ok (.aload_n 0, 1) := by decide +kernel
theorem dX12_codePlace_164 : decode cX12_codePlace 164 = .ok (.iload 4, 2) := by decide +kernel
theorem dX12_codePlace_166 : decode cX12_codePlace 166 = .ok (.invokevirtual 244, 3) := by decide +kernel
theorem dX12_codePlace_169 : decode cX12_codePlace 169 = .ok (.iload 7, 2) := by decide +kernel
theorem dX12_codePlace_171 : decode cX12_codePlace 171 = .ok (.iload 8, 2) := by decide +kernel
theorem dX12_codePlace_173 : decode cX12_codePlace 173 = .ok (.aload_n 0, 1) := by decide +kernel
theorem dX12_codePlace_174 : decode cX12_codePlace 174 = .ok (.getfield 38, 3) := by decide +kernel
theorem dX12_codePlace_177 : decode cX12_codePlace 177 = .ok (.iload_n 1, 1) := by decide +kernel
theorem dX12_codePlace_178 : decode cX12_codePlace 178 = .ok (.iaload, 1) := by decide +kernel
theorem dX12_codePlace_179 : decode cX12_codePlace 179 = .ok (.invokevirtual 240, 3) := by decide +kernel
theorem dX12_codePlace_182 : decode cX12_codePlace 182 = .ok (.aload_n 0, 1) := by decide +kernel
theorem dX12_codePlace_183 : decode cX12_codePlace 183 = .ok (.iload 4, 2) := by decide +kernel
theorem dX12_codePlace_185 : decode cX12_codePlace 185 = .ok (.invokevirtual 247, 3) := by decide +kernel
theorem dX12_codePlace_188 : decode cX12_codePlace 188 = .ok (.return_, 1) := by decide +kernel
theorem dX12_codePlace_189 : decode cX12_codePlace 189 = .ok (.aload_n 0, 1) := by decide +kernel
theorem dX12_codePlace_190 : decode cX12_codePlace 190 = .ok (.iload 4, 2) := by decide +kernel
theorem dX12_codePlace_192 : decode cX12_codePlace 192 = .ok (.iload 5, 2) := by decide +kernel
theorem dX12_codePlace_194 : decode cX12_codePlace 194 = .ok (.iload_n 2, 1) := by decide +kernel
theorem dX12_codePlace_195 : decode cX12_codePlace 195 = .ok (.iload_n 3, 1) := by decide +kernel
theorem dX12_codePlace_196 : decode cX12_codePlace 196 = .ok (.invokevirtual 259, 3) := by decide +kernel
theorem dX12_codePlace_199 : decode cX12_codePlace 199 = .ok (.return_, 1) := by decide +kernel
theorem dX12_codePlace_200 : decode cX12_codePlace 200 = .ok (.aload_n 0, 1) := by decide +kernel
theorem dX12_codePlace_201 : decode cX12_codePlace 201 = .ok (.iconst 4, 1) := by decide +kernel
theorem dX12_codePlace_202 : decode cX12_codePlace 202 = .ok (.aload_n 0, 1) := by decide +kernel
theorem dX12_codePlace_203 : decode cX12_codePlace 203 = .ok (.getfield 38, 3) := by decide +kernel
theorem dX12_codePlace_206 : decode cX12_codePlace 206 = .ok (.iload_n 1, 1) := by decide +kernel
theorem dX12_codePlace_207 : decode cX12_codePlace 207 = .ok (.iaload, 1) := by decide +kernel
theorem dX12_codePlace_208 : decode cX12_codePlace 208 = .ok (.iconst 0, 1) := by decide +kernel
theorem dX12_codePlace_209 : decode cX12_codePlace 209 = .ok (.iconst 0, 1) := by decide +kernel
theorem dX12_codePlace_210 : decode cX12_codePlace 210 = .ok (.iconst 0, 1) := by decide +kernel
theorem dX12_codePlace_211 : decode cX12_codePlace 211 = .ok (.invokevirtual 240, 3) := by decide +kernel
theorem dX12_codePlace_214 : decode cX12_codePlace 214 = .ok (.return_, 1) := by decide +kernel
theorem dX12_codePlace_215 : decode cX12_codePlace 215 = .ok (.aload_n 0, 1) := by decide +kernel
theorem dX12_codePlace_216 : decode cX12_codePlace 216 = .ok (.iload 4, 2) := by decide +kernel
theorem dX12_codePlace_218 : decode cX12_codePlace 218 = .ok (.iload_n 2, 1) := by decide +kernel
theorem dX12_codePlace_219 : decode cX12_codePlace 219 = .ok (.invokevirtual 256, 3) := by decide +kernel
theorem dX12_codePlace_222 : decode cX12_codePlace 222 = .ok (.istore 7, 2) := by decide +kernel
theorem dX12_codePlace_224 : decode cX12_codePlace 224 = .ok (.aload_n 0, 1) := by decide +kernel
theorem dX12_codePlace_225 : decode cX12_codePlace 225 = .ok (.iconst 5, 1) := by decide +kernel
theorem dX12_codePlace_226 : decode cX12_codePlace 226 = .ok (.iload 7, 2) := by decide +kernel
theorem dX12_codePlace_228 : decode cX12_codePlace 228 = .ok (.aload_n 0, 1) := by decide +kernel
theorem dX12_codePlace_229 : decode cX12_codePlace 229 = .ok (.getfield 38, 3) := by decide +kernel
theorem dX12_codePlace_232 : decode cX12_codePlace 232 = .ok (.iload_n 1, 1) := by decide +kernel
theorem dX12_codePlace_233 : decode cX12_codePlace 233 = .ok (.iaload, 1) := by decide +kernel
theorem dX12_codePlace_234 : decode cX12_codePlace 234 = .ok (.iconst 0, 1) := by decide +kernel
theorem dX12_codePlace_235 : decode cX12_codePlace 235 = .ok (.iconst 0, 1) := by decide +kernel
theorem dX12_codePlace_236 : decode cX12_codePlace 236 = .ok (.invokevirtual 240, 3) := by decide +kernel
theorem dX12_codePlace_239 : decode cX12_codePlace 239 = .ok (.return_, 1) := by decide +kernel
theorem dX12_codePlace_240 : decode cX12_codePlace 240 = .ok (.aload_n 0, 1) := by decide +kernel
theorem dX12_codePlace_241 : decode cX12_codePlace 241 = .ok (.iload 4, 2) := by decide +kernel
theorem dX12_codePlace_243 : decode cX12_codePlace 243 = .ok (.iload_n 2, 1) := by decide +kernel
theorem dX12_codePlace_244 : decode cX12_codePlace 244 = .ok (.invokevirtual 256, 3) := by decide +kernel
theorem dX12_codePlace_247 : decode cX12_codePlace 247 = .ok (.istore 7, 2) := by decide +kernel
theorem dX12_codePlace_249 : decode cX12_codePlace 249 = .ok (.aload_n 0, 1) := by decide +kernel
theorem dX12_codePlace_250 : decode cX12_codePlace 250 = .ok (.bipush 6, 2) := by decide +kernel
theorem dX12_codePlace_252 : decode cX12_codePlace 252 = .ok (.iload 7, 2) := by decide +kernel
theorem dX12_codePlace_254 : decode cX12_codePlace 254 = .ok (.iconst 0, 1) := by decide +kernel
theorem dX12_codePlace_255 : decode cX12_codePlace 255 = .ok (.iconst 0, 1) := by decide +kernel
theorem dX12_codePlace_256 : decode cX12_codePlace 256 = .ok (.iconst 0, 1) := by decide +kernel
theorem dX12_codePlace_257 : decode cX12_codePlace 257 = .ok (.invokevirtual 240, 3) := by decide +kernel
theorem dX12_codePlace_260 : decode cX12_codePlace 260 = .ok (.return_, 1) := by decide +kernel
theorem dX12_codePlace_261 : decode cX12_codePlace 261 = .ok (.aload_n 0, 1) := by decide +kernel
theorem dX12_codePlace_262 : decode cX12_codePlace 262 = .ok (.iload 5, 2) := by decide +kernel
theorem dX12_codePlace_264 : decode cX12_codePlace 264 = .ok (.iload_n 2, 1) := by decide +kernel
theorem dX12_codePlace_265 : decode cX12_codePlace 265 = .ok (.invokevirtual 256, 3) := by decide +kernel
theorem dX12_codePlace_268 : decode cX12_codePlace 268 = .ok (.istore 7, 2) := by decide +kernel
theorem dX12_codePlace_270 : decode cX12_codePlace 270 = .ok (.aload_n 0, 1) := by decide +kernel
theorem dX12_codePlace_271 : decode cX12_codePlace 271 = .ok (.bipush 7, 2) := by decide +kernel
theorem dX12_codePlace_273 : decode cX12_codePlace 273 = .ok (.aload_n 0, 1) := by decide +kernel
theorem dX12_codePlace_274 : decode cX12_codePlace 274 = .ok (.iload 4, 2) := by decide +kernel
theorem dX12_codePlace_276 : decode cX12_codePlace 276 = .ok (.invokevirtual 244, 3) := by decide +kernel
theorem dX12_codePlace_279 : decode cX12_codePlace 279 = .ok (.iload 7, 2) := by decide +kernel
theorem dX12_codePlace_281 : decode cX12_codePlace 281 = .ok (.iconst 0, 1) := by decide +kernel
theorem dX12_codePlace_282 : decode cX12_codePlace 282 = .ok (.iconst 0, 1) := by decide +kernel
theorem dX12_codePlace_283 : decode cX12_codePlace 283 = .ok (.invokevirtual 240, 3) := by decide +kernel
theorem dX12_codePlace_286 : decode cX12_codePlace 286 = .ok (.aload_n 0, 1) := by decide +kernel
theorem dX12_codePlace_287 : decode cX12_codePlace 287 = .ok (.iload 4, 2) := by decide +kernel
theorem dX12_codePlace_289 : decode cX12_codePlace 289 = .ok (.invokevirtual 247, 3) := by decide +kernel
theorem dX12_codePlace_292 : decode cX12_codePlace 292 = .ok (.return_, 1) := by decide +kernel
theorem dX12_codePlace_293 : decode cX12_codePlace 293 = .ok (.aload_n 0, 1) := by decide +kernel
theorem dX12_codePlace_294 : decode cX12_codePlace 294 = .ok (.iload 4, 2) := by decide +kernel
theorem dX12_codePlace_296 : decode cX12_codePlace 296 = .ok (.iload_n 2, 1) := by decide +kernel
theorem dX12_codePlace_297 : decode cX12_codePlace 297 = .ok (.invokevirtual 256, 3) := by decide +kernel
theorem dX12_codePlace_300 : decode cX12_codePlace 300 = .ok (.istore 7, 2) := by decide +kernel
theorem dX12_codePlace_302 : decode cX12_codePlace 302 = .ok (.aload_n 0, 1) := by decide +kernel
theorem dX12_codePlace_303 : decode cX12_codePlace 303 = .ok (.iload 5, 2) := by decide +kernel
theorem dX12_codePlace_305 : decode cX12_codePlace 305 = .ok (.iload_n 3, 1) := by decide +kernel
theorem dX12_codePlace_306 : decode cX12_codePlace 306 = .ok (.invokevirtual 256, 3) := by decide +kernel
theorem dX12_codePlace_309 : decode cX12_codePlace 309 = .ok (.istore 8, 2) := by decide +kernel
theorem dX12_codePlace_311 : decode cX12_codePlace 311 = .ok (.aload_n 0, 1) := by decide +kernel
theorem dX12_codePlace_312 : decode cX12_codePlace 312 = .ok (.bipush 8, 2) := by decide +kernel
theorem dX12_codePlace_314 : decode cX12_codePlace 314 = .ok (.iload 7, 2) := by decide +kernel
theorem dX12_codePlace_316 : decode cX12_codePlace 316 = .ok (.iload 8, 2) := by decide +kernel
theorem dX12_codePlace_318 : decode cX12_codePlace 318 = .ok (.iconst 0, 1) := by decide +kernel
theorem dX12_codePlace_319 : decode cX12_codePlace 319 = .ok (.iconst 0, 1) := by decide +kernel
theorem dX12_codePlace_320 : decode cX12_codePlace 320 = .ok (.invokevirtual 240, 3) := by decide +kernel
theorem dX12_codePlace_323 : decode cX12_codePlace 323 = .ok (.return_, 1) := by decide +kernel
theorem dX12_codePlace_324 : decode cX12_codePlace 324 = .ok (.iconst 1, 1) := by decide +kernel
theorem dX12_codePlace_325 : decode cX12_codePlace 325 = .ok (.istore 9, 2) := by decide +kernel
theorem dX12_codePlace_327 : decode cX12_codePlace 327 = .ok (.iload 9, 2) := by decide +kernel
theorem dX12_codePlace_329 : decode cX12_codePlace 329 = .ok (.aload_n 0, 1) := by decide +kernel
theorem dX12_codePlace_330 : decode cX12_codePlace 330 = .ok (.getfield 44, 3) := by decide +kernel
theorem dX12_codePlace_333 : decode cX12_codePlace 333 = .ok (.iload_n 1, 1) := by decide +kernel
theorem dX12_codePlace_334 : decode cX12_codePlace 334 = .ok (.iaload, 1) := by decide +kernel
theorem dX12_codePlace_335 : decode cX12_codePlace 335 = .ok (.if_icmp .ge 42, 3) := by decide +kernel
theorem dX12_codePlace_338 : decode cX12_codePlace 338 = .ok (.aload_n 0, 1) := by decide +kernel
theorem dX12_codePlace_339 : decode cX12_codePlace 339 = .ok (.aload_n 0, 1) := by decide +kernel
theorem dX12_codePlace_340 : decode cX12_codePlace 340 = .ok (.getfield 41, 3) := by decide +kernel
theorem dX12_codePlace_343 : decode cX12_codePlace 343 = .ok (.bipush 8, 2) := by decide +kernel
theorem dX12_codePlace_345 : decode cX12_codePlace 345 = .ok (.iload_n 1, 1) := by decide +kernel
theorem dX12_codePlace_346 : decode cX12_codePlace 346 = .ok (.imul, 1) := by decide +kernel
theorem dX12_codePlace_347 : decode cX12_codePlace 347 = .ok (.iload 9, 2) := by decide +kernel
theorem dX12_codePlace_349 : decode cX12_codePlace 349 = .ok (.iadd, 1) := by decide +kernel
theorem dX12_codePlace_350 : decode cX12_codePlace 350 = .ok (.iaload, 1) := by decide +kernel
theorem dX12_codePlace_351 : decode cX12_codePlace 351 = .ok (.iload_n 2, 1) := by decide +kernel
theorem dX12_codePlace_352 : decode cX12_codePlace 352 = .ok (.invokevirtual 256, 3) := by decide +kernel
theorem dX12_codePlace_355 : decode cX12_codePlace 355 = .ok (.istore 7, 2) := by decide +kernel
theorem dX12_codePlace_357 : decode cX12_codePlace 357 = .ok (.aload_n 0, 1) := by decide +kernel
theorem dX12_codePlace_358 : decode cX12_codePlace 358 = .ok (.bipush 12, 2) := by decide +kernel
theorem dX12_codePlace_360 : decode cX12_codePlace 360 = .ok (.iload 9, 2) := by decide +kernel
theorem dX12_codePlace_362 : decode cX12_codePlace 362 = .ok (.iconst 1, 1) := by decide +kernel
