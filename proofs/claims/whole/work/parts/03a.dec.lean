theorem dX0_init_0 : decode cX0_init 0 = .ok (.aload_n 0, 1) := by decide +kernel
theorem dX0_init_1 : decode cX0_init 1 = .ok (.invokespecial 3, 3) := by decide +kernel
theorem dX0_init_4 : decode cX0_init 4 = .ok (.aload_n 0, 1) := by decide +kernel
theorem dX0_init_5 : decode cX0_init 5 = .ok (.bipush 20, 2) := by decide +kernel
theorem dX0_init_7 : decode cX0_init 7 = .ok (.newarray .int, 2) := by decide +kernel
theorem dX0_init_9 : decode cX0_init 9 = .ok (.putfield 9, 3) := by decide +kernel
theorem dX0_init_12 : decode cX0_init 12 = .ok (.aload_n 0, 1) := by decide +kernel
theorem dX0_init_13 : decode cX0_init 13 = .ok (.bipush 20, 2) := by decide +kernel
theorem dX0_init_15 : decode cX0_init 15 = .ok (.newarray .int, 2) := by decide +kernel
theorem dX0_init_17 : decode cX0_init 17 = .ok (.putfield 15, 3) := by decide +kernel
theorem dX0_init_20 : decode cX0_init 20 = .ok (.aload_n 0, 1) := by decide +kernel
theorem dX0_init_21 : decode cX0_init 21 = .ok (.bipush 20, 2) := by decide +kernel
theorem dX0_init_23 : decode cX0_init 23 = .ok (.newarray .int, 2) := by decide +kernel
theorem dX0_init_25 : decode cX0_init 25 = .ok (.putfield 18, 3) := by decide +kernel
theorem dX0_init_28 : decode cX0_init 28 = .ok (.aload_n 0, 1) := by decide +kernel
theorem dX0_init_29 : decode cX0_init 29 = .ok (.aload_n 1, 1) := by decide +kernel
theorem dX0_init_30 : decode cX0_init 30 = .ok (.putfield 21, 3) := by decide +kernel
theorem dX0_init_33 : decode cX0_init 33 = .ok (.return_, 1) := by decide +kernel
theorem dX0_readLines_0 : decode cX0_readLines 0 = .ok (.iconst 0, 1) := by decide +kernel
theorem dX0_readLines_1 : decode cX0_readLines 1 = .ok (.istore_n 2, 1) := by decide +kernel
theorem dX0_readLines_2 : decode cX0_readLines 2 = .ok (.iload_n 2, 1) := by decide +kernel
theorem dX0_readLines_3 : decode cX0_readLines 3 = .ok (.bipush 20, 2) := by decide +kernel
theorem dX0_readLines_5 : decode cX0_readLines 5 = .ok (.if_icmp .gt 77, 3) := by decide +kernel
theorem dX0_readLines_8 : decode cX0_readLines 8 = .ok (.aload_n 0, 1) := by decide +kernel
theorem dX0_readLines_9 : decode cX0_readLines 9 = .ok (.iload_n 2, 1) := by decide +kernel
theorem dX0_readLines_10 : decode cX0_readLines 10 = .ok (.iload_n 1, 1) := by decide +kernel
theorem dX0_readLines_11 : decode cX0_readLines 11 = .ok (.invokevirtual 25, 3) := by decide +kernel
theorem dX0_readLines_14 : decode cX0_readLines 14 = .ok (.ifCond .eq 11, 3) := by decide +kernel
theorem dX0_readLines_17 : decode cX0_readLines 17 = .ok (.aload_n 0, 1) := by decide +kernel
theorem dX0_readLines_18 : decode cX0_readLines 18 = .ok (.iload_n 2, 1) := by decide +kernel
theorem dX0_readLines_19 : decode cX0_readLines 19 = .ok (.invokevirtual 29, 3) := by decide +kernel
theorem dX0_readLines_22 : decode cX0_readLines 22 = .ok (.ifCond .ne 11, 3) := by decide +kernel
theorem dX0_readLines_25 : decode cX0_readLines 25 = .ok (.aload_n 0, 1) := by decide +kernel
theorem dX0_readLines_26 : decode cX0_readLines 26 = .ok (.getfield 21, 3) := by decide +kernel
theorem dX0_readLines_29 : decode cX0_readLines 29 = .ok (.getfield 33, 3) := by decide +kernel
theorem dX0_readLines_32 : decode cX0_readLines 32 = .ok (.ireturn, 1) := by decide +kernel
theorem dX0_readLines_33 : decode cX0_readLines 33 = .ok (.aload_n 0, 1) := by decide +kernel
theorem dX0_readLines_34 : decode cX0_readLines 34 = .ok (.iload_n 2, 1) := by decide +kernel
theorem dX0_readLines_35 : decode cX0_readLines 35 = .ok (.iconst 1, 1) := by decide +kernel
theorem dX0_readLines_36 : decode cX0_readLines 36 = .ok (.iadd, 1) := by decide +kernel
theorem dX0_readLines_37 : decode cX0_readLines 37 = .ok (.putfield 39, 3) := by decide +kernel
theorem dX0_readLines_40 : decode cX0_readLines 40 = .ok (.aload_n 0, 1) := by decide +kernel
theorem dX0_readLines_41 : decode cX0_readLines 41 = .ok (.getfield 21, 3) := by decide +kernel
theorem dX0_readLines_44 : decode cX0_readLines 44 = .ok (.invokevirtual 42, 3) := by decide +kernel
theorem dX0_readLines_47 : decode cX0_readLines 47 = .ok (.iconst (-1), 1) := by decide +kernel
theorem dX0_readLines_48 : decode cX0_readLines 48 = .ok (.if_icmp .ne 8, 3) := by decide +kernel
theorem dX0_readLines_51 : decode cX0_readLines 51 = .ok (.aload_n 0, 1) := by decide +kernel
theorem dX0_readLines_52 : decode cX0_readLines 52 = .ok (.getfield 39, 3) := by decide +kernel
theorem dX0_readLines_55 : decode cX0_readLines 55 = .ok (.ireturn, 1) := by decide +kernel
theorem dX0_readLines_56 : decode cX0_readLines 56 = .ok (.aload_n 0, 1) := by decide +kernel
theorem dX0_readLines_57 : decode cX0_readLines 57 = .ok (.getfield 21, 3) := by decide +kernel
theorem dX0_readLines_60 : decode cX0_readLines 60 = .ok (.bipush 59, 2) := by decide +kernel
theorem dX0_readLines_62 : decode cX0_readLines 62 = .ok (.invokevirtual 45, 3) := by decide +kernel
theorem dX0_readLines_65 : decode cX0_readLines 65 = .ok (.ifCond .ne 11, 3) := by decide +kernel
theorem dX0_readLines_68 : decode cX0_readLines 68 = .ok (.aload_n 0, 1) := by decide +kernel
theorem dX0_readLines_69 : decode cX0_readLines 69 = .ok (.getfield 21, 3) := by decide +kernel
theorem dX0_readLines_72 : decode cX0_readLines 72 = .ok (.getfield 33, 3) := by decide +kernel
theorem dX0_readLines_75 : decode cX0_readLines 75 = .ok (.ireturn, 1) := by decide +kernel
theorem dX0_readLines_76 : decode cX0_readLines 76 = .ok (.iinc 2 1, 3) := by decide +kernel
theorem dX0_readLines_79 : decode cX0_readLines 79 = .ok (.goto (-77), 3) := by decide +kernel
theorem dX0_readLines_82 : decode cX0_readLines 82 = .ok (.aload_n 0, 1) := by decide +kernel
theorem dX0_readLines_83 : decode cX0_readLines 83 = .ok (.getfield 21, 3) := by decide +kernel
theorem dX0_readLines_86 : decode cX0_readLines 86 = .ok (.getfield 33, 3) := by decide +kernel
theorem dX0_readLines_89 : decode cX0_readLines 89 = .ok (.ireturn, 1) := by decide +kernel
theorem dX0_readWhose_0 : decode cX0_readWhose 0 = .ok (.aload_n 0, 1) := by decide +kernel
theorem dX0_readWhose_1 : decode cX0_readWhose 1 = .ok (.getfield 21, 3) := by decide +kernel
theorem dX0_readWhose_4 : decode cX0_readWhose 4 = .ok (.invokevirtual 42, 3) := by decide +kernel
theorem dX0_readWhose_7 : decode cX0_readWhose 7 = .ok (.istore_n 3, 1) := by decide +kernel
theorem dX0_readWhose_8 : decode cX0_readWhose 8 = .ok (.iload_n 3, 1) := by decide +kernel
theorem dX0_readWhose_9 : decode cX0_readWhose 9 = .ok (.bipush 70, 2) := by decide +kernel
theorem dX0_readWhose_11 : decode cX0_readWhose 11 = .ok (.if_icmp .ne 7, 3) := by decide +kernel
theorem dX0_readWhose_14 : decode cX0_readWhose 14 = .ok (.iconst 1, 1) := by decide +kernel
theorem dX0_readWhose_15 : decode cX0_readWhose 15 = .ok (.goto 4, 3) := by decide +kernel
theorem dX0_readWhose_18 : decode cX0_readWhose 18 = .ok (.iconst 0, 1) := by decide +kernel
theorem dX0_readWhose_19 : decode cX0_readWhose 19 = .ok (.istore 4, 2) := by decide +kernel
theorem dX0_readWhose_21 : decode cX0_readWhose 21 = .ok (.iload 4, 2) := by decide +kernel
theorem dX0_readWhose_23 : decode cX0_readWhose 23 = .ok (.ifCond .ne 23, 3) := by decide +kernel
theorem dX0_readWhose_26 : decode cX0_readWhose 26 = .ok (.iload_n 3, 1) := by decide +kernel
theorem dX0_readWhose_27 : decode cX0_readWhose 27 = .ok (.bipush 97, 2) := by decide +kernel
theorem dX0_readWhose_29 : decode cX0_readWhose 29 = .ok (.bipush 112, 2) := by decide +kernel
theorem dX0_readWhose_31 : decode cX0_readWhose 31 = .ok (.invokestatic 48, 3) := by decide +kernel
theorem dX0_readWhose_34 : decode cX0_readWhose 34 = .ok (.ifCond .ne 12, 3) := by decide +kernel
theorem dX0_readWhose_37 : decode cX0_readWhose 37 = .ok (.aload_n 0, 1) := by decide +kernel
theorem dX0_readWhose_38 : decode cX0_readWhose 38 = .ok (.getfield 21, 3) := by decide +kernel
theorem dX0_readWhose_41 : decode cX0_readWhose 41 = .ok (.iconst 1, 1) := by decide +kernel
theorem dX0_readWhose_42 : decode cX0_readWhose 42 = .ok (.invokevirtual 52, 3) := by decide +kernel
theorem dX0_readWhose_45 : decode cX0_readWhose 45 = .ok (.ireturn, 1) := by decide +kernel
theorem dX0_readWhose_46 : decode cX0_readWhose 46 = .ok (.iload_n 1, 1) := by decide +kernel
theorem dX0_readWhose_47 : decode cX0_readWhose 47 = .ok (.bipush 20, 2) := by decide +kernel
theorem dX0_readWhose_49 : decode cX0_readWhose 49 = .ok (.if_icmp .lt 12, 3) := by decide +kernel
theorem dX0_readWhose_52 : decode cX0_readWhose 52 = .ok (.aload_n 0, 1) := by decide +kernel
theorem dX0_readWhose_53 : decode cX0_readWhose 53 = .ok (.getfield 21, 3) := by decide +kernel
theorem dX0_readWhose_56 : decode cX0_readWhose 56 = .ok (.iconst 4, 1) := by decide +kernel
theorem dX0_readWhose_57 : decode cX0_readWhose 57 = .ok (.invokevirtual 52, 3) := by decide +kernel
theorem dX0_readWhose_60 : decode cX0_readWhose 60 = .ok (.ireturn, 1) := by decide +kernel
theorem dX0_readWhose_61 : decode cX0_readWhose 61 = .ok (.iload 4, 2) := by decide +kernel
theorem dX0_readWhose_63 : decode cX0_readWhose 63 = .ok (.ifCond .eq 8, 3) := by decide +kernel
theorem dX0_readWhose_66 : decode cX0_readWhose 66 = .ok (.bipush 16, 2) := by decide +kernel
theorem dX0_readWhose_68 : decode cX0_readWhose 68 = .ok (.goto 7, 3) := by decide +kernel
theorem dX0_readWhose_71 : decode cX0_readWhose 71 = .ok (.iload_n 3, 1) := by decide +kernel
theorem dX0_readWhose_72 : decode cX0_readWhose 72 = .ok (.bipush 97, 2) := by decide +kernel
theorem dX0_readWhose_74 : decode cX0_readWhose 74 = .ok (.isub, 1) := by decide +kernel
theorem dX0_readWhose_75 : decode cX0_readWhose 75 = .ok (.istore 5, 2) := by decide +kernel
theorem dX0_readWhose_77 : decode cX0_readWhose 77 = .ok (.iload 4, 2) := by decide +kernel
theorem dX0_readWhose_79 : decode cX0_readWhose 79 = .ok (.ifCond .ne 22, 3) := by decide +kernel
theorem dX0_readWhose_82 : decode cX0_readWhose 82 = .ok (.iload_n 2, 1) := by decide +kernel
theorem dX0_readWhose_83 : decode cX0_readWhose 83 = .ok (.iload 5, 2) := by decide +kernel
theorem dX0_readWhose_85 : decode cX0_readWhose 85 = .ok (.ishr, 1) := by decide +kernel
theorem dX0_readWhose_86 : decode cX0_readWhose 86 = .ok (.iconst 1, 1) := by decide +kernel
theorem dX0_readWhose_87 : decode cX0_readWhose 87 = .ok (.iand, 1) := by decide +kernel
theorem dX0_readWhose_88 : decode cX0_readWhose 88 = .ok (.ifCond .ne 13, 3) := by decide +kernel
theorem dX0_readWhose_91 : decode cX0_readWhose 91 = .ok (.aload_n 0, 1) := by decide +kernel
theorem dX0_readWhose_92 : decode cX0_readWhose 92 = .ok (.getfield 21, 3) := by decide +kernel
theorem dX0_readWhose_95 : decode cX0_readWhose 95 = .ok (.bipush 7, 2) := by decide +kernel
theorem dX0_readWhose_97 : decode cX0_readWhose 97 = .ok (.invokevirtual 52, 3) := by decide +kernel
theorem dX0_readWhose_100 : decode cX0_readWhose 100 = .ok (.ireturn, 1) := by decide +kernel
theorem dX0_readWhose_101 : decode cX0_readWhose 101 = .ok (.aload_n 0, 1) := by decide +kernel
theorem dX0_readWhose_102 : decode cX0_readWhose 102 = .ok (.getfield 21, 3) := by decide +kernel
theorem dX0_readWhose_105 : decode cX0_readWhose 105 = .ok (.dup, 1) := by decide +kernel
theorem dX0_readWhose_106 : decode cX0_readWhose 106 = .ok (.getfield 55, 3) := by decide +kernel
theorem dX0_readWhose_109 : decode cX0_readWhose 109 = .ok (.iconst 1, 1) := by decide +kernel
theorem dX0_readWhose_110 : decode cX0_readWhose 110 = .ok (.iadd, 1) := by decide +kernel
theorem dX0_readWhose_111 : decode cX0_readWhose 111 = .ok (.putfield 55, 3) := by decide +kernel
theorem dX0_readWhose_114 : decode cX0_readWhose 114 = .ok (.aload_n 0, 1) := by decide +kernel
theorem dX0_readWhose_115 : decode cX0_readWhose 115 = .ok (.getfield 9, 3) := by decide +kernel
theorem dX0_readWhose_118 : decode cX0_readWhose 118 = .ok (.iload_n 1, 1) := by decide +kernel
theorem dX0_readWhose_119 : decode cX0_readWhose 119 = .ok (.iload 5, 2) := by decide +kernel
theorem dX0_readWhose_121 : decode cX0_readWhose 121 = .ok (.iastore, 1) := by decide +kernel
theorem dX0_readWhose_122 : decode cX0_readWhose 122 = .ok (.iconst 1, 1) := by decide +kernel
theorem dX0_readWhose_123 : decode cX0_readWhose 123 = .ok (.ireturn, 1) := by decide +kernel
theorem dX0_readWhat_0 : decode cX0_readWhat 0 = .ok (.aload_n 0, 1) := by decide +kernel
theorem dX0_readWhat_1 : decode cX0_readWhat 1 = .ok (.getfield 21, 3) := by decide +kernel
theorem dX0_readWhat_4 : decode cX0_readWhat 4 = .ok (.invokevirtual 42, 3) := by decide +kernel
theorem dX0_readWhat_7 : decode cX0_readWhat 7 = .ok (.istore_n 2, 1) := by decide +kernel
theorem dX0_readWhat_8 : decode cX0_readWhat 8 = .ok (.aload_n 0, 1) := by decide +kernel
theorem dX0_readWhat_9 : decode cX0_readWhat 9 = .ok (.getfield 15, 3) := by decide +kernel
theorem dX0_readWhat_12 : decode cX0_readWhat 12 = .ok (.iload_n 1, 1) := by decide +kernel
theorem dX0_readWhat_13 : decode cX0_readWhat 13 = .ok (.iload_n 2, 1) := by decide +kernel
theorem dX0_readWhat_14 : decode cX0_readWhat 14 = .ok (.iastore, 1) := by decide +kernel
theorem dX0_readWhat_15 : decode cX0_readWhat 15 = .ok (.iload_n 2, 1) := by decide +kernel
theorem dX0_readWhat_16 : decode cX0_readWhat 16 = .ok (.bipush 43, 2) := by decide +kernel
theorem dX0_readWhat_18 : decode cX0_readWhat 18 = .ok (.if_icmp .eq 9, 3) := by decide +kernel
theorem dX0_readWhat_21 : decode cX0_readWhat 21 = .ok (.iload_n 2, 1) := by decide +kernel
theorem dX0_readWhat_22 : decode cX0_readWhat 22 = .ok (.bipush 45, 2) := by decide +kernel
theorem dX0_readWhat_24 : decode cX0_readWhat 24 = .ok (.if_icmp .ne 60, 3) := by decide +kernel
theorem dX0_readWhat_27 : decode cX0_readWhat 27 = .ok (.aload_n 0, 1) := by decide +kernel
theorem dX0_readWhat_28 : decode cX0_readWhat 28 = .ok (.getfield 21, 3) := by decide +kernel
theorem dX0_readWhat_31 : decode cX0_readWhat 31 = .ok (.dup, 1) := by decide +kernel
theorem dX0_readWhat_32 : decode cX0_readWhat 32 = .ok (.getfield 55, 3) := by decide +kernel
theorem dX0_readWhat_35 : decode cX0_readWhat 35 = .ok (.iconst 1, 1) := by decide +kernel
theorem dX0_readWhat_36 : decode cX0_readWhat 36 = .ok (.iadd, 1) := by decide +kernel
theorem dX0_readWhat_37 : decode cX0_readWhat 37 = .ok (.putfield 55, 3) := by decide +kernel
theorem dX0_readWhat_40 : decode cX0_readWhat 40 = .ok (.aload_n 0, 1) := by decide +kernel
theorem dX0_readWhat_41 : decode cX0_readWhat 41 = .ok (.getfield 21, 3) := by decide +kernel
theorem dX0_readWhat_44 : decode cX0_readWhat 44 = .ok (.invokevirtual 58, 3) := by decide +kernel
theorem dX0_readWhat_47 : decode cX0_readWhat 47 = .ok (.ifCond .ne 5, 3) := by decide +kernel
theorem dX0_readWhat_50 : decode cX0_readWhat 50 = .ok (.iconst 0, 1) := by decide +kernel
theorem dX0_readWhat_51 : decode cX0_readWhat 51 = .ok (.ireturn, 1) := by decide +kernel
theorem dX0_readWhat_52 : decode cX0_readWhat 52 = .ok (.aload_n 0, 1) := by decide +kernel
theorem dX0_readWhat_53 : decode cX0_readWhat 53 = .ok (.getfield 18, 3) := by decide +kernel
theorem dX0_readWhat_56 : decode cX0_readWhat 56 = .ok (.iload_n 1, 1) := by decide +kernel
theorem dX0_readWhat_57 : decode cX0_readWhat 57 = .ok (.iload_n 2, 1) := by decide +kernel
theorem dX0_readWhat_58 : decode cX0_readWhat 58 = .ok (.bipush 43, 2) := by decide +kernel
theorem dX0_readWhat_60 : decode cX0_readWhat 60 = .ok (.if_icmp .ne 13, 3) := by decide +kernel
theorem dX0_readWhat_63 : decode cX0_readWhat 63 = .ok (.aload_n 0, 1) := by decide +kernel
theorem dX0_readWhat_64 : decode cX0_readWhat 64 = .ok (.getfield 21, 3) := by decide +kernel
theorem dX0_readWhat_67 : decode cX0_readWhat 67 = .ok (.getfield 62, 3) := by decide +kernel
theorem dX0_readWhat_70 : decode cX0_readWhat 70 = .ok (.goto 11, 3) := by decide +kernel
theorem dX0_readWhat_73 : decode cX0_readWhat 73 = .ok (.aload_n 0, 1) := by decide +kernel
theorem dX0_readWhat_74 : decode cX0_readWhat 74 = .ok (.getfield 21, 3) := by decide +kernel
theorem dX0_readWhat_77 : decode cX0_readWhat 77 = .ok (.getfield 62, 3) := by decide +kernel
theorem dX0_readWhat_80 : decode cX0_readWhat 80 = .ok (.ineg, 1) := by decide +kernel
theorem dX0_readWhat_81 : decode cX0_readWhat 81 = .ok (.iastore, 1) := by decide +kernel
theorem dX0_readWhat_82 : decode cX0_readWhat 82 = .ok (.iconst 1, 1) := by decide +kernel
theorem dX0_readWhat_83 : decode cX0_readWhat 83 = .ok (.ireturn, 1) := by decide +kernel
theorem dX0_readWhat_84 : decode cX0_readWhat 84 = .ok (.iload_n 2, 1) := by decide +kernel
theorem dX0_readWhat_85 : decode cX0_readWhat 85 = .ok (.bipush 33, 2) := by decide +kernel
theorem dX0_readWhat_87 : decode cX0_readWhat 87 = .ok (.if_icmp .eq 27, 3) := by decide +kernel
theorem dX0_readWhat_90 : decode cX0_readWhat 90 = .ok (.iload_n 2, 1) := by decide +kernel
theorem dX0_readWhat_91 : decode cX0_readWhat 91 = .ok (.bipush 63, 2) := by decide +kernel
theorem dX0_readWhat_93 : decode cX0_readWhat 93 = .ok (.if_icmp .eq 21, 3) := by decide +kernel
theorem dX0_readWhat_96 : decode cX0_readWhat 96 = .ok (.iload_n 2, 1) := by decide +kernel
theorem dX0_readWhat_97 : decode cX0_readWhat 97 = .ok (.bipush 42, 2) := by decide +kernel
theorem dX0_readWhat_99 : decode cX0_readWhat 99 = .ok (.if_icmp .eq 15, 3) := by decide +kernel
theorem dX0_readWhat_102 : decode cX0_readWhat 102 = .ok (.iload_n 2, 1) := by decide +kernel
theorem dX0_readWhat_103 : decode cX0_readWhat 103 = .ok (.bipush 94, 2) := by decide +kernel
theorem dX0_readWhat_105 : decode cX0_readWhat 105 = .ok (.if_icmp .eq 9, 3) := by decide +kernel
theorem dX0_readWhat_108 : decode cX0_readWhat 108 = .ok (.iload_n 2, 1) := by decide +kernel
theorem dX0_readWhat_109 : decode cX0_readWhat 109 = .ok (.bipush 95, 2) := by decide +kernel
theorem dX0_readWhat_111 : decode cX0_readWhat 111 = .ok (.if_icmp .ne 7, 3) := by decide +kernel
theorem dX0_readWhat_114 : decode cX0_readWhat 114 = .ok (.iconst 1, 1) := by decide +kernel
theorem dX0_readWhat_115 : decode cX0_readWhat 115 = .ok (.goto 4, 3) := by decide +kernel
theorem dX0_readWhat_118 : decode cX0_readWhat 118 = .ok (.iconst 0, 1) := by decide +kernel
theorem dX0_readWhat_119 : decode cX0_readWhat 119 = .ok (.istore_n 3, 1) := by decide +kernel
theorem dX0_readWhat_120 : decode cX0_readWhat 120 = .ok (.iload_n 3, 1) := by decide +kernel
theorem dX0_readWhat_121 : decode cX0_readWhat 121 = .ok (.ifCond .eq 14, 3) := by decide +kernel
theorem dX0_readWhat_124 : decode cX0_readWhat 124 = .ok (.aload_n 0, 1) := by decide +kernel
theorem dX0_readWhat_125 : decode cX0_readWhat 125 = .ok (.getfield 9, 3) := by decide +kernel
theorem dX0_readWhat_128 : decode cX0_readWhat 128 = .ok (.iload_n 1, 1) := by decide +kernel
theorem dX0_readWhat_129 : decode cX0_readWhat 129 = .ok (.iaload, 1) := by decide +kernel
theorem dX0_readWhat_130 : decode cX0_readWhat 130 = .ok (.bipush 16, 2) := by decide +kernel
theorem dX0_readWhat_132 : decode cX0_readWhat 132 = .ok (.if_icmp .ne 12, 3) := by decide +kernel
theorem dX0_readWhat_135 : decode cX0_readWhat 135 = .ok (.aload_n 0, 1) := by decide +kernel
theorem dX0_readWhat_136 : decode cX0_readWhat 136 = .ok (.getfield 21, 3) := by decide +kernel
theorem dX0_readWhat_139 : decode cX0_readWhat 139 = .ok (.iconst 1, 1) := by decide +kernel
theorem dX0_readWhat_140 : decode cX0_readWhat 140 = .ok (.invokevirtual 52, 3) := by decide +kernel
theorem dX0_readWhat_143 : decode cX0_readWhat 143 = .ok (.ireturn, 1) := by decide +kernel
theorem dX0_readWhat_144 : decode cX0_readWhat 144 = .ok (.aload_n 0, 1) := by decide +kernel
theorem dX0_readWhat_145 : decode cX0_readWhat 145 = .ok (.getfield 21, 3) := by decide +kernel
theorem dX0_readWhat_148 : decode cX0_readWhat 148 = .ok (.dup, 1) := by decide +kernel
theorem dX0_readWhat_149 : decode cX0_readWhat 149 = .ok (.getfield 55, 3) := by decide +kernel
theorem dX0_readWhat_152 : decode cX0_readWhat 152 = .ok (.iconst 1, 1) := by decide +kernel
theorem dX0_readWhat_153 : decode cX0_readWhat 153 = .ok (.iadd, 1) := by decide +kernel
theorem dX0_readWhat_154 : decode cX0_readWhat 154 = .ok (.putfield 55, 3) := by decide +kernel
theorem dX0_readWhat_157 : decode cX0_readWhat 157 = .ok (.iconst 1, 1) := by decide +kernel
theorem dX0_readWhat_158 : decode cX0_readWhat 158 = .ok (.ireturn, 1) := by decide +kernel
theorem dX0_settle_0 : decode cX0_settle 0 = .ok (.iconst 0, 1) := by decide +kernel
theorem dX0_settle_1 : decode cX0_settle 1 = .ok (.istore_n 2, 1) := by decide +kernel
theorem dX0_settle_2 : decode cX0_settle 2 = .ok (.iload_n 2, 1) := by decide +kernel
theorem dX0_settle_3 : decode cX0_settle 3 = .ok (.aload_n 0, 1) := by decide +kernel
theorem dX0_settle_4 : decode cX0_settle 4 = .ok (.getfield 39, 3) := by decide +kernel
theorem dX0_settle_7 : decode cX0_settle 7 = .ok (.if_icmp .ge 51, 3) := by decide +kernel
theorem dX0_settle_10 : decode cX0_settle 10 = .ok (.iload_n 2, 1) := by decide +kernel
theorem dX0_settle_11 : decode cX0_settle 11 = .ok (.bipush 20, 2) := by decide +kernel
theorem dX0_settle_13 : decode cX0_settle 13 = .ok (.if_icmp .ge 45, 3) := by decide +kernel
theorem dX0_settle_16 : decode cX0_settle 16 = .ok (.aload_n 0, 1) := by decide +kernel
theorem dX0_settle_17 : decode cX0_settle 17 = .ok (.getfield 9, 3) := by decide +kernel
theorem dX0_settle_20 : decode cX0_settle 20 = .ok (.iload_n 2, 1) := by decide +kernel
theorem dX0_settle_21 : decode cX0_settle 21 = .ok (.iaload, 1) := by decide +kernel
theorem dX0_settle_22 : decode cX0_settle 22 = .ok (.bipush 16, 2) := by decide +kernel
theorem dX0_settle_24 : decode cX0_settle 24 = .ok (.if_icmp .ne 16, 3) := by decide +kernel
theorem dX0_settle_27 : decode cX0_settle 27 = .ok (.aload_n 1, 1) := by decide +kernel
theorem dX0_settle_28 : decode cX0_settle 28 = .ok (.aload_n 0, 1) := by decide +kernel
theorem dX0_settle_29 : decode cX0_settle 29 = .ok (.getfield 18, 3) := by decide +kernel
theorem dX0_settle_32 : decode cX0_settle 32 = .ok (.iload_n 2, 1) := by decide +kernel
theorem dX0_settle_33 : decode cX0_settle 33 = .ok (.iaload, 1) := by decide +kernel
theorem dX0_settle_34 : decode cX0_settle 34 = .ok (.invokevirtual 65, 3) := by decide +kernel
theorem dX0_settle_37 : decode cX0_settle 37 = .ok (.goto 15, 3) := by decide +kernel
theorem dX0_settle_40 : decode cX0_settle 40 = .ok (.aload_n 0, 1) := by decide +kernel
theorem dX0_settle_41 : decode cX0_settle 41 = .ok (.aload_n 1, 1) := by decide +kernel
theorem dX0_settle_42 : decode cX0_settle 42 = .ok (.iload_n 2, 1) := by decide +kernel
theorem dX0_settle_43 : decode cX0_settle 43 = .ok (.aload_n 0, 1) := by decide +kernel
theorem dX0_settle_44 : decode cX0_settle 44 = .ok (.getfield 9, 3) := by decide +kernel
theorem dX0_settle_47 : decode cX0_settle 47 = .ok (.iload_n 2, 1) := by decide +kernel
theorem dX0_settle_48 : decode cX0_settle 48 = .ok (.iaload, 1) := by decide +kernel
theorem dX0_settle_49 : decode cX0_settle 49 = .ok (.invokevirtual 71, 3) := by decide +kernel
theorem dX0_settle_52 : decode cX0_settle 52 = .ok (.iinc 2 1, 3) := by decide +kernel
theorem dX0_settle_55 : decode cX0_settle 55 = .ok (.goto (-53), 3) := by decide +kernel
theorem dX0_settle_58 : decode cX0_settle 58 = .ok (.return_, 1) := by decide +kernel
theorem dX0_settleLine_0 : decode cX0_settleLine 0 = .ok (.aload_n 0, 1) := by decide +kernel
theorem dX0_settleLine_1 : decode cX0_settleLine 1 = .ok (.getfield 15, 3) := by decide +kernel
theorem dX0_settleLine_4 : decode cX0_settleLine 4 = .ok (.iload_n 2, 1) := by decide +kernel
theorem dX0_settleLine_5 : decode cX0_settleLine 5 = .ok (.iaload, 1) := by decide +kernel
theorem dX0_settleLine_6 : decode cX0_settleLine 6 = .ok (.lookupswitch 122 #[(33, 50), (42, 75), (63, 58), (94, 90), (95, 105)], 50) := by decide +kernel
theorem dX0_settleLine_56 : decode cX0_settleLine 56 = .ok (.aload_n 1, 1) := by decide +kernel
theorem dX0_settleLine_57 : decode cX0_settleLine 57 = .ok (.iload_n 3, 1) := by decide +kernel
theorem dX0_settleLine_58 : decode cX0_settleLine 58 = .ok (.invokevirtual 75, 3) := by decide +kernel
theorem dX0_settleLine_61 : decode cX0_settleLine 61 = .ok (.goto 78, 3) := by decide +kernel
theorem dX0_settleLine_64 : decode cX0_settleLine 64 = .ok (.aload_n 1, 1) := by decide +kernel
theorem dX0_settleLine_65 : decode cX0_settleLine 65 = .ok (.dup, 1) := by decide +kernel
theorem dX0_settleLine_66 : decode cX0_settleLine 66 = .ok (.getfield 78, 3) := by decide +kernel
theorem dX0_settleLine_69 : decode cX0_settleLine 69 = .ok (.iconst 1, 1) := by decide +kernel
theorem dX0_settleLine_70 : decode cX0_settleLine 70 = .ok (.iload_n 3, 1) := by decide +kernel
theorem dX0_settleLine_71 : decode cX0_settleLine 71 = .ok (.ishl, 1) := by decide +kernel
theorem dX0_settleLine_72 : decode cX0_settleLine 72 = .ok (.iconst (-1), 1) := by decide +kernel
theorem dX0_settleLine_73 : decode cX0_settleLine 73 = .ok (.ixor, 1) := by decide +kernel
theorem dX0_settleLine_74 : decode cX0_settleLine 74 = .ok (.iand, 1) := by decide +kernel
theorem dX0_settleLine_75 : decode cX0_settleLine 75 = .ok (.putfield 78, 3) := by decide +kernel
theorem dX0_settleLine_78 : decode cX0_settleLine 78 = .ok (.goto 61, 3) := by decide +kernel
theorem dX0_settleLine_81 : decode cX0_settleLine 81 = .ok (.aload_n 1, 1) := by decide +kernel
theorem dX0_settleLine_82 : decode cX0_settleLine 82 = .ok (.dup, 1) := by decide +kernel
theorem dX0_settleLine_83 : decode cX0_settleLine 83 = .ok (.getfield 81, 3) := by decide +kernel
theorem dX0_settleLine_86 : decode cX0_settleLine 86 = .ok (.iconst 1, 1) := by decide +kernel
theorem dX0_settleLine_87 : decode cX0_settleLine 87 = .ok (.iload_n 3, 1) := by decide +kernel
theorem dX0_settleLine_88 : decode cX0_settleLine 88 = .ok (.ishl, 1) := by decide +kernel
theorem dX0_settleLine_89 : decode cX0_settleLine 89 = .ok (.ior, 1) := by decide +kernel
theorem dX0_settleLine_90 : decode cX0_settleLine 90 = .ok (.putfield 81, 3) := by decide +kernel
theorem dX0_settleLine_93 : decode cX0_settleLine 93 = .ok (.goto 46, 3) := by decide +kernel
theorem dX0_settleLine_96 : decode cX0_settleLine 96 = .ok (.aload_n 1, 1) := by decide +kernel
theorem dX0_settleLine_97 : decode cX0_settleLine 97 = .ok (.dup, 1) := by decide +kernel
theorem dX0_settleLine_98 : decode cX0_settleLine 98 = .ok (.getfield 84, 3) := by decide +kernel
theorem dX0_settleLine_101 : decode cX0_settleLine 101 = .ok (.iconst 1, 1) := by decide +kernel
theorem dX0_settleLine_102 : decode cX0_settleLine 102 = .ok (.iload_n 3, 1) := by decide +kernel
theorem dX0_settleLine_103 : decode cX0_settleLine 103 = .ok (.ishl, 1) := by decide +kernel
theorem dX0_settleLine_104 : decode cX0_settleLine 104 = .ok (.ior, 1) := by decide +kernel
theorem dX0_settleLine_105 : decode cX0_settleLine 105 = .ok (.putfield 84, 3) := by decide +kernel
theorem dX0_settleLine_108 : decode cX0_settleLine 108 = .ok (.goto 31, 3) := by decide +kernel
theorem dX0_settleLine_111 : decode cX0_settleLine 111 = .ok (.aload_n 1, 1) := by decide +kernel
theorem dX0_settleLine_112 : decode cX0_settleLine 112 = .ok (.dup, 1) := by decide +kernel
theorem dX0_settleLine_113 : decode cX0_settleLine 113 = .ok (.getfield 84, 3) := by decide +kernel
theorem dX0_settleLine_116 : decode cX0_settleLine 116 = .ok (.iconst 1, 1) := by decide +kernel
theorem dX0_settleLine_117 : decode cX0_settleLine 117 = .ok (.iload_n 3, 1) := by decide +kernel
theorem dX0_settleLine_118 : decode cX0_settleLine 118 = .ok (.ishl, 1) := by decide +kernel
theorem dX0_settleLine_119 : decode cX0_settleLine 119 = .ok (.iconst (-1), 1) := by decide +kernel
theorem dX0_settleLine_120 : decode cX0_settleLine 120 = .ok (.ixor, 1) := by decide +kernel
theorem dX0_settleLine_121 : decode cX0_settleLine 121 = .ok (.iand, 1) := by decide +kernel
theorem dX0_settleLine_122 : decode cX0_settleLine 122 = .ok (.putfield 84, 3) := by decide +kernel
theorem dX0_settleLine_125 : decode cX0_settleLine 125 = .ok (.goto 14, 3) := by decide +kernel
theorem dX0_settleLine_128 : decode cX0_settleLine 128 = .ok (.aload_n 1, 1) := by decide +kernel
theorem dX0_settleLine_129 : decode cX0_settleLine 129 = .ok (.iload_n 3, 1) := by decide +kernel
theorem dX0_settleLine_130 : decode cX0_settleLine 130 = .ok (.aload_n 0, 1) := by decide +kernel
theorem dX0_settleLine_131 : decode cX0_settleLine 131 = .ok (.getfield 18, 3) := by decide +kernel
theorem dX0_settleLine_134 : decode cX0_settleLine 134 = .ok (.iload_n 2, 1) := by decide +kernel
theorem dX0_settleLine_135 : decode cX0_settleLine 135 = .ok (.iaload, 1) := by decide +kernel
theorem dX0_settleLine_136 : decode cX0_settleLine 136 = .ok (.invokevirtual 87, 3) := by decide +kernel
theorem dX0_settleLine_139 : decode cX0_settleLine 139 = .ok (.return_, 1) := by decide +kernel
theorem dX1_init_0 : decode cX1_init 0 = .ok (.aload_n 0, 1) := by decide +kernel
theorem dX1_init_1 : decode cX1_init 1 = .ok (.invokespecial 3, 3) := by decide +kernel
theorem dX1_init_4 : decode cX1_init 4 = .ok (.aload_n 0, 1) := by decide +kernel
theorem dX1_init_5 : decode cX1_init 5 = .ok (.bipush 16, 2) := by decide +kernel
theorem dX1_init_7 : decode cX1_init 7 = .ok (.newarray .int, 2) := by decide +kernel
theorem dX1_init_9 : decode cX1_init 9 = .ok (.putfield 9, 3) := by decide +kernel
theorem dX1_init_12 : decode cX1_init 12 = .ok (.aload_n 0, 1) := by decide +kernel
theorem dX1_init_13 : decode cX1_init 13 = .ok (.bipush 16, 2) := by decide +kernel
theorem dX1_init_15 : decode cX1_init 15 = .ok (.newarray .int, 2) := by decide +kernel
theorem dX1_init_17 : decode cX1_init 17 = .ok (.putfield 15, 3) := by decide +kernel
theorem dX1_init_20 : decode cX1_init 20 = .ok (.aload_n 0, 1) := by decide +kernel
theorem dX1_init_21 : decode cX1_init 21 = .ok (.bipush 16, 2) := by decide +kernel
theorem dX1_init_23 : decode cX1_init 23 = .ok (.newarray .int, 2) := by decide +kernel
theorem dX1_init_25 : decode cX1_init 25 = .ok (.putfield 18, 3) := by decide +kernel
theorem dX1_init_28 : decode cX1_init 28 = .ok (.aload_n 0, 1) := by decide +kernel
theorem dX1_init_29 : decode cX1_init 29 = .ok (.bipush 16, 2) := by decide +kernel
theorem dX1_init_31 : decode cX1_init 31 = .ok (.newarray .int, 2) := by decide +kernel
theorem dX1_init_33 : decode cX1_init 33 = .ok (.putfield 21, 3) := by decide +kernel
theorem dX1_init_36 : decode cX1_init 36 = .ok (.aload_n 0, 1) := by decide +kernel
theorem dX1_init_37 : decode cX1_init 37 = .ok (.sipush 240, 3) := by decide +kernel
theorem dX1_init_40 : decode cX1_init 40 = .ok (.newarray .int, 2) := by decide +kernel
theorem dX1_init_42 : decode cX1_init 42 = .ok (.putfield 24, 3) := by decide +kernel
theorem dX1_init_45 : decode cX1_init 45 = .ok (.aload_n 0, 1) := by decide +kernel
theorem dX1_init_46 : decode cX1_init 46 = .ok (.sipush 240, 3) := by decide +kernel
theorem dX1_init_49 : decode cX1_init 49 = .ok (.newarray .int, 2) := by decide +kernel
theorem dX1_init_51 : decode cX1_init 51 = .ok (.putfield 27, 3) := by decide +kernel
theorem dX1_init_54 : decode cX1_init 54 = .ok (.return_, 1) := by decide +kernel
theorem dX1_put_0 : decode cX1_put 0 = .ok (.aload_n 0, 1) := by decide +kernel
theorem dX1_put_1 : decode cX1_put 1 = .ok (.getfield 30, 3) := by decide +kernel
theorem dX1_put_4 : decode cX1_put 4 = .ok (.sipush 240, 3) := by decide +kernel
theorem dX1_put_7 : decode cX1_put 7 = .ok (.if_icmp .ge 33, 3) := by decide +kernel
theorem dX1_put_10 : decode cX1_put 10 = .ok (.aload_n 0, 1) := by decide +kernel
theorem dX1_put_11 : decode cX1_put 11 = .ok (.getfield 24, 3) := by decide +kernel
theorem dX1_put_14 : decode cX1_put 14 = .ok (.aload_n 0, 1) := by decide +kernel
theorem dX1_put_15 : decode cX1_put 15 = .ok (.getfield 30, 3) := by decide +kernel
theorem dX1_put_18 : decode cX1_put 18 = .ok (.iload_n 1, 1) := by decide +kernel
theorem dX1_put_19 : decode cX1_put 19 = .ok (.iastore, 1) := by decide +kernel
theorem dX1_put_20 : decode cX1_put 20 = .ok (.aload_n 0, 1) := by decide +kernel
theorem dX1_put_21 : decode cX1_put 21 = .ok (.getfield 27, 3) := by decide +kernel
theorem dX1_put_24 : decode cX1_put 24 = .ok (.aload_n 0, 1) := by decide +kernel
theorem dX1_put_25 : decode cX1_put 25 = .ok (.getfield 30, 3) := by decide +kernel
theorem dX1_put_28 : decode cX1_put 28 = .ok (.iload_n 2, 1) := by decide +kernel
theorem dX1_put_29 : decode cX1_put 29 = .ok (.iastore, 1) := by decide +kernel
theorem dX1_put_30 : decode cX1_put 30 = .ok (.aload_n 0, 1) := by decide +kernel
theorem dX1_put_31 : decode cX1_put 31 = .ok (.dup, 1) := by decide +kernel
theorem dX1_put_32 : decode cX1_put 32 = .ok (.getfield 30, 3) := by decide +kernel
theorem dX1_put_35 : decode cX1_put 35 = .ok (.iconst 1, 1) := by decide +kernel
theorem dX1_put_36 : decode cX1_put 36 = .ok (.iadd, 1) := by decide +kernel
theorem dX1_put_37 : decode cX1_put 37 = .ok (.putfield 30, 3) := by decide +kernel
theorem dX1_put_40 : decode cX1_put 40 = .ok (.aload_n 0, 1) := by decide +kernel
theorem dX1_put_41 : decode cX1_put 41 = .ok (.getfield 30, 3) := by decide +kernel
theorem dX1_put_44 : decode cX1_put 44 = .ok (.iconst 1, 1) := by decide +kernel
theorem dX1_put_45 : decode cX1_put 45 = .ok (.isub, 1) := by decide +kernel
theorem dX1_put_46 : decode cX1_put 46 = .ok (.ireturn, 1) := by decide +kernel
theorem dX1_land_0 : decode cX1_land 0 = .ok (.iload_n 1, 1) := by decide +kernel
theorem dX1_land_1 : decode cX1_land 1 = .ok (.ifCond .lt 13, 3) := by decide +kernel
theorem dX1_land_4 : decode cX1_land 4 = .ok (.aload_n 0, 1) := by decide +kernel
theorem dX1_land_5 : decode cX1_land 5 = .ok (.getfield 27, 3) := by decide +kernel
theorem dX1_land_8 : decode cX1_land 8 = .ok (.iload_n 1, 1) := by decide +kernel
theorem dX1_land_9 : decode cX1_land 9 = .ok (.aload_n 0, 1) := by decide +kernel
theorem dX1_land_10 : decode cX1_land 10 = .ok (.getfield 30, 3) := by decide +kernel
theorem dX1_land_13 : decode cX1_land 13 = .ok (.iastore, 1) := by decide +kernel
theorem dX1_land_14 : decode cX1_land 14 = .ok (.return_, 1) := by decide +kernel
theorem dX2_init_0 : decode cX2_init 0 = .ok (.aload_n 0, 1) := by decide +kernel
theorem dX2_init_1 : decode cX2_init 1 = .ok (.invokespecial 3, 3) := by decide +kernel
theorem dX2_init_4 : decode cX2_init 4 = .ok (.aload_n 0, 1) := by decide +kernel
theorem dX2_init_5 : decode cX2_init 5 = .ok (.new 9, 3) := by decide +kernel
theorem dX2_init_8 : decode cX2_init 8 = .ok (.dup, 1) := by decide +kernel
theorem dX2_init_9 : decode cX2_init 9 = .ok (.invokespecial 11, 3) := by decide +kernel
theorem dX2_init_12 : decode cX2_init 12 = .ok (.putfield 12, 3) := by decide +kernel
theorem dX2_init_15 : decode cX2_init 15 = .ok (.aload_n 0, 1) := by decide +kernel
theorem dX2_init_16 : decode cX2_init 16 = .ok (.aload_n 1, 1) := by decide +kernel
theorem dX2_init_17 : decode cX2_init 17 = .ok (.putfield 18, 3) := by decide +kernel
theorem dX2_init_20 : decode cX2_init 20 = .ok (.return_, 1) := by decide +kernel
theorem dX2_readLaw_0 : decode cX2_readLaw 0 = .ok (.aload_n 0, 1) := by decide +kernel
theorem dX2_readLaw_1 : decode cX2_readLaw 1 = .ok (.getfield 12, 3) := by decide +kernel
theorem dX2_readLaw_4 : decode cX2_readLaw 4 = .ok (.iconst 0, 1) := by decide +kernel
theorem dX2_readLaw_5 : decode cX2_readLaw 5 = .ok (.putfield 22, 3) := by decide +kernel
theorem dX2_readLaw_8 : decode cX2_readLaw 8 = .ok (.aload_n 0, 1) := by decide +kernel
theorem dX2_readLaw_9 : decode cX2_readLaw 9 = .ok (.getfield 12, 3) := by decide +kernel
theorem dX2_readLaw_12 : decode cX2_readLaw 12 = .ok (.iconst 0, 1) := by decide +kernel
theorem dX2_readLaw_13 : decode cX2_readLaw 13 = .ok (.putfield 26, 3) := by decide +kernel
theorem dX2_readLaw_16 : decode cX2_readLaw 16 = .ok (.iconst 0, 1) := by decide +kernel
theorem dX2_readLaw_17 : decode cX2_readLaw 17 = .ok (.istore_n 1, 1) := by decide +kernel
theorem dX2_readLaw_18 : decode cX2_readLaw 18 = .ok (.iload_n 1, 1) := by decide +kernel
theorem dX2_readLaw_19 : decode cX2_readLaw 19 = .ok (.bipush 16, 2) := by decide +kernel
theorem dX2_readLaw_21 : decode cX2_readLaw 21 = .ok (.if_icmp .gt 74, 3) := by decide +kernel
theorem dX2_readLaw_24 : decode cX2_readLaw 24 = .ok (.aload_n 0, 1) := by decide +kernel
theorem dX2_readLaw_25 : decode cX2_readLaw 25 = .ok (.iload_n 1, 1) := by decide +kernel
theorem dX2_readLaw_26 : decode cX2_readLaw 26 = .ok (.invokevirtual 29, 3) := by decide +kernel
theorem dX2_readLaw_29 : decode cX2_readLaw 29 = .ok (.ifCond .ne 11, 3) := by decide +kernel
theorem dX2_readLaw_32 : decode cX2_readLaw 32 = .ok (.aload_n 0, 1) := by decide +kernel
theorem dX2_readLaw_33 : decode cX2_readLaw 33 = .ok (.getfield 18, 3) := by decide +kernel
theorem dX2_readLaw_36 : decode cX2_readLaw 36 = .ok (.getfield 33, 3) := by decide +kernel
theorem dX2_readLaw_39 : decode cX2_readLaw 39 = .ok (.ireturn, 1) := by decide +kernel
theorem dX2_readLaw_40 : decode cX2_readLaw 40 = .ok (.aload_n 0, 1) := by decide +kernel
theorem dX2_readLaw_41 : decode cX2_readLaw 41 = .ok (.getfield 12, 3) := by decide +kernel
theorem dX2_readLaw_44 : decode cX2_readLaw 44 = .ok (.iload_n 1, 1) := by decide +kernel
theorem dX2_readLaw_45 : decode cX2_readLaw 45 = .ok (.iconst 1, 1) := by decide +kernel
theorem dX2_readLaw_46 : decode cX2_readLaw 46 = .ok (.iadd, 1) := by decide +kernel
theorem dX2_readLaw_47 : decode cX2_readLaw 47 = .ok (.putfield 22, 3) := by decide +kernel
theorem dX2_readLaw_50 : decode cX2_readLaw 50 = .ok (.aload_n 0, 1) := by decide +kernel
theorem dX2_readLaw_51 : decode cX2_readLaw 51 = .ok (.getfield 18, 3) := by decide +kernel
theorem dX2_readLaw_54 : decode cX2_readLaw 54 = .ok (.invokevirtual 38, 3) := by decide +kernel
theorem dX2_readLaw_57 : decode cX2_readLaw 57 = .ok (.iconst (-1), 1) := by decide +kernel
theorem dX2_readLaw_58 : decode cX2_readLaw 58 = .ok (.if_icmp .ne 11, 3) := by decide +kernel
theorem dX2_readLaw_61 : decode cX2_readLaw 61 = .ok (.aload_n 0, 1) := by decide +kernel
theorem dX2_readLaw_62 : decode cX2_readLaw 62 = .ok (.getfield 12, 3) := by decide +kernel
theorem dX2_readLaw_65 : decode cX2_readLaw 65 = .ok (.getfield 22, 3) := by decide +kernel
theorem dX2_readLaw_68 : decode cX2_readLaw 68 = .ok (.ireturn, 1) := by decide +kernel
theorem dX2_readLaw_69 : decode cX2_readLaw 69 = .ok (.aload_n 0, 1) := by decide +kernel
theorem dX2_readLaw_70 : decode cX2_readLaw 70 = .ok (.getfield 18, 3) := by decide +kernel
theorem dX2_readLaw_73 : decode cX2_readLaw 73 = .ok (.bipush 59, 2) := by decide +kernel
theorem dX2_readLaw_75 : decode cX2_readLaw 75 = .ok (.invokevirtual 42, 3) := by decide +kernel
theorem dX2_readLaw_78 : decode cX2_readLaw 78 = .ok (.ifCond .ne 11, 3) := by decide +kernel
theorem dX2_readLaw_81 : decode cX2_readLaw 81 = .ok (.aload_n 0, 1) := by decide +kernel
theorem dX2_readLaw_82 : decode cX2_readLaw 82 = .ok (.getfield 18, 3) := by decide +kernel
theorem dX2_readLaw_85 : decode cX2_readLaw 85 = .ok (.getfield 33, 3) := by decide +kernel
theorem dX2_readLaw_88 : decode cX2_readLaw 88 = .ok (.ireturn, 1) := by decide +kernel
theorem dX2_readLaw_89 : decode cX2_readLaw 89 = .ok (.iinc 1 1, 3) := by decide +kernel
theorem dX2_readLaw_92 : decode cX2_readLaw 92 = .ok (.goto (-74), 3) := by decide +kernel
theorem dX2_readLaw_95 : decode cX2_readLaw 95 = .ok (.aload_n 0, 1) := by decide +kernel
theorem dX2_readLaw_96 : decode cX2_readLaw 96 = .ok (.getfield 18, 3) := by decide +kernel
theorem dX2_readLaw_99 : decode cX2_readLaw 99 = .ok (.getfield 33, 3) := by decide +kernel
theorem dX2_readLaw_102 : decode cX2_readLaw 102 = .ok (.ireturn, 1) := by decide +kernel
theorem dX2_readRule_0 : decode cX2_readRule 0 = .ok (.aload_n 0, 1) := by decide +kernel
theorem dX2_readRule_1 : decode cX2_readRule 1 = .ok (.getfield 18, 3) := by decide +kernel
theorem dX2_readRule_4 : decode cX2_readRule 4 = .ok (.invokevirtual 38, 3) := by decide +kernel
theorem dX2_readRule_7 : decode cX2_readRule 7 = .ok (.istore_n 2, 1) := by decide +kernel
theorem dX2_readRule_8 : decode cX2_readRule 8 = .ok (.iload_n 2, 1) := by decide +kernel
theorem dX2_readRule_9 : decode cX2_readRule 9 = .ok (.bipush 114, 2) := by decide +kernel
theorem dX2_readRule_11 : decode cX2_readRule 11 = .ok (.if_icmp .eq 15, 3) := by decide +kernel
theorem dX2_readRule_14 : decode cX2_readRule 14 = .ok (.iload_n 2, 1) := by decide +kernel
theorem dX2_readRule_15 : decode cX2_readRule 15 = .ok (.bipush 119, 2) := by decide +kernel
theorem dX2_readRule_17 : decode cX2_readRule 17 = .ok (.if_icmp .eq 9, 3) := by decide +kernel
theorem dX2_readRule_20 : decode cX2_readRule 20 = .ok (.iload_n 2, 1) := by decide +kernel
theorem dX2_readRule_21 : decode cX2_readRule 21 = .ok (.bipush 108, 2) := by decide +kernel
theorem dX2_readRule_23 : decode cX2_readRule 23 = .ok (.if_icmp .ne 7, 3) := by decide +kernel
theorem dX2_readRule_26 : decode cX2_readRule 26 = .ok (.iconst 1, 1) := by decide +kernel
theorem dX2_readRule_27 : decode cX2_readRule 27 = .ok (.goto 4, 3) := by decide +kernel
theorem dX2_readRule_30 : decode cX2_readRule 30 = .ok (.iconst 0, 1) := by decide +kernel
theorem dX2_readRule_31 : decode cX2_readRule 31 = .ok (.istore_n 3, 1) := by decide +kernel
theorem dX2_readRule_32 : decode cX2_readRule 32 = .ok (.iload_n 3, 1) := by decide +kernel
theorem dX2_readRule_33 : decode cX2_readRule 33 = .ok (.ifCond .ne 24, 3) := by decide +kernel
theorem dX2_readRule_36 : decode cX2_readRule 36 = .ok (.iload_n 2, 1) := by decide +kernel
theorem dX2_readRule_37 : decode cX2_readRule 37 = .ok (.bipush 118, 2) := by decide +kernel
theorem dX2_readRule_39 : decode cX2_readRule 39 = .ok (.if_icmp .eq 18, 3) := by decide +kernel
theorem dX2_readRule_42 : decode cX2_readRule 42 = .ok (.iload_n 2, 1) := by decide +kernel
theorem dX2_readRule_43 : decode cX2_readRule 43 = .ok (.bipush 120, 2) := by decide +kernel
theorem dX2_readRule_45 : decode cX2_readRule 45 = .ok (.if_icmp .eq 12, 3) := by decide +kernel
theorem dX2_readRule_48 : decode cX2_readRule 48 = .ok (.aload_n 0, 1) := by decide +kernel
theorem dX2_readRule_49 : decode cX2_readRule 49 = .ok (.getfield 18, 3) := by decide +kernel
theorem dX2_readRule_52 : decode cX2_readRule 52 = .ok (.iconst 1, 1) := by decide +kernel
theorem dX2_readRule_53 : decode cX2_readRule 53 = .ok (.invokevirtual 45, 3) := by decide +kernel
theorem dX2_readRule_56 : decode cX2_readRule 56 = .ok (.ireturn, 1) := by decide +kernel
theorem dX2_readRule_57 : decode cX2_readRule 57 = .ok (.iload_n 1, 1) := by decide +kernel
theorem dX2_readRule_58 : decode cX2_readRule 58 = .ok (.bipush 16, 2) := by decide +kernel
theorem dX2_readRule_60 : decode cX2_readRule 60 = .ok (.if_icmp .lt 12, 3) := by decide +kernel
theorem dX2_readRule_63 : decode cX2_readRule 63 = .ok (.aload_n 0, 1) := by decide +kernel
theorem dX2_readRule_64 : decode cX2_readRule 64 = .ok (.getfield 18, 3) := by decide +kernel
theorem dX2_readRule_67 : decode cX2_readRule 67 = .ok (.iconst 4, 1) := by decide +kernel
theorem dX2_readRule_68 : decode cX2_readRule 68 = .ok (.invokevirtual 45, 3) := by decide +kernel
theorem dX2_readRule_71 : decode cX2_readRule 71 = .ok (.ireturn, 1) := by decide +kernel
theorem dX2_readRule_72 : decode cX2_readRule 72 = .ok (.aload_n 0, 1) := by decide +kernel
theorem dX2_readRule_73 : decode cX2_readRule 73 = .ok (.getfield 18, 3) := by decide +kernel
theorem dX2_readRule_76 : decode cX2_readRule 76 = .ok (.dup, 1) := by decide +kernel
theorem dX2_readRule_77 : decode cX2_readRule 77 = .ok (.getfield 48, 3) := by decide +kernel
theorem dX2_readRule_80 : decode cX2_readRule 80 = .ok (.iconst 1, 1) := by decide +kernel
theorem dX2_readRule_81 : decode cX2_readRule 81 = .ok (.iadd, 1) := by decide +kernel
theorem dX2_readRule_82 : decode cX2_readRule 82 = .ok (.putfield 48, 3) := by decide +kernel
theorem dX2_readRule_85 : decode cX2_readRule 85 = .ok (.aload_n 0, 1) := by decide +kernel
theorem dX2_readRule_86 : decode cX2_readRule 86 = .ok (.getfield 12, 3) := by decide +kernel
theorem dX2_readRule_89 : decode cX2_readRule 89 = .ok (.getfield 51, 3) := by decide +kernel
theorem dX2_readRule_92 : decode cX2_readRule 92 = .ok (.iload_n 1, 1) := by decide +kernel
theorem dX2_readRule_93 : decode cX2_readRule 93 = .ok (.iload_n 2, 1) := by decide +kernel
theorem dX2_readRule_94 : decode cX2_readRule 94 = .ok (.iastore, 1) := by decide +kernel
theorem dX2_readRule_95 : decode cX2_readRule 95 = .ok (.aload_n 0, 1) := by decide +kernel
theorem dX2_readRule_96 : decode cX2_readRule 96 = .ok (.getfield 12, 3) := by decide +kernel
theorem dX2_readRule_99 : decode cX2_readRule 99 = .ok (.getfield 55, 3) := by decide +kernel
theorem dX2_readRule_102 : decode cX2_readRule 102 = .ok (.iload_n 1, 1) := by decide +kernel
theorem dX2_readRule_103 : decode cX2_readRule 103 = .ok (.aload_n 0, 1) := by decide +kernel
theorem dX2_readRule_104 : decode cX2_readRule 104 = .ok (.getfield 12, 3) := by decide +kernel
theorem dX2_readRule_107 : decode cX2_readRule 107 = .ok (.getfield 26, 3) := by decide +kernel
theorem dX2_readRule_110 : decode cX2_readRule 110 = .ok (.iastore, 1) := by decide +kernel
theorem dX2_readRule_111 : decode cX2_readRule 111 = .ok (.iload_n 3, 1) := by decide +kernel
theorem dX2_readRule_112 : decode cX2_readRule 112 = .ok (.ifCond .eq 13, 3) := by decide +kernel
theorem dX2_readRule_115 : decode cX2_readRule 115 = .ok (.aload_n 0, 1) := by decide +kernel
theorem dX2_readRule_116 : decode cX2_readRule 116 = .ok (.iconst 0, 1) := by decide +kernel
theorem dX2_readRule_117 : decode cX2_readRule 117 = .ok (.invokevirtual 58, 3) := by decide +kernel
theorem dX2_readRule_120 : decode cX2_readRule 120 = .ok (.ifCond .ne 5, 3) := by decide +kernel
theorem dX2_readRule_123 : decode cX2_readRule 123 = .ok (.iconst 0, 1) := by decide +kernel
theorem dX2_readRule_124 : decode cX2_readRule 124 = .ok (.ireturn, 1) := by decide +kernel
theorem dX2_readRule_125 : decode cX2_readRule 125 = .ok (.aload_n 0, 1) := by decide +kernel
theorem dX2_readRule_126 : decode cX2_readRule 126 = .ok (.getfield 12, 3) := by decide +kernel
theorem dX2_readRule_129 : decode cX2_readRule 129 = .ok (.getfield 61, 3) := by decide +kernel
theorem dX2_readRule_132 : decode cX2_readRule 132 = .ok (.iload_n 1, 1) := by decide +kernel
theorem dX2_readRule_133 : decode cX2_readRule 133 = .ok (.aload_n 0, 1) := by decide +kernel
theorem dX2_readRule_134 : decode cX2_readRule 134 = .ok (.getfield 12, 3) := by decide +kernel
theorem dX2_readRule_137 : decode cX2_readRule 137 = .ok (.getfield 26, 3) := by decide +kernel
theorem dX2_readRule_140 : decode cX2_readRule 140 = .ok (.iastore, 1) := by decide +kernel
theorem dX2_readRule_141 : decode cX2_readRule 141 = .ok (.aload_n 0, 1) := by decide +kernel
theorem dX2_readRule_142 : decode cX2_readRule 142 = .ok (.iconst 0, 1) := by decide +kernel
theorem dX2_readRule_143 : decode cX2_readRule 143 = .ok (.invokevirtual 64, 3) := by decide +kernel
theorem dX2_readRule_146 : decode cX2_readRule 146 = .ok (.ifCond .ne 5, 3) := by decide +kernel
theorem dX2_readRule_149 : decode cX2_readRule 149 = .ok (.iconst 0, 1) := by decide +kernel
theorem dX2_readRule_150 : decode cX2_readRule 150 = .ok (.ireturn, 1) := by decide +kernel
theorem dX2_readRule_151 : decode cX2_readRule 151 = .ok (.aload_n 0, 1) := by decide +kernel
theorem dX2_readRule_152 : decode cX2_readRule 152 = .ok (.getfield 12, 3) := by decide +kernel
theorem dX2_readRule_155 : decode cX2_readRule 155 = .ok (.getfield 67, 3) := by decide +kernel
theorem dX2_readRule_158 : decode cX2_readRule 158 = .ok (.iload_n 1, 1) := by decide +kernel
theorem dX2_readRule_159 : decode cX2_readRule 159 = .ok (.aload_n 0, 1) := by decide +kernel
theorem dX2_readRule_160 : decode cX2_readRule 160 = .ok (.getfield 12, 3) := by decide +kernel
theorem dX2_readRule_163 : decode cX2_readRule 163 = .ok (.getfield 26, 3) := by decide +kernel
theorem dX2_readRule_166 : decode cX2_readRule 166 = .ok (.iastore, 1) := by decide +kernel
theorem dX2_readRule_167 : decode cX2_readRule 167 = .ok (.iconst 1, 1) := by decide +kernel
theorem dX2_readRule_168 : decode cX2_readRule 168 = .ok (.ireturn, 1) := by decide +kernel
theorem dX2_readBracket_0 : decode cX2_readBracket 0 = .ok (.aload_n 0, 1) := by decide +kernel
theorem dX2_readBracket_1 : decode cX2_readBracket 1 = .ok (.getfield 18, 3) := by decide +kernel
theorem dX2_readBracket_4 : decode cX2_readBracket 4 = .ok (.invokevirtual 38, 3) := by decide +kernel
theorem dX2_readBracket_7 : decode cX2_readBracket 7 = .ok (.bipush 40, 2) := by decide +kernel
theorem dX2_readBracket_9 : decode cX2_readBracket 9 = .ok (.if_icmp .eq 12, 3) := by decide +kernel
theorem dX2_readBracket_12 : decode cX2_readBracket 12 = .ok (.aload_n 0, 1) := by decide +kernel
theorem dX2_readBracket_13 : decode cX2_readBracket 13 = .ok (.getfield 18, 3) := by decide +kernel
theorem dX2_readBracket_16 : decode cX2_readBracket 16 = .ok (.iconst 1, 1) := by decide +kernel
theorem dX2_readBracket_17 : decode cX2_readBracket 17 = .ok (.invokevirtual 45, 3) := by decide +kernel
theorem dX2_readBracket_20 : decode cX2_readBracket 20 = .ok (.ireturn, 1) := by decide +kernel
theorem dX2_readBracket_21 : decode cX2_readBracket 21 = .ok (.iload_n 1, 1) := by decide +kernel
theorem dX2_readBracket_22 : decode cX2_readBracket 22 = .ok (.bipush 6, 2) := by decide +kernel
theorem dX2_readBracket_24 : decode cX2_readBracket 24 = .ok (.if_icmp .lt 12, 3) := by decide +kernel
theorem dX2_readBracket_27 : decode cX2_readBracket 27 = .ok (.aload_n 0, 1) := by decide +kernel
theorem dX2_readBracket_28 : decode cX2_readBracket 28 = .ok (.getfield 18, 3) := by decide +kernel
theorem dX2_readBracket_31 : decode cX2_readBracket 31 = .ok (.iconst 5, 1) := by decide +kernel
theorem dX2_readBracket_32 : decode cX2_readBracket 32 = .ok (.invokevirtual 45, 3) := by decide +kernel
theorem dX2_readBracket_35 : decode cX2_readBracket 35 = .ok (.ireturn, 1) := by decide +kernel
theorem dX2_readBracket_36 : decode cX2_readBracket 36 = .ok (.aload_n 0, 1) := by decide +kernel
theorem dX2_readBracket_37 : decode cX2_readBracket 37 = .ok (.getfield 18, 3) := by decide +kernel
theorem dX2_readBracket_40 : decode cX2_readBracket 40 = .ok (.dup, 1) := by decide +kernel
theorem dX2_readBracket_41 : decode cX2_readBracket 41 = .ok (.getfield 48, 3) := by decide +kernel
theorem dX2_readBracket_44 : decode cX2_readBracket 44 = .ok (.iconst 1, 1) := by decide +kernel
theorem dX2_readBracket_45 : decode cX2_readBracket 45 = .ok (.iadd, 1) := by decide +kernel
theorem dX2_readBracket_46 : decode cX2_readBracket 46 = .ok (.putfield 48, 3) := by decide +kernel
theorem dX2_readBracket_49 : decode cX2_readBracket 49 = .ok (.aload_n 0, 1) := by decide +kernel
theorem dX2_readBracket_50 : decode cX2_readBracket 50 = .ok (.iload_n 1, 1) := by decide +kernel
theorem dX2_readBracket_51 : decode cX2_readBracket 51 = .ok (.iconst 1, 1) := by decide +kernel
theorem dX2_readBracket_52 : decode cX2_readBracket 52 = .ok (.iadd, 1) := by decide +kernel
theorem dX2_readBracket_53 : decode cX2_readBracket 53 = .ok (.invokevirtual 70, 3) := by decide +kernel
theorem dX2_readBracket_56 : decode cX2_readBracket 56 = .ok (.ifCond .eq 19, 3) := by decide +kernel
theorem dX2_readBracket_59 : decode cX2_readBracket 59 = .ok (.aload_n 0, 1) := by decide +kernel
theorem dX2_readBracket_60 : decode cX2_readBracket 60 = .ok (.getfield 18, 3) := by decide +kernel
theorem dX2_readBracket_63 : decode cX2_readBracket 63 = .ok (.bipush 41, 2) := by decide +kernel
theorem dX2_readBracket_65 : decode cX2_readBracket 65 = .ok (.invokevirtual 42, 3) := by decide +kernel
theorem dX2_readBracket_68 : decode cX2_readBracket 68 = .ok (.ifCond .eq 7, 3) := by decide +kernel
theorem dX2_readBracket_71 : decode cX2_readBracket 71 = .ok (.iconst 1, 1) := by decide +kernel
theorem dX2_readBracket_72 : decode cX2_readBracket 72 = .ok (.goto 4, 3) := by decide +kernel
theorem dX2_readBracket_75 : decode cX2_readBracket 75 = .ok (.iconst 0, 1) := by decide +kernel
theorem dX2_readBracket_76 : decode cX2_readBracket 76 = .ok (.ireturn, 1) := by decide +kernel
theorem dX2_readCondition_0 : decode cX2_readCondition 0 = .ok (.aload_n 0, 1) := by decide +kernel
theorem dX2_readCondition_1 : decode cX2_readCondition 1 = .ok (.iload_n 1, 1) := by decide +kernel
theorem dX2_readCondition_2 : decode cX2_readCondition 2 = .ok (.invokevirtual 73, 3) := by decide +kernel
theorem dX2_readCondition_5 : decode cX2_readCondition 5 = .ok (.ifCond .ne 5, 3) := by decide +kernel
theorem dX2_readCondition_8 : decode cX2_readCondition 8 = .ok (.iconst 0, 1) := by decide +kernel
theorem dX2_readCondition_9 : decode cX2_readCondition 9 = .ok (.ireturn, 1) := by decide +kernel
theorem dX2_readCondition_10 : decode cX2_readCondition 10 = .ok (.iconst (-1), 1) := by decide +kernel
theorem dX2_readCondition_11 : decode cX2_readCondition 11 = .ok (.istore_n 2, 1) := by decide +kernel
theorem dX2_readCondition_12 : decode cX2_readCondition 12 = .ok (.iconst 0, 1) := by decide +kernel
theorem dX2_readCondition_13 : decode cX2_readCondition 13 = .ok (.istore_n 3, 1) := by decide +kernel
theorem dX2_readCondition_14 : decode cX2_readCondition 14 = .ok (.iload_n 3, 1) := by decide +kernel
theorem dX2_readCondition_15 : decode cX2_readCondition 15 = .ok (.sipush 240, 3) := by decide +kernel
theorem dX2_readCondition_18 : decode cX2_readCondition 18 = .ok (.if_icmp .ge 63, 3) := by decide +kernel
theorem dX2_readCondition_21 : decode cX2_readCondition 21 = .ok (.aload_n 0, 1) := by decide +kernel
theorem dX2_readCondition_22 : decode cX2_readCondition 22 = .ok (.getfield 18, 3) := by decide +kernel
theorem dX2_readCondition_25 : decode cX2_readCondition 25 = .ok (.invokevirtual 38, 3) := by decide +kernel
theorem dX2_readCondition_28 : decode cX2_readCondition 28 = .ok (.bipush 124, 2) := by decide +kernel
theorem dX2_readCondition_30 : decode cX2_readCondition 30 = .ok (.if_icmp .ne 51, 3) := by decide +kernel
theorem dX2_readCondition_33 : decode cX2_readCondition 33 = .ok (.aload_n 0, 1) := by decide +kernel
theorem dX2_readCondition_34 : decode cX2_readCondition 34 = .ok (.getfield 18, 3) := by decide +kernel
theorem dX2_readCondition_37 : decode cX2_readCondition 37 = .ok (.dup, 1) := by decide +kernel
theorem dX2_readCondition_38 : decode cX2_readCondition 38 = .ok (.getfield 48, 3) := by decide +kernel
theorem dX2_readCondition_41 : decode cX2_readCondition 41 = .ok (.iconst 1, 1) := by decide +kernel
theorem dX2_readCondition_42 : decode cX2_readCondition 42 = .ok (.iadd, 1) := by decide +kernel
theorem dX2_readCondition_43 : decode cX2_readCondition 43 = .ok (.putfield 48, 3) := by decide +kernel
theorem dX2_readCondition_46 : decode cX2_readCondition 46 = .ok (.aload_n 0, 1) := by decide +kernel
theorem dX2_readCondition_47 : decode cX2_readCondition 47 = .ok (.getfield 12, 3) := by decide +kernel
theorem dX2_readCondition_50 : decode cX2_readCondition 50 = .ok (.iload_n 2, 1) := by decide +kernel
theorem dX2_readCondition_51 : decode cX2_readCondition 51 = .ok (.invokevirtual 76, 3) := by decide +kernel
theorem dX2_readCondition_54 : decode cX2_readCondition 54 = .ok (.aload_n 0, 1) := by decide +kernel
theorem dX2_readCondition_55 : decode cX2_readCondition 55 = .ok (.getfield 12, 3) := by decide +kernel
theorem dX2_readCondition_58 : decode cX2_readCondition 58 = .ok (.bipush 124, 2) := by decide +kernel
theorem dX2_readCondition_60 : decode cX2_readCondition 60 = .ok (.iconst 0, 1) := by decide +kernel
theorem dX2_readCondition_61 : decode cX2_readCondition 61 = .ok (.invokevirtual 80, 3) := by decide +kernel
theorem dX2_readCondition_64 : decode cX2_readCondition 64 = .ok (.istore_n 2, 1) := by decide +kernel
theorem dX2_readCondition_65 : decode cX2_readCondition 65 = .ok (.aload_n 0, 1) := by decide +kernel
theorem dX2_readCondition_66 : decode cX2_readCondition 66 = .ok (.iload_n 1, 1) := by decide +kernel
theorem dX2_readCondition_67 : decode cX2_readCondition 67 = .ok (.invokevirtual 73, 3) := by decide +kernel
theorem dX2_readCondition_70 : decode cX2_readCondition 70 = .ok (.ifCond .ne 5, 3) := by decide +kernel
theorem dX2_readCondition_73 : decode cX2_readCondition 73 = .ok (.iconst 0, 1) := by decide +kernel
theorem dX2_readCondition_74 : decode cX2_readCondition 74 = .ok (.ireturn, 1) := by decide +kernel
theorem dX2_readCondition_75 : decode cX2_readCondition 75 = .ok (.iinc 3 1, 3) := by decide +kernel
theorem dX2_readCondition_78 : decode cX2_readCondition 78 = .ok (.goto (-64), 3) := by decide +kernel
theorem dX2_readCondition_81 : decode cX2_readCondition 81 = .ok (.aload_n 0, 1) := by decide +kernel
theorem dX2_readCondition_82 : decode cX2_readCondition 82 = .ok (.getfield 12, 3) := by decide +kernel
theorem dX2_readCondition_85 : decode cX2_readCondition 85 = .ok (.iload_n 2, 1) := by decide +kernel
theorem dX2_readCondition_86 : decode cX2_readCondition 86 = .ok (.invokevirtual 76, 3) := by decide +kernel
theorem dX2_readCondition_89 : decode cX2_readCondition 89 = .ok (.iconst 1, 1) := by decide +kernel
theorem dX2_readCondition_90 : decode cX2_readCondition 90 = .ok (.ireturn, 1) := by decide +kernel
theorem dX2_readPart_0 : decode cX2_readPart 0 = .ok (.aload_n 0, 1) := by decide +kernel
theorem dX2_readPart_1 : decode cX2_readPart 1 = .ok (.iload_n 1, 1) := by decide +kernel
theorem dX2_readPart_2 : decode cX2_readPart 2 = .ok (.invokevirtual 84, 3) := by decide +kernel
theorem dX2_readPart_5 : decode cX2_readPart 5 = .ok (.ifCond .ne 5, 3) := by decide +kernel
theorem dX2_readPart_8 : decode cX2_readPart 8 = .ok (.iconst 0, 1) := by decide +kernel
theorem dX2_readPart_9 : decode cX2_readPart 9 = .ok (.ireturn, 1) := by decide +kernel
theorem dX2_readPart_10 : decode cX2_readPart 10 = .ok (.iconst (-1), 1) := by decide +kernel
theorem dX2_readPart_11 : decode cX2_readPart 11 = .ok (.istore_n 2, 1) := by decide +kernel
theorem dX2_readPart_12 : decode cX2_readPart 12 = .ok (.iconst 0, 1) := by decide +kernel
theorem dX2_readPart_13 : decode cX2_readPart 13 = .ok (.istore_n 3, 1) := by decide +kernel
theorem dX2_readPart_14 : decode cX2_readPart 14 = .ok (.iload_n 3, 1) := by decide +kernel
theorem dX2_readPart_15 : decode cX2_readPart 15 = .ok (.sipush 240, 3) := by decide +kernel
theorem dX2_readPart_18 : decode cX2_readPart 18 = .ok (.if_icmp .ge 63, 3) := by decide +kernel
theorem dX2_readPart_21 : decode cX2_readPart 21 = .ok (.aload_n 0, 1) := by decide +kernel
theorem dX2_readPart_22 : decode cX2_readPart 22 = .ok (.getfield 18, 3) := by decide +kernel
theorem dX2_readPart_25 : decode cX2_readPart 25 = .ok (.invokevirtual 38, 3) := by decide +kernel
theorem dX2_readPart_28 : decode cX2_readPart 28 = .ok (.bipush 38, 2) := by decide +kernel
theorem dX2_readPart_30 : decode cX2_readPart 30 = .ok (.if_icmp .ne 51, 3) := by decide +kernel
theorem dX2_readPart_33 : decode cX2_readPart 33 = .ok (.aload_n 0, 1) := by decide +kernel
theorem dX2_readPart_34 : decode cX2_readPart 34 = .ok (.getfield 18, 3) := by decide +kernel
theorem dX2_readPart_37 : decode cX2_readPart 37 = .ok (.dup, 1) := by decide +kernel
theorem dX2_readPart_38 : decode cX2_readPart 38 = .ok (.getfield 48, 3) := by decide +kernel
theorem dX2_readPart_41 : decode cX2_readPart 41 = .ok (.iconst 1, 1) := by decide +kernel
theorem dX2_readPart_42 : decode cX2_readPart 42 = .ok (.iadd, 1) := by decide +kernel
theorem dX2_readPart_43 : decode cX2_readPart 43 = .ok (.putfield 48, 3) := by decide +kernel
theorem dX2_readPart_46 : decode cX2_readPart 46 = .ok (.aload_n 0, 1) := by decide +kernel
theorem dX2_readPart_47 : decode cX2_readPart 47 = .ok (.getfield 12, 3) := by decide +kernel
theorem dX2_readPart_50 : decode cX2_readPart 50 = .ok (.iload_n 2, 1) := by decide +kernel
theorem dX2_readPart_51 : decode cX2_readPart 51 = .ok (.invokevirtual 76, 3) := by decide +kernel
theorem dX2_readPart_54 : decode cX2_readPart 54 = .ok (.aload_n 0, 1) := by decide +kernel
theorem dX2_readPart_55 : decode cX2_readPart 55 = .ok (.getfield 12, 3) := by decide +kernel
theorem dX2_readPart_58 : decode cX2_readPart 58 = .ok (.bipush 38, 2) := by decide +kernel
theorem dX2_readPart_60 : decode cX2_readPart 60 = .ok (.iconst 0, 1) := by decide +kernel
theorem dX2_readPart_61 : decode cX2_readPart 61 = .ok (.invokevirtual 80, 3) := by decide +kernel
theorem dX2_readPart_64 : decode cX2_readPart 64 = .ok (.istore_n 2, 1) := by decide +kernel
theorem dX2_readPart_65 : decode cX2_readPart 65 = .ok (.aload_n 0, 1) := by decide +kernel
theorem dX2_readPart_66 : decode cX2_readPart 66 = .ok (.iload_n 1, 1) := by decide +kernel
theorem dX2_readPart_67 : decode cX2_readPart 67 = .ok (.invokevirtual 84, 3) := by decide +kernel
theorem dX2_readPart_70 : decode cX2_readPart 70 = .ok (.ifCond .ne 5, 3) := by decide +kernel
theorem dX2_readPart_73 : decode cX2_readPart 73 = .ok (.iconst 0, 1) := by decide +kernel
theorem dX2_readPart_74 : decode cX2_readPart 74 = .ok (.ireturn, 1) := by decide +kernel
theorem dX2_readPart_75 : decode cX2_readPart 75 = .ok (.iinc 3 1, 3) := by decide +kernel
theorem dX2_readPart_78 : decode cX2_readPart 78 = .ok (.goto (-64), 3) := by decide +kernel
theorem dX2_readPart_81 : decode cX2_readPart 81 = .ok (.aload_n 0, 1) := by decide +kernel
theorem dX2_readPart_82 : decode cX2_readPart 82 = .ok (.getfield 12, 3) := by decide +kernel
theorem dX2_readPart_85 : decode cX2_readPart 85 = .ok (.iload_n 2, 1) := by decide +kernel
theorem dX2_readPart_86 : decode cX2_readPart 86 = .ok (.invokevirtual 76, 3) := by decide +kernel
theorem dX2_readPart_89 : decode cX2_readPart 89 = .ok (.iconst 1, 1) := by decide +kernel
theorem dX2_readPart_90 : decode cX2_readPart 90 = .ok (.ireturn, 1) := by decide +kernel
theorem dX2_readTest_0 : decode cX2_readTest 0 = .ok (.aload_n 0, 1) := by decide +kernel
theorem dX2_readTest_1 : decode cX2_readTest 1 = .ok (.getfield 18, 3) := by decide +kernel
theorem dX2_readTest_4 : decode cX2_readTest 4 = .ok (.invokevirtual 38, 3) := by decide +kernel
theorem dX2_readTest_7 : decode cX2_readTest 7 = .ok (.bipush 40, 2) := by decide +kernel
theorem dX2_readTest_9 : decode cX2_readTest 9 = .ok (.if_icmp .ne 9, 3) := by decide +kernel
theorem dX2_readTest_12 : decode cX2_readTest 12 = .ok (.aload_n 0, 1) := by decide +kernel
theorem dX2_readTest_13 : decode cX2_readTest 13 = .ok (.iload_n 1, 1) := by decide +kernel
theorem dX2_readTest_14 : decode cX2_readTest 14 = .ok (.invokevirtual 64, 3) := by decide +kernel
theorem dX2_readTest_17 : decode cX2_readTest 17 = .ok (.ireturn, 1) := by decide +kernel
theorem dX2_readTest_18 : decode cX2_readTest 18 = .ok (.aload_n 0, 1) := by decide +kernel
theorem dX2_readTest_19 : decode cX2_readTest 19 = .ok (.getfield 18, 3) := by decide +kernel
theorem dX2_readTest_22 : decode cX2_readTest 22 = .ok (.invokevirtual 38, 3) := by decide +kernel
theorem dX2_readTest_25 : decode cX2_readTest 25 = .ok (.bipush 33, 2) := by decide +kernel
theorem dX2_readTest_27 : decode cX2_readTest 27 = .ok (.if_icmp .eq 9, 3) := by decide +kernel
theorem dX2_readTest_30 : decode cX2_readTest 30 = .ok (.aload_n 0, 1) := by decide +kernel
theorem dX2_readTest_31 : decode cX2_readTest 31 = .ok (.iload_n 1, 1) := by decide +kernel
theorem dX2_readTest_32 : decode cX2_readTest 32 = .ok (.invokevirtual 87, 3) := by decide +kernel
theorem dX2_readTest_35 : decode cX2_readTest 35 = .ok (.ireturn, 1) := by decide +kernel
theorem dX2_readTest_36 : decode cX2_readTest 36 = .ok (.iload_n 1, 1) := by decide +kernel
theorem dX2_readTest_37 : decode cX2_readTest 37 = .ok (.bipush 6, 2) := by decide +kernel
theorem dX2_readTest_39 : decode cX2_readTest 39 = .ok (.if_icmp .lt 12, 3) := by decide +kernel
theorem dX2_readTest_42 : decode cX2_readTest 42 = .ok (.aload_n 0, 1) := by decide +kernel
theorem dX2_readTest_43 : decode cX2_readTest 43 = .ok (.getfield 18, 3) := by decide +kernel
theorem dX2_readTest_46 : decode cX2_readTest 46 = .ok (.iconst 5, 1) := by decide +kernel
theorem dX2_readTest_47 : decode cX2_readTest 47 = .ok (.invokevirtual 45, 3) := by decide +kernel
theorem dX2_readTest_50 : decode cX2_readTest 50 = .ok (.ireturn, 1) := by decide +kernel
theorem dX2_readTest_51 : decode cX2_readTest 51 = .ok (.aload_n 0, 1) := by decide +kernel
theorem dX2_readTest_52 : decode cX2_readTest 52 = .ok (.getfield 18, 3) := by decide +kernel
theorem dX2_readTest_55 : decode cX2_readTest 55 = .ok (.dup, 1) := by decide +kernel
theorem dX2_readTest_56 : decode cX2_readTest 56 = .ok (.getfield 48, 3) := by decide +kernel
theorem dX2_readTest_59 : decode cX2_readTest 59 = .ok (.iconst 1, 1) := by decide +kernel
theorem dX2_readTest_60 : decode cX2_readTest 60 = .ok (.iadd, 1) := by decide +kernel
theorem dX2_readTest_61 : decode cX2_readTest 61 = .ok (.putfield 48, 3) := by decide +kernel
theorem dX2_readTest_64 : decode cX2_readTest 64 = .ok (.aload_n 0, 1) := by decide +kernel
theorem dX2_readTest_65 : decode cX2_readTest 65 = .ok (.iload_n 1, 1) := by decide +kernel
theorem dX2_readTest_66 : decode cX2_readTest 66 = .ok (.iconst 1, 1) := by decide +kernel
theorem dX2_readTest_67 : decode cX2_readTest 67 = .ok (.iadd, 1) := by decide +kernel
theorem dX2_readTest_68 : decode cX2_readTest 68 = .ok (.invokevirtual 84, 3) := by decide +kernel
theorem dX2_readTest_71 : decode cX2_readTest 71 = .ok (.ifCond .ne 5, 3) := by decide +kernel
theorem dX2_readTest_74 : decode cX2_readTest 74 = .ok (.iconst 0, 1) := by decide +kernel
theorem dX2_readTest_75 : decode cX2_readTest 75 = .ok (.ireturn, 1) := by decide +kernel
theorem dX2_readTest_76 : decode cX2_readTest 76 = .ok (.aload_n 0, 1) := by decide +kernel
theorem dX2_readTest_77 : decode cX2_readTest 77 = .ok (.getfield 12, 3) := by decide +kernel
theorem dX2_readTest_80 : decode cX2_readTest 80 = .ok (.bipush 33, 2) := by decide +kernel
theorem dX2_readTest_82 : decode cX2_readTest 82 = .ok (.iconst 0, 1) := by decide +kernel
theorem dX2_readTest_83 : decode cX2_readTest 83 = .ok (.invokevirtual 80, 3) := by decide +kernel
theorem dX2_readTest_86 : decode cX2_readTest 86 = .ok (.pop, 1) := by decide +kernel
theorem dX2_readTest_87 : decode cX2_readTest 87 = .ok (.iconst 1, 1) := by decide +kernel
theorem dX2_readTest_88 : decode cX2_readTest 88 = .ok (.ireturn, 1) := by decide +kernel
theorem dX2_readComparison_0 : decode cX2_readComparison 0 = .ok (.aload_n 0, 1) := by decide +kernel
theorem dX2_readComparison_1 : decode cX2_readComparison 1 = .ok (.iload_n 1, 1) := by decide +kernel
theorem dX2_readComparison_2 : decode cX2_readComparison 2 = .ok (.invokevirtual 58, 3) := by decide +kernel
theorem dX2_readComparison_5 : decode cX2_readComparison 5 = .ok (.ifCond .ne 5, 3) := by decide +kernel
theorem dX2_readComparison_8 : decode cX2_readComparison 8 = .ok (.iconst 0, 1) := by decide +kernel
theorem dX2_readComparison_9 : decode cX2_readComparison 9 = .ok (.ireturn, 1) := by decide +kernel
theorem dX2_readComparison_10 : decode cX2_readComparison 10 = .ok (.aload_n 0, 1) := by decide +kernel
theorem dX2_readComparison_11 : decode cX2_readComparison 11 = .ok (.getfield 18, 3) := by decide +kernel
theorem dX2_readComparison_14 : decode cX2_readComparison 14 = .ok (.invokevirtual 38, 3) := by decide +kernel
theorem dX2_readComparison_17 : decode cX2_readComparison 17 = .ok (.istore_n 2, 1) := by decide +kernel
theorem dX2_readComparison_18 : decode cX2_readComparison 18 = .ok (.iload_n 2, 1) := by decide +kernel
theorem dX2_readComparison_19 : decode cX2_readComparison 19 = .ok (.bipush 60, 2) := by decide +kernel
theorem dX2_readComparison_21 : decode cX2_readComparison 21 = .ok (.if_icmp .eq 24, 3) := by decide +kernel
theorem dX2_readComparison_24 : decode cX2_readComparison 24 = .ok (.iload_n 2, 1) := by decide +kernel
theorem dX2_readComparison_25 : decode cX2_readComparison 25 = .ok (.bipush 62, 2) := by decide +kernel
theorem dX2_readComparison_27 : decode cX2_readComparison 27 = .ok (.if_icmp .eq 18, 3) := by decide +kernel
theorem dX2_readComparison_30 : decode cX2_readComparison 30 = .ok (.iload_n 2, 1) := by decide +kernel
theorem dX2_readComparison_31 : decode cX2_readComparison 31 = .ok (.bipush 61, 2) := by decide +kernel
theorem dX2_readComparison_33 : decode cX2_readComparison 33 = .ok (.if_icmp .eq 12, 3) := by decide +kernel
theorem dX2_readComparison_36 : decode cX2_readComparison 36 = .ok (.aload_n 0, 1) := by decide +kernel
theorem dX2_readComparison_37 : decode cX2_readComparison 37 = .ok (.getfield 18, 3) := by decide +kernel
theorem dX2_readComparison_40 : decode cX2_readComparison 40 = .ok (.iconst 1, 1) := by decide +kernel
theorem dX2_readComparison_41 : decode cX2_readComparison 41 = .ok (.invokevirtual 45, 3) := by decide +kernel
theorem dX2_readComparison_44 : decode cX2_readComparison 44 = .ok (.ireturn, 1) := by decide +kernel
theorem dX2_readComparison_45 : decode cX2_readComparison 45 = .ok (.aload_n 0, 1) := by decide +kernel
theorem dX2_readComparison_46 : decode cX2_readComparison 46 = .ok (.getfield 18, 3) := by decide +kernel
theorem dX2_readComparison_49 : decode cX2_readComparison 49 = .ok (.dup, 1) := by decide +kernel
theorem dX2_readComparison_50 : decode cX2_readComparison 50 = .ok (.getfield 48, 3) := by decide +kernel
theorem dX2_readComparison_53 : decode cX2_readComparison 53 = .ok (.iconst 1, 1) := by decide +kernel
theorem dX2_readComparison_54 : decode cX2_readComparison 54 = .ok (.iadd, 1) := by decide +kernel
theorem dX2_readComparison_55 : decode cX2_readComparison 55 = .ok (.putfield 48, 3) := by decide +kernel
theorem dX2_readComparison_58 : decode cX2_readComparison 58 = .ok (.aload_n 0, 1) := by decide +kernel
theorem dX2_readComparison_59 : decode cX2_readComparison 59 = .ok (.iload_n 1, 1) := by decide +kernel
theorem dX2_readComparison_60 : decode cX2_readComparison 60 = .ok (.invokevirtual 58, 3) := by decide +kernel
theorem dX2_readComparison_63 : decode cX2_readComparison 63 = .ok (.ifCond .ne 5, 3) := by decide +kernel
theorem dX2_readComparison_66 : decode cX2_readComparison 66 = .ok (.iconst 0, 1) := by decide +kernel
theorem dX2_readComparison_67 : decode cX2_readComparison 67 = .ok (.ireturn, 1) := by decide +kernel
theorem dX2_readComparison_68 : decode cX2_readComparison 68 = .ok (.aload_n 0, 1) := by decide +kernel
theorem dX2_readComparison_69 : decode cX2_readComparison 69 = .ok (.getfield 12, 3) := by decide +kernel
theorem dX2_readComparison_72 : decode cX2_readComparison 72 = .ok (.iload_n 2, 1) := by decide +kernel
theorem dX2_readComparison_73 : decode cX2_readComparison 73 = .ok (.iconst 0, 1) := by decide +kernel
theorem dX2_readComparison_74 : decode cX2_readComparison 74 = .ok (.invokevirtual 80, 3) := by decide +kernel
theorem dX2_readComparison_77 : decode cX2_readComparison 77 = .ok (.pop, 1) := by decide +kernel
theorem dX2_readComparison_78 : decode cX2_readComparison 78 = .ok (.iconst 1, 1) := by decide +kernel
theorem dX2_readComparison_79 : decode cX2_readComparison 79 = .ok (.ireturn, 1) := by decide +kernel
theorem dX2_readSum_0 : decode cX2_readSum 0 = .ok (.aload_n 0, 1) := by decide +kernel
theorem dX2_readSum_1 : decode cX2_readSum 1 = .ok (.iload_n 1, 1) := by decide +kernel
theorem dX2_readSum_2 : decode cX2_readSum 2 = .ok (.invokevirtual 90, 3) := by decide +kernel
theorem dX2_readSum_5 : decode cX2_readSum 5 = .ok (.ifCond .ne 5, 3) := by decide +kernel
theorem dX2_readSum_8 : decode cX2_readSum 8 = .ok (.iconst 0, 1) := by decide +kernel
theorem dX2_readSum_9 : decode cX2_readSum 9 = .ok (.ireturn, 1) := by decide +kernel
theorem dX2_readSum_10 : decode cX2_readSum 10 = .ok (.iconst 0, 1) := by decide +kernel
theorem dX2_readSum_11 : decode cX2_readSum 11 = .ok (.istore_n 2, 1) := by decide +kernel
theorem dX2_readSum_12 : decode cX2_readSum 12 = .ok (.iload_n 2, 1) := by decide +kernel
theorem dX2_readSum_13 : decode cX2_readSum 13 = .ok (.sipush 240, 3) := by decide +kernel
theorem dX2_readSum_16 : decode cX2_readSum 16 = .ok (.if_icmp .ge 74, 3) := by decide +kernel
theorem dX2_readSum_19 : decode cX2_readSum 19 = .ok (.aload_n 0, 1) := by decide +kernel
theorem dX2_readSum_20 : decode cX2_readSum 20 = .ok (.getfield 18, 3) := by decide +kernel
theorem dX2_readSum_23 : decode cX2_readSum 23 = .ok (.invokevirtual 38, 3) := by decide +kernel
theorem dX2_readSum_26 : decode cX2_readSum 26 = .ok (.bipush 43, 2) := by decide +kernel
theorem dX2_readSum_28 : decode cX2_readSum 28 = .ok (.if_icmp .eq 15, 3) := by decide +kernel
theorem dX2_readSum_31 : decode cX2_readSum 31 = .ok (.aload_n 0, 1) := by decide +kernel
theorem dX2_readSum_32 : decode cX2_readSum 32 = .ok (.getfield 18, 3) := by decide +kernel
theorem dX2_readSum_35 : decode cX2_readSum 35 = .ok (.invokevirtual 38, 3) := by decide +kernel
theorem dX2_readSum_38 : decode cX2_readSum 38 = .ok (.bipush 45, 2) := by decide +kernel
theorem dX2_readSum_40 : decode cX2_readSum 40 = .ok (.if_icmp .ne 50, 3) := by decide +kernel
theorem dX2_readSum_43 : decode cX2_readSum 43 = .ok (.aload_n 0, 1) := by decide +kernel
theorem dX2_readSum_44 : decode cX2_readSum 44 = .ok (.getfield 18, 3) := by decide +kernel
theorem dX2_readSum_47 : decode cX2_readSum 47 = .ok (.invokevirtual 38, 3) := by decide +kernel
theorem dX2_readSum_50 : decode cX2_readSum 50 = .ok (.istore_n 3, 1) := by decide +kernel
theorem dX2_readSum_51 : decode cX2_readSum 51 = .ok (.aload_n 0, 1) := by decide +kernel
theorem dX2_readSum_52 : decode cX2_readSum 52 = .ok (.getfield 18, 3) := by decide +kernel
theorem dX2_readSum_55 : decode cX2_readSum 55 = .ok (.dup, 1) := by decide +kernel
theorem dX2_readSum_56 : decode cX2_readSum 56 = .ok (.getfield 48, 3) := by decide +kernel
theorem dX2_readSum_59 : decode cX2_readSum 59 = .ok (.iconst 1, 1) := by decide +kernel
theorem dX2_readSum_60 : decode cX2_readSum 60 = .ok (.iadd, 1) := by decide +kernel
theorem dX2_readSum_61 : decode cX2_readSum 61 = .ok (.putfield 48, 3) := by decide +kernel
theorem dX2_readSum_64 : decode cX2_readSum 64 = .ok (.aload_n 0, 1) := by decide +kernel
theorem dX2_readSum_65 : decode cX2_readSum 65 = .ok (.iload_n 1, 1) := by decide +kernel
theorem dX2_readSum_66 : decode cX2_readSum 66 = .ok (.invokevirtual 90, 3) := by decide +kernel
theorem dX2_readSum_69 : decode cX2_readSum 69 = .ok (.ifCond .ne 5, 3) := by decide +kernel
theorem dX2_readSum_72 : decode cX2_readSum 72 = .ok (.iconst 0, 1) := by decide +kernel
theorem dX2_readSum_73 : decode cX2_readSum 73 = .ok (.ireturn, 1) := by decide +kernel
theorem dX2_readSum_74 : decode cX2_readSum 74 = .ok (.aload_n 0, 1) := by decide +kernel
theorem dX2_readSum_75 : decode cX2_readSum 75 = .ok (.getfield 12, 3) := by decide +kernel
theorem dX2_readSum_78 : decode cX2_readSum 78 = .ok (.iload_n 3, 1) := by decide +kernel
theorem dX2_readSum_79 : decode cX2_readSum 79 = .ok (.iconst 0, 1) := by decide +kernel
theorem dX2_readSum_80 : decode cX2_readSum 80 = .ok (.invokevirtual 80, 3) := by decide +kernel
theorem dX2_readSum_83 : decode cX2_readSum 83 = .ok (.pop, 1) := by decide +kernel
theorem dX2_readSum_84 : decode cX2_readSum 84 = .ok (.iinc 2 1, 3) := by decide +kernel
theorem dX2_readSum_87 : decode cX2_readSum 87 = .ok (.goto (-75), 3) := by decide +kernel
theorem dX2_readSum_90 : decode cX2_readSum 90 = .ok (.iconst 1, 1) := by decide +kernel
theorem dX2_readSum_91 : decode cX2_readSum 91 = .ok (.ireturn, 1) := by decide +kernel
theorem dX2_readProduct_0 : decode cX2_readProduct 0 = .ok (.aload_n 0, 1) := by decide +kernel
theorem dX2_readProduct_1 : decode cX2_readProduct 1 = .ok (.iload_n 1, 1) := by decide +kernel
theorem dX2_readProduct_2 : decode cX2_readProduct 2 = .ok (.invokevirtual 93, 3) := by decide +kernel
theorem dX2_readProduct_5 : decode cX2_readProduct 5 = .ok (.ifCond .ne 5, 3) := by decide +kernel
theorem dX2_readProduct_8 : decode cX2_readProduct 8 = .ok (.iconst 0, 1) := by decide +kernel
theorem dX2_readProduct_9 : decode cX2_readProduct 9 = .ok (.ireturn, 1) := by decide +kernel
theorem dX2_readProduct_10 : decode cX2_readProduct 10 = .ok (.iconst 0, 1) := by decide +kernel
theorem dX2_readProduct_11 : decode cX2_readProduct 11 = .ok (.istore_n 2, 1) := by decide +kernel
theorem dX2_readProduct_12 : decode cX2_readProduct 12 = .ok (.iload_n 2, 1) := by decide +kernel
theorem dX2_readProduct_13 : decode cX2_readProduct 13 = .ok (.sipush 240, 3) := by decide +kernel
theorem dX2_readProduct_16 : decode cX2_readProduct 16 = .ok (.if_icmp .ge 63, 3) := by decide +kernel
theorem dX2_readProduct_19 : decode cX2_readProduct 19 = .ok (.aload_n 0, 1) := by decide +kernel
theorem dX2_readProduct_20 : decode cX2_readProduct 20 = .ok (.getfield 18, 3) := by decide +kernel
theorem dX2_readProduct_23 : decode cX2_readProduct 23 = .ok (.invokevirtual 38, 3) := by decide +kernel
theorem dX2_readProduct_26 : decode cX2_readProduct 26 = .ok (.invokestatic 96, 3) := by decide +kernel
theorem dX2_readProduct_29 : decode cX2_readProduct 29 = .ok (.ifCond .eq 50, 3) := by decide +kernel
theorem dX2_readProduct_32 : decode cX2_readProduct 32 = .ok (.aload_n 0, 1) := by decide +kernel
theorem dX2_readProduct_33 : decode cX2_readProduct 33 = .ok (.getfield 18, 3) := by decide +kernel
theorem dX2_readProduct_36 : decode cX2_readProduct 36 = .ok (.invokevirtual 38, 3) := by decide +kernel
theorem dX2_readProduct_39 : decode cX2_readProduct 39 = .ok (.istore_n 3, 1) := by decide +kernel
theorem dX2_readProduct_40 : decode cX2_readProduct 40 = .ok (.aload_n 0, 1) := by decide +kernel
theorem dX2_readProduct_41 : decode cX2_readProduct 41 = .ok (.getfield 18, 3) := by decide +kernel
theorem dX2_readProduct_44 : decode cX2_readProduct 44 = .ok (.dup, 1) := by decide +kernel
theorem dX2_readProduct_45 : decode cX2_readProduct 45 = .ok (.getfield 48, 3) := by decide +kernel
theorem dX2_readProduct_48 : decode cX2_readProduct 48 = .ok (.iconst 1, 1) := by decide +kernel
theorem dX2_readProduct_49 : decode cX2_readProduct 49 = .ok (.iadd, 1) := by decide +kernel
theorem dX2_readProduct_50 : decode cX2_readProduct 50 = .ok (.putfield 48, 3) := by decide +kernel
theorem dX2_readProduct_53 : decode cX2_readProduct 53 = .ok (.aload_n 0, 1) := by decide +kernel
theorem dX2_readProduct_54 : decode cX2_readProduct 54 = .ok (.iload_n 1, 1) := by decide +kernel
theorem dX2_readProduct_55 : decode cX2_readProduct 55 = .ok (.invokevirtual 93, 3) := by decide +kernel
theorem dX2_readProduct_58 : decode cX2_readProduct 58 = .ok (.ifCond .ne 5, 3) := by decide +kernel
theorem dX2_readProduct_61 : decode cX2_readProduct 61 = .ok (.iconst 0, 1) := by decide +kernel
theorem dX2_readProduct_62 : decode cX2_readProduct 62 = .ok (.ireturn, 1) := by decide +kernel
theorem dX2_readProduct_63 : decode cX2_readProduct 63 = .ok (.aload_n 0, 1) := by decide +kernel
theorem dX2_readProduct_64 : decode cX2_readProduct 64 = .ok (.getfield 12, 3) := by decide +kernel
theorem dX2_readProduct_67 : decode cX2_readProduct 67 = .ok (.iload_n 3, 1) := by decide +kernel
theorem dX2_readProduct_68 : decode cX2_readProduct 68 = .ok (.iconst 0, 1) := by decide +kernel
theorem dX2_readProduct_69 : decode cX2_readProduct 69 = .ok (.invokevirtual 80, 3) := by decide +kernel
theorem dX2_readProduct_72 : decode cX2_readProduct 72 = .ok (.pop, 1) := by decide +kernel
theorem dX2_readProduct_73 : decode cX2_readProduct 73 = .ok (.iinc 2 1, 3) := by decide +kernel
theorem dX2_readProduct_76 : decode cX2_readProduct 76 = .ok (.goto (-64), 3) := by decide +kernel
theorem dX2_readProduct_79 : decode cX2_readProduct 79 = .ok (.iconst 1, 1) := by decide +kernel
theorem dX2_readProduct_80 : decode cX2_readProduct 80 = .ok (.ireturn, 1) := by decide +kernel
theorem dX2_isTimes_0 : decode cX2_isTimes 0 = .ok (.iload_n 0, 1) := by decide +kernel
theorem dX2_isTimes_1 : decode cX2_isTimes 1 = .ok (.bipush 42, 2) := by decide +kernel
theorem dX2_isTimes_3 : decode cX2_isTimes 3 = .ok (.if_icmp .eq 15, 3) := by decide +kernel
theorem dX2_isTimes_6 : decode cX2_isTimes 6 = .ok (.iload_n 0, 1) := by decide +kernel
theorem dX2_isTimes_7 : decode cX2_isTimes 7 = .ok (.bipush 47, 2) := by decide +kernel
theorem dX2_isTimes_9 : decode cX2_isTimes 9 = .ok (.if_icmp .eq 9, 3) := by decide +kernel
theorem dX2_isTimes_12 : decode cX2_isTimes 12 = .ok (.iload_n 0, 1) := by decide +kernel
theorem dX2_isTimes_13 : decode cX2_isTimes 13 = .ok (.bipush 37, 2) := by decide +kernel
theorem dX2_isTimes_15 : decode cX2_isTimes 15 = .ok (.if_icmp .ne 7, 3) := by decide +kernel
theorem dX2_isTimes_18 : decode cX2_isTimes 18 = .ok (.iconst 1, 1) := by decide +kernel
theorem dX2_isTimes_19 : decode cX2_isTimes 19 = .ok (.goto 4, 3) := by decide +kernel
theorem dX2_isTimes_22 : decode cX2_isTimes 22 = .ok (.iconst 0, 1) := by decide +kernel
theorem dX2_isTimes_23 : decode cX2_isTimes 23 = .ok (.ireturn, 1) := by decide +kernel
theorem dX2_readFactor_0 : decode cX2_readFactor 0 = .ok (.aload_n 0, 1) := by decide +kernel
theorem dX2_readFactor_1 : decode cX2_readFactor 1 = .ok (.getfield 18, 3) := by decide +kernel
theorem dX2_readFactor_4 : decode cX2_readFactor 4 = .ok (.invokevirtual 38, 3) := by decide +kernel
theorem dX2_readFactor_7 : decode cX2_readFactor 7 = .ok (.istore_n 2, 1) := by decide +kernel
theorem dX2_readFactor_8 : decode cX2_readFactor 8 = .ok (.iload_n 2, 1) := by decide +kernel
theorem dX2_readFactor_9 : decode cX2_readFactor 9 = .ok (.bipush 91, 2) := by decide +kernel
theorem dX2_readFactor_11 : decode cX2_readFactor 11 = .ok (.if_icmp .ne 59, 3) := by decide +kernel
theorem dX2_readFactor_14 : decode cX2_readFactor 14 = .ok (.iload_n 1, 1) := by decide +kernel
theorem dX2_readFactor_15 : decode cX2_readFactor 15 = .ok (.bipush 6, 2) := by decide +kernel
theorem dX2_readFactor_17 : decode cX2_readFactor 17 = .ok (.if_icmp .lt 12, 3) := by decide +kernel
theorem dX2_readFactor_20 : decode cX2_readFactor 20 = .ok (.aload_n 0, 1) := by decide +kernel
theorem dX2_readFactor_21 : decode cX2_readFactor 21 = .ok (.getfield 18, 3) := by decide +kernel
theorem dX2_readFactor_24 : decode cX2_readFactor 24 = .ok (.iconst 5, 1) := by decide +kernel
theorem dX2_readFactor_25 : decode cX2_readFactor 25 = .ok (.invokevirtual 45, 3) := by decide +kernel
theorem dX2_readFactor_28 : decode cX2_readFactor 28 = .ok (.ireturn, 1) := by decide +kernel
theorem dX2_readFactor_29 : decode cX2_readFactor 29 = .ok (.aload_n 0, 1) := by decide +kernel
theorem dX2_readFactor_30 : decode cX2_readFactor 30 = .ok (.getfield 18, 3) := by decide +kernel
theorem dX2_readFactor_33 : decode cX2_readFactor 33 = .ok (.dup, 1) := by decide +kernel
theorem dX2_readFactor_34 : decode cX2_readFactor 34 = .ok (.getfield 48, 3) := by decide +kernel
theorem dX2_readFactor_37 : decode cX2_readFactor 37 = .ok (.iconst 1, 1) := by decide +kernel
theorem dX2_readFactor_38 : decode cX2_readFactor 38 = .ok (.iadd, 1) := by decide +kernel
theorem dX2_readFactor_39 : decode cX2_readFactor 39 = .ok (.putfield 48, 3) := by decide +kernel
theorem dX2_readFactor_42 : decode cX2_readFactor 42 = .ok (.aload_n 0, 1) := by decide +kernel
theorem dX2_readFactor_43 : decode cX2_readFactor 43 = .ok (.iload_n 1, 1) := by decide +kernel
theorem dX2_readFactor_44 : decode cX2_readFactor 44 = .ok (.iconst 1, 1) := by decide +kernel
theorem dX2_readFactor_45 : decode cX2_readFactor 45 = .ok (.iadd, 1) := by decide +kernel
theorem dX2_readFactor_46 : decode cX2_readFactor 46 = .ok (.invokevirtual 58, 3) := by decide +kernel
theorem dX2_readFactor_49 : decode cX2_readFactor 49 = .ok (.ifCond .eq 19, 3) := by decide +kernel
theorem dX2_readFactor_52 : decode cX2_readFactor 52 = .ok (.aload_n 0, 1) := by decide +kernel
theorem dX2_readFactor_53 : decode cX2_readFactor 53 = .ok (.getfield 18, 3) := by decide +kernel
theorem dX2_readFactor_56 : decode cX2_readFactor 56 = .ok (.bipush 93, 2) := by decide +kernel
theorem dX2_readFactor_58 : decode cX2_readFactor 58 = .ok (.invokevirtual 42, 3) := by decide +kernel
theorem dX2_readFactor_61 : decode cX2_readFactor 61 = .ok (.ifCond .eq 7, 3) := by decide +kernel
theorem dX2_readFactor_64 : decode cX2_readFactor 64 = .ok (.iconst 1, 1) := by decide +kernel
theorem dX2_readFactor_65 : decode cX2_readFactor 65 = .ok (.goto 4, 3) := by decide +kernel
theorem dX2_readFactor_68 : decode cX2_readFactor 68 = .ok (.iconst 0, 1) := by decide +kernel
theorem dX2_readFactor_69 : decode cX2_readFactor 69 = .ok (.ireturn, 1) := by decide +kernel
theorem dX2_readFactor_70 : decode cX2_readFactor 70 = .ok (.iload_n 2, 1) := by decide +kernel
theorem dX2_readFactor_71 : decode cX2_readFactor 71 = .ok (.ifCond .lt 13, 3) := by decide +kernel
theorem dX2_readFactor_74 : decode cX2_readFactor 74 = .ok (.ldc 99, 2) := by decide +kernel
theorem dX2_readFactor_76 : decode cX2_readFactor 76 = .ok (.iload_n 2, 1) := by decide +kernel
theorem dX2_readFactor_77 : decode cX2_readFactor 77 = .ok (.i2c, 1) := by decide +kernel
theorem dX2_readFactor_78 : decode cX2_readFactor 78 = .ok (.invokevirtual 101, 3) := by decide +kernel
theorem dX2_readFactor_81 : decode cX2_readFactor 81 = .ok (.goto 4, 3) := by decide +kernel
theorem dX2_readFactor_84 : decode cX2_readFactor 84 = .ok (.iconst (-1), 1) := by decide +kernel
theorem dX2_readFactor_85 : decode cX2_readFactor 85 = .ok (.istore_n 3, 1) := by decide +kernel
theorem dX2_readFactor_86 : decode cX2_readFactor 86 = .ok (.iload_n 3, 1) := by decide +kernel
theorem dX2_readFactor_87 : decode cX2_readFactor 87 = .ok (.ifCond .lt 29, 3) := by decide +kernel
theorem dX2_readFactor_90 : decode cX2_readFactor 90 = .ok (.aload_n 0, 1) := by decide +kernel
theorem dX2_readFactor_91 : decode cX2_readFactor 91 = .ok (.getfield 18, 3) := by decide +kernel
theorem dX2_readFactor_94 : decode cX2_readFactor 94 = .ok (.dup, 1) := by decide +kernel
theorem dX2_readFactor_95 : decode cX2_readFactor 95 = .ok (.getfield 48, 3) := by decide +kernel
theorem dX2_readFactor_98 : decode cX2_readFactor 98 = .ok (.iconst 1, 1) := by decide +kernel
theorem dX2_readFactor_99 : decode cX2_readFactor 99 = .ok (.iadd, 1) := by decide +kernel
theorem dX2_readFactor_100 : decode cX2_readFactor 100 = .ok (.putfield 48, 3) := by decide +kernel
theorem dX2_readFactor_103 : decode cX2_readFactor 103 = .ok (.aload_n 0, 1) := by decide +kernel
theorem dX2_readFactor_104 : decode cX2_readFactor 104 = .ok (.getfield 12, 3) := by decide +kernel
theorem dX2_readFactor_107 : decode cX2_readFactor 107 = .ok (.bipush 97, 2) := by decide +kernel
theorem dX2_readFactor_109 : decode cX2_readFactor 109 = .ok (.iload_n 3, 1) := by decide +kernel
theorem dX2_readFactor_110 : decode cX2_readFactor 110 = .ok (.invokevirtual 80, 3) := by decide +kernel
theorem dX2_readFactor_113 : decode cX2_readFactor 113 = .ok (.pop, 1) := by decide +kernel
theorem dX2_readFactor_114 : decode cX2_readFactor 114 = .ok (.iconst 1, 1) := by decide +kernel
theorem dX2_readFactor_115 : decode cX2_readFactor 115 = .ok (.ireturn, 1) := by decide +kernel
theorem dX2_readFactor_116 : decode cX2_readFactor 116 = .ok (.aload_n 0, 1) := by decide +kernel
theorem dX2_readFactor_117 : decode cX2_readFactor 117 = .ok (.getfield 18, 3) := by decide +kernel
theorem dX2_readFactor_120 : decode cX2_readFactor 120 = .ok (.invokevirtual 107, 3) := by decide +kernel
theorem dX2_readFactor_123 : decode cX2_readFactor 123 = .ok (.ifCond .ne 5, 3) := by decide +kernel
theorem dX2_readFactor_126 : decode cX2_readFactor 126 = .ok (.iconst 0, 1) := by decide +kernel
theorem dX2_readFactor_127 : decode cX2_readFactor 127 = .ok (.ireturn, 1) := by decide +kernel
theorem dX2_readFactor_128 : decode cX2_readFactor 128 = .ok (.aload_n 0, 1) := by decide +kernel
theorem dX2_readFactor_129 : decode cX2_readFactor 129 = .ok (.getfield 12, 3) := by decide +kernel
theorem dX2_readFactor_132 : decode cX2_readFactor 132 = .ok (.bipush 48, 2) := by decide +kernel
theorem dX2_readFactor_134 : decode cX2_readFactor 134 = .ok (.aload_n 0, 1) := by decide +kernel
theorem dX2_readFactor_135 : decode cX2_readFactor 135 = .ok (.getfield 18, 3) := by decide +kernel
theorem dX2_readFactor_138 : decode cX2_readFactor 138 = .ok (.getfield 111, 3) := by decide +kernel
theorem dX2_readFactor_141 : decode cX2_readFactor 141 = .ok (.invokevirtual 80, 3) := by decide +kernel
theorem dX2_readFactor_144 : decode cX2_readFactor 144 = .ok (.pop, 1) := by decide +kernel
theorem dX2_readFactor_145 : decode cX2_readFactor 145 = .ok (.iconst 1, 1) := by decide +kernel
theorem dX2_readFactor_146 : decode cX2_readFactor 146 = .ok (.ireturn, 1) := by decide +kernel
theorem dX3_init_0 : decode cX3_init 0 = .ok (.aload_n 0, 1) := by decide +kernel
theorem dX3_init_1 : decode cX3_init 1 = .ok (.invokespecial 3, 3) := by decide +kernel
theorem dX3_init_4 : decode cX3_init 4 = .ok (.aload_n 0, 1) := by decide +kernel
theorem dX3_init_5 : decode cX3_init 5 = .ok (.bipush 64, 2) := by decide +kernel
theorem dX3_init_7 : decode cX3_init 7 = .ok (.newarray .int, 2) := by decide +kernel
theorem dX3_init_9 : decode cX3_init 9 = .ok (.putfield 9, 3) := by decide +kernel
theorem dX3_init_12 : decode cX3_init 12 = .ok (.aload_n 0, 1) := by decide +kernel
theorem dX3_init_13 : decode cX3_init 13 = .ok (.bipush 8, 2) := by decide +kernel
theorem dX3_init_15 : decode cX3_init 15 = .ok (.newarray .int, 2) := by decide +kernel
theorem dX3_init_17 : decode cX3_init 17 = .ok (.putfield 15, 3) := by decide +kernel
theorem dX3_init_20 : decode cX3_init 20 = .ok (.aload_n 0, 1) := by decide +kernel
theorem dX3_init_21 : decode cX3_init 21 = .ok (.bipush 64, 2) := by decide +kernel
theorem dX3_init_23 : decode cX3_init 23 = .ok (.newarray .int, 2) := by decide +kernel
theorem dX3_init_25 : decode cX3_init 25 = .ok (.putfield 18, 3) := by decide +kernel
theorem dX3_init_28 : decode cX3_init 28 = .ok (.aload_n 0, 1) := by decide +kernel
theorem dX3_init_29 : decode cX3_init 29 = .ok (.bipush 64, 2) := by decide +kernel
theorem dX3_init_31 : decode cX3_init 31 = .ok (.newarray .int, 2) := by decide +kernel
theorem dX3_init_33 : decode cX3_init 33 = .ok (.putfield 21, 3) := by decide +kernel
theorem dX3_init_36 : decode cX3_init 36 = .ok (.aload_n 0, 1) := by decide +kernel
theorem dX3_init_37 : decode cX3_init 37 = .ok (.bipush 8, 2) := by decide +kernel
theorem dX3_init_39 : decode cX3_init 39 = .ok (.newarray .int, 2) := by decide +kernel
theorem dX3_init_41 : decode cX3_init 41 = .ok (.putfield 24, 3) := by decide +kernel
theorem dX3_init_44 : decode cX3_init 44 = .ok (.aload_n 0, 1) := by decide +kernel
theorem dX3_init_45 : decode cX3_init 45 = .ok (.bipush 8, 2) := by decide +kernel
theorem dX3_init_47 : decode cX3_init 47 = .ok (.newarray .int, 2) := by decide +kernel
theorem dX3_init_49 : decode cX3_init 49 = .ok (.putfield 27, 3) := by decide +kernel
theorem dX3_init_52 : decode cX3_init 52 = .ok (.aload_n 0, 1) := by decide +kernel
theorem dX3_init_53 : decode cX3_init 53 = .ok (.bipush 8, 2) := by decide +kernel
theorem dX3_init_55 : decode cX3_init 55 = .ok (.newarray .int, 2) := by decide +kernel
theorem dX3_init_57 : decode cX3_init 57 = .ok (.putfield 30, 3) := by decide +kernel
theorem dX3_init_60 : decode cX3_init 60 = .ok (.return_, 1) := by decide +kernel
theorem dX3_lay_0 : decode cX3_lay 0 = .ok (.aload_n 0, 1) := by decide +kernel
theorem dX3_lay_1 : decode cX3_lay 1 = .ok (.getfield 9, 3) := by decide +kernel
theorem dX3_lay_4 : decode cX3_lay 4 = .ok (.iload_n 1, 1) := by decide +kernel
theorem dX3_lay_5 : decode cX3_lay 5 = .ok (.bipush 8, 2) := by decide +kernel
theorem dX3_lay_7 : decode cX3_lay 7 = .ok (.imul, 1) := by decide +kernel
theorem dX3_lay_8 : decode cX3_lay 8 = .ok (.iload_n 2, 1) := by decide +kernel
theorem dX3_lay_9 : decode cX3_lay 9 = .ok (.iadd, 1) := by decide +kernel
theorem dX3_lay_10 : decode cX3_lay 10 = .ok (.iload_n 3, 1) := by decide +kernel
theorem dX3_lay_11 : decode cX3_lay 11 = .ok (.iastore, 1) := by decide +kernel
theorem dX3_lay_12 : decode cX3_lay 12 = .ok (.aload_n 0, 1) := by decide +kernel
theorem dX3_lay_13 : decode cX3_lay 13 = .ok (.getfield 9, 3) := by decide +kernel
theorem dX3_lay_16 : decode cX3_lay 16 = .ok (.iload_n 2, 1) := by decide +kernel
theorem dX3_lay_17 : decode cX3_lay 17 = .ok (.bipush 8, 2) := by decide +kernel
theorem dX3_lay_19 : decode cX3_lay 19 = .ok (.imul, 1) := by decide +kernel
theorem dX3_lay_20 : decode cX3_lay 20 = .ok (.iload_n 1, 1) := by decide +kernel
theorem dX3_lay_21 : decode cX3_lay 21 = .ok (.iadd, 1) := by decide +kernel
theorem dX3_lay_22 : decode cX3_lay 22 = .ok (.iload_n 3, 1) := by decide +kernel
theorem dX3_lay_23 : decode cX3_lay 23 = .ok (.iastore, 1) := by decide +kernel
theorem dX3_lay_24 : decode cX3_lay 24 = .ok (.return_, 1) := by decide +kernel
theorem dX3_findRoute_0 : decode cX3_findRoute 0 = .ok (.aload_n 0, 1) := by decide +kernel
theorem dX3_findRoute_1 : decode cX3_findRoute 1 = .ok (.aload_n 3, 1) := by decide +kernel
theorem dX3_findRoute_2 : decode cX3_findRoute 2 = .ok (.bipush 9, 2) := by decide +kernel
theorem dX3_findRoute_4 : decode cX3_findRoute 4 = .ok (.invokevirtual 33, 3) := by decide +kernel
theorem dX3_findRoute_7 : decode cX3_findRoute 7 = .ok (.aload_n 0, 1) := by decide +kernel
theorem dX3_findRoute_8 : decode cX3_findRoute 8 = .ok (.iload_n 2, 1) := by decide +kernel
theorem dX3_findRoute_9 : decode cX3_findRoute 9 = .ok (.invokevirtual 37, 3) := by decide +kernel
theorem dX3_findRoute_12 : decode cX3_findRoute 12 = .ok (.pop, 1) := by decide +kernel
theorem dX3_findRoute_13 : decode cX3_findRoute 13 = .ok (.aload_n 0, 1) := by decide +kernel
theorem dX3_findRoute_14 : decode cX3_findRoute 14 = .ok (.getfield 24, 3) := by decide +kernel
theorem dX3_findRoute_17 : decode cX3_findRoute 17 = .ok (.iload_n 1, 1) := by decide +kernel
theorem dX3_findRoute_18 : decode cX3_findRoute 18 = .ok (.iaload, 1) := by decide +kernel
theorem dX3_findRoute_19 : decode cX3_findRoute 19 = .ok (.iconst (-1), 1) := by decide +kernel
theorem dX3_findRoute_20 : decode cX3_findRoute 20 = .ok (.if_icmp .ne 5, 3) := by decide +kernel
theorem dX3_findRoute_23 : decode cX3_findRoute 23 = .ok (.iconst (-1), 1) := by decide +kernel
theorem dX3_findRoute_24 : decode cX3_findRoute 24 = .ok (.ireturn, 1) := by decide +kernel
theorem dX3_findRoute_25 : decode cX3_findRoute 25 = .ok (.aload_n 0, 1) := by decide +kernel
theorem dX3_findRoute_26 : decode cX3_findRoute 26 = .ok (.getfield 15, 3) := by decide +kernel
theorem dX3_findRoute_29 : decode cX3_findRoute 29 = .ok (.iconst 0, 1) := by decide +kernel
theorem dX3_findRoute_30 : decode cX3_findRoute 30 = .ok (.iload_n 1, 1) := by decide +kernel
theorem dX3_findRoute_31 : decode cX3_findRoute 31 = .ok (.iastore, 1) := by decide +kernel
theorem dX3_findRoute_32 : decode cX3_findRoute 32 = .ok (.iconst 1, 1) := by decide +kernel
theorem dX3_findRoute_33 : decode cX3_findRoute 33 = .ok (.istore 4, 2) := by decide +kernel
theorem dX3_findRoute_35 : decode cX3_findRoute 35 = .ok (.iload 4, 2) := by decide +kernel
theorem dX3_findRoute_37 : decode cX3_findRoute 37 = .ok (.aload_n 0, 1) := by decide +kernel
theorem dX3_findRoute_38 : decode cX3_findRoute 38 = .ok (.getfield 24, 3) := by decide +kernel
theorem dX3_findRoute_41 : decode cX3_findRoute 41 = .ok (.iload_n 1, 1) := by decide +kernel
theorem dX3_findRoute_42 : decode cX3_findRoute 42 = .ok (.iaload, 1) := by decide +kernel
theorem dX3_findRoute_43 : decode cX3_findRoute 43 = .ok (.if_icmp .gt 29, 3) := by decide +kernel
theorem dX3_findRoute_46 : decode cX3_findRoute 46 = .ok (.aload_n 0, 1) := by decide +kernel
theorem dX3_findRoute_47 : decode cX3_findRoute 47 = .ok (.getfield 15, 3) := by decide +kernel
theorem dX3_findRoute_50 : decode cX3_findRoute 50 = .ok (.iload 4, 2) := by decide +kernel
theorem dX3_findRoute_52 : decode cX3_findRoute 52 = .ok (.aload_n 0, 1) := by decide +kernel
theorem dX3_findRoute_53 : decode cX3_findRoute 53 = .ok (.aload_n 0, 1) := by decide +kernel
theorem dX3_findRoute_54 : decode cX3_findRoute 54 = .ok (.getfield 15, 3) := by decide +kernel
theorem dX3_findRoute_57 : decode cX3_findRoute 57 = .ok (.iload 4, 2) := by decide +kernel
theorem dX3_findRoute_59 : decode cX3_findRoute 59 = .ok (.iconst 1, 1) := by decide +kernel
theorem dX3_findRoute_60 : decode cX3_findRoute 60 = .ok (.isub, 1) := by decide +kernel
theorem dX3_findRoute_61 : decode cX3_findRoute 61 = .ok (.iaload, 1) := by decide +kernel
theorem dX3_findRoute_62 : decode cX3_findRoute 62 = .ok (.invokevirtual 41, 3) := by decide +kernel
theorem dX3_findRoute_65 : decode cX3_findRoute 65 = .ok (.iastore, 1) := by decide +kernel
theorem dX3_findRoute_66 : decode cX3_findRoute 66 = .ok (.iinc 4 1, 3) := by decide +kernel
theorem dX3_findRoute_69 : decode cX3_findRoute 69 = .ok (.goto (-34), 3) := by decide +kernel
theorem dX3_findRoute_72 : decode cX3_findRoute 72 = .ok (.aload_n 0, 1) := by decide +kernel
theorem dX3_findRoute_73 : decode cX3_findRoute 73 = .ok (.getfield 24, 3) := by decide +kernel
theorem dX3_findRoute_76 : decode cX3_findRoute 76 = .ok (.iload_n 1, 1) := by decide +kernel
theorem dX3_findRoute_77 : decode cX3_findRoute 77 = .ok (.iaload, 1) := by decide +kernel
theorem dX3_findRoute_78 : decode cX3_findRoute 78 = .ok (.ireturn, 1) := by decide +kernel
theorem dX3_flow_0 : decode cX3_flow 0 = .ok (.aload_n 0, 1) := by decide +kernel
theorem dX3_flow_1 : decode cX3_flow 1 = .ok (.aload_n 0, 1) := by decide +kernel
theorem dX3_flow_2 : decode cX3_flow 2 = .ok (.getfield 18, 3) := by decide +kernel
theorem dX3_flow_5 : decode cX3_flow 5 = .ok (.iload_n 3, 1) := by decide +kernel
theorem dX3_flow_6 : decode cX3_flow 6 = .ok (.invokevirtual 33, 3) := by decide +kernel
theorem dX3_flow_9 : decode cX3_flow 9 = .ok (.iconst 0, 1) := by decide +kernel
theorem dX3_flow_10 : decode cX3_flow 10 = .ok (.istore 4, 2) := by decide +kernel
theorem dX3_flow_12 : decode cX3_flow 12 = .ok (.iconst 0, 1) := by decide +kernel
theorem dX3_flow_13 : decode cX3_flow 13 = .ok (.istore 5, 2) := by decide +kernel
theorem dX3_flow_15 : decode cX3_flow 15 = .ok (.iload 5, 2) := by decide +kernel
theorem dX3_flow_17 : decode cX3_flow 17 = .ok (.bipush 72, 2) := by decide +kernel
theorem dX3_flow_19 : decode cX3_flow 19 = .ok (.if_icmp .ge 38, 3) := by decide +kernel
theorem dX3_flow_22 : decode cX3_flow 22 = .ok (.aload_n 0, 1) := by decide +kernel
theorem dX3_flow_23 : decode cX3_flow 23 = .ok (.iload_n 1, 1) := by decide +kernel
theorem dX3_flow_24 : decode cX3_flow 24 = .ok (.invokevirtual 37, 3) := by decide +kernel
theorem dX3_flow_27 : decode cX3_flow 27 = .ok (.pop, 1) := by decide +kernel
theorem dX3_flow_28 : decode cX3_flow 28 = .ok (.aload_n 0, 1) := by decide +kernel
theorem dX3_flow_29 : decode cX3_flow 29 = .ok (.getfield 24, 3) := by decide +kernel
theorem dX3_flow_32 : decode cX3_flow 32 = .ok (.iload_n 2, 1) := by decide +kernel
theorem dX3_flow_33 : decode cX3_flow 33 = .ok (.iaload, 1) := by decide +kernel
theorem dX3_flow_34 : decode cX3_flow 34 = .ok (.iconst (-1), 1) := by decide +kernel
theorem dX3_flow_35 : decode cX3_flow 35 = .ok (.if_icmp .ne 6, 3) := by decide +kernel
theorem dX3_flow_38 : decode cX3_flow 38 = .ok (.iload 4, 2) := by decide +kernel
theorem dX3_flow_40 : decode cX3_flow 40 = .ok (.ireturn, 1) := by decide +kernel
theorem dX3_flow_41 : decode cX3_flow 41 = .ok (.iload 4, 2) := by decide +kernel
theorem dX3_flow_43 : decode cX3_flow 43 = .ok (.aload_n 0, 1) := by decide +kernel
theorem dX3_flow_44 : decode cX3_flow 44 = .ok (.iload_n 2, 1) := by decide +kernel
theorem dX3_flow_45 : decode cX3_flow 45 = .ok (.invokevirtual 44, 3) := by decide +kernel
theorem dX3_flow_48 : decode cX3_flow 48 = .ok (.iadd, 1) := by decide +kernel
theorem dX3_flow_49 : decode cX3_flow 49 = .ok (.istore 4, 2) := by decide +kernel
theorem dX3_flow_51 : decode cX3_flow 51 = .ok (.iinc 5 1, 3) := by decide +kernel
theorem dX3_flow_54 : decode cX3_flow 54 = .ok (.goto (-39), 3) := by decide +kernel
theorem dX3_flow_57 : decode cX3_flow 57 = .ok (.iload 4, 2) := by decide +kernel
theorem dX3_flow_59 : decode cX3_flow 59 = .ok (.ireturn, 1) := by decide +kernel
theorem dX3_middle_0 : decode cX3_middle 0 = .ok (.aload_n 0, 1) := by decide +kernel
theorem dX3_middle_1 : decode cX3_middle 1 = .ok (.aload_n 0, 1) := by decide +kernel
theorem dX3_middle_2 : decode cX3_middle 2 = .ok (.getfield 18, 3) := by decide +kernel
theorem dX3_middle_5 : decode cX3_middle 5 = .ok (.bipush 9, 2) := by decide +kernel
theorem dX3_middle_7 : decode cX3_middle 7 = .ok (.invokevirtual 33, 3) := by decide +kernel
theorem dX3_middle_10 : decode cX3_middle 10 = .ok (.iconst 0, 1) := by decide +kernel
theorem dX3_middle_11 : decode cX3_middle 11 = .ok (.istore_n 1, 1) := by decide +kernel
theorem dX3_middle_12 : decode cX3_middle 12 = .ok (.iconst 0, 1) := by decide +kernel
theorem dX3_middle_13 : decode cX3_middle 13 = .ok (.istore_n 2, 1) := by decide +kernel
theorem dX3_middle_14 : decode cX3_middle 14 = .ok (.iconst 0, 1) := by decide +kernel
theorem dX3_middle_15 : decode cX3_middle 15 = .ok (.istore_n 3, 1) := by decide +kernel
theorem dX3_middle_16 : decode cX3_middle 16 = .ok (.iconst 0, 1) := by decide +kernel
theorem dX3_middle_17 : decode cX3_middle 17 = .ok (.istore 4, 2) := by decide +kernel
theorem dX3_middle_19 : decode cX3_middle 19 = .ok (.iload 4, 2) := by decide +kernel
theorem dX3_middle_21 : decode cX3_middle 21 = .ok (.bipush 8, 2) := by decide +kernel
theorem dX3_middle_23 : decode cX3_middle 23 = .ok (.if_icmp .ge 79, 3) := by decide +kernel
theorem dX3_middle_26 : decode cX3_middle 26 = .ok (.aload_n 0, 1) := by decide +kernel
theorem dX3_middle_27 : decode cX3_middle 27 = .ok (.iload 4, 2) := by decide +kernel
theorem dX3_middle_29 : decode cX3_middle 29 = .ok (.invokevirtual 37, 3) := by decide +kernel
theorem dX3_middle_32 : decode cX3_middle 32 = .ok (.istore 5, 2) := by decide +kernel
theorem dX3_middle_34 : decode cX3_middle 34 = .ok (.iconst 0, 1) := by decide +kernel
theorem dX3_middle_35 : decode cX3_middle 35 = .ok (.istore 6, 2) := by decide +kernel
theorem dX3_middle_37 : decode cX3_middle 37 = .ok (.iconst 0, 1) := by decide +kernel
theorem dX3_middle_38 : decode cX3_middle 38 = .ok (.istore 7, 2) := by decide +kernel
theorem dX3_middle_40 : decode cX3_middle 40 = .ok (.iload 7, 2) := by decide +kernel
theorem dX3_middle_42 : decode cX3_middle 42 = .ok (.bipush 8, 2) := by decide +kernel
theorem dX3_middle_44 : decode cX3_middle 44 = .ok (.if_icmp .ge 25, 3) := by decide +kernel
theorem dX3_middle_47 : decode cX3_middle 47 = .ok (.iload 6, 2) := by decide +kernel
theorem dX3_middle_49 : decode cX3_middle 49 = .ok (.iconst 0, 1) := by decide +kernel
theorem dX3_middle_50 : decode cX3_middle 50 = .ok (.aload_n 0, 1) := by decide +kernel
theorem dX3_middle_51 : decode cX3_middle 51 = .ok (.getfield 24, 3) := by decide +kernel
theorem dX3_middle_54 : decode cX3_middle 54 = .ok (.iload 7, 2) := by decide +kernel
theorem dX3_middle_56 : decode cX3_middle 56 = .ok (.iaload, 1) := by decide +kernel
theorem dX3_middle_57 : decode cX3_middle 57 = .ok (.invokestatic 47, 3) := by decide +kernel
theorem dX3_middle_60 : decode cX3_middle 60 = .ok (.iadd, 1) := by decide +kernel
theorem dX3_middle_61 : decode cX3_middle 61 = .ok (.istore 6, 2) := by decide +kernel
theorem dX3_middle_63 : decode cX3_middle 63 = .ok (.iinc 7 1, 3) := by decide +kernel
theorem dX3_middle_66 : decode cX3_middle 66 = .ok (.goto (-26), 3) := by decide +kernel
theorem dX3_middle_69 : decode cX3_middle 69 = .ok (.iload 5, 2) := by decide +kernel
theorem dX3_middle_71 : decode cX3_middle 71 = .ok (.iload_n 2, 1) := by decide +kernel
theorem dX3_middle_72 : decode cX3_middle 72 = .ok (.if_icmp .gt 15, 3) := by decide +kernel
theorem dX3_middle_75 : decode cX3_middle 75 = .ok (.iload 5, 2) := by decide +kernel
theorem dX3_middle_77 : decode cX3_middle 77 = .ok (.iload_n 2, 1) := by decide +kernel
theorem dX3_middle_78 : decode cX3_middle 78 = .ok (.if_icmp .ne 18, 3) := by decide +kernel
theorem dX3_middle_81 : decode cX3_middle 81 = .ok (.iload 6, 2) := by decide +kernel
theorem dX3_middle_83 : decode cX3_middle 83 = .ok (.iload_n 3, 1) := by decide +kernel
theorem dX3_middle_84 : decode cX3_middle 84 = .ok (.if_icmp .ge 12, 3) := by decide +kernel
theorem dX3_middle_87 : decode cX3_middle 87 = .ok (.iload 4, 2) := by decide +kernel
theorem dX3_middle_89 : decode cX3_middle 89 = .ok (.istore_n 1, 1) := by decide +kernel
theorem dX3_middle_90 : decode cX3_middle 90 = .ok (.iload 5, 2) := by decide +kernel
theorem dX3_middle_92 : decode cX3_middle 92 = .ok (.istore_n 2, 1) := by decide +kernel
theorem dX3_middle_93 : decode cX3_middle 93 = .ok (.iload 6, 2) := by decide +kernel
theorem dX3_middle_95 : decode cX3_middle 95 = .ok (.istore_n 3, 1) := by decide +kernel
theorem dX3_middle_96 : decode cX3_middle 96 = .ok (.iinc 4 1, 3) := by decide +kernel
theorem dX3_middle_99 : decode cX3_middle 99 = .ok (.goto (-80), 3) := by decide +kernel
theorem dX3_middle_102 : decode cX3_middle 102 = .ok (.iload_n 1, 1) := by decide +kernel
theorem dX3_middle_103 : decode cX3_middle 103 = .ok (.ireturn, 1) := by decide +kernel
theorem dX3_leaveRoom_0 : decode cX3_leaveRoom 0 = .ok (.iconst 0, 1) := by decide +kernel
theorem dX3_leaveRoom_1 : decode cX3_leaveRoom 1 = .ok (.istore_n 3, 1) := by decide +kernel
theorem dX3_leaveRoom_2 : decode cX3_leaveRoom 2 = .ok (.iload_n 3, 1) := by decide +kernel
theorem dX3_leaveRoom_3 : decode cX3_leaveRoom 3 = .ok (.bipush 64, 2) := by decide +kernel
theorem dX3_leaveRoom_5 : decode cX3_leaveRoom 5 = .ok (.if_icmp .ge 29, 3) := by decide +kernel
theorem dX3_leaveRoom_8 : decode cX3_leaveRoom 8 = .ok (.aload_n 0, 1) := by decide +kernel
theorem dX3_leaveRoom_9 : decode cX3_leaveRoom 9 = .ok (.getfield 21, 3) := by decide +kernel
theorem dX3_leaveRoom_12 : decode cX3_leaveRoom 12 = .ok (.iload_n 3, 1) := by decide +kernel
theorem dX3_leaveRoom_13 : decode cX3_leaveRoom 13 = .ok (.aload_n 0, 1) := by decide +kernel
theorem dX3_leaveRoom_14 : decode cX3_leaveRoom 14 = .ok (.getfield 9, 3) := by decide +kernel
theorem dX3_leaveRoom_17 : decode cX3_leaveRoom 17 = .ok (.iload_n 3, 1) := by decide +kernel
theorem dX3_leaveRoom_18 : decode cX3_leaveRoom 18 = .ok (.iaload, 1) := by decide +kernel
theorem dX3_leaveRoom_19 : decode cX3_leaveRoom 19 = .ok (.aload_n 1, 1) := by decide +kernel
theorem dX3_leaveRoom_20 : decode cX3_leaveRoom 20 = .ok (.iload_n 3, 1) := by decide +kernel
theorem dX3_leaveRoom_21 : decode cX3_leaveRoom 21 = .ok (.iaload, 1) := by decide +kernel
theorem dX3_leaveRoom_22 : decode cX3_leaveRoom 22 = .ok (.isub, 1) := by decide +kernel
theorem dX3_leaveRoom_23 : decode cX3_leaveRoom 23 = .ok (.iload_n 2, 1) := by decide +kernel
theorem dX3_leaveRoom_24 : decode cX3_leaveRoom 24 = .ok (.invokestatic 53, 3) := by decide +kernel
theorem dX3_leaveRoom_27 : decode cX3_leaveRoom 27 = .ok (.iastore, 1) := by decide +kernel
theorem dX3_leaveRoom_28 : decode cX3_leaveRoom 28 = .ok (.iinc 3 1, 3) := by decide +kernel
theorem dX3_leaveRoom_31 : decode cX3_leaveRoom 31 = .ok (.goto (-29), 3) := by decide +kernel
theorem dX3_leaveRoom_34 : decode cX3_leaveRoom 34 = .ok (.return_, 1) := by decide +kernel
theorem dX3_spread_0 : decode cX3_spread 0 = .ok (.iconst 0, 1) := by decide +kernel
theorem dX3_spread_1 : decode cX3_spread 1 = .ok (.istore_n 2, 1) := by decide +kernel
theorem dX3_spread_2 : decode cX3_spread 2 = .ok (.iload_n 2, 1) := by decide +kernel
theorem dX3_spread_3 : decode cX3_spread 3 = .ok (.bipush 8, 2) := by decide +kernel
theorem dX3_spread_5 : decode cX3_spread 5 = .ok (.if_icmp .ge 16, 3) := by decide +kernel
theorem dX3_spread_8 : decode cX3_spread 8 = .ok (.aload_n 0, 1) := by decide +kernel
theorem dX3_spread_9 : decode cX3_spread 9 = .ok (.getfield 24, 3) := by decide +kernel
theorem dX3_spread_12 : decode cX3_spread 12 = .ok (.iload_n 2, 1) := by decide +kernel
theorem dX3_spread_13 : decode cX3_spread 13 = .ok (.iconst (-1), 1) := by decide +kernel
theorem dX3_spread_14 : decode cX3_spread 14 = .ok (.iastore, 1) := by decide +kernel
theorem dX3_spread_15 : decode cX3_spread 15 = .ok (.iinc 2 1, 3) := by decide +kernel
theorem dX3_spread_18 : decode cX3_spread 18 = .ok (.goto (-16), 3) := by decide +kernel
theorem dX3_spread_21 : decode cX3_spread 21 = .ok (.aload_n 0, 1) := by decide +kernel
theorem dX3_spread_22 : decode cX3_spread 22 = .ok (.getfield 24, 3) := by decide +kernel
theorem dX3_spread_25 : decode cX3_spread 25 = .ok (.iload_n 1, 1) := by decide +kernel
theorem dX3_spread_26 : decode cX3_spread 26 = .ok (.iconst 0, 1) := by decide +kernel
theorem dX3_spread_27 : decode cX3_spread 27 = .ok (.iastore, 1) := by decide +kernel
theorem dX3_spread_28 : decode cX3_spread 28 = .ok (.aload_n 0, 1) := by decide +kernel
theorem dX3_spread_29 : decode cX3_spread 29 = .ok (.getfield 27, 3) := by decide +kernel
theorem dX3_spread_32 : decode cX3_spread 32 = .ok (.iload_n 1, 1) := by decide +kernel
theorem dX3_spread_33 : decode cX3_spread 33 = .ok (.iload_n 1, 1) := by decide +kernel
theorem dX3_spread_34 : decode cX3_spread 34 = .ok (.iastore, 1) := by decide +kernel
theorem dX3_spread_35 : decode cX3_spread 35 = .ok (.aload_n 0, 1) := by decide +kernel
theorem dX3_spread_36 : decode cX3_spread 36 = .ok (.getfield 30, 3) := by decide +kernel
theorem dX3_spread_39 : decode cX3_spread 39 = .ok (.iconst 0, 1) := by decide +kernel
theorem dX3_spread_40 : decode cX3_spread 40 = .ok (.iload_n 1, 1) := by decide +kernel
theorem dX3_spread_41 : decode cX3_spread 41 = .ok (.iastore, 1) := by decide +kernel
theorem dX3_spread_42 : decode cX3_spread 42 = .ok (.iconst 1, 1) := by decide +kernel
theorem dX3_spread_43 : decode cX3_spread 43 = .ok (.istore_n 2, 1) := by decide +kernel
theorem dX3_spread_44 : decode cX3_spread 44 = .ok (.iconst 0, 1) := by decide +kernel
theorem dX3_spread_45 : decode cX3_spread 45 = .ok (.istore_n 3, 1) := by decide +kernel
theorem dX3_spread_46 : decode cX3_spread 46 = .ok (.iload_n 3, 1) := by decide +kernel
theorem dX3_spread_47 : decode cX3_spread 47 = .ok (.iload_n 2, 1) := by decide +kernel
theorem dX3_spread_48 : decode cX3_spread 48 = .ok (.if_icmp .ge 108, 3) := by decide +kernel
theorem dX3_spread_51 : decode cX3_spread 51 = .ok (.iload_n 3, 1) := by decide +kernel
theorem dX3_spread_52 : decode cX3_spread 52 = .ok (.bipush 8, 2) := by decide +kernel
theorem dX3_spread_54 : decode cX3_spread 54 = .ok (.if_icmp .ge 102, 3) := by decide +kernel
theorem dX3_spread_57 : decode cX3_spread 57 = .ok (.aload_n 0, 1) := by decide +kernel
theorem dX3_spread_58 : decode cX3_spread 58 = .ok (.getfield 30, 3) := by decide +kernel
theorem dX3_spread_61 : decode cX3_spread 61 = .ok (.iload_n 3, 1) := by decide +kernel
theorem dX3_spread_62 : decode cX3_spread 62 = .ok (.iaload, 1) := by decide +kernel
theorem dX3_spread_63 : decode cX3_spread 63 = .ok (.istore 4, 2) := by decide +kernel
theorem dX3_spread_65 : decode cX3_spread 65 = .ok (.iconst 0, 1) := by decide +kernel
theorem dX3_spread_66 : decode cX3_spread 66 = .ok (.istore 5, 2) := by decide +kernel
theorem dX3_spread_68 : decode cX3_spread 68 = .ok (.iload 5, 2) := by decide +kernel
theorem dX3_spread_70 : decode cX3_spread 70 = .ok (.bipush 8, 2) := by decide +kernel
theorem dX3_spread_72 : decode cX3_spread 72 = .ok (.if_icmp .ge 78, 3) := by decide +kernel
theorem dX3_spread_75 : decode cX3_spread 75 = .ok (.aload_n 0, 1) := by decide +kernel
theorem dX3_spread_76 : decode cX3_spread 76 = .ok (.getfield 24, 3) := by decide +kernel
theorem dX3_spread_79 : decode cX3_spread 79 = .ok (.iload 5, 2) := by decide +kernel
theorem dX3_spread_81 : decode cX3_spread 81 = .ok (.iaload, 1) := by decide +kernel
theorem dX3_spread_82 : decode cX3_spread 82 = .ok (.iconst (-1), 1) := by decide +kernel
theorem dX3_spread_83 : decode cX3_spread 83 = .ok (.if_icmp .ne 61, 3) := by decide +kernel
theorem dX3_spread_86 : decode cX3_spread 86 = .ok (.aload_n 0, 1) := by decide +kernel
theorem dX3_spread_87 : decode cX3_spread 87 = .ok (.getfield 21, 3) := by decide +kernel
theorem dX3_spread_90 : decode cX3_spread 90 = .ok (.iload 4, 2) := by decide +kernel
theorem dX3_spread_92 : decode cX3_spread 92 = .ok (.bipush 8, 2) := by decide +kernel
theorem dX3_spread_94 : decode cX3_spread 94 = .ok (.imul, 1) := by decide +kernel
theorem dX3_spread_95 : decode cX3_spread 95 = .ok (.iload 5, 2) := by decide +kernel
theorem dX3_spread_97 : decode cX3_spread 97 = .ok (.iadd, 1) := by decide +kernel
theorem dX3_spread_98 : decode cX3_spread 98 = .ok (.iaload, 1) := by decide +kernel
theorem dX3_spread_99 : decode cX3_spread 99 = .ok (.ifCond .le 45, 3) := by decide +kernel
theorem dX3_spread_102 : decode cX3_spread 102 = .ok (.iload_n 2, 1) := by decide +kernel
theorem dX3_spread_103 : decode cX3_spread 103 = .ok (.bipush 8, 2) := by decide +kernel
theorem dX3_spread_105 : decode cX3_spread 105 = .ok (.if_icmp .ge 39, 3) := by decide +kernel
theorem dX3_spread_108 : decode cX3_spread 108 = .ok (.aload_n 0, 1) := by decide +kernel
theorem dX3_spread_109 : decode cX3_spread 109 = .ok (.getfield 24, 3) := by decide +kernel
theorem dX3_spread_112 : decode cX3_spread 112 = .ok (.iload 5, 2) := by decide +kernel
theorem dX3_spread_114 : decode cX3_spread 114 = .ok (.aload_n 0, 1) := by decide +kernel
theorem dX3_spread_115 : decode cX3_spread 115 = .ok (.getfield 24, 3) := by decide +kernel
theorem dX3_spread_118 : decode cX3_spread 118 = .ok (.iload 4, 2) := by decide +kernel
theorem dX3_spread_120 : decode cX3_spread 120 = .ok (.iaload, 1) := by decide +kernel
theorem dX3_spread_121 : decode cX3_spread 121 = .ok (.iconst 1, 1) := by decide +kernel
theorem dX3_spread_122 : decode cX3_spread 122 = .ok (.iadd, 1) := by decide +kernel
theorem dX3_spread_123 : decode cX3_spread 123 = .ok (.iastore, 1) := by decide +kernel
theorem dX3_spread_124 : decode cX3_spread 124 = .ok (.aload_n 0, 1) := by decide +kernel
theorem dX3_spread_125 : decode cX3_spread 125 = .ok (.getfield 27, 3) := by decide +kernel
theorem dX3_spread_128 : decode cX3_spread 128 = .ok (.iload 5, 2) := by decide +kernel
theorem dX3_spread_130 : decode cX3_spread 130 = .ok (.iload 4, 2) := by decide +kernel
theorem dX3_spread_132 : decode cX3_spread 132 = .ok (.iastore, 1) := by decide +kernel
theorem dX3_spread_133 : decode cX3_spread 133 = .ok (.aload_n 0, 1) := by decide +kernel
theorem dX3_spread_134 : decode cX3_spread 134 = .ok (.getfield 30, 3) := by decide +kernel
theorem dX3_spread_137 : decode cX3_spread 137 = .ok (.iload_n 2, 1) := by decide +kernel
theorem dX3_spread_138 : decode cX3_spread 138 = .ok (.iload 5, 2) := by decide +kernel
theorem dX3_spread_140 : decode cX3_spread 140 = .ok (.iastore, 1) := by decide +kernel
theorem dX3_spread_141 : decode cX3_spread 141 = .ok (.iinc 2 1, 3) := by decide +kernel
theorem dX3_spread_144 : decode cX3_spread 144 = .ok (.iinc 5 1, 3) := by decide +kernel
theorem dX3_spread_147 : decode cX3_spread 147 = .ok (.goto (-79), 3) := by decide +kernel
theorem dX3_spread_150 : decode cX3_spread 150 = .ok (.iinc 3 1, 3) := by decide +kernel
theorem dX3_spread_153 : decode cX3_spread 153 = .ok (.goto (-107), 3) := by decide +kernel
theorem dX3_spread_156 : decode cX3_spread 156 = .ok (.iload_n 2, 1) := by decide +kernel
theorem dX3_spread_157 : decode cX3_spread 157 = .ok (.ireturn, 1) := by decide +kernel
theorem dX3_nearer_0 : decode cX3_nearer 0 = .ok (.iconst 0, 1) := by decide +kernel
theorem dX3_nearer_1 : decode cX3_nearer 1 = .ok (.istore_n 2, 1) := by decide +kernel
theorem dX3_nearer_2 : decode cX3_nearer 2 = .ok (.iload_n 2, 1) := by decide +kernel
theorem dX3_nearer_3 : decode cX3_nearer 3 = .ok (.bipush 8, 2) := by decide +kernel
theorem dX3_nearer_5 : decode cX3_nearer 5 = .ok (.if_icmp .ge 42, 3) := by decide +kernel
theorem dX3_nearer_8 : decode cX3_nearer 8 = .ok (.aload_n 0, 1) := by decide +kernel
theorem dX3_nearer_9 : decode cX3_nearer 9 = .ok (.getfield 21, 3) := by decide +kernel
theorem dX3_nearer_12 : decode cX3_nearer 12 = .ok (.iload_n 1, 1) := by decide +kernel
theorem dX3_nearer_13 : decode cX3_nearer 13 = .ok (.bipush 8, 2) := by decide +kernel
theorem dX3_nearer_15 : decode cX3_nearer 15 = .ok (.imul, 1) := by decide +kernel
theorem dX3_nearer_16 : decode cX3_nearer 16 = .ok (.iload_n 2, 1) := by decide +kernel
theorem dX3_nearer_17 : decode cX3_nearer 17 = .ok (.iadd, 1) := by decide +kernel
theorem dX3_nearer_18 : decode cX3_nearer 18 = .ok (.iaload, 1) := by decide +kernel
theorem dX3_nearer_19 : decode cX3_nearer 19 = .ok (.ifCond .le 22, 3) := by decide +kernel
theorem dX3_nearer_22 : decode cX3_nearer 22 = .ok (.aload_n 0, 1) := by decide +kernel
theorem dX3_nearer_23 : decode cX3_nearer 23 = .ok (.getfield 24, 3) := by decide +kernel
theorem dX3_nearer_26 : decode cX3_nearer 26 = .ok (.iload_n 2, 1) := by decide +kernel
theorem dX3_nearer_27 : decode cX3_nearer 27 = .ok (.iaload, 1) := by decide +kernel
theorem dX3_nearer_28 : decode cX3_nearer 28 = .ok (.aload_n 0, 1) := by decide +kernel
theorem dX3_nearer_29 : decode cX3_nearer 29 = .ok (.getfield 24, 3) := by decide +kernel
theorem dX3_nearer_32 : decode cX3_nearer 32 = .ok (.iload_n 1, 1) := by decide +kernel
theorem dX3_nearer_33 : decode cX3_nearer 33 = .ok (.iaload, 1) := by decide +kernel
theorem dX3_nearer_34 : decode cX3_nearer 34 = .ok (.iconst 1, 1) := by decide +kernel
theorem dX3_nearer_35 : decode cX3_nearer 35 = .ok (.isub, 1) := by decide +kernel
theorem dX3_nearer_36 : decode cX3_nearer 36 = .ok (.if_icmp .ne 5, 3) := by decide +kernel
theorem dX3_nearer_39 : decode cX3_nearer 39 = .ok (.iload_n 2, 1) := by decide +kernel
theorem dX3_nearer_40 : decode cX3_nearer 40 = .ok (.ireturn, 1) := by decide +kernel
theorem dX3_nearer_41 : decode cX3_nearer 41 = .ok (.iinc 2 1, 3) := by decide +kernel
theorem dX3_nearer_44 : decode cX3_nearer 44 = .ok (.goto (-42), 3) := by decide +kernel
theorem dX3_nearer_47 : decode cX3_nearer 47 = .ok (.iload_n 1, 1) := by decide +kernel
theorem dX3_nearer_48 : decode cX3_nearer 48 = .ok (.ireturn, 1) := by decide +kernel
theorem dX3_push_0 : decode cX3_push 0 = .ok (.bipush 72, 2) := by decide +kernel
theorem dX3_push_2 : decode cX3_push 2 = .ok (.istore_n 2, 1) := by decide +kernel
theorem dX3_push_3 : decode cX3_push 3 = .ok (.iload_n 1, 1) := by decide +kernel
theorem dX3_push_4 : decode cX3_push 4 = .ok (.istore_n 3, 1) := by decide +kernel
theorem dX3_push_5 : decode cX3_push 5 = .ok (.iconst 0, 1) := by decide +kernel
theorem dX3_push_6 : decode cX3_push 6 = .ok (.istore 4, 2) := by decide +kernel
theorem dX3_push_8 : decode cX3_push 8 = .ok (.iload 4, 2) := by decide +kernel
theorem dX3_push_10 : decode cX3_push 10 = .ok (.aload_n 0, 1) := by decide +kernel
theorem dX3_push_11 : decode cX3_push 11 = .ok (.getfield 24, 3) := by decide +kernel
theorem dX3_push_14 : decode cX3_push 14 = .ok (.iload_n 1, 1) := by decide +kernel
theorem dX3_push_15 : decode cX3_push 15 = .ok (.iaload, 1) := by decide +kernel
theorem dX3_push_16 : decode cX3_push 16 = .ok (.if_icmp .ge 37, 3) := by decide +kernel
theorem dX3_push_19 : decode cX3_push 19 = .ok (.iload_n 2, 1) := by decide +kernel
theorem dX3_push_20 : decode cX3_push 20 = .ok (.aload_n 0, 1) := by decide +kernel
theorem dX3_push_21 : decode cX3_push 21 = .ok (.getfield 21, 3) := by decide +kernel
theorem dX3_push_24 : decode cX3_push 24 = .ok (.aload_n 0, 1) := by decide +kernel
theorem dX3_push_25 : decode cX3_push 25 = .ok (.getfield 27, 3) := by decide +kernel
theorem dX3_push_28 : decode cX3_push 28 = .ok (.iload_n 3, 1) := by decide +kernel
theorem dX3_push_29 : decode cX3_push 29 = .ok (.iaload, 1) := by decide +kernel
theorem dX3_push_30 : decode cX3_push 30 = .ok (.bipush 8, 2) := by decide +kernel
theorem dX3_push_32 : decode cX3_push 32 = .ok (.imul, 1) := by decide +kernel
theorem dX3_push_33 : decode cX3_push 33 = .ok (.iload_n 3, 1) := by decide +kernel
theorem dX3_push_34 : decode cX3_push 34 = .ok (.iadd, 1) := by decide +kernel
theorem dX3_push_35 : decode cX3_push 35 = .ok (.iaload, 1) := by decide +kernel
theorem dX3_push_36 : decode cX3_push 36 = .ok (.invokestatic 56, 3) := by decide +kernel
theorem dX3_push_39 : decode cX3_push 39 = .ok (.istore_n 2, 1) := by decide +kernel
theorem dX3_push_40 : decode cX3_push 40 = .ok (.aload_n 0, 1) := by decide +kernel
theorem dX3_push_41 : decode cX3_push 41 = .ok (.getfield 27, 3) := by decide +kernel
theorem dX3_push_44 : decode cX3_push 44 = .ok (.iload_n 3, 1) := by decide +kernel
theorem dX3_push_45 : decode cX3_push 45 = .ok (.iaload, 1) := by decide +kernel
theorem dX3_push_46 : decode cX3_push 46 = .ok (.istore_n 3, 1) := by decide +kernel
theorem dX3_push_47 : decode cX3_push 47 = .ok (.iinc 4 1, 3) := by decide +kernel
theorem dX3_push_50 : decode cX3_push 50 = .ok (.goto (-42), 3) := by decide +kernel
theorem dX3_push_53 : decode cX3_push 53 = .ok (.iload_n 1, 1) := by decide +kernel
theorem dX3_push_54 : decode cX3_push 54 = .ok (.istore_n 3, 1) := by decide +kernel
theorem dX3_push_55 : decode cX3_push 55 = .ok (.iconst 0, 1) := by decide +kernel
theorem dX3_push_56 : decode cX3_push 56 = .ok (.istore 4, 2) := by decide +kernel
theorem dX3_push_58 : decode cX3_push 58 = .ok (.iload 4, 2) := by decide +kernel
theorem dX3_push_60 : decode cX3_push 60 = .ok (.aload_n 0, 1) := by decide +kernel
theorem dX3_push_61 : decode cX3_push 61 = .ok (.getfield 24, 3) := by decide +kernel
theorem dX3_push_64 : decode cX3_push 64 = .ok (.iload_n 1, 1) := by decide +kernel
theorem dX3_push_65 : decode cX3_push 65 = .ok (.iaload, 1) := by decide +kernel
theorem dX3_push_66 : decode cX3_push 66 = .ok (.if_icmp .ge 56, 3) := by decide +kernel
theorem dX3_push_69 : decode cX3_push 69 = .ok (.aload_n 0, 1) := by decide +kernel
theorem dX3_push_70 : decode cX3_push 70 = .ok (.getfield 21, 3) := by decide +kernel
theorem dX3_push_73 : decode cX3_push 73 = .ok (.aload_n 0, 1) := by decide +kernel
theorem dX3_push_74 : decode cX3_push 74 = .ok (.getfield 27, 3) := by decide +kernel
theorem dX3_push_77 : decode cX3_push 77 = .ok (.iload_n 3, 1) := by decide +kernel
theorem dX3_push_78 : decode cX3_push 78 = .ok (.iaload, 1) := by decide +kernel
theorem dX3_push_79 : decode cX3_push 79 = .ok (.bipush 8, 2) := by decide +kernel
theorem dX3_push_81 : decode cX3_push 81 = .ok (.imul, 1) := by decide +kernel
theorem dX3_push_82 : decode cX3_push 82 = .ok (.iload_n 3, 1) := by decide +kernel
theorem dX3_push_83 : decode cX3_push 83 = .ok (.iadd, 1) := by decide +kernel
theorem dX3_push_84 : decode cX3_push 84 = .ok (.dup2, 1) := by decide +kernel
theorem dX3_push_85 : decode cX3_push 85 = .ok (.iaload, 1) := by decide +kernel
theorem dX3_push_86 : decode cX3_push 86 = .ok (.iload_n 2, 1) := by decide +kernel
theorem dX3_push_87 : decode cX3_push 87 = .ok (.isub, 1) := by decide +kernel
theorem dX3_push_88 : decode cX3_push 88 = .ok (.iastore, 1) := by decide +kernel
theorem dX3_push_89 : decode cX3_push 89 = .ok (.aload_n 0, 1) := by decide +kernel
theorem dX3_push_90 : decode cX3_push 90 = .ok (.getfield 21, 3) := by decide +kernel
theorem dX3_push_93 : decode cX3_push 93 = .ok (.iload_n 3, 1) := by decide +kernel
theorem dX3_push_94 : decode cX3_push 94 = .ok (.bipush 8, 2) := by decide +kernel
theorem dX3_push_96 : decode cX3_push 96 = .ok (.imul, 1) := by decide +kernel
theorem dX3_push_97 : decode cX3_push 97 = .ok (.aload_n 0, 1) := by decide +kernel
theorem dX3_push_98 : decode cX3_push 98 = .ok (.getfield 27, 3) := by decide +kernel
theorem dX3_push_101 : decode cX3_push 101 = .ok (.iload_n 3, 1) := by decide +kernel
theorem dX3_push_102 : decode cX3_push 102 = .ok (.iaload, 1) := by decide +kernel
theorem dX3_push_103 : decode cX3_push 103 = .ok (.iadd, 1) := by decide +kernel
theorem dX3_push_104 : decode cX3_push 104 = .ok (.dup2, 1) := by decide +kernel
theorem dX3_push_105 : decode cX3_push 105 = .ok (.iaload, 1) := by decide +kernel
theorem dX3_push_106 : decode cX3_push 106 = .ok (.iload_n 2, 1) := by decide +kernel
theorem dX3_push_107 : decode cX3_push 107 = .ok (.iadd, 1) := by decide +kernel
theorem dX3_push_108 : decode cX3_push 108 = .ok (.iastore, 1) := by decide +kernel
theorem dX3_push_109 : decode cX3_push 109 = .ok (.aload_n 0, 1) := by decide +kernel
theorem dX3_push_110 : decode cX3_push 110 = .ok (.getfield 27, 3) := by decide +kernel
theorem dX3_push_113 : decode cX3_push 113 = .ok (.iload_n 3, 1) := by decide +kernel
theorem dX3_push_114 : decode cX3_push 114 = .ok (.iaload, 1) := by decide +kernel
theorem dX3_push_115 : decode cX3_push 115 = .ok (.istore_n 3, 1) := by decide +kernel
theorem dX3_push_116 : decode cX3_push 116 = .ok (.iinc 4 1, 3) := by decide +kernel
theorem dX3_push_119 : decode cX3_push 119 = .ok (.goto (-61), 3) := by decide +kernel
theorem dX3_push_122 : decode cX3_push 122 = .ok (.iload_n 2, 1) := by decide +kernel
theorem dX3_push_123 : decode cX3_push 123 = .ok (.ireturn, 1) := by decide +kernel
theorem dX4_init_0 : decode cX4_init 0 = .ok (.aload_n 0, 1) := by decide +kernel
theorem dX4_init_1 : decode cX4_init 1 = .ok (.invokespecial 3, 3) := by decide +kernel
theorem dX4_init_4 : decode cX4_init 4 = .ok (.aload_n 0, 1) := by decide +kernel
theorem dX4_init_5 : decode cX4_init 5 = .ok (.bipush 108, 2) := by decide +kernel
theorem dX4_init_7 : decode cX4_init 7 = .ok (.newarray .int, 2) := by decide +kernel
theorem dX4_init_9 : decode cX4_init 9 = .ok (.putfield 9, 3) := by decide +kernel
theorem dX4_init_12 : decode cX4_init 12 = .ok (.aload_n 0, 1) := by decide +kernel
theorem dX4_init_13 : decode cX4_init 13 = .ok (.bipush 9, 2) := by decide +kernel
theorem dX4_init_15 : decode cX4_init 15 = .ok (.newarray .int, 2) := by decide +kernel
theorem dX4_init_17 : decode cX4_init 17 = .ok (.putfield 15, 3) := by decide +kernel
theorem dX4_init_20 : decode cX4_init 20 = .ok (.aload_n 0, 1) := by decide +kernel
theorem dX4_init_21 : decode cX4_init 21 = .ok (.aload_n 1, 1) := by decide +kernel
theorem dX4_init_22 : decode cX4_init 22 = .ok (.putfield 18, 3) := by decide +kernel
theorem dX4_init_25 : decode cX4_init 25 = .ok (.return_, 1) := by decide +kernel
theorem dX4_load_0 : decode cX4_load 0 = .ok (.aload_n 0, 1) := by decide +kernel
theorem dX4_load_1 : decode cX4_load 1 = .ok (.getfield 18, 3) := by decide +kernel
theorem dX4_load_4 : decode cX4_load 4 = .ok (.bipush 48, 2) := by decide +kernel
theorem dX4_load_6 : decode cX4_load 6 = .ok (.bipush 57, 2) := by decide +kernel
theorem dX4_load_8 : decode cX4_load 8 = .ok (.invokevirtual 22, 3) := by decide +kernel
theorem dX4_load_11 : decode cX4_load 11 = .ok (.ifCond .ne 11, 3) := by decide +kernel
theorem dX4_load_14 : decode cX4_load 14 = .ok (.aload_n 0, 1) := by decide +kernel
theorem dX4_load_15 : decode cX4_load 15 = .ok (.getfield 18, 3) := by decide +kernel
theorem dX4_load_18 : decode cX4_load 18 = .ok (.getfield 28, 3) := by decide +kernel
theorem dX4_load_21 : decode cX4_load 21 = .ok (.ireturn, 1) := by decide +kernel
theorem dX4_load_22 : decode cX4_load 22 = .ok (.iconst 0, 1) := by decide +kernel
theorem dX4_load_23 : decode cX4_load 23 = .ok (.istore_n 3, 1) := by decide +kernel
theorem dX4_load_24 : decode cX4_load 24 = .ok (.iload_n 3, 1) := by decide +kernel
theorem dX4_load_25 : decode cX4_load 25 = .ok (.iload_n 2, 1) := by decide +kernel
theorem dX4_load_26 : decode cX4_load 26 = .ok (.if_icmp .ge 37, 3) := by decide +kernel
theorem dX4_load_29 : decode cX4_load 29 = .ok (.iload_n 3, 1) := by decide +kernel
theorem dX4_load_30 : decode cX4_load 30 = .ok (.bipush 12, 2) := by decide +kernel
theorem dX4_load_32 : decode cX4_load 32 = .ok (.if_icmp .ge 31, 3) := by decide +kernel
theorem dX4_load_35 : decode cX4_load 35 = .ok (.aload_n 0, 1) := by decide +kernel
theorem dX4_load_36 : decode cX4_load 36 = .ok (.getfield 9, 3) := by decide +kernel
theorem dX4_load_39 : decode cX4_load 39 = .ok (.iload_n 1, 1) := by decide +kernel
theorem dX4_load_40 : decode cX4_load 40 = .ok (.bipush 12, 2) := by decide +kernel
theorem dX4_load_42 : decode cX4_load 42 = .ok (.imul, 1) := by decide +kernel
theorem dX4_load_43 : decode cX4_load 43 = .ok (.iload_n 3, 1) := by decide +kernel
theorem dX4_load_44 : decode cX4_load 44 = .ok (.iadd, 1) := by decide +kernel
theorem dX4_load_45 : decode cX4_load 45 = .ok (.aload_n 0, 1) := by decide +kernel
theorem dX4_load_46 : decode cX4_load 46 = .ok (.getfield 18, 3) := by decide +kernel
theorem dX4_load_49 : decode cX4_load 49 = .ok (.iload_n 3, 1) := by decide +kernel
theorem dX4_load_50 : decode cX4_load 50 = .ok (.invokevirtual 32, 3) := by decide +kernel
theorem dX4_load_53 : decode cX4_load 53 = .ok (.bipush 48, 2) := by decide +kernel
theorem dX4_load_55 : decode cX4_load 55 = .ok (.isub, 1) := by decide +kernel
theorem dX4_load_56 : decode cX4_load 56 = .ok (.iastore, 1) := by decide +kernel
theorem dX4_load_57 : decode cX4_load 57 = .ok (.iinc 3 1, 3) := by decide +kernel
theorem dX4_load_60 : decode cX4_load 60 = .ok (.goto (-36), 3) := by decide +kernel
theorem dX4_load_63 : decode cX4_load 63 = .ok (.aload_n 0, 1) := by decide +kernel
theorem dX4_load_64 : decode cX4_load 64 = .ok (.getfield 15, 3) := by decide +kernel
theorem dX4_load_67 : decode cX4_load 67 = .ok (.iload_n 1, 1) := by decide +kernel
theorem dX4_load_68 : decode cX4_load 68 = .ok (.iload_n 2, 1) := by decide +kernel
theorem dX4_load_69 : decode cX4_load 69 = .ok (.iastore, 1) := by decide +kernel
theorem dX4_load_70 : decode cX4_load 70 = .ok (.iload_n 2, 1) := by decide +kernel
theorem dX4_load_71 : decode cX4_load 71 = .ok (.ireturn, 1) := by decide +kernel
theorem dX4_begins_0 : decode cX4_begins 0 = .ok (.aload_n 0, 1) := by decide +kernel
theorem dX4_begins_1 : decode cX4_begins 1 = .ok (.getfield 15, 3) := by decide +kernel
theorem dX4_begins_4 : decode cX4_begins 4 = .ok (.iload_n 2, 1) := by decide +kernel
theorem dX4_begins_5 : decode cX4_begins 5 = .ok (.iaload, 1) := by decide +kernel
theorem dX4_begins_6 : decode cX4_begins 6 = .ok (.ifCond .eq 18, 3) := by decide +kernel
theorem dX4_begins_9 : decode cX4_begins 9 = .ok (.aload_n 0, 1) := by decide +kernel
theorem dX4_begins_10 : decode cX4_begins 10 = .ok (.getfield 15, 3) := by decide +kernel
theorem dX4_begins_13 : decode cX4_begins 13 = .ok (.iload_n 2, 1) := by decide +kernel
theorem dX4_begins_14 : decode cX4_begins 14 = .ok (.iaload, 1) := by decide +kernel
theorem dX4_begins_15 : decode cX4_begins 15 = .ok (.aload_n 0, 1) := by decide +kernel
theorem dX4_begins_16 : decode cX4_begins 16 = .ok (.getfield 15, 3) := by decide +kernel
theorem dX4_begins_19 : decode cX4_begins 19 = .ok (.iload_n 1, 1) := by decide +kernel
theorem dX4_begins_20 : decode cX4_begins 20 = .ok (.iaload, 1) := by decide +kernel
theorem dX4_begins_21 : decode cX4_begins 21 = .ok (.if_icmp .le 5, 3) := by decide +kernel
theorem dX4_begins_24 : decode cX4_begins 24 = .ok (.iconst 0, 1) := by decide +kernel
theorem dX4_begins_25 : decode cX4_begins 25 = .ok (.ireturn, 1) := by decide +kernel
theorem dX4_begins_26 : decode cX4_begins 26 = .ok (.iconst 0, 1) := by decide +kernel
theorem dX4_begins_27 : decode cX4_begins 27 = .ok (.istore_n 3, 1) := by decide +kernel
theorem dX4_begins_28 : decode cX4_begins 28 = .ok (.iload_n 3, 1) := by decide +kernel
theorem dX4_begins_29 : decode cX4_begins 29 = .ok (.aload_n 0, 1) := by decide +kernel
theorem dX4_begins_30 : decode cX4_begins 30 = .ok (.getfield 15, 3) := by decide +kernel
theorem dX4_begins_33 : decode cX4_begins 33 = .ok (.iload_n 2, 1) := by decide +kernel
theorem dX4_begins_34 : decode cX4_begins 34 = .ok (.iaload, 1) := by decide +kernel
theorem dX4_begins_35 : decode cX4_begins 35 = .ok (.if_icmp .ge 36, 3) := by decide +kernel
theorem dX4_begins_38 : decode cX4_begins 38 = .ok (.aload_n 0, 1) := by decide +kernel
theorem dX4_begins_39 : decode cX4_begins 39 = .ok (.getfield 9, 3) := by decide +kernel
theorem dX4_begins_42 : decode cX4_begins 42 = .ok (.iload_n 1, 1) := by decide +kernel
theorem dX4_begins_43 : decode cX4_begins 43 = .ok (.bipush 12, 2) := by decide +kernel
theorem dX4_begins_45 : decode cX4_begins 45 = .ok (.imul, 1) := by decide +kernel
theorem dX4_begins_46 : decode cX4_begins 46 = .ok (.iload_n 3, 1) := by decide +kernel
theorem dX4_begins_47 : decode cX4_begins 47 = .ok (.iadd, 1) := by decide +kernel
theorem dX4_begins_48 : decode cX4_begins 48 = .ok (.iaload, 1) := by decide +kernel
theorem dX4_begins_49 : decode cX4_begins 49 = .ok (.aload_n 0, 1) := by decide +kernel
theorem dX4_begins_50 : decode cX4_begins 50 = .ok (.getfield 9, 3) := by decide +kernel
theorem dX4_begins_53 : decode cX4_begins 53 = .ok (.iload_n 2, 1) := by decide +kernel
theorem dX4_begins_54 : decode cX4_begins 54 = .ok (.bipush 12, 2) := by decide +kernel
theorem dX4_begins_56 : decode cX4_begins 56 = .ok (.imul, 1) := by decide +kernel
theorem dX4_begins_57 : decode cX4_begins 57 = .ok (.iload_n 3, 1) := by decide +kernel
theorem dX4_begins_58 : decode cX4_begins 58 = .ok (.iadd, 1) := by decide +kernel
theorem dX4_begins_59 : decode cX4_begins 59 = .ok (.iaload, 1) := by decide +kernel
theorem dX4_begins_60 : decode cX4_begins 60 = .ok (.if_icmp .eq 5, 3) := by decide +kernel
theorem dX4_begins_63 : decode cX4_begins 63 = .ok (.iconst 0, 1) := by decide +kernel
theorem dX4_begins_64 : decode cX4_begins 64 = .ok (.ireturn, 1) := by decide +kernel
theorem dX4_begins_65 : decode cX4_begins 65 = .ok (.iinc 3 1, 3) := by decide +kernel
theorem dX4_begins_68 : decode cX4_begins 68 = .ok (.goto (-40), 3) := by decide +kernel
theorem dX4_begins_71 : decode cX4_begins 71 = .ok (.iconst 1, 1) := by decide +kernel
theorem dX4_begins_72 : decode cX4_begins 72 = .ok (.ireturn, 1) := by decide +kernel
theorem dX4_reached_0 : decode cX4_reached 0 = .ok (.iconst (-1), 1) := by decide +kernel
theorem dX4_reached_1 : decode cX4_reached 1 = .ok (.istore_n 1, 1) := by decide +kernel
theorem dX4_reached_2 : decode cX4_reached 2 = .ok (.iconst 0, 1) := by decide +kernel
theorem dX4_reached_3 : decode cX4_reached 3 = .ok (.istore_n 2, 1) := by decide +kernel
theorem dX4_reached_4 : decode cX4_reached 4 = .ok (.iload_n 2, 1) := by decide +kernel
theorem dX4_reached_5 : decode cX4_reached 5 = .ok (.bipush 8, 2) := by decide +kernel
theorem dX4_reached_7 : decode cX4_reached 7 = .ok (.if_icmp .ge 41, 3) := by decide +kernel
theorem dX4_reached_10 : decode cX4_reached 10 = .ok (.aload_n 0, 1) := by decide +kernel
theorem dX4_reached_11 : decode cX4_reached 11 = .ok (.bipush 8, 2) := by decide +kernel
theorem dX4_reached_13 : decode cX4_reached 13 = .ok (.iload_n 2, 1) := by decide +kernel
theorem dX4_reached_14 : decode cX4_reached 14 = .ok (.invokevirtual 36, 3) := by decide +kernel
theorem dX4_reached_17 : decode cX4_reached 17 = .ok (.ifCond .eq 25, 3) := by decide +kernel
theorem dX4_reached_20 : decode cX4_reached 20 = .ok (.iload_n 1, 1) := by decide +kernel
theorem dX4_reached_21 : decode cX4_reached 21 = .ok (.iconst (-1), 1) := by decide +kernel
theorem dX4_reached_22 : decode cX4_reached 22 = .ok (.if_icmp .eq 18, 3) := by decide +kernel
theorem dX4_reached_25 : decode cX4_reached 25 = .ok (.aload_n 0, 1) := by decide +kernel
theorem dX4_reached_26 : decode cX4_reached 26 = .ok (.getfield 15, 3) := by decide +kernel
theorem dX4_reached_29 : decode cX4_reached 29 = .ok (.iload_n 2, 1) := by decide +kernel
theorem dX4_reached_30 : decode cX4_reached 30 = .ok (.iaload, 1) := by decide +kernel
theorem dX4_reached_31 : decode cX4_reached 31 = .ok (.aload_n 0, 1) := by decide +kernel
theorem dX4_reached_32 : decode cX4_reached 32 = .ok (.getfield 15, 3) := by decide +kernel
theorem dX4_reached_35 : decode cX4_reached 35 = .ok (.iload_n 1, 1) := by decide +kernel
theorem dX4_reached_36 : decode cX4_reached 36 = .ok (.iaload, 1) := by decide +kernel
theorem dX4_reached_37 : decode cX4_reached 37 = .ok (.if_icmp .le 5, 3) := by decide +kernel
theorem dX4_reached_40 : decode cX4_reached 40 = .ok (.iload_n 2, 1) := by decide +kernel
theorem dX4_reached_41 : decode cX4_reached 41 = .ok (.istore_n 1, 1) := by decide +kernel
theorem dX4_reached_42 : decode cX4_reached 42 = .ok (.iinc 2 1, 3) := by decide +kernel
theorem dX4_reached_45 : decode cX4_reached 45 = .ok (.goto (-41), 3) := by decide +kernel
theorem dX4_reached_48 : decode cX4_reached 48 = .ok (.iload_n 1, 1) := by decide +kernel
theorem dX4_reached_49 : decode cX4_reached 49 = .ok (.ireturn, 1) := by decide +kernel
theorem dX4_isClear_0 : decode cX4_isClear 0 = .ok (.iconst 0, 1) := by decide +kernel
theorem dX4_isClear_1 : decode cX4_isClear 1 = .ok (.istore_n 1, 1) := by decide +kernel
theorem dX4_isClear_2 : decode cX4_isClear 2 = .ok (.iload_n 1, 1) := by decide +kernel
theorem dX4_isClear_3 : decode cX4_isClear 3 = .ok (.bipush 8, 2) := by decide +kernel
theorem dX4_isClear_5 : decode cX4_isClear 5 = .ok (.if_icmp .ge 39, 3) := by decide +kernel
theorem dX4_isClear_8 : decode cX4_isClear 8 = .ok (.iconst 0, 1) := by decide +kernel
theorem dX4_isClear_9 : decode cX4_isClear 9 = .ok (.istore_n 2, 1) := by decide +kernel
theorem dX4_isClear_10 : decode cX4_isClear 10 = .ok (.iload_n 2, 1) := by decide +kernel
theorem dX4_isClear_11 : decode cX4_isClear 11 = .ok (.bipush 8, 2) := by decide +kernel
theorem dX4_isClear_13 : decode cX4_isClear 13 = .ok (.if_icmp .ge 25, 3) := by decide +kernel
theorem dX4_isClear_16 : decode cX4_isClear 16 = .ok (.iload_n 1, 1) := by decide +kernel
theorem dX4_isClear_17 : decode cX4_isClear 17 = .ok (.iload_n 2, 1) := by decide +kernel
theorem dX4_isClear_18 : decode cX4_isClear 18 = .ok (.if_icmp .eq 14, 3) := by decide +kernel
theorem dX4_isClear_21 : decode cX4_isClear 21 = .ok (.aload_n 0, 1) := by decide +kernel
theorem dX4_isClear_22 : decode cX4_isClear 22 = .ok (.iload_n 1, 1) := by decide +kernel
theorem dX4_isClear_23 : decode cX4_isClear 23 = .ok (.iload_n 2, 1) := by decide +kernel
theorem dX4_isClear_24 : decode cX4_isClear 24 = .ok (.invokevirtual 36, 3) := by decide +kernel
theorem dX4_isClear_27 : decode cX4_isClear 27 = .ok (.ifCond .eq 5, 3) := by decide +kernel
theorem dX4_isClear_30 : decode cX4_isClear 30 = .ok (.iconst 0, 1) := by decide +kernel
theorem dX4_isClear_31 : decode cX4_isClear 31 = .ok (.ireturn, 1) := by decide +kernel
theorem dX4_isClear_32 : decode cX4_isClear 32 = .ok (.iinc 2 1, 3) := by decide +kernel
theorem dX4_isClear_35 : decode cX4_isClear 35 = .ok (.goto (-25), 3) := by decide +kernel
theorem dX4_isClear_38 : decode cX4_isClear 38 = .ok (.iinc 1 1, 3) := by decide +kernel
theorem dX4_isClear_41 : decode cX4_isClear 41 = .ok (.goto (-39), 3) := by decide +kernel
theorem dX4_isClear_44 : decode cX4_isClear 44 = .ok (.iconst 1, 1) := by decide +kernel
theorem dX4_isClear_45 : decode cX4_isClear 45 = .ok (.ireturn, 1) := by decide +kernel
theorem dX4_leastFree_0 : decode cX4_leastFree 0 = .ok (.iload_n 1, 1) := by decide +kernel
theorem dX4_leastFree_1 : decode cX4_leastFree 1 = .ok (.iconst 1, 1) := by decide +kernel
theorem dX4_leastFree_2 : decode cX4_leastFree 2 = .ok (.if_icmp .ne 8, 3) := by decide +kernel
theorem dX4_leastFree_5 : decode cX4_leastFree 5 = .ok (.bipush 10, 2) := by decide +kernel
theorem dX4_leastFree_7 : decode cX4_leastFree 7 = .ok (.goto 16, 3) := by decide +kernel
theorem dX4_leastFree_10 : decode cX4_leastFree 10 = .ok (.iload_n 1, 1) := by decide +kernel
theorem dX4_leastFree_11 : decode cX4_leastFree 11 = .ok (.iconst 2, 1) := by decide +kernel
theorem dX4_leastFree_12 : decode cX4_leastFree 12 = .ok (.if_icmp .ne 8, 3) := by decide +kernel
theorem dX4_leastFree_15 : decode cX4_leastFree 15 = .ok (.bipush 100, 2) := by decide +kernel
theorem dX4_leastFree_17 : decode cX4_leastFree 17 = .ok (.goto 6, 3) := by decide +kernel
theorem dX4_leastFree_20 : decode cX4_leastFree 20 = .ok (.sipush 1000, 3) := by decide +kernel
theorem dX4_leastFree_23 : decode cX4_leastFree 23 = .ok (.istore_n 2, 1) := by decide +kernel
theorem dX4_leastFree_24 : decode cX4_leastFree 24 = .ok (.iconst 0, 1) := by decide +kernel
theorem dX4_leastFree_25 : decode cX4_leastFree 25 = .ok (.istore_n 3, 1) := by decide +kernel
theorem dX4_leastFree_26 : decode cX4_leastFree 26 = .ok (.iload_n 3, 1) := by decide +kernel
theorem dX4_leastFree_27 : decode cX4_leastFree 27 = .ok (.iload_n 2, 1) := by decide +kernel
theorem dX4_leastFree_28 : decode cX4_leastFree 28 = .ok (.if_icmp .ge 20, 3) := by decide +kernel
theorem dX4_leastFree_31 : decode cX4_leastFree 31 = .ok (.aload_n 0, 1) := by decide +kernel
theorem dX4_leastFree_32 : decode cX4_leastFree 32 = .ok (.iload_n 3, 1) := by decide +kernel
theorem dX4_leastFree_33 : decode cX4_leastFree 33 = .ok (.iload_n 1, 1) := by decide +kernel
theorem dX4_leastFree_34 : decode cX4_leastFree 34 = .ok (.invokevirtual 39, 3) := by decide +kernel
theorem dX4_leastFree_37 : decode cX4_leastFree 37 = .ok (.ifCond .eq 5, 3) := by decide +kernel
theorem dX4_leastFree_40 : decode cX4_leastFree 40 = .ok (.iload_n 3, 1) := by decide +kernel
theorem dX4_leastFree_41 : decode cX4_leastFree 41 = .ok (.ireturn, 1) := by decide +kernel
theorem dX4_leastFree_42 : decode cX4_leastFree 42 = .ok (.iinc 3 1, 3) := by decide +kernel
theorem dX4_leastFree_45 : decode cX4_leastFree 45 = .ok (.goto (-19), 3) := by decide +kernel
theorem dX4_leastFree_48 : decode cX4_leastFree 48 = .ok (.bipush (-2), 2) := by decide +kernel
theorem dX4_leastFree_50 : decode cX4_leastFree 50 = .ok (.ireturn, 1) := by decide +kernel
theorem dX4_staysClear_0 : decode cX4_staysClear 0 = .ok (.iload_n 1, 1) := by decide +kernel
theorem dX4_staysClear_1 : decode cX4_staysClear 1 = .ok (.istore_n 3, 1) := by decide +kernel
theorem dX4_staysClear_2 : decode cX4_staysClear 2 = .ok (.iload_n 2, 1) := by decide +kernel
theorem dX4_staysClear_3 : decode cX4_staysClear 3 = .ok (.iconst 1, 1) := by decide +kernel
theorem dX4_staysClear_4 : decode cX4_staysClear 4 = .ok (.isub, 1) := by decide +kernel
theorem dX4_staysClear_5 : decode cX4_staysClear 5 = .ok (.istore 4, 2) := by decide +kernel
theorem dX4_staysClear_7 : decode cX4_staysClear 7 = .ok (.iload 4, 2) := by decide +kernel
theorem dX4_staysClear_9 : decode cX4_staysClear 9 = .ok (.ifCond .lt 28, 3) := by decide +kernel
theorem dX4_staysClear_12 : decode cX4_staysClear 12 = .ok (.aload_n 0, 1) := by decide +kernel
theorem dX4_staysClear_13 : decode cX4_staysClear 13 = .ok (.getfield 9, 3) := by decide +kernel
theorem dX4_staysClear_16 : decode cX4_staysClear 16 = .ok (.bipush 96, 2) := by decide +kernel
theorem dX4_staysClear_18 : decode cX4_staysClear 18 = .ok (.iload 4, 2) := by decide +kernel
theorem dX4_staysClear_20 : decode cX4_staysClear 20 = .ok (.iadd, 1) := by decide +kernel
theorem dX4_staysClear_21 : decode cX4_staysClear 21 = .ok (.iload_n 3, 1) := by decide +kernel
theorem dX4_staysClear_22 : decode cX4_staysClear 22 = .ok (.bipush 10, 2) := by decide +kernel
theorem dX4_staysClear_24 : decode cX4_staysClear 24 = .ok (.irem, 1) := by decide +kernel
theorem dX4_staysClear_25 : decode cX4_staysClear 25 = .ok (.iastore, 1) := by decide +kernel
theorem dX4_staysClear_26 : decode cX4_staysClear 26 = .ok (.iload_n 3, 1) := by decide +kernel
theorem dX4_staysClear_27 : decode cX4_staysClear 27 = .ok (.bipush 10, 2) := by decide +kernel
theorem dX4_staysClear_29 : decode cX4_staysClear 29 = .ok (.idiv, 1) := by decide +kernel
theorem dX4_staysClear_30 : decode cX4_staysClear 30 = .ok (.istore_n 3, 1) := by decide +kernel
theorem dX4_staysClear_31 : decode cX4_staysClear 31 = .ok (.iinc 4 (-1), 3) := by decide +kernel
theorem dX4_staysClear_34 : decode cX4_staysClear 34 = .ok (.goto (-27), 3) := by decide +kernel
theorem dX4_staysClear_37 : decode cX4_staysClear 37 = .ok (.aload_n 0, 1) := by decide +kernel
theorem dX4_staysClear_38 : decode cX4_staysClear 38 = .ok (.getfield 15, 3) := by decide +kernel
theorem dX4_staysClear_41 : decode cX4_staysClear 41 = .ok (.bipush 8, 2) := by decide +kernel
theorem dX4_staysClear_43 : decode cX4_staysClear 43 = .ok (.iload_n 2, 1) := by decide +kernel
theorem dX4_staysClear_44 : decode cX4_staysClear 44 = .ok (.iastore, 1) := by decide +kernel
theorem dX4_staysClear_45 : decode cX4_staysClear 45 = .ok (.iconst 0, 1) := by decide +kernel
theorem dX4_staysClear_46 : decode cX4_staysClear 46 = .ok (.istore 4, 2) := by decide +kernel
theorem dX4_staysClear_48 : decode cX4_staysClear 48 = .ok (.iload 4, 2) := by decide +kernel
theorem dX4_staysClear_50 : decode cX4_staysClear 50 = .ok (.bipush 8, 2) := by decide +kernel
theorem dX4_staysClear_52 : decode cX4_staysClear 52 = .ok (.if_icmp .ge 33, 3) := by decide +kernel
theorem dX4_staysClear_55 : decode cX4_staysClear 55 = .ok (.aload_n 0, 1) := by decide +kernel
theorem dX4_staysClear_56 : decode cX4_staysClear 56 = .ok (.bipush 8, 2) := by decide +kernel
theorem dX4_staysClear_58 : decode cX4_staysClear 58 = .ok (.iload 4, 2) := by decide +kernel
theorem dX4_staysClear_60 : decode cX4_staysClear 60 = .ok (.invokevirtual 36, 3) := by decide +kernel
theorem dX4_staysClear_63 : decode cX4_staysClear 63 = .ok (.ifCond .ne 14, 3) := by decide +kernel
theorem dX4_staysClear_66 : decode cX4_staysClear 66 = .ok (.aload_n 0, 1) := by decide +kernel
theorem dX4_staysClear_67 : decode cX4_staysClear 67 = .ok (.iload 4, 2) := by decide +kernel
theorem dX4_staysClear_69 : decode cX4_staysClear 69 = .ok (.bipush 8, 2) := by decide +kernel
theorem dX4_staysClear_71 : decode cX4_staysClear 71 = .ok (.invokevirtual 36, 3) := by decide +kernel
theorem dX4_staysClear_74 : decode cX4_staysClear 74 = .ok (.ifCond .eq 5, 3) := by decide +kernel
theorem dX4_staysClear_77 : decode cX4_staysClear 77 = .ok (.iconst 0, 1) := by decide +kernel
theorem dX4_staysClear_78 : decode cX4_staysClear 78 = .ok (.ireturn, 1) := by decide +kernel
theorem dX4_staysClear_79 : decode cX4_staysClear 79 = .ok (.iinc 4 1, 3) := by decide +kernel
theorem dX4_staysClear_82 : decode cX4_staysClear 82 = .ok (.goto (-34), 3) := by decide +kernel
theorem dX4_staysClear_85 : decode cX4_staysClear 85 = .ok (.iconst 1, 1) := by decide +kernel
theorem dX4_staysClear_86 : decode cX4_staysClear 86 = .ok (.ireturn, 1) := by decide +kernel
theorem dX5_init_0 : decode cX5_init 0 = .ok (.aload_n 0, 1) := by decide +kernel
theorem dX5_init_1 : decode cX5_init 1 = .ok (.invokespecial 3, 3) := by decide +kernel
theorem dX5_init_4 : decode cX5_init 4 = .ok (.aload_n 0, 1) := by decide +kernel
theorem dX5_init_5 : decode cX5_init 5 = .ok (.bipush 10, 2) := by decide +kernel
theorem dX5_init_7 : decode cX5_init 7 = .ok (.newarray .int, 2) := by decide +kernel
theorem dX5_init_9 : decode cX5_init 9 = .ok (.putfield 11, 3) := by decide +kernel
theorem dX5_init_12 : decode cX5_init 12 = .ok (.aload_n 0, 1) := by decide +kernel
theorem dX5_init_13 : decode cX5_init 13 = .ok (.bipush 64, 2) := by decide +kernel
theorem dX5_init_15 : decode cX5_init 15 = .ok (.newarray .int, 2) := by decide +kernel
theorem dX5_init_17 : decode cX5_init 17 = .ok (.putfield 15, 3) := by decide +kernel
theorem dX5_init_20 : decode cX5_init 20 = .ok (.return_, 1) := by decide +kernel
theorem dX5_lookAt_0 : decode cX5_lookAt 0 = .ok (.aload_n 0, 1) := by decide +kernel
theorem dX5_lookAt_1 : decode cX5_lookAt 1 = .ok (.getfield 11, 3) := by decide +kernel
theorem dX5_lookAt_4 : decode cX5_lookAt 4 = .ok (.iconst 0, 1) := by decide +kernel
theorem dX5_lookAt_5 : decode cX5_lookAt 5 = .ok (.iload_n 2, 1) := by decide +kernel
theorem dX5_lookAt_6 : decode cX5_lookAt 6 = .ok (.iastore, 1) := by decide +kernel
theorem dX5_lookAt_7 : decode cX5_lookAt 7 = .ok (.aload_n 0, 1) := by decide +kernel
theorem dX5_lookAt_8 : decode cX5_lookAt 8 = .ok (.getfield 11, 3) := by decide +kernel
theorem dX5_lookAt_11 : decode cX5_lookAt 11 = .ok (.iconst 1, 1) := by decide +kernel
theorem dX5_lookAt_12 : decode cX5_lookAt 12 = .ok (.aload_n 1, 1) := by decide +kernel
theorem dX5_lookAt_13 : decode cX5_lookAt 13 = .ok (.getfield 18, 3) := by decide +kernel
theorem dX5_lookAt_16 : decode cX5_lookAt 16 = .ok (.iload_n 2, 1) := by decide +kernel
theorem dX5_lookAt_17 : decode cX5_lookAt 17 = .ok (.iaload, 1) := by decide +kernel
theorem dX5_lookAt_18 : decode cX5_lookAt 18 = .ok (.iastore, 1) := by decide +kernel
theorem dX5_lookAt_19 : decode cX5_lookAt 19 = .ok (.aload_n 0, 1) := by decide +kernel
theorem dX5_lookAt_20 : decode cX5_lookAt 20 = .ok (.getfield 11, 3) := by decide +kernel
theorem dX5_lookAt_23 : decode cX5_lookAt 23 = .ok (.iconst 2, 1) := by decide +kernel
theorem dX5_lookAt_24 : decode cX5_lookAt 24 = .ok (.aload_n 1, 1) := by decide +kernel
theorem dX5_lookAt_25 : decode cX5_lookAt 25 = .ok (.getfield 23, 3) := by decide +kernel
theorem dX5_lookAt_28 : decode cX5_lookAt 28 = .ok (.iload_n 2, 1) := by decide +kernel
theorem dX5_lookAt_29 : decode cX5_lookAt 29 = .ok (.ishr, 1) := by decide +kernel
theorem dX5_lookAt_30 : decode cX5_lookAt 30 = .ok (.iconst 1, 1) := by decide +kernel
theorem dX5_lookAt_31 : decode cX5_lookAt 31 = .ok (.iand, 1) := by decide +kernel
theorem dX5_lookAt_32 : decode cX5_lookAt 32 = .ok (.ifCond .ne 7, 3) := by decide +kernel
theorem dX5_lookAt_35 : decode cX5_lookAt 35 = .ok (.iconst 1, 1) := by decide +kernel
theorem dX5_lookAt_36 : decode cX5_lookAt 36 = .ok (.goto 4, 3) := by decide +kernel
theorem dX5_lookAt_39 : decode cX5_lookAt 39 = .ok (.iconst 0, 1) := by decide +kernel
theorem dX5_lookAt_40 : decode cX5_lookAt 40 = .ok (.iastore, 1) := by decide +kernel
theorem dX5_lookAt_41 : decode cX5_lookAt 41 = .ok (.aload_n 0, 1) := by decide +kernel
theorem dX5_lookAt_42 : decode cX5_lookAt 42 = .ok (.getfield 11, 3) := by decide +kernel
theorem dX5_lookAt_45 : decode cX5_lookAt 45 = .ok (.iconst 3, 1) := by decide +kernel
theorem dX5_lookAt_46 : decode cX5_lookAt 46 = .ok (.aload_n 1, 1) := by decide +kernel
theorem dX5_lookAt_47 : decode cX5_lookAt 47 = .ok (.getfield 27, 3) := by decide +kernel
theorem dX5_lookAt_50 : decode cX5_lookAt 50 = .ok (.iload_n 2, 1) := by decide +kernel
theorem dX5_lookAt_51 : decode cX5_lookAt 51 = .ok (.iaload, 1) := by decide +kernel
theorem dX5_lookAt_52 : decode cX5_lookAt 52 = .ok (.iastore, 1) := by decide +kernel
theorem dX5_lookAt_53 : decode cX5_lookAt 53 = .ok (.aload_n 0, 1) := by decide +kernel
theorem dX5_lookAt_54 : decode cX5_lookAt 54 = .ok (.getfield 11, 3) := by decide +kernel
theorem dX5_lookAt_57 : decode cX5_lookAt 57 = .ok (.iconst 4, 1) := by decide +kernel
theorem dX5_lookAt_58 : decode cX5_lookAt 58 = .ok (.aload_n 1, 1) := by decide +kernel
theorem dX5_lookAt_59 : decode cX5_lookAt 59 = .ok (.getfield 30, 3) := by decide +kernel
theorem dX5_lookAt_62 : decode cX5_lookAt 62 = .ok (.bipush 100, 2) := by decide +kernel
theorem dX5_lookAt_64 : decode cX5_lookAt 64 = .ok (.idiv, 1) := by decide +kernel
theorem dX5_lookAt_65 : decode cX5_lookAt 65 = .ok (.iastore, 1) := by decide +kernel
theorem dX5_lookAt_66 : decode cX5_lookAt 66 = .ok (.aload_n 0, 1) := by decide +kernel
theorem dX5_lookAt_67 : decode cX5_lookAt 67 = .ok (.getfield 11, 3) := by decide +kernel
theorem dX5_lookAt_70 : decode cX5_lookAt 70 = .ok (.iconst 5, 1) := by decide +kernel
theorem dX5_lookAt_71 : decode cX5_lookAt 71 = .ok (.aload_n 1, 1) := by decide +kernel
theorem dX5_lookAt_72 : decode cX5_lookAt 72 = .ok (.getfield 33, 3) := by decide +kernel
theorem dX5_lookAt_75 : decode cX5_lookAt 75 = .ok (.bipush 60, 2) := by decide +kernel
theorem dX5_lookAt_77 : decode cX5_lookAt 77 = .ok (.irem, 1) := by decide +kernel
theorem dX5_lookAt_78 : decode cX5_lookAt 78 = .ok (.iastore, 1) := by decide +kernel
theorem dX5_lookAt_79 : decode cX5_lookAt 79 = .ok (.aload_n 0, 1) := by decide +kernel
theorem dX5_lookAt_80 : decode cX5_lookAt 80 = .ok (.getfield 11, 3) := by decide +kernel
theorem dX5_lookAt_83 : decode cX5_lookAt 83 = .ok (.bipush 6, 2) := by decide +kernel
theorem dX5_lookAt_85 : decode cX5_lookAt 85 = .ok (.aload_n 1, 1) := by decide +kernel
theorem dX5_lookAt_86 : decode cX5_lookAt 86 = .ok (.getfield 33, 3) := by decide +kernel
theorem dX5_lookAt_89 : decode cX5_lookAt 89 = .ok (.bipush 60, 2) := by decide +kernel
theorem dX5_lookAt_91 : decode cX5_lookAt 91 = .ok (.idiv, 1) := by decide +kernel
theorem dX5_lookAt_92 : decode cX5_lookAt 92 = .ok (.bipush 24, 2) := by decide +kernel
theorem dX5_lookAt_94 : decode cX5_lookAt 94 = .ok (.irem, 1) := by decide +kernel
theorem dX5_lookAt_95 : decode cX5_lookAt 95 = .ok (.iastore, 1) := by decide +kernel
theorem dX5_lookAt_96 : decode cX5_lookAt 96 = .ok (.aload_n 0, 1) := by decide +kernel
theorem dX5_lookAt_97 : decode cX5_lookAt 97 = .ok (.getfield 11, 3) := by decide +kernel
theorem dX5_lookAt_100 : decode cX5_lookAt 100 = .ok (.bipush 7, 2) := by decide +kernel
theorem dX5_lookAt_102 : decode cX5_lookAt 102 = .ok (.iconst 0, 1) := by decide +kernel
theorem dX5_lookAt_103 : decode cX5_lookAt 103 = .ok (.iastore, 1) := by decide +kernel
theorem dX5_lookAt_104 : decode cX5_lookAt 104 = .ok (.aload_n 0, 1) := by decide +kernel
theorem dX5_lookAt_105 : decode cX5_lookAt 105 = .ok (.getfield 11, 3) := by decide +kernel
theorem dX5_lookAt_108 : decode cX5_lookAt 108 = .ok (.bipush 8, 2) := by decide +kernel
theorem dX5_lookAt_110 : decode cX5_lookAt 110 = .ok (.iconst 0, 1) := by decide +kernel
theorem dX5_lookAt_111 : decode cX5_lookAt 111 = .ok (.iastore, 1) := by decide +kernel
theorem dX5_lookAt_112 : decode cX5_lookAt 112 = .ok (.aload_n 0, 1) := by decide +kernel
theorem dX5_lookAt_113 : decode cX5_lookAt 113 = .ok (.getfield 11, 3) := by decide +kernel
theorem dX5_lookAt_116 : decode cX5_lookAt 116 = .ok (.bipush 9, 2) := by decide +kernel
theorem dX5_lookAt_118 : decode cX5_lookAt 118 = .ok (.iconst 0, 1) := by decide +kernel
theorem dX5_lookAt_119 : decode cX5_lookAt 119 = .ok (.iastore, 1) := by decide +kernel
theorem dX5_lookAt_120 : decode cX5_lookAt 120 = .ok (.return_, 1) := by decide +kernel
theorem dX5_lookAtCall_0 : decode cX5_lookAtCall 0 = .ok (.aload_n 0, 1) := by decide +kernel
theorem dX5_lookAtCall_1 : decode cX5_lookAtCall 1 = .ok (.getfield 11, 3) := by decide +kernel
theorem dX5_lookAtCall_4 : decode cX5_lookAtCall 4 = .ok (.bipush 7, 2) := by decide +kernel
theorem dX5_lookAtCall_6 : decode cX5_lookAtCall 6 = .ok (.iload_n 2, 1) := by decide +kernel
theorem dX5_lookAtCall_7 : decode cX5_lookAtCall 7 = .ok (.iastore, 1) := by decide +kernel
theorem dX5_lookAtCall_8 : decode cX5_lookAtCall 8 = .ok (.aload_n 0, 1) := by decide +kernel
theorem dX5_lookAtCall_9 : decode cX5_lookAtCall 9 = .ok (.getfield 11, 3) := by decide +kernel
theorem dX5_lookAtCall_12 : decode cX5_lookAtCall 12 = .ok (.bipush 8, 2) := by decide +kernel
theorem dX5_lookAtCall_14 : decode cX5_lookAtCall 14 = .ok (.aload_n 1, 1) := by decide +kernel
theorem dX5_lookAtCall_15 : decode cX5_lookAtCall 15 = .ok (.getfield 23, 3) := by decide +kernel
theorem dX5_lookAtCall_18 : decode cX5_lookAtCall 18 = .ok (.iload_n 2, 1) := by decide +kernel
theorem dX5_lookAtCall_19 : decode cX5_lookAtCall 19 = .ok (.ishr, 1) := by decide +kernel
theorem dX5_lookAtCall_20 : decode cX5_lookAtCall 20 = .ok (.iconst 1, 1) := by decide +kernel
theorem dX5_lookAtCall_21 : decode cX5_lookAtCall 21 = .ok (.iand, 1) := by decide +kernel
theorem dX5_lookAtCall_22 : decode cX5_lookAtCall 22 = .ok (.iastore, 1) := by decide +kernel
theorem dX5_lookAtCall_23 : decode cX5_lookAtCall 23 = .ok (.aload_n 0, 1) := by decide +kernel
theorem dX5_lookAtCall_24 : decode cX5_lookAtCall 24 = .ok (.getfield 11, 3) := by decide +kernel
theorem dX5_lookAtCall_27 : decode cX5_lookAtCall 27 = .ok (.bipush 9, 2) := by decide +kernel
theorem dX5_lookAtCall_29 : decode cX5_lookAtCall 29 = .ok (.iload_n 3, 1) := by decide +kernel
theorem dX5_lookAtCall_30 : decode cX5_lookAtCall 30 = .ok (.iastore, 1) := by decide +kernel
theorem dX5_lookAtCall_31 : decode cX5_lookAtCall 31 = .ok (.return_, 1) := by decide +kernel
theorem dX5_valueOf_0 : decode cX5_valueOf 0 = .ok (.aload_n 0, 1) := by decide +kernel
theorem dX5_valueOf_1 : decode cX5_valueOf 1 = .ok (.aload_n 1, 1) := by decide +kernel
theorem dX5_valueOf_2 : decode cX5_valueOf 2 = .ok (.iload_n 2, 1) := by decide +kernel
theorem dX5_valueOf_3 : decode cX5_valueOf 3 = .ok (.invokevirtual 36, 3) := by decide +kernel
theorem dX5_valueOf_6 : decode cX5_valueOf 6 = .ok (.istore 4, 2) := by decide +kernel
theorem dX5_valueOf_8 : decode cX5_valueOf 8 = .ok (.iload 4, 2) := by decide +kernel
theorem dX5_valueOf_10 : decode cX5_valueOf 10 = .ok (.iconst (-1), 1) := by decide +kernel
theorem dX5_valueOf_11 : decode cX5_valueOf 11 = .ok (.if_icmp .ne 7, 3) := by decide +kernel
theorem dX5_valueOf_14 : decode cX5_valueOf 14 = .ok (.iconst 0, 1) := by decide +kernel
theorem dX5_valueOf_15 : decode cX5_valueOf 15 = .ok (.goto 26, 3) := by decide +kernel
theorem dX5_valueOf_18 : decode cX5_valueOf 18 = .ok (.aload_n 0, 1) := by decide +kernel
theorem dX5_valueOf_19 : decode cX5_valueOf 19 = .ok (.aload_n 1, 1) := by decide +kernel
theorem dX5_valueOf_20 : decode cX5_valueOf 20 = .ok (.aload_n 1, 1) := by decide +kernel
theorem dX5_valueOf_21 : decode cX5_valueOf 21 = .ok (.getfield 40, 3) := by decide +kernel
theorem dX5_valueOf_24 : decode cX5_valueOf 24 = .ok (.iload 4, 2) := by decide +kernel
theorem dX5_valueOf_26 : decode cX5_valueOf 26 = .ok (.iaload, 1) := by decide +kernel
theorem dX5_valueOf_27 : decode cX5_valueOf 27 = .ok (.aload_n 1, 1) := by decide +kernel
theorem dX5_valueOf_28 : decode cX5_valueOf 28 = .ok (.getfield 45, 3) := by decide +kernel
theorem dX5_valueOf_31 : decode cX5_valueOf 31 = .ok (.iload 4, 2) := by decide +kernel
theorem dX5_valueOf_33 : decode cX5_valueOf 33 = .ok (.iaload, 1) := by decide +kernel
theorem dX5_valueOf_34 : decode cX5_valueOf 34 = .ok (.invokevirtual 48, 3) := by decide +kernel
theorem dX5_valueOf_37 : decode cX5_valueOf 37 = .ok (.iload_n 3, 1) := by decide +kernel
theorem dX5_valueOf_38 : decode cX5_valueOf 38 = .ok (.invokestatic 52, 3) := by decide +kernel
theorem dX5_valueOf_41 : decode cX5_valueOf 41 = .ok (.ireturn, 1) := by decide +kernel
theorem dX5_firstHolding_0 : decode cX5_firstHolding 0 = .ok (.iconst 0, 1) := by decide +kernel
theorem dX5_firstHolding_1 : decode cX5_firstHolding 1 = .ok (.istore_n 3, 1) := by decide +kernel
theorem dX5_firstHolding_2 : decode cX5_firstHolding 2 = .ok (.iload_n 3, 1) := by decide +kernel
theorem dX5_firstHolding_3 : decode cX5_firstHolding 3 = .ok (.aload_n 1, 1) := by decide +kernel
theorem dX5_firstHolding_4 : decode cX5_firstHolding 4 = .ok (.getfield 56, 3) := by decide +kernel
theorem dX5_firstHolding_7 : decode cX5_firstHolding 7 = .ok (.if_icmp .ge 47, 3) := by decide +kernel
theorem dX5_firstHolding_10 : decode cX5_firstHolding 10 = .ok (.iload_n 3, 1) := by decide +kernel
theorem dX5_firstHolding_11 : decode cX5_firstHolding 11 = .ok (.bipush 16, 2) := by decide +kernel
theorem dX5_firstHolding_13 : decode cX5_firstHolding 13 = .ok (.if_icmp .ge 41, 3) := by decide +kernel
theorem dX5_firstHolding_16 : decode cX5_firstHolding 16 = .ok (.aload_n 1, 1) := by decide +kernel
theorem dX5_firstHolding_17 : decode cX5_firstHolding 17 = .ok (.getfield 59, 3) := by decide +kernel
theorem dX5_firstHolding_20 : decode cX5_firstHolding 20 = .ok (.iload_n 3, 1) := by decide +kernel
theorem dX5_firstHolding_21 : decode cX5_firstHolding 21 = .ok (.iaload, 1) := by decide +kernel
theorem dX5_firstHolding_22 : decode cX5_firstHolding 22 = .ok (.iload_n 2, 1) := by decide +kernel
theorem dX5_firstHolding_23 : decode cX5_firstHolding 23 = .ok (.if_icmp .ne 25, 3) := by decide +kernel
theorem dX5_firstHolding_26 : decode cX5_firstHolding 26 = .ok (.aload_n 0, 1) := by decide +kernel
theorem dX5_firstHolding_27 : decode cX5_firstHolding 27 = .ok (.aload_n 1, 1) := by decide +kernel
theorem dX5_firstHolding_28 : decode cX5_firstHolding 28 = .ok (.aload_n 1, 1) := by decide +kernel
theorem dX5_firstHolding_29 : decode cX5_firstHolding 29 = .ok (.getfield 45, 3) := by decide +kernel
theorem dX5_firstHolding_32 : decode cX5_firstHolding 32 = .ok (.iload_n 3, 1) := by decide +kernel
theorem dX5_firstHolding_33 : decode cX5_firstHolding 33 = .ok (.iaload, 1) := by decide +kernel
theorem dX5_firstHolding_34 : decode cX5_firstHolding 34 = .ok (.aload_n 1, 1) := by decide +kernel
theorem dX5_firstHolding_35 : decode cX5_firstHolding 35 = .ok (.getfield 62, 3) := by decide +kernel
theorem dX5_firstHolding_38 : decode cX5_firstHolding 38 = .ok (.iload_n 3, 1) := by decide +kernel
theorem dX5_firstHolding_39 : decode cX5_firstHolding 39 = .ok (.iaload, 1) := by decide +kernel
theorem dX5_firstHolding_40 : decode cX5_firstHolding 40 = .ok (.invokevirtual 48, 3) := by decide +kernel
theorem dX5_firstHolding_43 : decode cX5_firstHolding 43 = .ok (.ifCond .eq 5, 3) := by decide +kernel
theorem dX5_firstHolding_46 : decode cX5_firstHolding 46 = .ok (.iload_n 3, 1) := by decide +kernel
theorem dX5_firstHolding_47 : decode cX5_firstHolding 47 = .ok (.ireturn, 1) := by decide +kernel
theorem dX5_firstHolding_48 : decode cX5_firstHolding 48 = .ok (.iinc 3 1, 3) := by decide +kernel
theorem dX5_firstHolding_51 : decode cX5_firstHolding 51 = .ok (.goto (-49), 3) := by decide +kernel
theorem dX5_firstHolding_54 : decode cX5_firstHolding 54 = .ok (.iconst (-1), 1) := by decide +kernel
theorem dX5_firstHolding_55 : decode cX5_firstHolding 55 = .ok (.ireturn, 1) := by decide +kernel
theorem dX5_reckon_0 : decode cX5_reckon 0 = .ok (.aload_n 0, 1) := by decide +kernel
theorem dX5_reckon_1 : decode cX5_reckon 1 = .ok (.iconst 0, 1) := by decide +kernel
theorem dX5_reckon_2 : decode cX5_reckon 2 = .ok (.putfield 65, 3) := by decide +kernel
theorem dX5_reckon_5 : decode cX5_reckon 5 = .ok (.iconst 0, 1) := by decide +kernel
theorem dX5_reckon_6 : decode cX5_reckon 6 = .ok (.istore 4, 2) := by decide +kernel
theorem dX5_reckon_8 : decode cX5_reckon 8 = .ok (.iload_n 2, 1) := by decide +kernel
theorem dX5_reckon_9 : decode cX5_reckon 9 = .ok (.istore 5, 2) := by decide +kernel
theorem dX5_reckon_11 : decode cX5_reckon 11 = .ok (.iconst 0, 1) := by decide +kernel
theorem dX5_reckon_12 : decode cX5_reckon 12 = .ok (.istore 6, 2) := by decide +kernel
theorem dX5_reckon_14 : decode cX5_reckon 14 = .ok (.iload 6, 2) := by decide +kernel
theorem dX5_reckon_16 : decode cX5_reckon 16 = .ok (.sipush 240, 3) := by decide +kernel
theorem dX5_reckon_19 : decode cX5_reckon 19 = .ok (.if_icmp .ge 258, 3) := by decide +kernel
theorem dX5_reckon_22 : decode cX5_reckon 22 = .ok (.iload 5, 2) := by decide +kernel
theorem dX5_reckon_24 : decode cX5_reckon 24 = .ok (.iload_n 3, 1) := by decide +kernel
theorem dX5_reckon_25 : decode cX5_reckon 25 = .ok (.if_icmp .ge 252, 3) := by decide +kernel
theorem dX5_reckon_28 : decode cX5_reckon 28 = .ok (.iload 5, 2) := by decide +kernel
theorem dX5_reckon_30 : decode cX5_reckon 30 = .ok (.sipush 240, 3) := by decide +kernel
theorem dX5_reckon_33 : decode cX5_reckon 33 = .ok (.if_icmp .ge 244, 3) := by decide +kernel
theorem dX5_reckon_36 : decode cX5_reckon 36 = .ok (.aload_n 0, 1) := by decide +kernel
theorem dX5_reckon_37 : decode cX5_reckon 37 = .ok (.getfield 65, 3) := by decide +kernel
theorem dX5_reckon_40 : decode cX5_reckon 40 = .ok (.ifCond .ne 237, 3) := by decide +kernel
theorem dX5_reckon_43 : decode cX5_reckon 43 = .ok (.aload_n 1, 1) := by decide +kernel
theorem dX5_reckon_44 : decode cX5_reckon 44 = .ok (.getfield 69, 3) := by decide +kernel
theorem dX5_reckon_47 : decode cX5_reckon 47 = .ok (.iload 5, 2) := by decide +kernel
theorem dX5_reckon_49 : decode cX5_reckon 49 = .ok (.iaload, 1) := by decide +kernel
theorem dX5_reckon_50 : decode cX5_reckon 50 = .ok (.istore 7, 2) := by decide +kernel
theorem dX5_reckon_52 : decode cX5_reckon 52 = .ok (.aload_n 1, 1) := by decide +kernel
theorem dX5_reckon_53 : decode cX5_reckon 53 = .ok (.getfield 72, 3) := by decide +kernel
theorem dX5_reckon_56 : decode cX5_reckon 56 = .ok (.iload 5, 2) := by decide +kernel
theorem dX5_reckon_58 : decode cX5_reckon 58 = .ok (.iaload, 1) := by decide +kernel
theorem dX5_reckon_59 : decode cX5_reckon 59 = .ok (.istore 8, 2) := by decide +kernel
theorem dX5_reckon_61 : decode cX5_reckon 61 = .ok (.iinc 5 1, 3) := by decide +kernel
theorem dX5_reckon_64 : decode cX5_reckon 64 = .ok (.iload 7, 2) := by decide +kernel
theorem dX5_reckon_66 : decode cX5_reckon 66 = .ok (.bipush 48, 2) := by decide +kernel
theorem dX5_reckon_68 : decode cX5_reckon 68 = .ok (.if_icmp .eq 10, 3) := by decide +kernel
theorem dX5_reckon_71 : decode cX5_reckon 71 = .ok (.iload 7, 2) := by decide +kernel
theorem dX5_reckon_73 : decode cX5_reckon 73 = .ok (.bipush 97, 2) := by decide +kernel
theorem dX5_reckon_75 : decode cX5_reckon 75 = .ok (.if_icmp .ne 42, 3) := by decide +kernel
theorem dX5_reckon_78 : decode cX5_reckon 78 = .ok (.iload 4, 2) := by decide +kernel
theorem dX5_reckon_80 : decode cX5_reckon 80 = .ok (.bipush 64, 2) := by decide +kernel
theorem dX5_reckon_82 : decode cX5_reckon 82 = .ok (.if_icmp .ge 189, 3) := by decide +kernel
theorem dX5_reckon_85 : decode cX5_reckon 85 = .ok (.aload_n 0, 1) := by decide +kernel
theorem dX5_reckon_86 : decode cX5_reckon 86 = .ok (.getfield 15, 3) := by decide +kernel
theorem dX5_reckon_89 : decode cX5_reckon 89 = .ok (.iload 4, 2) := by decide +kernel
theorem dX5_reckon_91 : decode cX5_reckon 91 = .ok (.iload 7, 2) := by decide +kernel
theorem dX5_reckon_93 : decode cX5_reckon 93 = .ok (.bipush 48, 2) := by decide +kernel
theorem dX5_reckon_95 : decode cX5_reckon 95 = .ok (.if_icmp .ne 8, 3) := by decide +kernel
theorem dX5_reckon_98 : decode cX5_reckon 98 = .ok (.iload 8, 2) := by decide +kernel
theorem dX5_reckon_100 : decode cX5_reckon 100 = .ok (.goto 10, 3) := by decide +kernel
theorem dX5_reckon_103 : decode cX5_reckon 103 = .ok (.aload_n 0, 1) := by decide +kernel
theorem dX5_reckon_104 : decode cX5_reckon 104 = .ok (.getfield 11, 3) := by decide +kernel
theorem dX5_reckon_107 : decode cX5_reckon 107 = .ok (.iload 8, 2) := by decide +kernel
theorem dX5_reckon_109 : decode cX5_reckon 109 = .ok (.iaload, 1) := by decide +kernel
theorem dX5_reckon_110 : decode cX5_reckon 110 = .ok (.iastore, 1) := by decide +kernel
theorem dX5_reckon_111 : decode cX5_reckon 111 = .ok (.iinc 4 1, 3) := by decide +kernel
theorem dX5_reckon_114 : decode cX5_reckon 114 = .ok (.goto 157, 3) := by decide +kernel
theorem dX5_reckon_117 : decode cX5_reckon 117 = .ok (.iload 7, 2) := by decide +kernel
theorem dX5_reckon_119 : decode cX5_reckon 119 = .ok (.bipush 33, 2) := by decide +kernel
theorem dX5_reckon_121 : decode cX5_reckon 121 = .ok (.if_icmp .ne 38, 3) := by decide +kernel
theorem dX5_reckon_124 : decode cX5_reckon 124 = .ok (.iload 4, 2) := by decide +kernel
theorem dX5_reckon_126 : decode cX5_reckon 126 = .ok (.iconst 1, 1) := by decide +kernel
theorem dX5_reckon_127 : decode cX5_reckon 127 = .ok (.if_icmp .lt 144, 3) := by decide +kernel
theorem dX5_reckon_130 : decode cX5_reckon 130 = .ok (.aload_n 0, 1) := by decide +kernel
theorem dX5_reckon_131 : decode cX5_reckon 131 = .ok (.getfield 15, 3) := by decide +kernel
theorem dX5_reckon_134 : decode cX5_reckon 134 = .ok (.iload 4, 2) := by decide +kernel
theorem dX5_reckon_136 : decode cX5_reckon 136 = .ok (.iconst 1, 1) := by decide +kernel
theorem dX5_reckon_137 : decode cX5_reckon 137 = .ok (.isub, 1) := by decide +kernel
theorem dX5_reckon_138 : decode cX5_reckon 138 = .ok (.aload_n 0, 1) := by decide +kernel
theorem dX5_reckon_139 : decode cX5_reckon 139 = .ok (.getfield 15, 3) := by decide +kernel
theorem dX5_reckon_142 : decode cX5_reckon 142 = .ok (.iload 4, 2) := by decide +kernel
theorem dX5_reckon_144 : decode cX5_reckon 144 = .ok (.iconst 1, 1) := by decide +kernel
theorem dX5_reckon_145 : decode cX5_reckon 145 = .ok (.isub, 1) := by decide +kernel
theorem dX5_reckon_146 : decode cX5_reckon 146 = .ok (.iaload, 1) := by decide +kernel
theorem dX5_reckon_147 : decode cX5_reckon 147 = .ok (.ifCond .ne 7, 3) := by decide +kernel
theorem dX5_reckon_150 : decode cX5_reckon 150 = .ok (.iconst 1, 1) := by decide +kernel
theorem dX5_reckon_151 : decode cX5_reckon 151 = .ok (.goto 4, 3) := by decide +kernel
theorem dX5_reckon_154 : decode cX5_reckon 154 = .ok (.iconst 0, 1) := by decide +kernel
theorem dX5_reckon_155 : decode cX5_reckon 155 = .ok (.iastore, 1) := by decide +kernel
theorem dX5_reckon_156 : decode cX5_reckon 156 = .ok (.goto 115, 3) := by decide +kernel
theorem dX5_reckon_159 : decode cX5_reckon 159 = .ok (.iload 7, 2) := by decide +kernel
theorem dX5_reckon_161 : decode cX5_reckon 161 = .ok (.bipush 38, 2) := by decide +kernel
theorem dX5_reckon_163 : decode cX5_reckon 163 = .ok (.if_icmp .eq 10, 3) := by decide +kernel
theorem dX5_reckon_166 : decode cX5_reckon 166 = .ok (.iload 7, 2) := by decide +kernel
theorem dX5_reckon_168 : decode cX5_reckon 168 = .ok (.bipush 124, 2) := by decide +kernel
theorem dX5_reckon_170 : decode cX5_reckon 170 = .ok (.if_icmp .ne 61, 3) := by decide +kernel
theorem dX5_reckon_173 : decode cX5_reckon 173 = .ok (.iload 4, 2) := by decide +kernel
theorem dX5_reckon_175 : decode cX5_reckon 175 = .ok (.iconst 1, 1) := by decide +kernel
theorem dX5_reckon_176 : decode cX5_reckon 176 = .ok (.if_icmp .lt 42, 3) := by decide +kernel
theorem dX5_reckon_179 : decode cX5_reckon 179 = .ok (.aload_n 0, 1) := by decide +kernel
theorem dX5_reckon_180 : decode cX5_reckon 180 = .ok (.getfield 15, 3) := by decide +kernel
theorem dX5_reckon_183 : decode cX5_reckon 183 = .ok (.iload 4, 2) := by decide +kernel
theorem dX5_reckon_185 : decode cX5_reckon 185 = .ok (.iconst 1, 1) := by decide +kernel
theorem dX5_reckon_186 : decode cX5_reckon 186 = .ok (.isub, 1) := by decide +kernel
theorem dX5_reckon_187 : decode cX5_reckon 187 = .ok (.iaload, 1) := by decide +kernel
theorem dX5_reckon_188 : decode cX5_reckon 188 = .ok (.ifCond .eq 7, 3) := by decide +kernel
theorem dX5_reckon_191 : decode cX5_reckon 191 = .ok (.iconst 1, 1) := by decide +kernel
theorem dX5_reckon_192 : decode cX5_reckon 192 = .ok (.goto 4, 3) := by decide +kernel
theorem dX5_reckon_195 : decode cX5_reckon 195 = .ok (.iconst 0, 1) := by decide +kernel
theorem dX5_reckon_196 : decode cX5_reckon 196 = .ok (.iload 7, 2) := by decide +kernel
theorem dX5_reckon_198 : decode cX5_reckon 198 = .ok (.bipush 124, 2) := by decide +kernel
theorem dX5_reckon_200 : decode cX5_reckon 200 = .ok (.if_icmp .ne 7, 3) := by decide +kernel
theorem dX5_reckon_203 : decode cX5_reckon 203 = .ok (.iconst 1, 1) := by decide +kernel
theorem dX5_reckon_204 : decode cX5_reckon 204 = .ok (.goto 4, 3) := by decide +kernel
theorem dX5_reckon_207 : decode cX5_reckon 207 = .ok (.iconst 0, 1) := by decide +kernel
theorem dX5_reckon_208 : decode cX5_reckon 208 = .ok (.if_icmp .ne 10, 3) := by decide +kernel
theorem dX5_reckon_211 : decode cX5_reckon 211 = .ok (.iload 8, 2) := by decide +kernel
theorem dX5_reckon_213 : decode cX5_reckon 213 = .ok (.istore 5, 2) := by decide +kernel
theorem dX5_reckon_215 : decode cX5_reckon 215 = .ok (.goto 56, 3) := by decide +kernel
theorem dX5_reckon_218 : decode cX5_reckon 218 = .ok (.iconst 0, 1) := by decide +kernel
theorem dX5_reckon_219 : decode cX5_reckon 219 = .ok (.iload 4, 2) := by decide +kernel
theorem dX5_reckon_221 : decode cX5_reckon 221 = .ok (.iconst 1, 1) := by decide +kernel
theorem dX5_reckon_222 : decode cX5_reckon 222 = .ok (.isub, 1) := by decide +kernel
theorem dX5_reckon_223 : decode cX5_reckon 223 = .ok (.invokestatic 75, 3) := by decide +kernel
theorem dX5_reckon_226 : decode cX5_reckon 226 = .ok (.istore 4, 2) := by decide +kernel
theorem dX5_reckon_228 : decode cX5_reckon 228 = .ok (.goto 43, 3) := by decide +kernel
theorem dX5_reckon_231 : decode cX5_reckon 231 = .ok (.iload 4, 2) := by decide +kernel
theorem dX5_reckon_233 : decode cX5_reckon 233 = .ok (.iconst 2, 1) := by decide +kernel
theorem dX5_reckon_234 : decode cX5_reckon 234 = .ok (.if_icmp .lt 37, 3) := by decide +kernel
theorem dX5_reckon_237 : decode cX5_reckon 237 = .ok (.iinc 4 (-1), 3) := by decide +kernel
theorem dX5_reckon_240 : decode cX5_reckon 240 = .ok (.aload_n 0, 1) := by decide +kernel
theorem dX5_reckon_241 : decode cX5_reckon 241 = .ok (.getfield 15, 3) := by decide +kernel
theorem dX5_reckon_244 : decode cX5_reckon 244 = .ok (.iload 4, 2) := by decide +kernel
theorem dX5_reckon_246 : decode cX5_reckon 246 = .ok (.iconst 1, 1) := by decide +kernel
theorem dX5_reckon_247 : decode cX5_reckon 247 = .ok (.isub, 1) := by decide +kernel
theorem dX5_reckon_248 : decode cX5_reckon 248 = .ok (.aload_n 0, 1) := by decide +kernel
theorem dX5_reckon_249 : decode cX5_reckon 249 = .ok (.iload 7, 2) := by decide +kernel
theorem dX5_reckon_251 : decode cX5_reckon 251 = .ok (.aload_n 0, 1) := by decide +kernel
theorem dX5_reckon_252 : decode cX5_reckon 252 = .ok (.getfield 15, 3) := by decide +kernel
theorem dX5_reckon_255 : decode cX5_reckon 255 = .ok (.iload 4, 2) := by decide +kernel
theorem dX5_reckon_257 : decode cX5_reckon 257 = .ok (.iconst 1, 1) := by decide +kernel
theorem dX5_reckon_258 : decode cX5_reckon 258 = .ok (.isub, 1) := by decide +kernel
theorem dX5_reckon_259 : decode cX5_reckon 259 = .ok (.iaload, 1) := by decide +kernel
theorem dX5_reckon_260 : decode cX5_reckon 260 = .ok (.aload_n 0, 1) := by decide +kernel
theorem dX5_reckon_261 : decode cX5_reckon 261 = .ok (.getfield 15, 3) := by decide +kernel
theorem dX5_reckon_264 : decode cX5_reckon 264 = .ok (.iload 4, 2) := by decide +kernel
theorem dX5_reckon_266 : decode cX5_reckon 266 = .ok (.iaload, 1) := by decide +kernel
theorem dX5_reckon_267 : decode cX5_reckon 267 = .ok (.invokevirtual 80, 3) := by decide +kernel
theorem dX5_reckon_270 : decode cX5_reckon 270 = .ok (.iastore, 1) := by decide +kernel
theorem dX5_reckon_271 : decode cX5_reckon 271 = .ok (.iinc 6 1, 3) := by decide +kernel
theorem dX5_reckon_274 : decode cX5_reckon 274 = .ok (.goto (-260), 3) := by decide +kernel
theorem dX5_reckon_277 : decode cX5_reckon 277 = .ok (.aload_n 0, 1) := by decide +kernel
theorem dX5_reckon_278 : decode cX5_reckon 278 = .ok (.getfield 65, 3) := by decide +kernel
theorem dX5_reckon_281 : decode cX5_reckon 281 = .ok (.ifCond .ne 9, 3) := by decide +kernel
theorem dX5_reckon_284 : decode cX5_reckon 284 = .ok (.iload 4, 2) := by decide +kernel
theorem dX5_reckon_286 : decode cX5_reckon 286 = .ok (.iconst 1, 1) := by decide +kernel
theorem dX5_reckon_287 : decode cX5_reckon 287 = .ok (.if_icmp .ge 7, 3) := by decide +kernel
theorem dX5_reckon_290 : decode cX5_reckon 290 = .ok (.iconst 0, 1) := by decide +kernel
theorem dX5_reckon_291 : decode cX5_reckon 291 = .ok (.goto 9, 3) := by decide +kernel
theorem dX5_reckon_294 : decode cX5_reckon 294 = .ok (.aload_n 0, 1) := by decide +kernel
theorem dX5_reckon_295 : decode cX5_reckon 295 = .ok (.getfield 15, 3) := by decide +kernel
theorem dX5_reckon_298 : decode cX5_reckon 298 = .ok (.iconst 0, 1) := by decide +kernel
theorem dX5_reckon_299 : decode cX5_reckon 299 = .ok (.iaload, 1) := by decide +kernel
theorem dX5_reckon_300 : decode cX5_reckon 300 = .ok (.ireturn, 1) := by decide +kernel
theorem dX5_join_0 : decode cX5_join 0 = .ok (.iload_n 1, 1) := by decide +kernel
theorem dX5_join_1 : decode cX5_join 1 = .ok (.lookupswitch 104 #[(42, 67), (43, 59), (45, 63), (60, 71), (61, 93), (62, 82)], 59) := by decide +kernel
theorem dX5_join_60 : decode cX5_join 60 = .ok (.iload_n 2, 1) := by decide +kernel
theorem dX5_join_61 : decode cX5_join 61 = .ok (.iload_n 3, 1) := by decide +kernel
theorem dX5_join_62 : decode cX5_join 62 = .ok (.iadd, 1) := by decide +kernel
theorem dX5_join_63 : decode cX5_join 63 = .ok (.ireturn, 1) := by decide +kernel
theorem dX5_join_64 : decode cX5_join 64 = .ok (.iload_n 2, 1) := by decide +kernel
theorem dX5_join_65 : decode cX5_join 65 = .ok (.iload_n 3, 1) := by decide +kernel
theorem dX5_join_66 : decode cX5_join 66 = .ok (.isub, 1) := by decide +kernel
theorem dX5_join_67 : decode cX5_join 67 = .ok (.ireturn, 1) := by decide +kernel
theorem dX5_join_68 : decode cX5_join 68 = .ok (.iload_n 2, 1) := by decide +kernel
theorem dX5_join_69 : decode cX5_join 69 = .ok (.iload_n 3, 1) := by decide +kernel
theorem dX5_join_70 : decode cX5_join 70 = .ok (.imul, 1) := by decide +kernel
theorem dX5_join_71 : decode cX5_join 71 = .ok (.ireturn, 1) := by decide +kernel
theorem dX5_join_72 : decode cX5_join 72 = .ok (.iload_n 2, 1) := by decide +kernel
theorem dX5_join_73 : decode cX5_join 73 = .ok (.iload_n 3, 1) := by decide +kernel
theorem dX5_join_74 : decode cX5_join 74 = .ok (.if_icmp .ge 7, 3) := by decide +kernel
theorem dX5_join_77 : decode cX5_join 77 = .ok (.iconst 1, 1) := by decide +kernel
theorem dX5_join_78 : decode cX5_join 78 = .ok (.goto 4, 3) := by decide +kernel
theorem dX5_join_81 : decode cX5_join 81 = .ok (.iconst 0, 1) := by decide +kernel
theorem dX5_join_82 : decode cX5_join 82 = .ok (.ireturn, 1) := by decide +kernel
theorem dX5_join_83 : decode cX5_join 83 = .ok (.iload_n 2, 1) := by decide +kernel
theorem dX5_join_84 : decode cX5_join 84 = .ok (.iload_n 3, 1) := by decide +kernel
theorem dX5_join_85 : decode cX5_join 85 = .ok (.if_icmp .le 7, 3) := by decide +kernel
theorem dX5_join_88 : decode cX5_join 88 = .ok (.iconst 1, 1) := by decide +kernel
theorem dX5_join_89 : decode cX5_join 89 = .ok (.goto 4, 3) := by decide +kernel
theorem dX5_join_92 : decode cX5_join 92 = .ok (.iconst 0, 1) := by decide +kernel
theorem dX5_join_93 : decode cX5_join 93 = .ok (.ireturn, 1) := by decide +kernel
theorem dX5_join_94 : decode cX5_join 94 = .ok (.iload_n 2, 1) := by decide +kernel
theorem dX5_join_95 : decode cX5_join 95 = .ok (.iload_n 3, 1) := by decide +kernel
theorem dX5_join_96 : decode cX5_join 96 = .ok (.if_icmp .ne 7, 3) := by decide +kernel
theorem dX5_join_99 : decode cX5_join 99 = .ok (.iconst 1, 1) := by decide +kernel
theorem dX5_join_100 : decode cX5_join 100 = .ok (.goto 4, 3) := by decide +kernel
theorem dX5_join_103 : decode cX5_join 103 = .ok (.iconst 0, 1) := by decide +kernel
theorem dX5_join_104 : decode cX5_join 104 = .ok (.ireturn, 1) := by decide +kernel
theorem dX5_join_105 : decode cX5_join 105 = .ok (.iload_n 3, 1) := by decide +kernel
theorem dX5_join_106 : decode cX5_join 106 = .ok (.ifCond .ne 10, 3) := by decide +kernel
theorem dX5_join_109 : decode cX5_join 109 = .ok (.aload_n 0, 1) := by decide +kernel
theorem dX5_join_110 : decode cX5_join 110 = .ok (.iconst 1, 1) := by decide +kernel
theorem dX5_join_111 : decode cX5_join 111 = .ok (.putfield 65, 3) := by decide +kernel
theorem dX5_join_114 : decode cX5_join 114 = .ok (.iconst 0, 1) := by decide +kernel
theorem dX5_join_115 : decode cX5_join 115 = .ok (.ireturn, 1) := by decide +kernel
theorem dX5_join_116 : decode cX5_join 116 = .ok (.iload_n 1, 1) := by decide +kernel
theorem dX5_join_117 : decode cX5_join 117 = .ok (.bipush 47, 2) := by decide +kernel
theorem dX5_join_119 : decode cX5_join 119 = .ok (.if_icmp .ne 9, 3) := by decide +kernel
theorem dX5_join_122 : decode cX5_join 122 = .ok (.iload_n 2, 1) := by decide +kernel
theorem dX5_join_123 : decode cX5_join 123 = .ok (.iload_n 3, 1) := by decide +kernel
theorem dX5_join_124 : decode cX5_join 124 = .ok (.idiv, 1) := by decide +kernel
theorem dX5_join_125 : decode cX5_join 125 = .ok (.goto 6, 3) := by decide +kernel
theorem dX5_join_128 : decode cX5_join 128 = .ok (.iload_n 2, 1) := by decide +kernel
theorem dX5_join_129 : decode cX5_join 129 = .ok (.iload_n 3, 1) := by decide +kernel
theorem dX5_join_130 : decode cX5_join 130 = .ok (.irem, 1) := by decide +kernel
theorem dX5_join_131 : decode cX5_join 131 = .ok (.ireturn, 1) := by decide +kernel
theorem dX6_init_0 : decode cX6_init 0 = .ok (.aload_n 0, 1) := by decide +kernel
theorem dX6_init_1 : decode cX6_init 1 = .ok (.invokespecial 3, 3) := by decide +kernel
theorem dX6_init_4 : decode cX6_init 4 = .ok (.aload_n 0, 1) := by decide +kernel
theorem dX6_init_5 : decode cX6_init 5 = .ok (.bipush 16, 2) := by decide +kernel
theorem dX6_init_7 : decode cX6_init 7 = .ok (.newarray .int, 2) := by decide +kernel
theorem dX6_init_9 : decode cX6_init 9 = .ok (.putfield 9, 3) := by decide +kernel
theorem dX6_init_12 : decode cX6_init 12 = .ok (.aload_n 0, 1) := by decide +kernel
theorem dX6_init_13 : decode cX6_init 13 = .ok (.bipush 16, 2) := by decide +kernel
theorem dX6_init_15 : decode cX6_init 15 = .ok (.newarray .int, 2) := by decide +kernel
theorem dX6_init_17 : decode cX6_init 17 = .ok (.putfield 15, 3) := by decide +kernel
theorem dX6_init_20 : decode cX6_init 20 = .ok (.aload_n 0, 1) := by decide +kernel
theorem dX6_init_21 : decode cX6_init 21 = .ok (.bipush 16, 2) := by decide +kernel
theorem dX6_init_23 : decode cX6_init 23 = .ok (.newarray .int, 2) := by decide +kernel
theorem dX6_init_25 : decode cX6_init 25 = .ok (.putfield 18, 3) := by decide +kernel
theorem dX6_init_28 : decode cX6_init 28 = .ok (.aload_n 0, 1) := by decide +kernel
theorem dX6_init_29 : decode cX6_init 29 = .ok (.sipush 241, 3) := by decide +kernel
theorem dX6_init_32 : decode cX6_init 32 = .ok (.newarray .int, 2) := by decide +kernel
theorem dX6_init_34 : decode cX6_init 34 = .ok (.putfield 21, 3) := by decide +kernel
theorem dX6_init_37 : decode cX6_init 37 = .ok (.aload_n 0, 1) := by decide +kernel
theorem dX6_init_38 : decode cX6_init 38 = .ok (.bipush 26, 2) := by decide +kernel
theorem dX6_init_40 : decode cX6_init 40 = .ok (.newarray .int, 2) := by decide +kernel
theorem dX6_init_42 : decode cX6_init 42 = .ok (.putfield 24, 3) := by decide +kernel
theorem dX6_init_45 : decode cX6_init 45 = .ok (.aload_n 0, 1) := by decide +kernel
theorem dX6_init_46 : decode cX6_init 46 = .ok (.aload_n 1, 1) := by decide +kernel
theorem dX6_init_47 : decode cX6_init 47 = .ok (.putfield 27, 3) := by decide +kernel
theorem dX6_init_50 : decode cX6_init 50 = .ok (.return_, 1) := by decide +kernel
theorem dX6_readSteps_0 : decode cX6_readSteps 0 = .ok (.iconst 0, 1) := by decide +kernel
theorem dX6_readSteps_1 : decode cX6_readSteps 1 = .ok (.istore 5, 2) := by decide +kernel
theorem dX6_readSteps_3 : decode cX6_readSteps 3 = .ok (.iconst 0, 1) := by decide +kernel
theorem dX6_readSteps_4 : decode cX6_readSteps 4 = .ok (.istore 6, 2) := by decide +kernel
theorem dX6_readSteps_6 : decode cX6_readSteps 6 = .ok (.iload 6, 2) := by decide +kernel
theorem dX6_readSteps_8 : decode cX6_readSteps 8 = .ok (.iload_n 2, 1) := by decide +kernel
theorem dX6_readSteps_9 : decode cX6_readSteps 9 = .ok (.if_icmp .ge 48, 3) := by decide +kernel
theorem dX6_readSteps_12 : decode cX6_readSteps 12 = .ok (.iload 6, 2) := by decide +kernel
theorem dX6_readSteps_14 : decode cX6_readSteps 14 = .ok (.bipush 12, 2) := by decide +kernel
theorem dX6_readSteps_16 : decode cX6_readSteps 16 = .ok (.if_icmp .ge 41, 3) := by decide +kernel
theorem dX6_readSteps_19 : decode cX6_readSteps 19 = .ok (.aload_n 0, 1) := by decide +kernel
theorem dX6_readSteps_20 : decode cX6_readSteps 20 = .ok (.getfield 27, 3) := by decide +kernel
theorem dX6_readSteps_23 : decode cX6_readSteps 23 = .ok (.iload_n 3, 1) := by decide +kernel
theorem dX6_readSteps_24 : decode cX6_readSteps 24 = .ok (.iload 6, 2) := by decide +kernel
theorem dX6_readSteps_26 : decode cX6_readSteps 26 = .ok (.iload 4, 2) := by decide +kernel
theorem dX6_readSteps_28 : decode cX6_readSteps 28 = .ok (.imul, 1) := by decide +kernel
theorem dX6_readSteps_29 : decode cX6_readSteps 29 = .ok (.iadd, 1) := by decide +kernel
theorem dX6_readSteps_30 : decode cX6_readSteps 30 = .ok (.invokevirtual 31, 3) := by decide +kernel
theorem dX6_readSteps_33 : decode cX6_readSteps 33 = .ok (.istore 7, 2) := by decide +kernel
theorem dX6_readSteps_35 : decode cX6_readSteps 35 = .ok (.aload_n 1, 1) := by decide +kernel
theorem dX6_readSteps_36 : decode cX6_readSteps 36 = .ok (.iload 6, 2) := by decide +kernel
theorem dX6_readSteps_38 : decode cX6_readSteps 38 = .ok (.iload 7, 2) := by decide +kernel
theorem dX6_readSteps_40 : decode cX6_readSteps 40 = .ok (.iload 5, 2) := by decide +kernel
theorem dX6_readSteps_42 : decode cX6_readSteps 42 = .ok (.isub, 1) := by decide +kernel
theorem dX6_readSteps_43 : decode cX6_readSteps 43 = .ok (.iastore, 1) := by decide +kernel
theorem dX6_readSteps_44 : decode cX6_readSteps 44 = .ok (.iload 5, 2) := by decide +kernel
theorem dX6_readSteps_46 : decode cX6_readSteps 46 = .ok (.iload 7, 2) := by decide +kernel
theorem dX6_readSteps_48 : decode cX6_readSteps 48 = .ok (.iadd, 1) := by decide +kernel
theorem dX6_readSteps_49 : decode cX6_readSteps 49 = .ok (.istore 5, 2) := by decide +kernel
theorem dX6_readSteps_51 : decode cX6_readSteps 51 = .ok (.iinc 6 1, 3) := by decide +kernel
theorem dX6_readSteps_54 : decode cX6_readSteps 54 = .ok (.goto (-48), 3) := by decide +kernel
theorem dX6_readSteps_57 : decode cX6_readSteps 57 = .ok (.return_, 1) := by decide +kernel
theorem dX6_lowestOf_0 : decode cX6_lowestOf 0 = .ok (.iconst 0, 1) := by decide +kernel
theorem dX6_lowestOf_1 : decode cX6_lowestOf 1 = .ok (.istore_n 1, 1) := by decide +kernel
theorem dX6_lowestOf_2 : decode cX6_lowestOf 2 = .ok (.iload_n 1, 1) := by decide +kernel
theorem dX6_lowestOf_3 : decode cX6_lowestOf 3 = .ok (.bipush 11, 2) := by decide +kernel
theorem dX6_lowestOf_5 : decode cX6_lowestOf 5 = .ok (.if_icmp .ge 17, 3) := by decide +kernel
theorem dX6_lowestOf_8 : decode cX6_lowestOf 8 = .ok (.iload_n 0, 1) := by decide +kernel
theorem dX6_lowestOf_9 : decode cX6_lowestOf 9 = .ok (.iload_n 1, 1) := by decide +kernel
theorem dX6_lowestOf_10 : decode cX6_lowestOf 10 = .ok (.ishr, 1) := by decide +kernel
theorem dX6_lowestOf_11 : decode cX6_lowestOf 11 = .ok (.iconst 1, 1) := by decide +kernel
theorem dX6_lowestOf_12 : decode cX6_lowestOf 12 = .ok (.iand, 1) := by decide +kernel
theorem dX6_lowestOf_13 : decode cX6_lowestOf 13 = .ok (.ifCond .ne 9, 3) := by decide +kernel
theorem dX6_lowestOf_16 : decode cX6_lowestOf 16 = .ok (.iinc 1 1, 3) := by decide +kernel
theorem dX6_lowestOf_19 : decode cX6_lowestOf 19 = .ok (.goto (-17), 3) := by decide +kernel
theorem dX6_lowestOf_22 : decode cX6_lowestOf 22 = .ok (.iload_n 1, 1) := by decide +kernel
theorem dX6_lowestOf_23 : decode cX6_lowestOf 23 = .ok (.ireturn, 1) := by decide +kernel
theorem dX6_savedMost_0 : decode cX6_savedMost 0 = .ok (.aload_n 0, 1) := by decide +kernel
theorem dX6_savedMost_1 : decode cX6_savedMost 1 = .ok (.aload_n 0, 1) := by decide +kernel
theorem dX6_savedMost_2 : decode cX6_savedMost 2 = .ok (.getfield 9, 3) := by decide +kernel
theorem dX6_savedMost_5 : decode cX6_savedMost 5 = .ok (.iload_n 1, 1) := by decide +kernel
theorem dX6_savedMost_6 : decode cX6_savedMost 6 = .ok (.iconst 0, 1) := by decide +kernel
theorem dX6_savedMost_7 : decode cX6_savedMost 7 = .ok (.iconst 2, 1) := by decide +kernel
theorem dX6_savedMost_8 : decode cX6_savedMost 8 = .ok (.invokevirtual 37, 3) := by decide +kernel
theorem dX6_savedMost_11 : decode cX6_savedMost 11 = .ok (.aload_n 0, 1) := by decide +kernel
theorem dX6_savedMost_12 : decode cX6_savedMost 12 = .ok (.aload_n 0, 1) := by decide +kernel
theorem dX6_savedMost_13 : decode cX6_savedMost 13 = .ok (.getfield 15, 3) := by decide +kernel
theorem dX6_savedMost_16 : decode cX6_savedMost 16 = .ok (.iload_n 1, 1) := by decide +kernel
theorem dX6_savedMost_17 : decode cX6_savedMost 17 = .ok (.iconst 1, 1) := by decide +kernel
theorem dX6_savedMost_18 : decode cX6_savedMost 18 = .ok (.iconst 2, 1) := by decide +kernel
theorem dX6_savedMost_19 : decode cX6_savedMost 19 = .ok (.invokevirtual 37, 3) := by decide +kernel
theorem dX6_savedMost_22 : decode cX6_savedMost 22 = .ok (.iconst 0, 1) := by decide +kernel
theorem dX6_savedMost_23 : decode cX6_savedMost 23 = .ok (.istore 4, 2) := by decide +kernel
theorem dX6_savedMost_25 : decode cX6_savedMost 25 = .ok (.iconst 0, 1) := by decide +kernel
theorem dX6_savedMost_26 : decode cX6_savedMost 26 = .ok (.istore 5, 2) := by decide +kernel
theorem dX6_savedMost_28 : decode cX6_savedMost 28 = .ok (.iconst 0, 1) := by decide +kernel
theorem dX6_savedMost_29 : decode cX6_savedMost 29 = .ok (.istore 6, 2) := by decide +kernel
theorem dX6_savedMost_31 : decode cX6_savedMost 31 = .ok (.iconst 0, 1) := by decide +kernel
theorem dX6_savedMost_32 : decode cX6_savedMost 32 = .ok (.istore 7, 2) := by decide +kernel
theorem dX6_savedMost_34 : decode cX6_savedMost 34 = .ok (.iconst 1, 1) := by decide +kernel
theorem dX6_savedMost_35 : decode cX6_savedMost 35 = .ok (.istore 8, 2) := by decide +kernel
theorem dX6_savedMost_37 : decode cX6_savedMost 37 = .ok (.iload 8, 2) := by decide +kernel
theorem dX6_savedMost_39 : decode cX6_savedMost 39 = .ok (.iconst 1, 1) := by decide +kernel
theorem dX6_savedMost_40 : decode cX6_savedMost 40 = .ok (.iload_n 1, 1) := by decide +kernel
theorem dX6_savedMost_41 : decode cX6_savedMost 41 = .ok (.ishl, 1) := by decide +kernel
theorem dX6_savedMost_42 : decode cX6_savedMost 42 = .ok (.if_icmp .ge 61, 3) := by decide +kernel
theorem dX6_savedMost_45 : decode cX6_savedMost 45 = .ok (.iload 8, 2) := by decide +kernel
theorem dX6_savedMost_47 : decode cX6_savedMost 47 = .ok (.invokestatic 41, 3) := by decide +kernel
theorem dX6_savedMost_50 : decode cX6_savedMost 50 = .ok (.istore 9, 2) := by decide +kernel
theorem dX6_savedMost_52 : decode cX6_savedMost 52 = .ok (.iload 4, 2) := by decide +kernel
theorem dX6_savedMost_54 : decode cX6_savedMost 54 = .ok (.aload_n 0, 1) := by decide +kernel
theorem dX6_savedMost_55 : decode cX6_savedMost 55 = .ok (.getfield 9, 3) := by decide +kernel
theorem dX6_savedMost_58 : decode cX6_savedMost 58 = .ok (.iload 9, 2) := by decide +kernel
theorem dX6_savedMost_60 : decode cX6_savedMost 60 = .ok (.iaload, 1) := by decide +kernel
theorem dX6_savedMost_61 : decode cX6_savedMost 61 = .ok (.iadd, 1) := by decide +kernel
theorem dX6_savedMost_62 : decode cX6_savedMost 62 = .ok (.istore 4, 2) := by decide +kernel
theorem dX6_savedMost_64 : decode cX6_savedMost 64 = .ok (.iload 5, 2) := by decide +kernel
theorem dX6_savedMost_66 : decode cX6_savedMost 66 = .ok (.aload_n 0, 1) := by decide +kernel
theorem dX6_savedMost_67 : decode cX6_savedMost 67 = .ok (.getfield 15, 3) := by decide +kernel
theorem dX6_savedMost_70 : decode cX6_savedMost 70 = .ok (.iload 9, 2) := by decide +kernel
theorem dX6_savedMost_72 : decode cX6_savedMost 72 = .ok (.iaload, 1) := by decide +kernel
theorem dX6_savedMost_73 : decode cX6_savedMost 73 = .ok (.iadd, 1) := by decide +kernel
theorem dX6_savedMost_74 : decode cX6_savedMost 74 = .ok (.istore 5, 2) := by decide +kernel
theorem dX6_savedMost_76 : decode cX6_savedMost 76 = .ok (.iload 5, 2) := by decide +kernel
theorem dX6_savedMost_78 : decode cX6_savedMost 78 = .ok (.iload_n 2, 1) := by decide +kernel
theorem dX6_savedMost_79 : decode cX6_savedMost 79 = .ok (.if_icmp .gt 18, 3) := by decide +kernel
theorem dX6_savedMost_82 : decode cX6_savedMost 82 = .ok (.iload 4, 2) := by decide +kernel
theorem dX6_savedMost_84 : decode cX6_savedMost 84 = .ok (.iload 6, 2) := by decide +kernel
theorem dX6_savedMost_86 : decode cX6_savedMost 86 = .ok (.if_icmp .le 11, 3) := by decide +kernel
theorem dX6_savedMost_89 : decode cX6_savedMost 89 = .ok (.iload 4, 2) := by decide +kernel
theorem dX6_savedMost_91 : decode cX6_savedMost 91 = .ok (.istore 6, 2) := by decide +kernel
theorem dX6_savedMost_93 : decode cX6_savedMost 93 = .ok (.iload 8, 2) := by decide +kernel
theorem dX6_savedMost_95 : decode cX6_savedMost 95 = .ok (.istore 7, 2) := by decide +kernel
theorem dX6_savedMost_97 : decode cX6_savedMost 97 = .ok (.iinc 8 1, 3) := by decide +kernel
theorem dX6_savedMost_100 : decode cX6_savedMost 100 = .ok (.goto (-63), 3) := by decide +kernel
theorem dX6_savedMost_103 : decode cX6_savedMost 103 = .ok (.iload_n 3, 1) := by decide +kernel
theorem dX6_savedMost_104 : decode cX6_savedMost 104 = .ok (.ifCond .eq 8, 3) := by decide +kernel
theorem dX6_savedMost_107 : decode cX6_savedMost 107 = .ok (.iload 7, 2) := by decide +kernel
theorem dX6_savedMost_109 : decode cX6_savedMost 109 = .ok (.goto 5, 3) := by decide +kernel
theorem dX6_savedMost_112 : decode cX6_savedMost 112 = .ok (.iload 6, 2) := by decide +kernel
theorem dX6_savedMost_114 : decode cX6_savedMost 114 = .ok (.ireturn, 1) := by decide +kernel
theorem dX6_tracedBy_0 : decode cX6_tracedBy 0 = .ok (.aload_n 0, 1) := by decide +kernel
theorem dX6_tracedBy_1 : decode cX6_tracedBy 1 = .ok (.aload_n 0, 1) := by decide +kernel
theorem dX6_tracedBy_2 : decode cX6_tracedBy 2 = .ok (.getfield 9, 3) := by decide +kernel
theorem dX6_tracedBy_5 : decode cX6_tracedBy 5 = .ok (.iload_n 1, 1) := by decide +kernel
theorem dX6_tracedBy_6 : decode cX6_tracedBy 6 = .ok (.iconst 0, 1) := by decide +kernel
theorem dX6_tracedBy_7 : decode cX6_tracedBy 7 = .ok (.iconst 1, 1) := by decide +kernel
theorem dX6_tracedBy_8 : decode cX6_tracedBy 8 = .ok (.invokevirtual 37, 3) := by decide +kernel
theorem dX6_tracedBy_11 : decode cX6_tracedBy 11 = .ok (.iconst 0, 1) := by decide +kernel
theorem dX6_tracedBy_12 : decode cX6_tracedBy 12 = .ok (.istore 4, 2) := by decide +kernel
theorem dX6_tracedBy_14 : decode cX6_tracedBy 14 = .ok (.iload_n 2, 1) := by decide +kernel
theorem dX6_tracedBy_15 : decode cX6_tracedBy 15 = .ok (.ifCond .ne 7, 3) := by decide +kernel
theorem dX6_tracedBy_18 : decode cX6_tracedBy 18 = .ok (.iconst 1, 1) := by decide +kernel
theorem dX6_tracedBy_19 : decode cX6_tracedBy 19 = .ok (.goto 4, 3) := by decide +kernel
theorem dX6_tracedBy_22 : decode cX6_tracedBy 22 = .ok (.iconst 0, 1) := by decide +kernel
theorem dX6_tracedBy_23 : decode cX6_tracedBy 23 = .ok (.istore 5, 2) := by decide +kernel
theorem dX6_tracedBy_25 : decode cX6_tracedBy 25 = .ok (.iload_n 2, 1) := by decide +kernel
theorem dX6_tracedBy_26 : decode cX6_tracedBy 26 = .ok (.ifCond .ne 7, 3) := by decide +kernel
theorem dX6_tracedBy_29 : decode cX6_tracedBy 29 = .ok (.iconst 0, 1) := by decide +kernel
theorem dX6_tracedBy_30 : decode cX6_tracedBy 30 = .ok (.goto 5, 3) := by decide +kernel
theorem dX6_tracedBy_33 : decode cX6_tracedBy 33 = .ok (.bipush (-2), 2) := by decide +kernel
theorem dX6_tracedBy_35 : decode cX6_tracedBy 35 = .ok (.istore 6, 2) := by decide +kernel
theorem dX6_tracedBy_37 : decode cX6_tracedBy 37 = .ok (.iload_n 2, 1) := by decide +kernel
theorem dX6_tracedBy_38 : decode cX6_tracedBy 38 = .ok (.ifCond .ne 7, 3) := by decide +kernel
theorem dX6_tracedBy_41 : decode cX6_tracedBy 41 = .ok (.iconst 0, 1) := by decide +kernel
theorem dX6_tracedBy_42 : decode cX6_tracedBy 42 = .ok (.goto 5, 3) := by decide +kernel
theorem dX6_tracedBy_45 : decode cX6_tracedBy 45 = .ok (.bipush 13, 2) := by decide +kernel
theorem dX6_tracedBy_47 : decode cX6_tracedBy 47 = .ok (.istore 7, 2) := by decide +kernel
theorem dX6_tracedBy_49 : decode cX6_tracedBy 49 = .ok (.iconst 1, 1) := by decide +kernel
theorem dX6_tracedBy_50 : decode cX6_tracedBy 50 = .ok (.istore 8, 2) := by decide +kernel
theorem dX6_tracedBy_52 : decode cX6_tracedBy 52 = .ok (.iload 8, 2) := by decide +kernel
theorem dX6_tracedBy_54 : decode cX6_tracedBy 54 = .ok (.iconst 1, 1) := by decide +kernel
theorem dX6_tracedBy_55 : decode cX6_tracedBy 55 = .ok (.iload_n 1, 1) := by decide +kernel
theorem dX6_tracedBy_56 : decode cX6_tracedBy 56 = .ok (.ishl, 1) := by decide +kernel
theorem dX6_tracedBy_57 : decode cX6_tracedBy 57 = .ok (.if_icmp .ge 54, 3) := by decide +kernel
theorem dX6_tracedBy_60 : decode cX6_tracedBy 60 = .ok (.iload 4, 2) := by decide +kernel
theorem dX6_tracedBy_62 : decode cX6_tracedBy 62 = .ok (.aload_n 0, 1) := by decide +kernel
theorem dX6_tracedBy_63 : decode cX6_tracedBy 63 = .ok (.getfield 9, 3) := by decide +kernel
theorem dX6_tracedBy_66 : decode cX6_tracedBy 66 = .ok (.iload 8, 2) := by decide +kernel
theorem dX6_tracedBy_68 : decode cX6_tracedBy 68 = .ok (.invokestatic 41, 3) := by decide +kernel
theorem dX6_tracedBy_71 : decode cX6_tracedBy 71 = .ok (.iaload, 1) := by decide +kernel
theorem dX6_tracedBy_72 : decode cX6_tracedBy 72 = .ok (.iadd, 1) := by decide +kernel
theorem dX6_tracedBy_73 : decode cX6_tracedBy 73 = .ok (.istore 4, 2) := by decide +kernel
theorem dX6_tracedBy_75 : decode cX6_tracedBy 75 = .ok (.iload 4, 2) := by decide +kernel
theorem dX6_tracedBy_77 : decode cX6_tracedBy 77 = .ok (.iload_n 2, 1) := by decide +kernel
theorem dX6_tracedBy_78 : decode cX6_tracedBy 78 = .ok (.if_icmp .ne 27, 3) := by decide +kernel
theorem dX6_tracedBy_81 : decode cX6_tracedBy 81 = .ok (.iinc 5 1, 3) := by decide +kernel
theorem dX6_tracedBy_84 : decode cX6_tracedBy 84 = .ok (.iload 8, 2) := by decide +kernel
theorem dX6_tracedBy_86 : decode cX6_tracedBy 86 = .ok (.invokestatic 44, 3) := by decide +kernel
theorem dX6_tracedBy_89 : decode cX6_tracedBy 89 = .ok (.iload 7, 2) := by decide +kernel
theorem dX6_tracedBy_91 : decode cX6_tracedBy 91 = .ok (.if_icmp .ge 14, 3) := by decide +kernel
theorem dX6_tracedBy_94 : decode cX6_tracedBy 94 = .ok (.iload 8, 2) := by decide +kernel
theorem dX6_tracedBy_96 : decode cX6_tracedBy 96 = .ok (.invokestatic 44, 3) := by decide +kernel
theorem dX6_tracedBy_99 : decode cX6_tracedBy 99 = .ok (.istore 7, 2) := by decide +kernel
theorem dX6_tracedBy_101 : decode cX6_tracedBy 101 = .ok (.iload 8, 2) := by decide +kernel
theorem dX6_tracedBy_103 : decode cX6_tracedBy 103 = .ok (.istore 6, 2) := by decide +kernel
theorem dX6_tracedBy_105 : decode cX6_tracedBy 105 = .ok (.iinc 8 1, 3) := by decide +kernel
theorem dX6_tracedBy_108 : decode cX6_tracedBy 108 = .ok (.goto (-56), 3) := by decide +kernel
theorem dX6_tracedBy_111 : decode cX6_tracedBy 111 = .ok (.iload_n 3, 1) := by decide +kernel
theorem dX6_tracedBy_112 : decode cX6_tracedBy 112 = .ok (.ifCond .eq 8, 3) := by decide +kernel
theorem dX6_tracedBy_115 : decode cX6_tracedBy 115 = .ok (.iload 6, 2) := by decide +kernel
theorem dX6_tracedBy_117 : decode cX6_tracedBy 117 = .ok (.goto 5, 3) := by decide +kernel
theorem dX6_tracedBy_120 : decode cX6_tracedBy 120 = .ok (.iload 5, 2) := by decide +kernel
theorem dX6_tracedBy_122 : decode cX6_tracedBy 122 = .ok (.ireturn, 1) := by decide +kernel
theorem dX6_readPairs_0 : decode cX6_readPairs 0 = .ok (.iconst 0, 1) := by decide +kernel
theorem dX6_readPairs_1 : decode cX6_readPairs 1 = .ok (.istore_n 2, 1) := by decide +kernel
theorem dX6_readPairs_2 : decode cX6_readPairs 2 = .ok (.iload_n 2, 1) := by decide +kernel
theorem dX6_readPairs_3 : decode cX6_readPairs 3 = .ok (.iload_n 1, 1) := by decide +kernel
theorem dX6_readPairs_4 : decode cX6_readPairs 4 = .ok (.if_icmp .ge 49, 3) := by decide +kernel
theorem dX6_readPairs_7 : decode cX6_readPairs 7 = .ok (.iload_n 2, 1) := by decide +kernel
theorem dX6_readPairs_8 : decode cX6_readPairs 8 = .ok (.bipush 16, 2) := by decide +kernel
theorem dX6_readPairs_10 : decode cX6_readPairs 10 = .ok (.if_icmp .ge 43, 3) := by decide +kernel
theorem dX6_readPairs_13 : decode cX6_readPairs 13 = .ok (.aload_n 0, 1) := by decide +kernel
theorem dX6_readPairs_14 : decode cX6_readPairs 14 = .ok (.getfield 9, 3) := by decide +kernel
theorem dX6_readPairs_17 : decode cX6_readPairs 17 = .ok (.iload_n 2, 1) := by decide +kernel
theorem dX6_readPairs_18 : decode cX6_readPairs 18 = .ok (.aload_n 0, 1) := by decide +kernel
theorem dX6_readPairs_19 : decode cX6_readPairs 19 = .ok (.getfield 27, 3) := by decide +kernel
theorem dX6_readPairs_22 : decode cX6_readPairs 22 = .ok (.iconst 2, 1) := by decide +kernel
theorem dX6_readPairs_23 : decode cX6_readPairs 23 = .ok (.iload_n 2, 1) := by decide +kernel
theorem dX6_readPairs_24 : decode cX6_readPairs 24 = .ok (.imul, 1) := by decide +kernel
theorem dX6_readPairs_25 : decode cX6_readPairs 25 = .ok (.invokevirtual 31, 3) := by decide +kernel
theorem dX6_readPairs_28 : decode cX6_readPairs 28 = .ok (.iastore, 1) := by decide +kernel
theorem dX6_readPairs_29 : decode cX6_readPairs 29 = .ok (.aload_n 0, 1) := by decide +kernel
theorem dX6_readPairs_30 : decode cX6_readPairs 30 = .ok (.getfield 15, 3) := by decide +kernel
theorem dX6_readPairs_33 : decode cX6_readPairs 33 = .ok (.iload_n 2, 1) := by decide +kernel
theorem dX6_readPairs_34 : decode cX6_readPairs 34 = .ok (.aload_n 0, 1) := by decide +kernel
theorem dX6_readPairs_35 : decode cX6_readPairs 35 = .ok (.getfield 27, 3) := by decide +kernel
theorem dX6_readPairs_38 : decode cX6_readPairs 38 = .ok (.iconst 2, 1) := by decide +kernel
theorem dX6_readPairs_39 : decode cX6_readPairs 39 = .ok (.iload_n 2, 1) := by decide +kernel
theorem dX6_readPairs_40 : decode cX6_readPairs 40 = .ok (.imul, 1) := by decide +kernel
theorem dX6_readPairs_41 : decode cX6_readPairs 41 = .ok (.iconst 1, 1) := by decide +kernel
theorem dX6_readPairs_42 : decode cX6_readPairs 42 = .ok (.iadd, 1) := by decide +kernel
theorem dX6_readPairs_43 : decode cX6_readPairs 43 = .ok (.invokevirtual 31, 3) := by decide +kernel
theorem dX6_readPairs_46 : decode cX6_readPairs 46 = .ok (.iastore, 1) := by decide +kernel
theorem dX6_readPairs_47 : decode cX6_readPairs 47 = .ok (.iinc 2 1, 3) := by decide +kernel
theorem dX6_readPairs_50 : decode cX6_readPairs 50 = .ok (.goto (-48), 3) := by decide +kernel
theorem dX6_readPairs_53 : decode cX6_readPairs 53 = .ok (.return_, 1) := by decide +kernel
theorem dX6_readHours_0 : decode cX6_readHours 0 = .ok (.aload_n 0, 1) := by decide +kernel
theorem dX6_readHours_1 : decode cX6_readHours 1 = .ok (.iload_n 1, 1) := by decide +kernel
theorem dX6_readHours_2 : decode cX6_readHours 2 = .ok (.invokevirtual 49, 3) := by decide +kernel
theorem dX6_readHours_5 : decode cX6_readHours 5 = .ok (.iconst 0, 1) := by decide +kernel
theorem dX6_readHours_6 : decode cX6_readHours 6 = .ok (.istore_n 2, 1) := by decide +kernel
theorem dX6_readHours_7 : decode cX6_readHours 7 = .ok (.iload_n 2, 1) := by decide +kernel
theorem dX6_readHours_8 : decode cX6_readHours 8 = .ok (.iload_n 1, 1) := by decide +kernel
theorem dX6_readHours_9 : decode cX6_readHours 9 = .ok (.if_icmp .ge 20, 3) := by decide +kernel
theorem dX6_readHours_12 : decode cX6_readHours 12 = .ok (.aload_n 0, 1) := by decide +kernel
theorem dX6_readHours_13 : decode cX6_readHours 13 = .ok (.getfield 15, 3) := by decide +kernel
theorem dX6_readHours_16 : decode cX6_readHours 16 = .ok (.iload_n 2, 1) := by decide +kernel
theorem dX6_readHours_17 : decode cX6_readHours 17 = .ok (.iaload, 1) := by decide +kernel
theorem dX6_readHours_18 : decode cX6_readHours 18 = .ok (.ifCond .ne 5, 3) := by decide +kernel
theorem dX6_readHours_21 : decode cX6_readHours 21 = .ok (.iconst 0, 1) := by decide +kernel
theorem dX6_readHours_22 : decode cX6_readHours 22 = .ok (.ireturn, 1) := by decide +kernel
theorem dX6_readHours_23 : decode cX6_readHours 23 = .ok (.iinc 2 1, 3) := by decide +kernel
theorem dX6_readHours_26 : decode cX6_readHours 26 = .ok (.goto (-19), 3) := by decide +kernel
theorem dX6_readHours_29 : decode cX6_readHours 29 = .ok (.iconst 1, 1) := by decide +kernel
theorem dX6_readHours_30 : decode cX6_readHours 30 = .ok (.ireturn, 1) := by decide +kernel
theorem dX6_busiest_0 : decode cX6_busiest 0 = .ok (.iconst 0, 1) := by decide +kernel
theorem dX6_busiest_1 : decode cX6_busiest 1 = .ok (.istore_n 3, 1) := by decide +kernel
theorem dX6_busiest_2 : decode cX6_busiest 2 = .ok (.iconst 0, 1) := by decide +kernel
theorem dX6_busiest_3 : decode cX6_busiest 3 = .ok (.istore 4, 2) := by decide +kernel
theorem dX6_busiest_5 : decode cX6_busiest 5 = .ok (.iconst 0, 1) := by decide +kernel
theorem dX6_busiest_6 : decode cX6_busiest 6 = .ok (.istore 5, 2) := by decide +kernel
theorem dX6_busiest_8 : decode cX6_busiest 8 = .ok (.iload 5, 2) := by decide +kernel
theorem dX6_busiest_10 : decode cX6_busiest 10 = .ok (.iload_n 1, 1) := by decide +kernel
theorem dX6_busiest_11 : decode cX6_busiest 11 = .ok (.if_icmp .ge 108, 3) := by decide +kernel
theorem dX6_busiest_14 : decode cX6_busiest 14 = .ok (.iconst 0, 1) := by decide +kernel
theorem dX6_busiest_15 : decode cX6_busiest 15 = .ok (.istore 6, 2) := by decide +kernel
theorem dX6_busiest_17 : decode cX6_busiest 17 = .ok (.iconst 0, 1) := by decide +kernel
theorem dX6_busiest_18 : decode cX6_busiest 18 = .ok (.istore 7, 2) := by decide +kernel
theorem dX6_busiest_20 : decode cX6_busiest 20 = .ok (.iload 7, 2) := by decide +kernel
theorem dX6_busiest_22 : decode cX6_busiest 22 = .ok (.iload_n 1, 1) := by decide +kernel
theorem dX6_busiest_23 : decode cX6_busiest 23 = .ok (.if_icmp .ge 54, 3) := by decide +kernel
theorem dX6_busiest_26 : decode cX6_busiest 26 = .ok (.aload_n 0, 1) := by decide +kernel
theorem dX6_busiest_27 : decode cX6_busiest 27 = .ok (.getfield 9, 3) := by decide +kernel
theorem dX6_busiest_30 : decode cX6_busiest 30 = .ok (.iload 7, 2) := by decide +kernel
theorem dX6_busiest_32 : decode cX6_busiest 32 = .ok (.iaload, 1) := by decide +kernel
theorem dX6_busiest_33 : decode cX6_busiest 33 = .ok (.aload_n 0, 1) := by decide +kernel
theorem dX6_busiest_34 : decode cX6_busiest 34 = .ok (.getfield 9, 3) := by decide +kernel
theorem dX6_busiest_37 : decode cX6_busiest 37 = .ok (.iload 5, 2) := by decide +kernel
theorem dX6_busiest_39 : decode cX6_busiest 39 = .ok (.iaload, 1) := by decide +kernel
theorem dX6_busiest_40 : decode cX6_busiest 40 = .ok (.if_icmp .gt 31, 3) := by decide +kernel
theorem dX6_busiest_43 : decode cX6_busiest 43 = .ok (.aload_n 0, 1) := by decide +kernel
theorem dX6_busiest_44 : decode cX6_busiest 44 = .ok (.getfield 9, 3) := by decide +kernel
theorem dX6_busiest_47 : decode cX6_busiest 47 = .ok (.iload 5, 2) := by decide +kernel
theorem dX6_busiest_49 : decode cX6_busiest 49 = .ok (.iaload, 1) := by decide +kernel
theorem dX6_busiest_50 : decode cX6_busiest 50 = .ok (.aload_n 0, 1) := by decide +kernel
theorem dX6_busiest_51 : decode cX6_busiest 51 = .ok (.getfield 9, 3) := by decide +kernel
theorem dX6_busiest_54 : decode cX6_busiest 54 = .ok (.iload 7, 2) := by decide +kernel
theorem dX6_busiest_56 : decode cX6_busiest 56 = .ok (.iaload, 1) := by decide +kernel
theorem dX6_busiest_57 : decode cX6_busiest 57 = .ok (.aload_n 0, 1) := by decide +kernel
theorem dX6_busiest_58 : decode cX6_busiest 58 = .ok (.getfield 15, 3) := by decide +kernel
theorem dX6_busiest_61 : decode cX6_busiest 61 = .ok (.iload 7, 2) := by decide +kernel
theorem dX6_busiest_63 : decode cX6_busiest 63 = .ok (.iaload, 1) := by decide +kernel
theorem dX6_busiest_64 : decode cX6_busiest 64 = .ok (.iadd, 1) := by decide +kernel
theorem dX6_busiest_65 : decode cX6_busiest 65 = .ok (.if_icmp .ge 6, 3) := by decide +kernel
theorem dX6_busiest_68 : decode cX6_busiest 68 = .ok (.iinc 6 1, 3) := by decide +kernel
theorem dX6_busiest_71 : decode cX6_busiest 71 = .ok (.iinc 7 1, 3) := by decide +kernel
theorem dX6_busiest_74 : decode cX6_busiest 74 = .ok (.goto (-54), 3) := by decide +kernel
theorem dX6_busiest_77 : decode cX6_busiest 77 = .ok (.iload 6, 2) := by decide +kernel
theorem dX6_busiest_79 : decode cX6_busiest 79 = .ok (.iload_n 3, 1) := by decide +kernel
theorem dX6_busiest_80 : decode cX6_busiest 80 = .ok (.if_icmp .gt 21, 3) := by decide +kernel
theorem dX6_busiest_83 : decode cX6_busiest 83 = .ok (.iload 6, 2) := by decide +kernel
theorem dX6_busiest_85 : decode cX6_busiest 85 = .ok (.iload_n 3, 1) := by decide +kernel
theorem dX6_busiest_86 : decode cX6_busiest 86 = .ok (.if_icmp .ne 27, 3) := by decide +kernel
theorem dX6_busiest_89 : decode cX6_busiest 89 = .ok (.aload_n 0, 1) := by decide +kernel
theorem dX6_busiest_90 : decode cX6_busiest 90 = .ok (.getfield 9, 3) := by decide +kernel
theorem dX6_busiest_93 : decode cX6_busiest 93 = .ok (.iload 5, 2) := by decide +kernel
theorem dX6_busiest_95 : decode cX6_busiest 95 = .ok (.iaload, 1) := by decide +kernel
theorem dX6_busiest_96 : decode cX6_busiest 96 = .ok (.iload 4, 2) := by decide +kernel
theorem dX6_busiest_98 : decode cX6_busiest 98 = .ok (.if_icmp .ge 15, 3) := by decide +kernel
theorem dX6_busiest_101 : decode cX6_busiest 101 = .ok (.iload 6, 2) := by decide +kernel
theorem dX6_busiest_103 : decode cX6_busiest 103 = .ok (.istore_n 3, 1) := by decide +kernel
theorem dX6_busiest_104 : decode cX6_busiest 104 = .ok (.aload_n 0, 1) := by decide +kernel
theorem dX6_busiest_105 : decode cX6_busiest 105 = .ok (.getfield 9, 3) := by decide +kernel
theorem dX6_busiest_108 : decode cX6_busiest 108 = .ok (.iload 5, 2) := by decide +kernel
theorem dX6_busiest_110 : decode cX6_busiest 110 = .ok (.iaload, 1) := by decide +kernel
theorem dX6_busiest_111 : decode cX6_busiest 111 = .ok (.istore 4, 2) := by decide +kernel
theorem dX6_busiest_113 : decode cX6_busiest 113 = .ok (.iinc 5 1, 3) := by decide +kernel
theorem dX6_busiest_116 : decode cX6_busiest 116 = .ok (.goto (-108), 3) := by decide +kernel
theorem dX6_busiest_119 : decode cX6_busiest 119 = .ok (.iload_n 2, 1) := by decide +kernel
theorem dX6_busiest_120 : decode cX6_busiest 120 = .ok (.ifCond .eq 8, 3) := by decide +kernel
theorem dX6_busiest_123 : decode cX6_busiest 123 = .ok (.iload 4, 2) := by decide +kernel
theorem dX6_busiest_125 : decode cX6_busiest 125 = .ok (.goto 4, 3) := by decide +kernel
theorem dX6_busiest_128 : decode cX6_busiest 128 = .ok (.iload_n 3, 1) := by decide +kernel
theorem dX6_busiest_129 : decode cX6_busiest 129 = .ok (.ireturn, 1) := by decide +kernel
theorem dX6_fewestCircuits_0 : decode cX6_fewestCircuits 0 = .ok (.aload_n 0, 1) := by decide +kernel
theorem dX6_fewestCircuits_1 : decode cX6_fewestCircuits 1 = .ok (.iload_n 1, 1) := by decide +kernel
theorem dX6_fewestCircuits_2 : decode cX6_fewestCircuits 2 = .ok (.invokevirtual 53, 3) := by decide +kernel
theorem dX6_fewestCircuits_5 : decode cX6_fewestCircuits 5 = .ok (.iconst 1, 1) := by decide +kernel
theorem dX6_fewestCircuits_6 : decode cX6_fewestCircuits 6 = .ok (.istore_n 3, 1) := by decide +kernel
theorem dX6_fewestCircuits_7 : decode cX6_fewestCircuits 7 = .ok (.iload_n 3, 1) := by decide +kernel
theorem dX6_fewestCircuits_8 : decode cX6_fewestCircuits 8 = .ok (.iload_n 1, 1) := by decide +kernel
theorem dX6_fewestCircuits_9 : decode cX6_fewestCircuits 9 = .ok (.if_icmp .ge 21, 3) := by decide +kernel
theorem dX6_fewestCircuits_12 : decode cX6_fewestCircuits 12 = .ok (.aload_n 0, 1) := by decide +kernel
theorem dX6_fewestCircuits_13 : decode cX6_fewestCircuits 13 = .ok (.iload_n 3, 1) := by decide +kernel
theorem dX6_fewestCircuits_14 : decode cX6_fewestCircuits 14 = .ok (.iload_n 1, 1) := by decide +kernel
theorem dX6_fewestCircuits_15 : decode cX6_fewestCircuits 15 = .ok (.iload_n 2, 1) := by decide +kernel
theorem dX6_fewestCircuits_16 : decode cX6_fewestCircuits 16 = .ok (.invokevirtual 56, 3) := by decide +kernel
theorem dX6_fewestCircuits_19 : decode cX6_fewestCircuits 19 = .ok (.ifCond .eq 5, 3) := by decide +kernel
theorem dX6_fewestCircuits_22 : decode cX6_fewestCircuits 22 = .ok (.iload_n 3, 1) := by decide +kernel
theorem dX6_fewestCircuits_23 : decode cX6_fewestCircuits 23 = .ok (.ireturn, 1) := by decide +kernel
theorem dX6_fewestCircuits_24 : decode cX6_fewestCircuits 24 = .ok (.iinc 3 1, 3) := by decide +kernel
theorem dX6_fewestCircuits_27 : decode cX6_fewestCircuits 27 = .ok (.goto (-20), 3) := by decide +kernel
theorem dX6_fewestCircuits_30 : decode cX6_fewestCircuits 30 = .ok (.iload_n 1, 1) := by decide +kernel
theorem dX6_fewestCircuits_31 : decode cX6_fewestCircuits 31 = .ok (.ireturn, 1) := by decide +kernel
theorem dX6_sortByBeginning_0 : decode cX6_sortByBeginning 0 = .ok (.iconst 1, 1) := by decide +kernel
theorem dX6_sortByBeginning_1 : decode cX6_sortByBeginning 1 = .ok (.istore_n 2, 1) := by decide +kernel
theorem dX6_sortByBeginning_2 : decode cX6_sortByBeginning 2 = .ok (.iload_n 2, 1) := by decide +kernel
theorem dX6_sortByBeginning_3 : decode cX6_sortByBeginning 3 = .ok (.iload_n 1, 1) := by decide +kernel
theorem dX6_sortByBeginning_4 : decode cX6_sortByBeginning 4 = .ok (.if_icmp .ge 100, 3) := by decide +kernel
theorem dX6_sortByBeginning_7 : decode cX6_sortByBeginning 7 = .ok (.aload_n 0, 1) := by decide +kernel
theorem dX6_sortByBeginning_8 : decode cX6_sortByBeginning 8 = .ok (.getfield 9, 3) := by decide +kernel
theorem dX6_sortByBeginning_11 : decode cX6_sortByBeginning 11 = .ok (.iload_n 2, 1) := by decide +kernel
theorem dX6_sortByBeginning_12 : decode cX6_sortByBeginning 12 = .ok (.iaload, 1) := by decide +kernel
theorem dX6_sortByBeginning_13 : decode cX6_sortByBeginning 13 = .ok (.istore_n 3, 1) := by decide +kernel
theorem dX6_sortByBeginning_14 : decode cX6_sortByBeginning 14 = .ok (.aload_n 0, 1) := by decide +kernel
theorem dX6_sortByBeginning_15 : decode cX6_sortByBeginning 15 = .ok (.getfield 15, 3) := by decide +kernel
theorem dX6_sortByBeginning_18 : decode cX6_sortByBeginning 18 = .ok (.iload_n 2, 1) := by decide +kernel
theorem dX6_sortByBeginning_19 : decode cX6_sortByBeginning 19 = .ok (.iaload, 1) := by decide +kernel
theorem dX6_sortByBeginning_20 : decode cX6_sortByBeginning 20 = .ok (.istore 4, 2) := by decide +kernel
theorem dX6_sortByBeginning_22 : decode cX6_sortByBeginning 22 = .ok (.iload_n 2, 1) := by decide +kernel
theorem dX6_sortByBeginning_23 : decode cX6_sortByBeginning 23 = .ok (.istore 5, 2) := by decide +kernel
theorem dX6_sortByBeginning_25 : decode cX6_sortByBeginning 25 = .ok (.iload 5, 2) := by decide +kernel
theorem dX6_sortByBeginning_27 : decode cX6_sortByBeginning 27 = .ok (.ifCond .le 54, 3) := by decide +kernel
theorem dX6_sortByBeginning_30 : decode cX6_sortByBeginning 30 = .ok (.aload_n 0, 1) := by decide +kernel
theorem dX6_sortByBeginning_31 : decode cX6_sortByBeginning 31 = .ok (.getfield 9, 3) := by decide +kernel
theorem dX6_sortByBeginning_34 : decode cX6_sortByBeginning 34 = .ok (.iload 5, 2) := by decide +kernel
theorem dX6_sortByBeginning_36 : decode cX6_sortByBeginning 36 = .ok (.iconst 1, 1) := by decide +kernel
theorem dX6_sortByBeginning_37 : decode cX6_sortByBeginning 37 = .ok (.isub, 1) := by decide +kernel
theorem dX6_sortByBeginning_38 : decode cX6_sortByBeginning 38 = .ok (.iaload, 1) := by decide +kernel
theorem dX6_sortByBeginning_39 : decode cX6_sortByBeginning 39 = .ok (.iload_n 3, 1) := by decide +kernel
theorem dX6_sortByBeginning_40 : decode cX6_sortByBeginning 40 = .ok (.if_icmp .le 41, 3) := by decide +kernel
theorem dX6_sortByBeginning_43 : decode cX6_sortByBeginning 43 = .ok (.aload_n 0, 1) := by decide +kernel
theorem dX6_sortByBeginning_44 : decode cX6_sortByBeginning 44 = .ok (.getfield 9, 3) := by decide +kernel
theorem dX6_sortByBeginning_47 : decode cX6_sortByBeginning 47 = .ok (.iload 5, 2) := by decide +kernel
theorem dX6_sortByBeginning_49 : decode cX6_sortByBeginning 49 = .ok (.aload_n 0, 1) := by decide +kernel
theorem dX6_sortByBeginning_50 : decode cX6_sortByBeginning 50 = .ok (.getfield 9, 3) := by decide +kernel
theorem dX6_sortByBeginning_53 : decode cX6_sortByBeginning 53 = .ok (.iload 5, 2) := by decide +kernel
theorem dX6_sortByBeginning_55 : decode cX6_sortByBeginning 55 = .ok (.iconst 1, 1) := by decide +kernel
theorem dX6_sortByBeginning_56 : decode cX6_sortByBeginning 56 = .ok (.isub, 1) := by decide +kernel
theorem dX6_sortByBeginning_57 : decode cX6_sortByBeginning 57 = .ok (.iaload, 1) := by decide +kernel
theorem dX6_sortByBeginning_58 : decode cX6_sortByBeginning 58 = .ok (.iastore, 1) := by decide +kernel
theorem dX6_sortByBeginning_59 : decode cX6_sortByBeginning 59 = .ok (.aload_n 0, 1) := by decide +kernel
theorem dX6_sortByBeginning_60 : decode cX6_sortByBeginning 60 = .ok (.getfield 15, 3) := by decide +kernel
theorem dX6_sortByBeginning_63 : decode cX6_sortByBeginning 63 = .ok (.iload 5, 2) := by decide +kernel
theorem dX6_sortByBeginning_65 : decode cX6_sortByBeginning 65 = .ok (.aload_n 0, 1) := by decide +kernel
theorem dX6_sortByBeginning_66 : decode cX6_sortByBeginning 66 = .ok (.getfield 15, 3) := by decide +kernel
theorem dX6_sortByBeginning_69 : decode cX6_sortByBeginning 69 = .ok (.iload 5, 2) := by decide +kernel
theorem dX6_sortByBeginning_71 : decode cX6_sortByBeginning 71 = .ok (.iconst 1, 1) := by decide +kernel
theorem dX6_sortByBeginning_72 : decode cX6_sortByBeginning 72 = .ok (.isub, 1) := by decide +kernel
theorem dX6_sortByBeginning_73 : decode cX6_sortByBeginning 73 = .ok (.iaload, 1) := by decide +kernel
theorem dX6_sortByBeginning_74 : decode cX6_sortByBeginning 74 = .ok (.iastore, 1) := by decide +kernel
theorem dX6_sortByBeginning_75 : decode cX6_sortByBeginning 75 = .ok (.iinc 5 (-1), 3) := by decide +kernel
theorem dX6_sortByBeginning_78 : decode cX6_sortByBeginning 78 = .ok (.goto (-53), 3) := by decide +kernel
theorem dX6_sortByBeginning_81 : decode cX6_sortByBeginning 81 = .ok (.aload_n 0, 1) := by decide +kernel
theorem dX6_sortByBeginning_82 : decode cX6_sortByBeginning 82 = .ok (.getfield 9, 3) := by decide +kernel
theorem dX6_sortByBeginning_85 : decode cX6_sortByBeginning 85 = .ok (.iload 5, 2) := by decide +kernel
theorem dX6_sortByBeginning_87 : decode cX6_sortByBeginning 87 = .ok (.iload_n 3, 1) := by decide +kernel
theorem dX6_sortByBeginning_88 : decode cX6_sortByBeginning 88 = .ok (.iastore, 1) := by decide +kernel
theorem dX6_sortByBeginning_89 : decode cX6_sortByBeginning 89 = .ok (.aload_n 0, 1) := by decide +kernel
theorem dX6_sortByBeginning_90 : decode cX6_sortByBeginning 90 = .ok (.getfield 15, 3) := by decide +kernel
theorem dX6_sortByBeginning_93 : decode cX6_sortByBeginning 93 = .ok (.iload 5, 2) := by decide +kernel
theorem dX6_sortByBeginning_95 : decode cX6_sortByBeginning 95 = .ok (.iload 4, 2) := by decide +kernel
theorem dX6_sortByBeginning_97 : decode cX6_sortByBeginning 97 = .ok (.iastore, 1) := by decide +kernel
theorem dX6_sortByBeginning_98 : decode cX6_sortByBeginning 98 = .ok (.iinc 2 1, 3) := by decide +kernel
theorem dX6_sortByBeginning_101 : decode cX6_sortByBeginning 101 = .ok (.goto (-99), 3) := by decide +kernel
theorem dX6_sortByBeginning_104 : decode cX6_sortByBeginning 104 = .ok (.return_, 1) := by decide +kernel
theorem dX6_suffices_0 : decode cX6_suffices 0 = .ok (.iconst 0, 1) := by decide +kernel
theorem dX6_suffices_1 : decode cX6_suffices 1 = .ok (.istore 4, 2) := by decide +kernel
theorem dX6_suffices_3 : decode cX6_suffices 3 = .ok (.iload 4, 2) := by decide +kernel
theorem dX6_suffices_5 : decode cX6_suffices 5 = .ok (.iload_n 1, 1) := by decide +kernel
theorem dX6_suffices_6 : decode cX6_suffices 6 = .ok (.if_icmp .ge 17, 3) := by decide +kernel
theorem dX6_suffices_9 : decode cX6_suffices 9 = .ok (.aload_n 0, 1) := by decide +kernel
theorem dX6_suffices_10 : decode cX6_suffices 10 = .ok (.getfield 18, 3) := by decide +kernel
theorem dX6_suffices_13 : decode cX6_suffices 13 = .ok (.iload 4, 2) := by decide +kernel
theorem dX6_suffices_15 : decode cX6_suffices 15 = .ok (.iconst 0, 1) := by decide +kernel
theorem dX6_suffices_16 : decode cX6_suffices 16 = .ok (.iastore, 1) := by decide +kernel
theorem dX6_suffices_17 : decode cX6_suffices 17 = .ok (.iinc 4 1, 3) := by decide +kernel
theorem dX6_suffices_20 : decode cX6_suffices 20 = .ok (.goto (-17), 3) := by decide +kernel
theorem dX6_suffices_23 : decode cX6_suffices 23 = .ok (.iconst 0, 1) := by decide +kernel
theorem dX6_suffices_24 : decode cX6_suffices 24 = .ok (.istore 4, 2) := by decide +kernel
theorem dX6_suffices_26 : decode cX6_suffices 26 = .ok (.iload 4, 2) := by decide +kernel
theorem dX6_suffices_28 : decode cX6_suffices 28 = .ok (.iload_n 2, 1) := by decide +kernel
theorem dX6_suffices_29 : decode cX6_suffices 29 = .ok (.if_icmp .ge 100, 3) := by decide +kernel
theorem dX6_suffices_32 : decode cX6_suffices 32 = .ok (.iconst 0, 1) := by decide +kernel
theorem dX6_suffices_33 : decode cX6_suffices 33 = .ok (.istore 5, 2) := by decide +kernel
theorem dX6_suffices_35 : decode cX6_suffices 35 = .ok (.iconst 1, 1) := by decide +kernel
theorem dX6_suffices_36 : decode cX6_suffices 36 = .ok (.istore 6, 2) := by decide +kernel
theorem dX6_suffices_38 : decode cX6_suffices 38 = .ok (.iload 6, 2) := by decide +kernel
theorem dX6_suffices_40 : decode cX6_suffices 40 = .ok (.iload_n 1, 1) := by decide +kernel
theorem dX6_suffices_41 : decode cX6_suffices 41 = .ok (.if_icmp .ge 30, 3) := by decide +kernel
theorem dX6_suffices_44 : decode cX6_suffices 44 = .ok (.aload_n 0, 1) := by decide +kernel
theorem dX6_suffices_45 : decode cX6_suffices 45 = .ok (.getfield 18, 3) := by decide +kernel
theorem dX6_suffices_48 : decode cX6_suffices 48 = .ok (.iload 6, 2) := by decide +kernel
theorem dX6_suffices_50 : decode cX6_suffices 50 = .ok (.iaload, 1) := by decide +kernel
theorem dX6_suffices_51 : decode cX6_suffices 51 = .ok (.aload_n 0, 1) := by decide +kernel
theorem dX6_suffices_52 : decode cX6_suffices 52 = .ok (.getfield 18, 3) := by decide +kernel
theorem dX6_suffices_55 : decode cX6_suffices 55 = .ok (.iload 5, 2) := by decide +kernel
theorem dX6_suffices_57 : decode cX6_suffices 57 = .ok (.iaload, 1) := by decide +kernel
theorem dX6_suffices_58 : decode cX6_suffices 58 = .ok (.if_icmp .ge 7, 3) := by decide +kernel
theorem dX6_suffices_61 : decode cX6_suffices 61 = .ok (.iload 6, 2) := by decide +kernel
theorem dX6_suffices_63 : decode cX6_suffices 63 = .ok (.istore 5, 2) := by decide +kernel
theorem dX6_suffices_65 : decode cX6_suffices 65 = .ok (.iinc 6 1, 3) := by decide +kernel
theorem dX6_suffices_68 : decode cX6_suffices 68 = .ok (.goto (-30), 3) := by decide +kernel
theorem dX6_suffices_71 : decode cX6_suffices 71 = .ok (.aload_n 0, 1) := by decide +kernel
theorem dX6_suffices_72 : decode cX6_suffices 72 = .ok (.getfield 9, 3) := by decide +kernel
theorem dX6_suffices_75 : decode cX6_suffices 75 = .ok (.iload 4, 2) := by decide +kernel
theorem dX6_suffices_77 : decode cX6_suffices 77 = .ok (.iaload, 1) := by decide +kernel
theorem dX6_suffices_78 : decode cX6_suffices 78 = .ok (.aload_n 0, 1) := by decide +kernel
theorem dX6_suffices_79 : decode cX6_suffices 79 = .ok (.getfield 18, 3) := by decide +kernel
theorem dX6_suffices_82 : decode cX6_suffices 82 = .ok (.iload 5, 2) := by decide +kernel
theorem dX6_suffices_84 : decode cX6_suffices 84 = .ok (.iaload, 1) := by decide +kernel
theorem dX6_suffices_85 : decode cX6_suffices 85 = .ok (.invokestatic 60, 3) := by decide +kernel
theorem dX6_suffices_88 : decode cX6_suffices 88 = .ok (.istore 6, 2) := by decide +kernel
theorem dX6_suffices_90 : decode cX6_suffices 90 = .ok (.iload 6, 2) := by decide +kernel
theorem dX6_suffices_92 : decode cX6_suffices 92 = .ok (.aload_n 0, 1) := by decide +kernel
theorem dX6_suffices_93 : decode cX6_suffices 93 = .ok (.getfield 9, 3) := by decide +kernel
theorem dX6_suffices_96 : decode cX6_suffices 96 = .ok (.iload 4, 2) := by decide +kernel
theorem dX6_suffices_98 : decode cX6_suffices 98 = .ok (.iaload, 1) := by decide +kernel
theorem dX6_suffices_99 : decode cX6_suffices 99 = .ok (.iload_n 3, 1) := by decide +kernel
theorem dX6_suffices_100 : decode cX6_suffices 100 = .ok (.iadd, 1) := by decide +kernel
theorem dX6_suffices_101 : decode cX6_suffices 101 = .ok (.if_icmp .le 5, 3) := by decide +kernel
theorem dX6_suffices_104 : decode cX6_suffices 104 = .ok (.iconst 0, 1) := by decide +kernel
theorem dX6_suffices_105 : decode cX6_suffices 105 = .ok (.ireturn, 1) := by decide +kernel
theorem dX6_suffices_106 : decode cX6_suffices 106 = .ok (.aload_n 0, 1) := by decide +kernel
theorem dX6_suffices_107 : decode cX6_suffices 107 = .ok (.getfield 18, 3) := by decide +kernel
theorem dX6_suffices_110 : decode cX6_suffices 110 = .ok (.iload 5, 2) := by decide +kernel
theorem dX6_suffices_112 : decode cX6_suffices 112 = .ok (.iload 6, 2) := by decide +kernel
theorem dX6_suffices_114 : decode cX6_suffices 114 = .ok (.aload_n 0, 1) := by decide +kernel
theorem dX6_suffices_115 : decode cX6_suffices 115 = .ok (.getfield 15, 3) := by decide +kernel
theorem dX6_suffices_118 : decode cX6_suffices 118 = .ok (.iload 4, 2) := by decide +kernel
theorem dX6_suffices_120 : decode cX6_suffices 120 = .ok (.iaload, 1) := by decide +kernel
theorem dX6_suffices_121 : decode cX6_suffices 121 = .ok (.iadd, 1) := by decide +kernel
theorem dX6_suffices_122 : decode cX6_suffices 122 = .ok (.iastore, 1) := by decide +kernel
theorem dX6_suffices_123 : decode cX6_suffices 123 = .ok (.iinc 4 1, 3) := by decide +kernel
theorem dX6_suffices_126 : decode cX6_suffices 126 = .ok (.goto (-100), 3) := by decide +kernel
theorem dX6_suffices_129 : decode cX6_suffices 129 = .ok (.iconst 1, 1) := by decide +kernel
theorem dX6_suffices_130 : decode cX6_suffices 130 = .ok (.ireturn, 1) := by decide +kernel
theorem dX6_readTariffs_0 : decode cX6_readTariffs 0 = .ok (.aload_n 0, 1) := by decide +kernel
theorem dX6_readTariffs_1 : decode cX6_readTariffs 1 = .ok (.iload_n 1, 1) := by decide +kernel
theorem dX6_readTariffs_2 : decode cX6_readTariffs 2 = .ok (.invokevirtual 49, 3) := by decide +kernel
theorem dX6_readTariffs_5 : decode cX6_readTariffs 5 = .ok (.iconst 0, 1) := by decide +kernel
theorem dX6_readTariffs_6 : decode cX6_readTariffs 6 = .ok (.istore_n 2, 1) := by decide +kernel
theorem dX6_readTariffs_7 : decode cX6_readTariffs 7 = .ok (.iload_n 2, 1) := by decide +kernel
theorem dX6_readTariffs_8 : decode cX6_readTariffs 8 = .ok (.iload_n 1, 1) := by decide +kernel
theorem dX6_readTariffs_9 : decode cX6_readTariffs 9 = .ok (.if_icmp .ge 35, 3) := by decide +kernel
theorem dX6_readTariffs_12 : decode cX6_readTariffs 12 = .ok (.aload_n 0, 1) := by decide +kernel
theorem dX6_readTariffs_13 : decode cX6_readTariffs 13 = .ok (.getfield 9, 3) := by decide +kernel
theorem dX6_readTariffs_16 : decode cX6_readTariffs 16 = .ok (.iload_n 2, 1) := by decide +kernel
theorem dX6_readTariffs_17 : decode cX6_readTariffs 17 = .ok (.iaload, 1) := by decide +kernel
theorem dX6_readTariffs_18 : decode cX6_readTariffs 18 = .ok (.iconst 1, 1) := by decide +kernel
theorem dX6_readTariffs_19 : decode cX6_readTariffs 19 = .ok (.bipush 60, 2) := by decide +kernel
theorem dX6_readTariffs_21 : decode cX6_readTariffs 21 = .ok (.invokestatic 66, 3) := by decide +kernel
theorem dX6_readTariffs_24 : decode cX6_readTariffs 24 = .ok (.ifCond .eq 12, 3) := by decide +kernel
theorem dX6_readTariffs_27 : decode cX6_readTariffs 27 = .ok (.aload_n 0, 1) := by decide +kernel
theorem dX6_readTariffs_28 : decode cX6_readTariffs 28 = .ok (.getfield 15, 3) := by decide +kernel
theorem dX6_readTariffs_31 : decode cX6_readTariffs 31 = .ok (.iload_n 2, 1) := by decide +kernel
theorem dX6_readTariffs_32 : decode cX6_readTariffs 32 = .ok (.iaload, 1) := by decide +kernel
theorem dX6_readTariffs_33 : decode cX6_readTariffs 33 = .ok (.ifCond .ne 5, 3) := by decide +kernel
theorem dX6_readTariffs_36 : decode cX6_readTariffs 36 = .ok (.iconst 0, 1) := by decide +kernel
theorem dX6_readTariffs_37 : decode cX6_readTariffs 37 = .ok (.ireturn, 1) := by decide +kernel
theorem dX6_readTariffs_38 : decode cX6_readTariffs 38 = .ok (.iinc 2 1, 3) := by decide +kernel
theorem dX6_readTariffs_41 : decode cX6_readTariffs 41 = .ok (.goto (-34), 3) := by decide +kernel
theorem dX6_readTariffs_44 : decode cX6_readTariffs 44 = .ok (.iconst 1, 1) := by decide +kernel
theorem dX6_readTariffs_45 : decode cX6_readTariffs 45 = .ok (.ireturn, 1) := by decide +kernel
theorem dX6_leastPence_0 : decode cX6_leastPence 0 = .ok (.aload_n 0, 1) := by decide +kernel
theorem dX6_leastPence_1 : decode cX6_leastPence 1 = .ok (.getfield 21, 3) := by decide +kernel
theorem dX6_leastPence_4 : decode cX6_leastPence 4 = .ok (.iconst 0, 1) := by decide +kernel
theorem dX6_leastPence_5 : decode cX6_leastPence 5 = .ok (.iconst 0, 1) := by decide +kernel
theorem dX6_leastPence_6 : decode cX6_leastPence 6 = .ok (.iastore, 1) := by decide +kernel
theorem dX6_leastPence_7 : decode cX6_leastPence 7 = .ok (.iconst 1, 1) := by decide +kernel
theorem dX6_leastPence_8 : decode cX6_leastPence 8 = .ok (.istore 4, 2) := by decide +kernel
theorem dX6_leastPence_10 : decode cX6_leastPence 10 = .ok (.iload 4, 2) := by decide +kernel
theorem dX6_leastPence_12 : decode cX6_leastPence 12 = .ok (.iload_n 3, 1) := by decide +kernel
theorem dX6_leastPence_13 : decode cX6_leastPence 13 = .ok (.if_icmp .gt 77, 3) := by decide +kernel
theorem dX6_leastPence_16 : decode cX6_leastPence 16 = .ok (.aload_n 0, 1) := by decide +kernel
theorem dX6_leastPence_17 : decode cX6_leastPence 17 = .ok (.getfield 21, 3) := by decide +kernel
theorem dX6_leastPence_20 : decode cX6_leastPence 20 = .ok (.iload 4, 2) := by decide +kernel
theorem dX6_leastPence_22 : decode cX6_leastPence 22 = .ok (.ldc 69, 2) := by decide +kernel
theorem dX6_leastPence_24 : decode cX6_leastPence 24 = .ok (.iastore, 1) := by decide +kernel
theorem dX6_leastPence_25 : decode cX6_leastPence 25 = .ok (.iload_n 1, 1) := by decide +kernel
theorem dX6_leastPence_26 : decode cX6_leastPence 26 = .ok (.istore 5, 2) := by decide +kernel
theorem dX6_leastPence_28 : decode cX6_leastPence 28 = .ok (.iload 5, 2) := by decide +kernel
theorem dX6_leastPence_30 : decode cX6_leastPence 30 = .ok (.iload_n 2, 1) := by decide +kernel
theorem dX6_leastPence_31 : decode cX6_leastPence 31 = .ok (.if_icmp .ge 53, 3) := by decide +kernel
theorem dX6_leastPence_34 : decode cX6_leastPence 34 = .ok (.aload_n 0, 1) := by decide +kernel
theorem dX6_leastPence_35 : decode cX6_leastPence 35 = .ok (.getfield 21, 3) := by decide +kernel
theorem dX6_leastPence_38 : decode cX6_leastPence 38 = .ok (.iload 4, 2) := by decide +kernel
theorem dX6_leastPence_40 : decode cX6_leastPence 40 = .ok (.aload_n 0, 1) := by decide +kernel
theorem dX6_leastPence_41 : decode cX6_leastPence 41 = .ok (.getfield 21, 3) := by decide +kernel
theorem dX6_leastPence_44 : decode cX6_leastPence 44 = .ok (.iload 4, 2) := by decide +kernel
theorem dX6_leastPence_46 : decode cX6_leastPence 46 = .ok (.iaload, 1) := by decide +kernel
theorem dX6_leastPence_47 : decode cX6_leastPence 47 = .ok (.aload_n 0, 1) := by decide +kernel
theorem dX6_leastPence_48 : decode cX6_leastPence 48 = .ok (.getfield 21, 3) := by decide +kernel
theorem dX6_leastPence_51 : decode cX6_leastPence 51 = .ok (.iconst 0, 1) := by decide +kernel
theorem dX6_leastPence_52 : decode cX6_leastPence 52 = .ok (.iload 4, 2) := by decide +kernel
theorem dX6_leastPence_54 : decode cX6_leastPence 54 = .ok (.aload_n 0, 1) := by decide +kernel
theorem dX6_leastPence_55 : decode cX6_leastPence 55 = .ok (.getfield 9, 3) := by decide +kernel
theorem dX6_leastPence_58 : decode cX6_leastPence 58 = .ok (.iload 5, 2) := by decide +kernel
theorem dX6_leastPence_60 : decode cX6_leastPence 60 = .ok (.iaload, 1) := by decide +kernel
theorem dX6_leastPence_61 : decode cX6_leastPence 61 = .ok (.isub, 1) := by decide +kernel
theorem dX6_leastPence_62 : decode cX6_leastPence 62 = .ok (.invokestatic 60, 3) := by decide +kernel
theorem dX6_leastPence_65 : decode cX6_leastPence 65 = .ok (.iaload, 1) := by decide +kernel
theorem dX6_leastPence_66 : decode cX6_leastPence 66 = .ok (.aload_n 0, 1) := by decide +kernel
theorem dX6_leastPence_67 : decode cX6_leastPence 67 = .ok (.getfield 15, 3) := by decide +kernel
theorem dX6_leastPence_70 : decode cX6_leastPence 70 = .ok (.iload 5, 2) := by decide +kernel
theorem dX6_leastPence_72 : decode cX6_leastPence 72 = .ok (.iaload, 1) := by decide +kernel
theorem dX6_leastPence_73 : decode cX6_leastPence 73 = .ok (.iadd, 1) := by decide +kernel
theorem dX6_leastPence_74 : decode cX6_leastPence 74 = .ok (.invokestatic 70, 3) := by decide +kernel
theorem dX6_leastPence_77 : decode cX6_leastPence 77 = .ok (.iastore, 1) := by decide +kernel
theorem dX6_leastPence_78 : decode cX6_leastPence 78 = .ok (.iinc 5 1, 3) := by decide +kernel
theorem dX6_leastPence_81 : decode cX6_leastPence 81 = .ok (.goto (-53), 3) := by decide +kernel
theorem dX6_leastPence_84 : decode cX6_leastPence 84 = .ok (.iinc 4 1, 3) := by decide +kernel
theorem dX6_leastPence_87 : decode cX6_leastPence 87 = .ok (.goto (-77), 3) := by decide +kernel
theorem dX6_leastPence_90 : decode cX6_leastPence 90 = .ok (.aload_n 0, 1) := by decide +kernel
theorem dX6_leastPence_91 : decode cX6_leastPence 91 = .ok (.getfield 21, 3) := by decide +kernel
theorem dX6_leastPence_94 : decode cX6_leastPence 94 = .ok (.iload_n 3, 1) := by decide +kernel
theorem dX6_leastPence_95 : decode cX6_leastPence 95 = .ok (.iaload, 1) := by decide +kernel
theorem dX6_leastPence_96 : decode cX6_leastPence 96 = .ok (.ireturn, 1) := by decide +kernel
theorem dX6_howOften_0 : decode cX6_howOften 0 = .ok (.iload_n 2, 1) := by decide +kernel
theorem dX6_howOften_1 : decode cX6_howOften 1 = .ok (.istore 4, 2) := by decide +kernel
theorem dX6_howOften_3 : decode cX6_howOften 3 = .ok (.iconst 0, 1) := by decide +kernel
theorem dX6_howOften_4 : decode cX6_howOften 4 = .ok (.istore 5, 2) := by decide +kernel
theorem dX6_howOften_6 : decode cX6_howOften 6 = .ok (.iconst 0, 1) := by decide +kernel
theorem dX6_howOften_7 : decode cX6_howOften 7 = .ok (.istore 6, 2) := by decide +kernel
theorem dX6_howOften_9 : decode cX6_howOften 9 = .ok (.iload 6, 2) := by decide +kernel
theorem dX6_howOften_11 : decode cX6_howOften 11 = .ok (.iload_n 3, 1) := by decide +kernel
theorem dX6_howOften_12 : decode cX6_howOften 12 = .ok (.if_icmp .gt 63, 3) := by decide +kernel
theorem dX6_howOften_15 : decode cX6_howOften 15 = .ok (.aload_n 0, 1) := by decide +kernel
theorem dX6_howOften_16 : decode cX6_howOften 16 = .ok (.iload 6, 2) := by decide +kernel
theorem dX6_howOften_18 : decode cX6_howOften 18 = .ok (.iload_n 1, 1) := by decide +kernel
theorem dX6_howOften_19 : decode cX6_howOften 19 = .ok (.iload 4, 2) := by decide +kernel
theorem dX6_howOften_21 : decode cX6_howOften 21 = .ok (.invokevirtual 73, 3) := by decide +kernel
theorem dX6_howOften_24 : decode cX6_howOften 24 = .ok (.istore 7, 2) := by decide +kernel
theorem dX6_howOften_26 : decode cX6_howOften 26 = .ok (.aload_n 0, 1) := by decide +kernel
theorem dX6_howOften_27 : decode cX6_howOften 27 = .ok (.iload 6, 2) := by decide +kernel
theorem dX6_howOften_29 : decode cX6_howOften 29 = .ok (.iconst 1, 1) := by decide +kernel
theorem dX6_howOften_30 : decode cX6_howOften 30 = .ok (.iadd, 1) := by decide +kernel
theorem dX6_howOften_31 : decode cX6_howOften 31 = .ok (.iload_n 1, 1) := by decide +kernel
theorem dX6_howOften_32 : decode cX6_howOften 32 = .ok (.iload 4, 2) := by decide +kernel
theorem dX6_howOften_34 : decode cX6_howOften 34 = .ok (.invokevirtual 73, 3) := by decide +kernel
theorem dX6_howOften_37 : decode cX6_howOften 37 = .ok (.pop, 1) := by decide +kernel
theorem dX6_howOften_38 : decode cX6_howOften 38 = .ok (.aload_n 0, 1) := by decide +kernel
theorem dX6_howOften_39 : decode cX6_howOften 39 = .ok (.iload 6, 2) := by decide +kernel
theorem dX6_howOften_41 : decode cX6_howOften 41 = .ok (.iload 4, 2) := by decide +kernel
theorem dX6_howOften_43 : decode cX6_howOften 43 = .ok (.iload 7, 2) := by decide +kernel
theorem dX6_howOften_45 : decode cX6_howOften 45 = .ok (.invokevirtual 77, 3) := by decide +kernel
theorem dX6_howOften_48 : decode cX6_howOften 48 = .ok (.istore 5, 2) := by decide +kernel
theorem dX6_howOften_50 : decode cX6_howOften 50 = .ok (.iconst 0, 1) := by decide +kernel
theorem dX6_howOften_51 : decode cX6_howOften 51 = .ok (.iload 4, 2) := by decide +kernel
theorem dX6_howOften_53 : decode cX6_howOften 53 = .ok (.iload 5, 2) := by decide +kernel
theorem dX6_howOften_55 : decode cX6_howOften 55 = .ok (.aload_n 0, 1) := by decide +kernel
theorem dX6_howOften_56 : decode cX6_howOften 56 = .ok (.getfield 9, 3) := by decide +kernel
theorem dX6_howOften_59 : decode cX6_howOften 59 = .ok (.iload 6, 2) := by decide +kernel
theorem dX6_howOften_61 : decode cX6_howOften 61 = .ok (.iaload, 1) := by decide +kernel
theorem dX6_howOften_62 : decode cX6_howOften 62 = .ok (.imul, 1) := by decide +kernel
theorem dX6_howOften_63 : decode cX6_howOften 63 = .ok (.isub, 1) := by decide +kernel
theorem dX6_howOften_64 : decode cX6_howOften 64 = .ok (.invokestatic 60, 3) := by decide +kernel
theorem dX6_howOften_67 : decode cX6_howOften 67 = .ok (.istore 4, 2) := by decide +kernel
theorem dX6_howOften_69 : decode cX6_howOften 69 = .ok (.iinc 6 1, 3) := by decide +kernel
theorem dX6_howOften_72 : decode cX6_howOften 72 = .ok (.goto (-63), 3) := by decide +kernel
theorem dX6_howOften_75 : decode cX6_howOften 75 = .ok (.iload 5, 2) := by decide +kernel
theorem dX6_howOften_77 : decode cX6_howOften 77 = .ok (.ireturn, 1) := by decide +kernel
theorem dX6_mostOf_0 : decode cX6_mostOf 0 = .ok (.iload_n 2, 1) := by decide +kernel
theorem dX6_mostOf_1 : decode cX6_mostOf 1 = .ok (.istore 4, 2) := by decide +kernel
theorem dX6_mostOf_3 : decode cX6_mostOf 3 = .ok (.iload 4, 2) := by decide +kernel
theorem dX6_mostOf_5 : decode cX6_mostOf 5 = .ok (.ifCond .le 50, 3) := by decide +kernel
theorem dX6_mostOf_8 : decode cX6_mostOf 8 = .ok (.iconst 0, 1) := by decide +kernel
theorem dX6_mostOf_9 : decode cX6_mostOf 9 = .ok (.iload_n 2, 1) := by decide +kernel
theorem dX6_mostOf_10 : decode cX6_mostOf 10 = .ok (.iload 4, 2) := by decide +kernel
theorem dX6_mostOf_12 : decode cX6_mostOf 12 = .ok (.aload_n 0, 1) := by decide +kernel
theorem dX6_mostOf_13 : decode cX6_mostOf 13 = .ok (.getfield 9, 3) := by decide +kernel
theorem dX6_mostOf_16 : decode cX6_mostOf 16 = .ok (.iload_n 1, 1) := by decide +kernel
theorem dX6_mostOf_17 : decode cX6_mostOf 17 = .ok (.iaload, 1) := by decide +kernel
theorem dX6_mostOf_18 : decode cX6_mostOf 18 = .ok (.imul, 1) := by decide +kernel
theorem dX6_mostOf_19 : decode cX6_mostOf 19 = .ok (.isub, 1) := by decide +kernel
theorem dX6_mostOf_20 : decode cX6_mostOf 20 = .ok (.invokestatic 60, 3) := by decide +kernel
theorem dX6_mostOf_23 : decode cX6_mostOf 23 = .ok (.istore 5, 2) := by decide +kernel
theorem dX6_mostOf_25 : decode cX6_mostOf 25 = .ok (.iload 4, 2) := by decide +kernel
theorem dX6_mostOf_27 : decode cX6_mostOf 27 = .ok (.aload_n 0, 1) := by decide +kernel
theorem dX6_mostOf_28 : decode cX6_mostOf 28 = .ok (.getfield 15, 3) := by decide +kernel
theorem dX6_mostOf_31 : decode cX6_mostOf 31 = .ok (.iload_n 1, 1) := by decide +kernel
theorem dX6_mostOf_32 : decode cX6_mostOf 32 = .ok (.iaload, 1) := by decide +kernel
theorem dX6_mostOf_33 : decode cX6_mostOf 33 = .ok (.imul, 1) := by decide +kernel
theorem dX6_mostOf_34 : decode cX6_mostOf 34 = .ok (.aload_n 0, 1) := by decide +kernel
theorem dX6_mostOf_35 : decode cX6_mostOf 35 = .ok (.getfield 21, 3) := by decide +kernel
theorem dX6_mostOf_38 : decode cX6_mostOf 38 = .ok (.iload 5, 2) := by decide +kernel
theorem dX6_mostOf_40 : decode cX6_mostOf 40 = .ok (.iaload, 1) := by decide +kernel
theorem dX6_mostOf_41 : decode cX6_mostOf 41 = .ok (.iadd, 1) := by decide +kernel
theorem dX6_mostOf_42 : decode cX6_mostOf 42 = .ok (.iload_n 3, 1) := by decide +kernel
theorem dX6_mostOf_43 : decode cX6_mostOf 43 = .ok (.if_icmp .ne 6, 3) := by decide +kernel
theorem dX6_mostOf_46 : decode cX6_mostOf 46 = .ok (.iload 4, 2) := by decide +kernel
theorem dX6_mostOf_48 : decode cX6_mostOf 48 = .ok (.ireturn, 1) := by decide +kernel
theorem dX6_mostOf_49 : decode cX6_mostOf 49 = .ok (.iinc 4 (-1), 3) := by decide +kernel
theorem dX6_mostOf_52 : decode cX6_mostOf 52 = .ok (.goto (-49), 3) := by decide +kernel
theorem dX6_mostOf_55 : decode cX6_mostOf 55 = .ok (.iconst 0, 1) := by decide +kernel
theorem dX6_mostOf_56 : decode cX6_mostOf 56 = .ok (.ireturn, 1) := by decide +kernel
theorem dX6_readTellers_0 : decode cX6_readTellers 0 = .ok (.aload_n 0, 1) := by decide +kernel
theorem dX6_readTellers_1 : decode cX6_readTellers 1 = .ok (.getfield 9, 3) := by decide +kernel
theorem dX6_readTellers_4 : decode cX6_readTellers 4 = .ok (.iconst 0, 1) := by decide +kernel
theorem dX6_readTellers_5 : decode cX6_readTellers 5 = .ok (.iconst (-1), 1) := by decide +kernel
theorem dX6_readTellers_6 : decode cX6_readTellers 6 = .ok (.iastore, 1) := by decide +kernel
theorem dX6_readTellers_7 : decode cX6_readTellers 7 = .ok (.iconst 1, 1) := by decide +kernel
theorem dX6_readTellers_8 : decode cX6_readTellers 8 = .ok (.istore_n 2, 1) := by decide +kernel
theorem dX6_readTellers_9 : decode cX6_readTellers 9 = .ok (.iload_n 2, 1) := by decide +kernel
theorem dX6_readTellers_10 : decode cX6_readTellers 10 = .ok (.iload_n 1, 1) := by decide +kernel
theorem dX6_readTellers_11 : decode cX6_readTellers 11 = .ok (.if_icmp .ge 35, 3) := by decide +kernel
theorem dX6_readTellers_14 : decode cX6_readTellers 14 = .ok (.aload_n 0, 1) := by decide +kernel
theorem dX6_readTellers_15 : decode cX6_readTellers 15 = .ok (.getfield 9, 3) := by decide +kernel
theorem dX6_readTellers_18 : decode cX6_readTellers 18 = .ok (.iload_n 2, 1) := by decide +kernel
theorem dX6_readTellers_19 : decode cX6_readTellers 19 = .ok (.aload_n 0, 1) := by decide +kernel
theorem dX6_readTellers_20 : decode cX6_readTellers 20 = .ok (.getfield 27, 3) := by decide +kernel
theorem dX6_readTellers_23 : decode cX6_readTellers 23 = .ok (.iload_n 2, 1) := by decide +kernel
theorem dX6_readTellers_24 : decode cX6_readTellers 24 = .ok (.invokevirtual 31, 3) := by decide +kernel
theorem dX6_readTellers_27 : decode cX6_readTellers 27 = .ok (.iastore, 1) := by decide +kernel
theorem dX6_readTellers_28 : decode cX6_readTellers 28 = .ok (.aload_n 0, 1) := by decide +kernel
theorem dX6_readTellers_29 : decode cX6_readTellers 29 = .ok (.getfield 9, 3) := by decide +kernel
theorem dX6_readTellers_32 : decode cX6_readTellers 32 = .ok (.iload_n 2, 1) := by decide +kernel
theorem dX6_readTellers_33 : decode cX6_readTellers 33 = .ok (.iaload, 1) := by decide +kernel
theorem dX6_readTellers_34 : decode cX6_readTellers 34 = .ok (.iload_n 2, 1) := by decide +kernel
theorem dX6_readTellers_35 : decode cX6_readTellers 35 = .ok (.if_icmp .lt 5, 3) := by decide +kernel
theorem dX6_readTellers_38 : decode cX6_readTellers 38 = .ok (.iconst 0, 1) := by decide +kernel
theorem dX6_readTellers_39 : decode cX6_readTellers 39 = .ok (.ireturn, 1) := by decide +kernel
theorem dX6_readTellers_40 : decode cX6_readTellers 40 = .ok (.iinc 2 1, 3) := by decide +kernel
theorem dX6_readTellers_43 : decode cX6_readTellers 43 = .ok (.goto (-34), 3) := by decide +kernel
theorem dX6_readTellers_46 : decode cX6_readTellers 46 = .ok (.iconst 1, 1) := by decide +kernel
theorem dX6_readTellers_47 : decode cX6_readTellers 47 = .ok (.ireturn, 1) := by decide +kernel
theorem dX6_soonest_0 : decode cX6_soonest 0 = .ok (.iload_n 1, 1) := by decide +kernel
theorem dX6_soonest_1 : decode cX6_soonest 1 = .ok (.iconst 1, 1) := by decide +kernel
theorem dX6_soonest_2 : decode cX6_soonest 2 = .ok (.isub, 1) := by decide +kernel
theorem dX6_soonest_3 : decode cX6_soonest 3 = .ok (.istore_n 2, 1) := by decide +kernel
theorem dX6_soonest_4 : decode cX6_soonest 4 = .ok (.iload_n 2, 1) := by decide +kernel
theorem dX6_soonest_5 : decode cX6_soonest 5 = .ok (.ifCond .lt 69, 3) := by decide +kernel
theorem dX6_soonest_8 : decode cX6_soonest 8 = .ok (.aload_n 0, 1) := by decide +kernel
theorem dX6_soonest_9 : decode cX6_soonest 9 = .ok (.getfield 15, 3) := by decide +kernel
theorem dX6_soonest_12 : decode cX6_soonest 12 = .ok (.iload_n 2, 1) := by decide +kernel
theorem dX6_soonest_13 : decode cX6_soonest 13 = .ok (.iconst 0, 1) := by decide +kernel
theorem dX6_soonest_14 : decode cX6_soonest 14 = .ok (.iastore, 1) := by decide +kernel
theorem dX6_soonest_15 : decode cX6_soonest 15 = .ok (.iload_n 2, 1) := by decide +kernel
theorem dX6_soonest_16 : decode cX6_soonest 16 = .ok (.iconst 1, 1) := by decide +kernel
theorem dX6_soonest_17 : decode cX6_soonest 17 = .ok (.iadd, 1) := by decide +kernel
theorem dX6_soonest_18 : decode cX6_soonest 18 = .ok (.istore_n 3, 1) := by decide +kernel
theorem dX6_soonest_19 : decode cX6_soonest 19 = .ok (.iload_n 3, 1) := by decide +kernel
theorem dX6_soonest_20 : decode cX6_soonest 20 = .ok (.iload_n 1, 1) := by decide +kernel
theorem dX6_soonest_21 : decode cX6_soonest 21 = .ok (.if_icmp .ge 47, 3) := by decide +kernel
theorem dX6_soonest_24 : decode cX6_soonest 24 = .ok (.aload_n 0, 1) := by decide +kernel
theorem dX6_soonest_25 : decode cX6_soonest 25 = .ok (.getfield 9, 3) := by decide +kernel
theorem dX6_soonest_28 : decode cX6_soonest 28 = .ok (.iload_n 3, 1) := by decide +kernel
theorem dX6_soonest_29 : decode cX6_soonest 29 = .ok (.iaload, 1) := by decide +kernel
theorem dX6_soonest_30 : decode cX6_soonest 30 = .ok (.iload_n 2, 1) := by decide +kernel
theorem dX6_soonest_31 : decode cX6_soonest 31 = .ok (.if_icmp .ne 31, 3) := by decide +kernel
theorem dX6_soonest_34 : decode cX6_soonest 34 = .ok (.aload_n 0, 1) := by decide +kernel
theorem dX6_soonest_35 : decode cX6_soonest 35 = .ok (.getfield 15, 3) := by decide +kernel
theorem dX6_soonest_38 : decode cX6_soonest 38 = .ok (.iload_n 2, 1) := by decide +kernel
theorem dX6_soonest_39 : decode cX6_soonest 39 = .ok (.aload_n 0, 1) := by decide +kernel
theorem dX6_soonest_40 : decode cX6_soonest 40 = .ok (.getfield 15, 3) := by decide +kernel
theorem dX6_soonest_43 : decode cX6_soonest 43 = .ok (.iload_n 2, 1) := by decide +kernel
theorem dX6_soonest_44 : decode cX6_soonest 44 = .ok (.iaload, 1) := by decide +kernel
theorem dX6_soonest_45 : decode cX6_soonest 45 = .ok (.aload_n 0, 1) := by decide +kernel
theorem dX6_soonest_46 : decode cX6_soonest 46 = .ok (.iload_n 3, 1) := by decide +kernel
theorem dX6_soonest_47 : decode cX6_soonest 47 = .ok (.iload_n 1, 1) := by decide +kernel
theorem dX6_soonest_48 : decode cX6_soonest 48 = .ok (.invokevirtual 80, 3) := by decide +kernel
theorem dX6_soonest_51 : decode cX6_soonest 51 = .ok (.aload_n 0, 1) := by decide +kernel
theorem dX6_soonest_52 : decode cX6_soonest 52 = .ok (.getfield 15, 3) := by decide +kernel
theorem dX6_soonest_55 : decode cX6_soonest 55 = .ok (.iload_n 3, 1) := by decide +kernel
theorem dX6_soonest_56 : decode cX6_soonest 56 = .ok (.iaload, 1) := by decide +kernel
theorem dX6_soonest_57 : decode cX6_soonest 57 = .ok (.iadd, 1) := by decide +kernel
theorem dX6_soonest_58 : decode cX6_soonest 58 = .ok (.invokestatic 60, 3) := by decide +kernel
theorem dX6_soonest_61 : decode cX6_soonest 61 = .ok (.iastore, 1) := by decide +kernel
theorem dX6_soonest_62 : decode cX6_soonest 62 = .ok (.iinc 3 1, 3) := by decide +kernel
theorem dX6_soonest_65 : decode cX6_soonest 65 = .ok (.goto (-46), 3) := by decide +kernel
theorem dX6_soonest_68 : decode cX6_soonest 68 = .ok (.iinc 2 (-1), 3) := by decide +kernel
theorem dX6_soonest_71 : decode cX6_soonest 71 = .ok (.goto (-67), 3) := by decide +kernel
theorem dX6_soonest_74 : decode cX6_soonest 74 = .ok (.aload_n 0, 1) := by decide +kernel
theorem dX6_soonest_75 : decode cX6_soonest 75 = .ok (.getfield 15, 3) := by decide +kernel
theorem dX6_soonest_78 : decode cX6_soonest 78 = .ok (.iconst 0, 1) := by decide +kernel
theorem dX6_soonest_79 : decode cX6_soonest 79 = .ok (.iaload, 1) := by decide +kernel
theorem dX6_soonest_80 : decode cX6_soonest 80 = .ok (.ireturn, 1) := by decide +kernel
theorem dX6_firstRung_0 : decode cX6_firstRung 0 = .ok (.aload_n 0, 1) := by decide +kernel
theorem dX6_firstRung_1 : decode cX6_firstRung 1 = .ok (.iload_n 1, 1) := by decide +kernel
theorem dX6_firstRung_2 : decode cX6_firstRung 2 = .ok (.invokevirtual 83, 3) := by decide +kernel
theorem dX6_firstRung_5 : decode cX6_firstRung 5 = .ok (.pop, 1) := by decide +kernel
theorem dX6_firstRung_6 : decode cX6_firstRung 6 = .ok (.iconst 1, 1) := by decide +kernel
theorem dX6_firstRung_7 : decode cX6_firstRung 7 = .ok (.istore_n 2, 1) := by decide +kernel
theorem dX6_firstRung_8 : decode cX6_firstRung 8 = .ok (.iload_n 2, 1) := by decide +kernel
theorem dX6_firstRung_9 : decode cX6_firstRung 9 = .ok (.iload_n 1, 1) := by decide +kernel
theorem dX6_firstRung_10 : decode cX6_firstRung 10 = .ok (.if_icmp .ge 30, 3) := by decide +kernel
theorem dX6_firstRung_13 : decode cX6_firstRung 13 = .ok (.aload_n 0, 1) := by decide +kernel
theorem dX6_firstRung_14 : decode cX6_firstRung 14 = .ok (.getfield 9, 3) := by decide +kernel
theorem dX6_firstRung_17 : decode cX6_firstRung 17 = .ok (.iload_n 2, 1) := by decide +kernel
theorem dX6_firstRung_18 : decode cX6_firstRung 18 = .ok (.iaload, 1) := by decide +kernel
theorem dX6_firstRung_19 : decode cX6_firstRung 19 = .ok (.ifCond .ne 15, 3) := by decide +kernel
theorem dX6_firstRung_22 : decode cX6_firstRung 22 = .ok (.aload_n 0, 1) := by decide +kernel
theorem dX6_firstRung_23 : decode cX6_firstRung 23 = .ok (.iload_n 2, 1) := by decide +kernel
theorem dX6_firstRung_24 : decode cX6_firstRung 24 = .ok (.iload_n 1, 1) := by decide +kernel
theorem dX6_firstRung_25 : decode cX6_firstRung 25 = .ok (.invokevirtual 80, 3) := by decide +kernel
theorem dX6_firstRung_28 : decode cX6_firstRung 28 = .ok (.iconst 1, 1) := by decide +kernel
theorem dX6_firstRung_29 : decode cX6_firstRung 29 = .ok (.if_icmp .ne 5, 3) := by decide +kernel
theorem dX6_firstRung_32 : decode cX6_firstRung 32 = .ok (.iload_n 2, 1) := by decide +kernel
theorem dX6_firstRung_33 : decode cX6_firstRung 33 = .ok (.ireturn, 1) := by decide +kernel
theorem dX6_firstRung_34 : decode cX6_firstRung 34 = .ok (.iinc 2 1, 3) := by decide +kernel
theorem dX6_firstRung_37 : decode cX6_firstRung 37 = .ok (.goto (-29), 3) := by decide +kernel
theorem dX6_firstRung_40 : decode cX6_firstRung 40 = .ok (.bipush (-2), 2) := by decide +kernel
theorem dX6_firstRung_42 : decode cX6_firstRung 42 = .ok (.ireturn, 1) := by decide +kernel
theorem dX6_turnOf_0 : decode cX6_turnOf 0 = .ok (.iconst 1, 1) := by decide +kernel
theorem dX6_turnOf_1 : decode cX6_turnOf 1 = .ok (.istore_n 3, 1) := by decide +kernel
theorem dX6_turnOf_2 : decode cX6_turnOf 2 = .ok (.iconst 1, 1) := by decide +kernel
theorem dX6_turnOf_3 : decode cX6_turnOf 3 = .ok (.istore 4, 2) := by decide +kernel
theorem dX6_turnOf_5 : decode cX6_turnOf 5 = .ok (.iload 4, 2) := by decide +kernel
theorem dX6_turnOf_7 : decode cX6_turnOf 7 = .ok (.iload_n 2, 1) := by decide +kernel
theorem dX6_turnOf_8 : decode cX6_turnOf 8 = .ok (.if_icmp .ge 78, 3) := by decide +kernel
theorem dX6_turnOf_11 : decode cX6_turnOf 11 = .ok (.aload_n 0, 1) := by decide +kernel
theorem dX6_turnOf_12 : decode cX6_turnOf 12 = .ok (.getfield 15, 3) := by decide +kernel
theorem dX6_turnOf_15 : decode cX6_turnOf 15 = .ok (.iload 4, 2) := by decide +kernel
theorem dX6_turnOf_17 : decode cX6_turnOf 17 = .ok (.iaload, 1) := by decide +kernel
theorem dX6_turnOf_18 : decode cX6_turnOf 18 = .ok (.aload_n 0, 1) := by decide +kernel
theorem dX6_turnOf_19 : decode cX6_turnOf 19 = .ok (.getfield 15, 3) := by decide +kernel
theorem dX6_turnOf_22 : decode cX6_turnOf 22 = .ok (.iload_n 1, 1) := by decide +kernel
theorem dX6_turnOf_23 : decode cX6_turnOf 23 = .ok (.iaload, 1) := by decide +kernel
theorem dX6_turnOf_24 : decode cX6_turnOf 24 = .ok (.if_icmp .gt 25, 3) := by decide +kernel
theorem dX6_turnOf_27 : decode cX6_turnOf 27 = .ok (.aload_n 0, 1) := by decide +kernel
theorem dX6_turnOf_28 : decode cX6_turnOf 28 = .ok (.getfield 15, 3) := by decide +kernel
theorem dX6_turnOf_31 : decode cX6_turnOf 31 = .ok (.iload 4, 2) := by decide +kernel
theorem dX6_turnOf_33 : decode cX6_turnOf 33 = .ok (.iaload, 1) := by decide +kernel
theorem dX6_turnOf_34 : decode cX6_turnOf 34 = .ok (.aload_n 0, 1) := by decide +kernel
theorem dX6_turnOf_35 : decode cX6_turnOf 35 = .ok (.getfield 15, 3) := by decide +kernel
theorem dX6_turnOf_38 : decode cX6_turnOf 38 = .ok (.iload_n 1, 1) := by decide +kernel
theorem dX6_turnOf_39 : decode cX6_turnOf 39 = .ok (.iaload, 1) := by decide +kernel
theorem dX6_turnOf_40 : decode cX6_turnOf 40 = .ok (.if_icmp .ne 13, 3) := by decide +kernel
theorem dX6_turnOf_43 : decode cX6_turnOf 43 = .ok (.iload 4, 2) := by decide +kernel
theorem dX6_turnOf_45 : decode cX6_turnOf 45 = .ok (.iload_n 1, 1) := by decide +kernel
theorem dX6_turnOf_46 : decode cX6_turnOf 46 = .ok (.if_icmp .ge 7, 3) := by decide +kernel
theorem dX6_turnOf_49 : decode cX6_turnOf 49 = .ok (.iconst 1, 1) := by decide +kernel
theorem dX6_turnOf_50 : decode cX6_turnOf 50 = .ok (.goto 4, 3) := by decide +kernel
theorem dX6_turnOf_53 : decode cX6_turnOf 53 = .ok (.iconst 0, 1) := by decide +kernel
theorem dX6_turnOf_54 : decode cX6_turnOf 54 = .ok (.istore 5, 2) := by decide +kernel
theorem dX6_turnOf_56 : decode cX6_turnOf 56 = .ok (.aload_n 0, 1) := by decide +kernel
theorem dX6_turnOf_57 : decode cX6_turnOf 57 = .ok (.getfield 9, 3) := by decide +kernel
theorem dX6_turnOf_60 : decode cX6_turnOf 60 = .ok (.iload 4, 2) := by decide +kernel
theorem dX6_turnOf_62 : decode cX6_turnOf 62 = .ok (.iaload, 1) := by decide +kernel
theorem dX6_turnOf_63 : decode cX6_turnOf 63 = .ok (.aload_n 0, 1) := by decide +kernel
theorem dX6_turnOf_64 : decode cX6_turnOf 64 = .ok (.getfield 9, 3) := by decide +kernel
theorem dX6_turnOf_67 : decode cX6_turnOf 67 = .ok (.iload_n 1, 1) := by decide +kernel
theorem dX6_turnOf_68 : decode cX6_turnOf 68 = .ok (.iaload, 1) := by decide +kernel
theorem dX6_turnOf_69 : decode cX6_turnOf 69 = .ok (.if_icmp .ne 11, 3) := by decide +kernel
theorem dX6_turnOf_72 : decode cX6_turnOf 72 = .ok (.iload 5, 2) := by decide +kernel
theorem dX6_turnOf_74 : decode cX6_turnOf 74 = .ok (.ifCond .eq 6, 3) := by decide +kernel
theorem dX6_turnOf_77 : decode cX6_turnOf 77 = .ok (.iinc 3 1, 3) := by decide +kernel
theorem dX6_turnOf_80 : decode cX6_turnOf 80 = .ok (.iinc 4 1, 3) := by decide +kernel
theorem dX6_turnOf_83 : decode cX6_turnOf 83 = .ok (.goto (-78), 3) := by decide +kernel
theorem dX6_turnOf_86 : decode cX6_turnOf 86 = .ok (.iload_n 3, 1) := by decide +kernel
theorem dX6_turnOf_87 : decode cX6_turnOf 87 = .ok (.ireturn, 1) := by decide +kernel
theorem dX6_cipher_0 : decode cX6_cipher 0 = .ok (.aload_n 0, 1) := by decide +kernel
theorem dX6_cipher_1 : decode cX6_cipher 1 = .ok (.iload_n 1, 1) := by decide +kernel
theorem dX6_cipher_2 : decode cX6_cipher 2 = .ok (.invokevirtual 86, 3) := by decide +kernel
theorem dX6_cipher_5 : decode cX6_cipher 5 = .ok (.aload_n 0, 1) := by decide +kernel
theorem dX6_cipher_6 : decode cX6_cipher 6 = .ok (.getfield 27, 3) := by decide +kernel
theorem dX6_cipher_9 : decode cX6_cipher 9 = .ok (.iload_n 3, 1) := by decide +kernel
theorem dX6_cipher_10 : decode cX6_cipher 10 = .ok (.invokevirtual 31, 3) := by decide +kernel
theorem dX6_cipher_13 : decode cX6_cipher 13 = .ok (.bipush 65, 2) := by decide +kernel
theorem dX6_cipher_15 : decode cX6_cipher 15 = .ok (.isub, 1) := by decide +kernel
theorem dX6_cipher_16 : decode cX6_cipher 16 = .ok (.istore 4, 2) := by decide +kernel
theorem dX6_cipher_18 : decode cX6_cipher 18 = .ok (.iload_n 2, 1) := by decide +kernel
theorem dX6_cipher_19 : decode cX6_cipher 19 = .ok (.ifCond .ne 26, 3) := by decide +kernel
theorem dX6_cipher_22 : decode cX6_cipher 22 = .ok (.iload 4, 2) := by decide +kernel
theorem dX6_cipher_24 : decode cX6_cipher 24 = .ok (.iconst 0, 1) := by decide +kernel
theorem dX6_cipher_25 : decode cX6_cipher 25 = .ok (.bipush 25, 2) := by decide +kernel
theorem dX6_cipher_27 : decode cX6_cipher 27 = .ok (.invokestatic 66, 3) := by decide +kernel
theorem dX6_cipher_30 : decode cX6_cipher 30 = .ok (.ifCond .eq 13, 3) := by decide +kernel
theorem dX6_cipher_33 : decode cX6_cipher 33 = .ok (.aload_n 0, 1) := by decide +kernel
theorem dX6_cipher_34 : decode cX6_cipher 34 = .ok (.getfield 24, 3) := by decide +kernel
theorem dX6_cipher_37 : decode cX6_cipher 37 = .ok (.iload 4, 2) := by decide +kernel
theorem dX6_cipher_39 : decode cX6_cipher 39 = .ok (.iaload, 1) := by decide +kernel
theorem dX6_cipher_40 : decode cX6_cipher 40 = .ok (.goto 4, 3) := by decide +kernel
theorem dX6_cipher_43 : decode cX6_cipher 43 = .ok (.iconst (-1), 1) := by decide +kernel
theorem dX6_cipher_44 : decode cX6_cipher 44 = .ok (.ireturn, 1) := by decide +kernel
theorem dX6_cipher_45 : decode cX6_cipher 45 = .ok (.iconst 0, 1) := by decide +kernel
theorem dX6_cipher_46 : decode cX6_cipher 46 = .ok (.istore 5, 2) := by decide +kernel
theorem dX6_cipher_48 : decode cX6_cipher 48 = .ok (.iload 5, 2) := by decide +kernel
theorem dX6_cipher_50 : decode cX6_cipher 50 = .ok (.bipush 26, 2) := by decide +kernel
theorem dX6_cipher_52 : decode cX6_cipher 52 = .ok (.if_icmp .ge 24, 3) := by decide +kernel
theorem dX6_cipher_55 : decode cX6_cipher 55 = .ok (.aload_n 0, 1) := by decide +kernel
theorem dX6_cipher_56 : decode cX6_cipher 56 = .ok (.getfield 24, 3) := by decide +kernel
theorem dX6_cipher_59 : decode cX6_cipher 59 = .ok (.iload 5, 2) := by decide +kernel
theorem dX6_cipher_61 : decode cX6_cipher 61 = .ok (.iaload, 1) := by decide +kernel
theorem dX6_cipher_62 : decode cX6_cipher 62 = .ok (.iload 4, 2) := by decide +kernel
theorem dX6_cipher_64 : decode cX6_cipher 64 = .ok (.if_icmp .ne 6, 3) := by decide +kernel
theorem dX6_cipher_67 : decode cX6_cipher 67 = .ok (.iload 5, 2) := by decide +kernel
theorem dX6_cipher_69 : decode cX6_cipher 69 = .ok (.ireturn, 1) := by decide +kernel
theorem dX6_cipher_70 : decode cX6_cipher 70 = .ok (.iinc 5 1, 3) := by decide +kernel
theorem dX6_cipher_73 : decode cX6_cipher 73 = .ok (.goto (-25), 3) := by decide +kernel
theorem dX6_cipher_76 : decode cX6_cipher 76 = .ok (.iconst (-1), 1) := by decide +kernel
theorem dX6_cipher_77 : decode cX6_cipher 77 = .ok (.ireturn, 1) := by decide +kernel
theorem dX6_layAlphabet_0 : decode cX6_layAlphabet 0 = .ok (.iconst 0, 1) := by decide +kernel
theorem dX6_layAlphabet_1 : decode cX6_layAlphabet 1 = .ok (.istore_n 2, 1) := by decide +kernel
theorem dX6_layAlphabet_2 : decode cX6_layAlphabet 2 = .ok (.iconst 0, 1) := by decide +kernel
theorem dX6_layAlphabet_3 : decode cX6_layAlphabet 3 = .ok (.istore_n 3, 1) := by decide +kernel
theorem dX6_layAlphabet_4 : decode cX6_layAlphabet 4 = .ok (.iconst 0, 1) := by decide +kernel
theorem dX6_layAlphabet_5 : decode cX6_layAlphabet 5 = .ok (.istore 4, 2) := by decide +kernel
theorem dX6_layAlphabet_7 : decode cX6_layAlphabet 7 = .ok (.iload 4, 2) := by decide +kernel
theorem dX6_layAlphabet_9 : decode cX6_layAlphabet 9 = .ok (.iload_n 1, 1) := by decide +kernel
theorem dX6_layAlphabet_10 : decode cX6_layAlphabet 10 = .ok (.bipush 26, 2) := by decide +kernel
theorem dX6_layAlphabet_12 : decode cX6_layAlphabet 12 = .ok (.iadd, 1) := by decide +kernel
theorem dX6_layAlphabet_13 : decode cX6_layAlphabet 13 = .ok (.if_icmp .ge 69, 3) := by decide +kernel
theorem dX6_layAlphabet_16 : decode cX6_layAlphabet 16 = .ok (.iload 4, 2) := by decide +kernel
theorem dX6_layAlphabet_18 : decode cX6_layAlphabet 18 = .ok (.iload_n 1, 1) := by decide +kernel
theorem dX6_layAlphabet_19 : decode cX6_layAlphabet 19 = .ok (.if_icmp .ge 18, 3) := by decide +kernel
theorem dX6_layAlphabet_22 : decode cX6_layAlphabet 22 = .ok (.aload_n 0, 1) := by decide +kernel
theorem dX6_layAlphabet_23 : decode cX6_layAlphabet 23 = .ok (.getfield 27, 3) := by decide +kernel
theorem dX6_layAlphabet_26 : decode cX6_layAlphabet 26 = .ok (.iload 4, 2) := by decide +kernel
theorem dX6_layAlphabet_28 : decode cX6_layAlphabet 28 = .ok (.invokevirtual 31, 3) := by decide +kernel
theorem dX6_layAlphabet_31 : decode cX6_layAlphabet 31 = .ok (.bipush 65, 2) := by decide +kernel
theorem dX6_layAlphabet_33 : decode cX6_layAlphabet 33 = .ok (.isub, 1) := by decide +kernel
theorem dX6_layAlphabet_34 : decode cX6_layAlphabet 34 = .ok (.goto 7, 3) := by decide +kernel
theorem dX6_layAlphabet_37 : decode cX6_layAlphabet 37 = .ok (.iload 4, 2) := by decide +kernel
theorem dX6_layAlphabet_39 : decode cX6_layAlphabet 39 = .ok (.iload_n 1, 1) := by decide +kernel
theorem dX6_layAlphabet_40 : decode cX6_layAlphabet 40 = .ok (.isub, 1) := by decide +kernel
theorem dX6_layAlphabet_41 : decode cX6_layAlphabet 41 = .ok (.istore 5, 2) := by decide +kernel
theorem dX6_layAlphabet_43 : decode cX6_layAlphabet 43 = .ok (.iload_n 2, 1) := by decide +kernel
theorem dX6_layAlphabet_44 : decode cX6_layAlphabet 44 = .ok (.iload 5, 2) := by decide +kernel
theorem dX6_layAlphabet_46 : decode cX6_layAlphabet 46 = .ok (.ishr, 1) := by decide +kernel
theorem dX6_layAlphabet_47 : decode cX6_layAlphabet 47 = .ok (.iconst 1, 1) := by decide +kernel
theorem dX6_layAlphabet_48 : decode cX6_layAlphabet 48 = .ok (.iand, 1) := by decide +kernel
theorem dX6_layAlphabet_49 : decode cX6_layAlphabet 49 = .ok (.ifCond .ne 27, 3) := by decide +kernel
theorem dX6_layAlphabet_52 : decode cX6_layAlphabet 52 = .ok (.iload_n 3, 1) := by decide +kernel
theorem dX6_layAlphabet_53 : decode cX6_layAlphabet 53 = .ok (.bipush 26, 2) := by decide +kernel
theorem dX6_layAlphabet_55 : decode cX6_layAlphabet 55 = .ok (.if_icmp .ge 21, 3) := by decide +kernel
theorem dX6_layAlphabet_58 : decode cX6_layAlphabet 58 = .ok (.aload_n 0, 1) := by decide +kernel
theorem dX6_layAlphabet_59 : decode cX6_layAlphabet 59 = .ok (.getfield 24, 3) := by decide +kernel
theorem dX6_layAlphabet_62 : decode cX6_layAlphabet 62 = .ok (.iload_n 3, 1) := by decide +kernel
theorem dX6_layAlphabet_63 : decode cX6_layAlphabet 63 = .ok (.iload 5, 2) := by decide +kernel
theorem dX6_layAlphabet_65 : decode cX6_layAlphabet 65 = .ok (.iastore, 1) := by decide +kernel
theorem dX6_layAlphabet_66 : decode cX6_layAlphabet 66 = .ok (.iinc 3 1, 3) := by decide +kernel
theorem dX6_layAlphabet_69 : decode cX6_layAlphabet 69 = .ok (.iload_n 2, 1) := by decide +kernel
theorem dX6_layAlphabet_70 : decode cX6_layAlphabet 70 = .ok (.iconst 1, 1) := by decide +kernel
theorem dX6_layAlphabet_71 : decode cX6_layAlphabet 71 = .ok (.iload 5, 2) := by decide +kernel
theorem dX6_layAlphabet_73 : decode cX6_layAlphabet 73 = .ok (.ishl, 1) := by decide +kernel
theorem dX6_layAlphabet_74 : decode cX6_layAlphabet 74 = .ok (.ior, 1) := by decide +kernel
theorem dX6_layAlphabet_75 : decode cX6_layAlphabet 75 = .ok (.istore_n 2, 1) := by decide +kernel
theorem dX6_layAlphabet_76 : decode cX6_layAlphabet 76 = .ok (.iinc 4 1, 3) := by decide +kernel
theorem dX6_layAlphabet_79 : decode cX6_layAlphabet 79 = .ok (.goto (-72), 3) := by decide +kernel
theorem dX6_layAlphabet_82 : decode cX6_layAlphabet 82 = .ok (.return_, 1) := by decide +kernel
theorem dX7_init_0 : decode cX7_init 0 = .ok (.aload_n 0, 1) := by decide +kernel
theorem dX7_init_1 : decode cX7_init 1 = .ok (.invokespecial 3, 3) := by decide +kernel
theorem dX7_init_4 : decode cX7_init 4 = .ok (.aload_n 0, 1) := by decide +kernel
theorem dX7_init_5 : decode cX7_init 5 = .ok (.new 9, 3) := by decide +kernel
theorem dX7_init_8 : decode cX7_init 8 = .ok (.dup, 1) := by decide +kernel
theorem dX7_init_9 : decode cX7_init 9 = .ok (.invokespecial 11, 3) := by decide +kernel
theorem dX7_init_12 : decode cX7_init 12 = .ok (.putfield 12, 3) := by decide +kernel
theorem dX7_init_15 : decode cX7_init 15 = .ok (.aload_n 0, 1) := by decide +kernel
theorem dX7_init_16 : decode cX7_init 16 = .ok (.new 18, 3) := by decide +kernel
theorem dX7_init_19 : decode cX7_init 19 = .ok (.dup, 1) := by decide +kernel
theorem dX7_init_20 : decode cX7_init 20 = .ok (.invokespecial 20, 3) := by decide +kernel
theorem dX7_init_23 : decode cX7_init 23 = .ok (.putfield 21, 3) := by decide +kernel
theorem dX7_init_26 : decode cX7_init 26 = .ok (.aload_n 0, 1) := by decide +kernel
theorem dX7_init_27 : decode cX7_init 27 = .ok (.iconst 1, 1) := by decide +kernel
theorem dX7_init_28 : decode cX7_init 28 = .ok (.putfield 25, 3) := by decide +kernel
theorem dX7_init_31 : decode cX7_init 31 = .ok (.aload_n 0, 1) := by decide +kernel
theorem dX7_init_32 : decode cX7_init 32 = .ok (.iconst 1, 1) := by decide +kernel
theorem dX7_init_33 : decode cX7_init 33 = .ok (.putfield 29, 3) := by decide +kernel
theorem dX7_init_36 : decode cX7_init 36 = .ok (.aload_n 0, 1) := by decide +kernel
theorem dX7_init_37 : decode cX7_init 37 = .ok (.aload_n 1, 1) := by decide +kernel
theorem dX7_init_38 : decode cX7_init 38 = .ok (.putfield 32, 3) := by decide +kernel
theorem dX7_init_41 : decode cX7_init 41 = .ok (.return_, 1) := by decide +kernel
theorem dX7_run_0 : decode cX7_run 0 = .ok (.aload_n 0, 1) := by decide +kernel
theorem dX7_run_1 : decode cX7_run 1 = .ok (.iconst 0, 1) := by decide +kernel
theorem dX7_run_2 : decode cX7_run 2 = .ok (.putfield 36, 3) := by decide +kernel
theorem dX7_run_5 : decode cX7_run 5 = .ok (.aload_n 0, 1) := by decide +kernel
theorem dX7_run_6 : decode cX7_run 6 = .ok (.iconst 0, 1) := by decide +kernel
theorem dX7_run_7 : decode cX7_run 7 = .ok (.putfield 39, 3) := by decide +kernel
theorem dX7_run_10 : decode cX7_run 10 = .ok (.aload_n 0, 1) := by decide +kernel
theorem dX7_run_11 : decode cX7_run 11 = .ok (.iconst 0, 1) := by decide +kernel
theorem dX7_run_12 : decode cX7_run 12 = .ok (.putfield 42, 3) := by decide +kernel
theorem dX7_run_15 : decode cX7_run 15 = .ok (.iconst 0, 1) := by decide +kernel
theorem dX7_run_16 : decode cX7_run 16 = .ok (.istore_n 3, 1) := by decide +kernel
theorem dX7_run_17 : decode cX7_run 17 = .ok (.iload_n 3, 1) := by decide +kernel
theorem dX7_run_18 : decode cX7_run 18 = .ok (.iload_n 2, 1) := by decide +kernel
theorem dX7_run_19 : decode cX7_run 19 = .ok (.if_icmp .ge 23, 3) := by decide +kernel
theorem dX7_run_22 : decode cX7_run 22 = .ok (.aload_n 1, 1) := by decide +kernel
theorem dX7_run_23 : decode cX7_run 23 = .ok (.getfield 45, 3) := by decide +kernel
theorem dX7_run_26 : decode cX7_run 26 = .ok (.ldc 50, 2) := by decide +kernel
theorem dX7_run_28 : decode cX7_run 28 = .ok (.if_icmp .ge 14, 3) := by decide +kernel
theorem dX7_run_31 : decode cX7_run 31 = .ok (.aload_n 0, 1) := by decide +kernel
theorem dX7_run_32 : decode cX7_run 32 = .ok (.aload_n 1, 1) := by decide +kernel
theorem dX7_run_33 : decode cX7_run 33 = .ok (.invokevirtual 51, 3) := by decide +kernel
theorem dX7_run_36 : decode cX7_run 36 = .ok (.iinc 3 1, 3) := by decide +kernel
theorem dX7_run_39 : decode cX7_run 39 = .ok (.goto (-22), 3) := by decide +kernel
theorem dX7_run_42 : decode cX7_run 42 = .ok (.return_, 1) := by decide +kernel
theorem dX7_minutesTillPoor_0 : decode cX7_minutesTillPoor 0 = .ok (.aload_n 1, 1) := by decide +kernel
theorem dX7_minutesTillPoor_1 : decode cX7_minutesTillPoor 1 = .ok (.getfield 55, 3) := by decide +kernel
theorem dX7_minutesTillPoor_4 : decode cX7_minutesTillPoor 4 = .ok (.ifCond .ne 5, 3) := by decide +kernel
theorem dX7_minutesTillPoor_7 : decode cX7_minutesTillPoor 7 = .ok (.iconst 0, 1) := by decide +kernel
theorem dX7_minutesTillPoor_8 : decode cX7_minutesTillPoor 8 = .ok (.ireturn, 1) := by decide +kernel
theorem dX7_minutesTillPoor_9 : decode cX7_minutesTillPoor 9 = .ok (.iconst 1, 1) := by decide +kernel
theorem dX7_minutesTillPoor_10 : decode cX7_minutesTillPoor 10 = .ok (.istore_n 3, 1) := by decide +kernel
theorem dX7_minutesTillPoor_11 : decode cX7_minutesTillPoor 11 = .ok (.iload_n 3, 1) := by decide +kernel
theorem dX7_minutesTillPoor_12 : decode cX7_minutesTillPoor 12 = .ok (.iload_n 2, 1) := by decide +kernel
theorem dX7_minutesTillPoor_13 : decode cX7_minutesTillPoor 13 = .ok (.if_icmp .gt 32, 3) := by decide +kernel
theorem dX7_minutesTillPoor_16 : decode cX7_minutesTillPoor 16 = .ok (.aload_n 1, 1) := by decide +kernel
theorem dX7_minutesTillPoor_17 : decode cX7_minutesTillPoor 17 = .ok (.getfield 45, 3) := by decide +kernel
theorem dX7_minutesTillPoor_20 : decode cX7_minutesTillPoor 20 = .ok (.ldc 50, 2) := by decide +kernel
theorem dX7_minutesTillPoor_22 : decode cX7_minutesTillPoor 22 = .ok (.if_icmp .ge 23, 3) := by decide +kernel
theorem dX7_minutesTillPoor_25 : decode cX7_minutesTillPoor 25 = .ok (.aload_n 0, 1) := by decide +kernel
theorem dX7_minutesTillPoor_26 : decode cX7_minutesTillPoor 26 = .ok (.aload_n 1, 1) := by decide +kernel
theorem dX7_minutesTillPoor_27 : decode cX7_minutesTillPoor 27 = .ok (.invokevirtual 51, 3) := by decide +kernel
theorem dX7_minutesTillPoor_30 : decode cX7_minutesTillPoor 30 = .ok (.aload_n 1, 1) := by decide +kernel
theorem dX7_minutesTillPoor_31 : decode cX7_minutesTillPoor 31 = .ok (.getfield 55, 3) := by decide +kernel
theorem dX7_minutesTillPoor_34 : decode cX7_minutesTillPoor 34 = .ok (.ifCond .ne 5, 3) := by decide +kernel
theorem dX7_minutesTillPoor_37 : decode cX7_minutesTillPoor 37 = .ok (.iload_n 3, 1) := by decide +kernel
theorem dX7_minutesTillPoor_38 : decode cX7_minutesTillPoor 38 = .ok (.ireturn, 1) := by decide +kernel
theorem dX7_minutesTillPoor_39 : decode cX7_minutesTillPoor 39 = .ok (.iinc 3 1, 3) := by decide +kernel
theorem dX7_minutesTillPoor_42 : decode cX7_minutesTillPoor 42 = .ok (.goto (-31), 3) := by decide +kernel
theorem dX7_minutesTillPoor_45 : decode cX7_minutesTillPoor 45 = .ok (.bipush (-2), 2) := by decide +kernel
theorem dX7_minutesTillPoor_47 : decode cX7_minutesTillPoor 47 = .ok (.ireturn, 1) := by decide +kernel
theorem dX7_goBy_0 : decode cX7_goBy 0 = .ok (.iconst 0, 1) := by decide +kernel
theorem dX7_goBy_1 : decode cX7_goBy 1 = .ok (.istore_n 2, 1) := by decide +kernel
theorem dX7_goBy_2 : decode cX7_goBy 2 = .ok (.iload_n 2, 1) := by decide +kernel
theorem dX7_goBy_3 : decode cX7_goBy 3 = .ok (.bipush 20, 2) := by decide +kernel
theorem dX7_goBy_5 : decode cX7_goBy 5 = .ok (.if_icmp .ge 24, 3) := by decide +kernel
theorem dX7_goBy_8 : decode cX7_goBy 8 = .ok (.aload_n 1, 1) := by decide +kernel
theorem dX7_goBy_9 : decode cX7_goBy 9 = .ok (.getfield 58, 3) := by decide +kernel
theorem dX7_goBy_12 : decode cX7_goBy 12 = .ok (.iload_n 2, 1) := by decide +kernel
theorem dX7_goBy_13 : decode cX7_goBy 13 = .ok (.iaload, 1) := by decide +kernel
theorem dX7_goBy_14 : decode cX7_goBy 14 = .ok (.ifCond .le 9, 3) := by decide +kernel
theorem dX7_goBy_17 : decode cX7_goBy 17 = .ok (.aload_n 0, 1) := by decide +kernel
theorem dX7_goBy_18 : decode cX7_goBy 18 = .ok (.aload_n 1, 1) := by decide +kernel
theorem dX7_goBy_19 : decode cX7_goBy 19 = .ok (.iload_n 2, 1) := by decide +kernel
theorem dX7_goBy_20 : decode cX7_goBy 20 = .ok (.invokevirtual 62, 3) := by decide +kernel
theorem dX7_goBy_23 : decode cX7_goBy 23 = .ok (.iinc 2 1, 3) := by decide +kernel
theorem dX7_goBy_26 : decode cX7_goBy 26 = .ok (.goto (-24), 3) := by decide +kernel
theorem dX7_goBy_29 : decode cX7_goBy 29 = .ok (.iconst 0, 1) := by decide +kernel
theorem dX7_goBy_30 : decode cX7_goBy 30 = .ok (.istore_n 2, 1) := by decide +kernel
theorem dX7_goBy_31 : decode cX7_goBy 31 = .ok (.iload_n 2, 1) := by decide +kernel
theorem dX7_goBy_32 : decode cX7_goBy 32 = .ok (.bipush 16, 2) := by decide +kernel
theorem dX7_goBy_34 : decode cX7_goBy 34 = .ok (.if_icmp .ge 27, 3) := by decide +kernel
theorem dX7_goBy_37 : decode cX7_goBy 37 = .ok (.aload_n 1, 1) := by decide +kernel
theorem dX7_goBy_38 : decode cX7_goBy 38 = .ok (.invokevirtual 66, 3) := by decide +kernel
theorem dX7_goBy_41 : decode cX7_goBy 41 = .ok (.iload_n 2, 1) := by decide +kernel
theorem dX7_goBy_42 : decode cX7_goBy 42 = .ok (.ishr, 1) := by decide +kernel
theorem dX7_goBy_43 : decode cX7_goBy 43 = .ok (.iconst 1, 1) := by decide +kernel
theorem dX7_goBy_44 : decode cX7_goBy 44 = .ok (.iand, 1) := by decide +kernel
theorem dX7_goBy_45 : decode cX7_goBy 45 = .ok (.iconst 1, 1) := by decide +kernel
theorem dX7_goBy_46 : decode cX7_goBy 46 = .ok (.if_icmp .ne 9, 3) := by decide +kernel
theorem dX7_goBy_49 : decode cX7_goBy 49 = .ok (.aload_n 0, 1) := by decide +kernel
theorem dX7_goBy_50 : decode cX7_goBy 50 = .ok (.aload_n 1, 1) := by decide +kernel
theorem dX7_goBy_51 : decode cX7_goBy 51 = .ok (.iload_n 2, 1) := by decide +kernel
theorem dX7_goBy_52 : decode cX7_goBy 52 = .ok (.invokevirtual 70, 3) := by decide +kernel
theorem dX7_goBy_55 : decode cX7_goBy 55 = .ok (.iinc 2 1, 3) := by decide +kernel
theorem dX7_goBy_58 : decode cX7_goBy 58 = .ok (.goto (-27), 3) := by decide +kernel
theorem dX7_goBy_61 : decode cX7_goBy 61 = .ok (.iconst 0, 1) := by decide +kernel
theorem dX7_goBy_62 : decode cX7_goBy 62 = .ok (.istore_n 2, 1) := by decide +kernel
theorem dX7_goBy_63 : decode cX7_goBy 63 = .ok (.iload_n 2, 1) := by decide +kernel
theorem dX7_goBy_64 : decode cX7_goBy 64 = .ok (.bipush 16, 2) := by decide +kernel
theorem dX7_goBy_66 : decode cX7_goBy 66 = .ok (.if_icmp .ge 34, 3) := by decide +kernel
theorem dX7_goBy_69 : decode cX7_goBy 69 = .ok (.aload_n 1, 1) := by decide +kernel
theorem dX7_goBy_70 : decode cX7_goBy 70 = .ok (.getfield 73, 3) := by decide +kernel
theorem dX7_goBy_73 : decode cX7_goBy 73 = .ok (.aload_n 1, 1) := by decide +kernel
theorem dX7_goBy_74 : decode cX7_goBy 74 = .ok (.getfield 76, 3) := by decide +kernel
theorem dX7_goBy_77 : decode cX7_goBy 77 = .ok (.iconst (-1), 1) := by decide +kernel
theorem dX7_goBy_78 : decode cX7_goBy 78 = .ok (.ixor, 1) := by decide +kernel
theorem dX7_goBy_79 : decode cX7_goBy 79 = .ok (.iand, 1) := by decide +kernel
theorem dX7_goBy_80 : decode cX7_goBy 80 = .ok (.iload_n 2, 1) := by decide +kernel
theorem dX7_goBy_81 : decode cX7_goBy 81 = .ok (.ishr, 1) := by decide +kernel
theorem dX7_goBy_82 : decode cX7_goBy 82 = .ok (.iconst 1, 1) := by decide +kernel
theorem dX7_goBy_83 : decode cX7_goBy 83 = .ok (.iand, 1) := by decide +kernel
theorem dX7_goBy_84 : decode cX7_goBy 84 = .ok (.iconst 1, 1) := by decide +kernel
theorem dX7_goBy_85 : decode cX7_goBy 85 = .ok (.if_icmp .ne 9, 3) := by decide +kernel
theorem dX7_goBy_88 : decode cX7_goBy 88 = .ok (.aload_n 0, 1) := by decide +kernel
theorem dX7_goBy_89 : decode cX7_goBy 89 = .ok (.aload_n 1, 1) := by decide +kernel
theorem dX7_goBy_90 : decode cX7_goBy 90 = .ok (.iload_n 2, 1) := by decide +kernel
theorem dX7_goBy_91 : decode cX7_goBy 91 = .ok (.invokevirtual 79, 3) := by decide +kernel
theorem dX7_goBy_94 : decode cX7_goBy 94 = .ok (.iinc 2 1, 3) := by decide +kernel
theorem dX7_goBy_97 : decode cX7_goBy 97 = .ok (.goto (-34), 3) := by decide +kernel
theorem dX7_goBy_100 : decode cX7_goBy 100 = .ok (.aload_n 1, 1) := by decide +kernel
theorem dX7_goBy_101 : decode cX7_goBy 101 = .ok (.dup, 1) := by decide +kernel
theorem dX7_goBy_102 : decode cX7_goBy 102 = .ok (.getfield 45, 3) := by decide +kernel
theorem dX7_goBy_105 : decode cX7_goBy 105 = .ok (.iconst 1, 1) := by decide +kernel
theorem dX7_goBy_106 : decode cX7_goBy 106 = .ok (.iadd, 1) := by decide +kernel
theorem dX7_goBy_107 : decode cX7_goBy 107 = .ok (.putfield 45, 3) := by decide +kernel
theorem dX7_goBy_110 : decode cX7_goBy 110 = .ok (.return_, 1) := by decide +kernel
theorem dX7_charge_0 : decode cX7_charge 0 = .ok (.aload_n 0, 1) := by decide +kernel
theorem dX7_charge_1 : decode cX7_charge 1 = .ok (.getfield 29, 3) := by decide +kernel
theorem dX7_charge_4 : decode cX7_charge 4 = .ok (.aload_n 0, 1) := by decide +kernel
theorem dX7_charge_5 : decode cX7_charge 5 = .ok (.getfield 25, 3) := by decide +kernel
theorem dX7_charge_8 : decode cX7_charge 8 = .ok (.aload_n 1, 1) := by decide +kernel
theorem dX7_charge_9 : decode cX7_charge 9 = .ok (.getfield 82, 3) := by decide +kernel
theorem dX7_charge_12 : decode cX7_charge 12 = .ok (.iload_n 2, 1) := by decide +kernel
theorem dX7_charge_13 : decode cX7_charge 13 = .ok (.iaload, 1) := by decide +kernel
theorem dX7_charge_14 : decode cX7_charge 14 = .ok (.imul, 1) := by decide +kernel
theorem dX7_charge_15 : decode cX7_charge 15 = .ok (.iadd, 1) := by decide +kernel
theorem dX7_charge_16 : decode cX7_charge 16 = .ok (.istore_n 3, 1) := by decide +kernel
theorem dX7_charge_17 : decode cX7_charge 17 = .ok (.aload_n 1, 1) := by decide +kernel
theorem dX7_charge_18 : decode cX7_charge 18 = .ok (.getfield 85, 3) := by decide +kernel
theorem dX7_charge_21 : decode cX7_charge 21 = .ok (.iload_n 2, 1) := by decide +kernel
theorem dX7_charge_22 : decode cX7_charge 22 = .ok (.iaload, 1) := by decide +kernel
theorem dX7_charge_23 : decode cX7_charge 23 = .ok (.istore 4, 2) := by decide +kernel
theorem dX7_charge_25 : decode cX7_charge 25 = .ok (.aload_n 1, 1) := by decide +kernel
theorem dX7_charge_26 : decode cX7_charge 26 = .ok (.getfield 88, 3) := by decide +kernel
theorem dX7_charge_29 : decode cX7_charge 29 = .ok (.iload 4, 2) := by decide +kernel
theorem dX7_charge_31 : decode cX7_charge 31 = .ok (.ishr, 1) := by decide +kernel
theorem dX7_charge_32 : decode cX7_charge 32 = .ok (.iconst 1, 1) := by decide +kernel
theorem dX7_charge_33 : decode cX7_charge 33 = .ok (.iand, 1) := by decide +kernel
theorem dX7_charge_34 : decode cX7_charge 34 = .ok (.iconst 1, 1) := by decide +kernel
theorem dX7_charge_35 : decode cX7_charge 35 = .ok (.if_icmp .ne 12, 3) := by decide +kernel
theorem dX7_charge_38 : decode cX7_charge 38 = .ok (.aload_n 1, 1) := by decide +kernel
theorem dX7_charge_39 : decode cX7_charge 39 = .ok (.iload_n 3, 1) := by decide +kernel
theorem dX7_charge_40 : decode cX7_charge 40 = .ok (.ineg, 1) := by decide +kernel
theorem dX7_charge_41 : decode cX7_charge 41 = .ok (.invokevirtual 91, 3) := by decide +kernel
theorem dX7_charge_44 : decode cX7_charge 44 = .ok (.goto 10, 3) := by decide +kernel
theorem dX7_charge_47 : decode cX7_charge 47 = .ok (.aload_n 1, 1) := by decide +kernel
theorem dX7_charge_48 : decode cX7_charge 48 = .ok (.iload 4, 2) := by decide +kernel
theorem dX7_charge_50 : decode cX7_charge 50 = .ok (.iload_n 3, 1) := by decide +kernel
theorem dX7_charge_51 : decode cX7_charge 51 = .ok (.invokevirtual 95, 3) := by decide +kernel
theorem dX7_charge_54 : decode cX7_charge 54 = .ok (.aload_n 1, 1) := by decide +kernel
theorem dX7_charge_55 : decode cX7_charge 55 = .ok (.getfield 58, 3) := by decide +kernel
theorem dX7_charge_58 : decode cX7_charge 58 = .ok (.iload_n 2, 1) := by decide +kernel
theorem dX7_charge_59 : decode cX7_charge 59 = .ok (.dup2, 1) := by decide +kernel
theorem dX7_charge_60 : decode cX7_charge 60 = .ok (.iaload, 1) := by decide +kernel
theorem dX7_charge_61 : decode cX7_charge 61 = .ok (.iconst 1, 1) := by decide +kernel
theorem dX7_charge_62 : decode cX7_charge 62 = .ok (.isub, 1) := by decide +kernel
theorem dX7_charge_63 : decode cX7_charge 63 = .ok (.iastore, 1) := by decide +kernel
theorem dX7_charge_64 : decode cX7_charge 64 = .ok (.aload_n 1, 1) := by decide +kernel
theorem dX7_charge_65 : decode cX7_charge 65 = .ok (.getfield 58, 3) := by decide +kernel
theorem dX7_charge_68 : decode cX7_charge 68 = .ok (.iload_n 2, 1) := by decide +kernel
theorem dX7_charge_69 : decode cX7_charge 69 = .ok (.iaload, 1) := by decide +kernel
theorem dX7_charge_70 : decode cX7_charge 70 = .ok (.ifCond .ne 8, 3) := by decide +kernel
theorem dX7_charge_73 : decode cX7_charge 73 = .ok (.aload_n 1, 1) := by decide +kernel
theorem dX7_charge_74 : decode cX7_charge 74 = .ok (.iload_n 2, 1) := by decide +kernel
theorem dX7_charge_75 : decode cX7_charge 75 = .ok (.invokevirtual 99, 3) := by decide +kernel
theorem dX7_charge_78 : decode cX7_charge 78 = .ok (.return_, 1) := by decide +kernel
theorem dX7_mayRing_0 : decode cX7_mayRing 0 = .ok (.aload_n 0, 1) := by decide +kernel
theorem dX7_mayRing_1 : decode cX7_mayRing 1 = .ok (.getfield 12, 3) := by decide +kernel
theorem dX7_mayRing_4 : decode cX7_mayRing 4 = .ok (.aload_n 1, 1) := by decide +kernel
theorem dX7_mayRing_5 : decode cX7_mayRing 5 = .ok (.iload_n 2, 1) := by decide +kernel
theorem dX7_mayRing_6 : decode cX7_mayRing 6 = .ok (.invokevirtual 102, 3) := by decide +kernel
theorem dX7_mayRing_9 : decode cX7_mayRing 9 = .ok (.aload_n 0, 1) := by decide +kernel
theorem dX7_mayRing_10 : decode cX7_mayRing 10 = .ok (.getfield 12, 3) := by decide +kernel
theorem dX7_mayRing_13 : decode cX7_mayRing 13 = .ok (.aload_n 0, 1) := by decide +kernel
theorem dX7_mayRing_14 : decode cX7_mayRing 14 = .ok (.getfield 21, 3) := by decide +kernel
theorem dX7_mayRing_17 : decode cX7_mayRing 17 = .ok (.bipush 114, 2) := by decide +kernel
theorem dX7_mayRing_19 : decode cX7_mayRing 19 = .ok (.bipush 10, 2) := by decide +kernel
theorem dX7_mayRing_21 : decode cX7_mayRing 21 = .ok (.invokevirtual 105, 3) := by decide +kernel
theorem dX7_mayRing_24 : decode cX7_mayRing 24 = .ok (.istore_n 3, 1) := by decide +kernel
theorem dX7_mayRing_25 : decode cX7_mayRing 25 = .ok (.aload_n 1, 1) := by decide +kernel
theorem dX7_mayRing_26 : decode cX7_mayRing 26 = .ok (.invokevirtual 109, 3) := by decide +kernel
theorem dX7_mayRing_29 : decode cX7_mayRing 29 = .ok (.iload_n 3, 1) := by decide +kernel
theorem dX7_mayRing_30 : decode cX7_mayRing 30 = .ok (.if_icmp .lt 4, 3) := by decide +kernel
theorem dX7_mayRing_33 : decode cX7_mayRing 33 = .ok (.return_, 1) := by decide +kernel
theorem dX7_mayRing_34 : decode cX7_mayRing 34 = .ok (.aload_n 0, 1) := by decide +kernel
theorem dX7_mayRing_35 : decode cX7_mayRing 35 = .ok (.getfield 12, 3) := by decide +kernel
theorem dX7_mayRing_38 : decode cX7_mayRing 38 = .ok (.aload_n 0, 1) := by decide +kernel
theorem dX7_mayRing_39 : decode cX7_mayRing 39 = .ok (.getfield 21, 3) := by decide +kernel
theorem dX7_mayRing_42 : decode cX7_mayRing 42 = .ok (.bipush 119, 2) := by decide +kernel
theorem dX7_mayRing_44 : decode cX7_mayRing 44 = .ok (.bipush 15, 2) := by decide +kernel
theorem dX7_mayRing_46 : decode cX7_mayRing 46 = .ok (.invokevirtual 105, 3) := by decide +kernel
theorem dX7_mayRing_49 : decode cX7_mayRing 49 = .ok (.istore 4, 2) := by decide +kernel
theorem dX7_mayRing_51 : decode cX7_mayRing 51 = .ok (.iload 4, 2) := by decide +kernel
theorem dX7_mayRing_53 : decode cX7_mayRing 53 = .ok (.iload_n 2, 1) := by decide +kernel
theorem dX7_mayRing_54 : decode cX7_mayRing 54 = .ok (.if_icmp .eq 20, 3) := by decide +kernel
theorem dX7_mayRing_57 : decode cX7_mayRing 57 = .ok (.aload_n 1, 1) := by decide +kernel
theorem dX7_mayRing_58 : decode cX7_mayRing 58 = .ok (.invokevirtual 66, 3) := by decide +kernel
theorem dX7_mayRing_61 : decode cX7_mayRing 61 = .ok (.iload 4, 2) := by decide +kernel
theorem dX7_mayRing_63 : decode cX7_mayRing 63 = .ok (.ishr, 1) := by decide +kernel
theorem dX7_mayRing_64 : decode cX7_mayRing 64 = .ok (.iconst 1, 1) := by decide +kernel
theorem dX7_mayRing_65 : decode cX7_mayRing 65 = .ok (.iand, 1) := by decide +kernel
theorem dX7_mayRing_66 : decode cX7_mayRing 66 = .ok (.iconst 1, 1) := by decide +kernel
theorem dX7_mayRing_67 : decode cX7_mayRing 67 = .ok (.if_icmp .ne 7, 3) := by decide +kernel
theorem dX7_mayRing_70 : decode cX7_mayRing 70 = .ok (.iconst 1, 1) := by decide +kernel
theorem dX7_mayRing_71 : decode cX7_mayRing 71 = .ok (.goto 4, 3) := by decide +kernel
theorem dX7_mayRing_74 : decode cX7_mayRing 74 = .ok (.iconst 0, 1) := by decide +kernel
theorem dX7_mayRing_75 : decode cX7_mayRing 75 = .ok (.istore 5, 2) := by decide +kernel
theorem dX7_mayRing_77 : decode cX7_mayRing 77 = .ok (.iload 5, 2) := by decide +kernel
theorem dX7_mayRing_79 : decode cX7_mayRing 79 = .ok (.ifCond .eq 30, 3) := by decide +kernel
theorem dX7_mayRing_82 : decode cX7_mayRing 82 = .ok (.aload_n 0, 1) := by decide +kernel
theorem dX7_mayRing_83 : decode cX7_mayRing 83 = .ok (.getfield 32, 3) := by decide +kernel
theorem dX7_mayRing_86 : decode cX7_mayRing 86 = .ok (.aload_n 1, 1) := by decide +kernel
theorem dX7_mayRing_87 : decode cX7_mayRing 87 = .ok (.getfield 112, 3) := by decide +kernel
theorem dX7_mayRing_90 : decode cX7_mayRing 90 = .ok (.iload_n 2, 1) := by decide +kernel
theorem dX7_mayRing_91 : decode cX7_mayRing 91 = .ok (.iaload, 1) := by decide +kernel
theorem dX7_mayRing_92 : decode cX7_mayRing 92 = .ok (.aload_n 1, 1) := by decide +kernel
theorem dX7_mayRing_93 : decode cX7_mayRing 93 = .ok (.getfield 112, 3) := by decide +kernel
theorem dX7_mayRing_96 : decode cX7_mayRing 96 = .ok (.iload 4, 2) := by decide +kernel
theorem dX7_mayRing_98 : decode cX7_mayRing 98 = .ok (.iaload, 1) := by decide +kernel
theorem dX7_mayRing_99 : decode cX7_mayRing 99 = .ok (.aload_n 1, 1) := by decide +kernel
theorem dX7_mayRing_100 : decode cX7_mayRing 100 = .ok (.getfield 115, 3) := by decide +kernel
theorem dX7_mayRing_103 : decode cX7_mayRing 103 = .ok (.invokevirtual 118, 3) := by decide +kernel
theorem dX7_mayRing_106 : decode cX7_mayRing 106 = .ok (.goto 4, 3) := by decide +kernel
theorem dX7_mayRing_109 : decode cX7_mayRing 109 = .ok (.iconst (-1), 1) := by decide +kernel
theorem dX7_mayRing_110 : decode cX7_mayRing 110 = .ok (.istore 6, 2) := by decide +kernel
theorem dX7_mayRing_112 : decode cX7_mayRing 112 = .ok (.aload_n 1, 1) := by decide +kernel
theorem dX7_mayRing_113 : decode cX7_mayRing 113 = .ok (.invokevirtual 124, 3) := by decide +kernel
theorem dX7_mayRing_116 : decode cX7_mayRing 116 = .ok (.istore 7, 2) := by decide +kernel
theorem dX7_mayRing_118 : decode cX7_mayRing 118 = .ok (.iload 6, 2) := by decide +kernel
theorem dX7_mayRing_120 : decode cX7_mayRing 120 = .ok (.iconst (-1), 1) := by decide +kernel
theorem dX7_mayRing_121 : decode cX7_mayRing 121 = .ok (.if_icmp .eq 9, 3) := by decide +kernel
theorem dX7_mayRing_124 : decode cX7_mayRing 124 = .ok (.iload 7, 2) := by decide +kernel
theorem dX7_mayRing_126 : decode cX7_mayRing 126 = .ok (.iconst (-1), 1) := by decide +kernel
theorem dX7_mayRing_127 : decode cX7_mayRing 127 = .ok (.if_icmp .ne 14, 3) := by decide +kernel
theorem dX7_mayRing_130 : decode cX7_mayRing 130 = .ok (.aload_n 0, 1) := by decide +kernel
theorem dX7_mayRing_131 : decode cX7_mayRing 131 = .ok (.dup, 1) := by decide +kernel
theorem dX7_mayRing_132 : decode cX7_mayRing 132 = .ok (.getfield 39, 3) := by decide +kernel
theorem dX7_mayRing_135 : decode cX7_mayRing 135 = .ok (.iconst 1, 1) := by decide +kernel
theorem dX7_mayRing_136 : decode cX7_mayRing 136 = .ok (.iadd, 1) := by decide +kernel
theorem dX7_mayRing_137 : decode cX7_mayRing 137 = .ok (.putfield 39, 3) := by decide +kernel
theorem dX7_mayRing_140 : decode cX7_mayRing 140 = .ok (.return_, 1) := by decide +kernel
theorem dX7_mayRing_141 : decode cX7_mayRing 141 = .ok (.aload_n 0, 1) := by decide +kernel
theorem dX7_mayRing_142 : decode cX7_mayRing 142 = .ok (.getfield 12, 3) := by decide +kernel
theorem dX7_mayRing_145 : decode cX7_mayRing 145 = .ok (.aload_n 1, 1) := by decide +kernel
theorem dX7_mayRing_146 : decode cX7_mayRing 146 = .ok (.iload 4, 2) := by decide +kernel
theorem dX7_mayRing_148 : decode cX7_mayRing 148 = .ok (.iload 6, 2) := by decide +kernel
theorem dX7_mayRing_150 : decode cX7_mayRing 150 = .ok (.invokevirtual 127, 3) := by decide +kernel
theorem dX7_mayRing_153 : decode cX7_mayRing 153 = .ok (.aload_n 0, 1) := by decide +kernel
theorem dX7_mayRing_154 : decode cX7_mayRing 154 = .ok (.getfield 12, 3) := by decide +kernel
theorem dX7_mayRing_157 : decode cX7_mayRing 157 = .ok (.aload_n 0, 1) := by decide +kernel
theorem dX7_mayRing_158 : decode cX7_mayRing 158 = .ok (.getfield 21, 3) := by decide +kernel
theorem dX7_mayRing_161 : decode cX7_mayRing 161 = .ok (.bipush 108, 2) := by decide +kernel
theorem dX7_mayRing_163 : decode cX7_mayRing 163 = .ok (.bipush 99, 2) := by decide +kernel
theorem dX7_mayRing_165 : decode cX7_mayRing 165 = .ok (.invokevirtual 105, 3) := by decide +kernel
theorem dX7_mayRing_168 : decode cX7_mayRing 168 = .ok (.istore 8, 2) := by decide +kernel
theorem dX7_mayRing_170 : decode cX7_mayRing 170 = .ok (.iload 8, 2) := by decide +kernel
theorem dX7_mayRing_172 : decode cX7_mayRing 172 = .ok (.ifCond .ne 4, 3) := by decide +kernel
theorem dX7_mayRing_175 : decode cX7_mayRing 175 = .ok (.return_, 1) := by decide +kernel
theorem dX7_mayRing_176 : decode cX7_mayRing 176 = .ok (.aload_n 1, 1) := by decide +kernel
theorem dX7_mayRing_177 : decode cX7_mayRing 177 = .ok (.getfield 85, 3) := by decide +kernel
theorem dX7_mayRing_180 : decode cX7_mayRing 180 = .ok (.iload 7, 2) := by decide +kernel
theorem dX7_mayRing_182 : decode cX7_mayRing 182 = .ok (.aload_n 0, 1) := by decide +kernel
theorem dX7_mayRing_183 : decode cX7_mayRing 183 = .ok (.getfield 12, 3) := by decide +kernel
theorem dX7_mayRing_186 : decode cX7_mayRing 186 = .ok (.aload_n 0, 1) := by decide +kernel
theorem dX7_mayRing_187 : decode cX7_mayRing 187 = .ok (.getfield 21, 3) := by decide +kernel
theorem dX7_mayRing_190 : decode cX7_mayRing 190 = .ok (.bipush 118, 2) := by decide +kernel
theorem dX7_mayRing_192 : decode cX7_mayRing 192 = .ok (.invokevirtual 131, 3) := by decide +kernel
theorem dX7_mayRing_195 : decode cX7_mayRing 195 = .ok (.iconst (-1), 1) := by decide +kernel
theorem dX7_mayRing_196 : decode cX7_mayRing 196 = .ok (.if_icmp .ne 7, 3) := by decide +kernel
theorem dX7_mayRing_199 : decode cX7_mayRing 199 = .ok (.iload_n 2, 1) := by decide +kernel
theorem dX7_mayRing_200 : decode cX7_mayRing 200 = .ok (.goto 5, 3) := by decide +kernel
theorem dX7_mayRing_203 : decode cX7_mayRing 203 = .ok (.iload 4, 2) := by decide +kernel
theorem dX7_mayRing_205 : decode cX7_mayRing 205 = .ok (.iastore, 1) := by decide +kernel
theorem dX7_mayRing_206 : decode cX7_mayRing 206 = .ok (.aload_n 1, 1) := by decide +kernel
theorem dX7_mayRing_207 : decode cX7_mayRing 207 = .ok (.iload 7, 2) := by decide +kernel
theorem dX7_mayRing_209 : decode cX7_mayRing 209 = .ok (.iload_n 2, 1) := by decide +kernel
theorem dX7_mayRing_210 : decode cX7_mayRing 210 = .ok (.iload 4, 2) := by decide +kernel
theorem dX7_mayRing_212 : decode cX7_mayRing 212 = .ok (.iload 8, 2) := by decide +kernel
theorem dX7_mayRing_214 : decode cX7_mayRing 214 = .ok (.invokevirtual 135, 3) := by decide +kernel
theorem dX7_mayRing_217 : decode cX7_mayRing 217 = .ok (.aload_n 1, 1) := by decide +kernel
theorem dX7_mayRing_218 : decode cX7_mayRing 218 = .ok (.iload 7, 2) := by decide +kernel
theorem dX7_mayRing_220 : decode cX7_mayRing 220 = .ok (.aload_n 0, 1) := by decide +kernel
theorem dX7_mayRing_221 : decode cX7_mayRing 221 = .ok (.getfield 32, 3) := by decide +kernel
theorem dX7_mayRing_224 : decode cX7_mayRing 224 = .ok (.getfield 139, 3) := by decide +kernel
theorem dX7_mayRing_227 : decode cX7_mayRing 227 = .ok (.iload 6, 2) := by decide +kernel
theorem dX7_mayRing_229 : decode cX7_mayRing 229 = .ok (.invokevirtual 142, 3) := by decide +kernel
theorem dX7_mayRing_232 : decode cX7_mayRing 232 = .ok (.aload_n 0, 1) := by decide +kernel
theorem dX7_mayRing_233 : decode cX7_mayRing 233 = .ok (.dup, 1) := by decide +kernel
theorem dX7_mayRing_234 : decode cX7_mayRing 234 = .ok (.getfield 36, 3) := by decide +kernel
theorem dX7_mayRing_237 : decode cX7_mayRing 237 = .ok (.iconst 1, 1) := by decide +kernel
theorem dX7_mayRing_238 : decode cX7_mayRing 238 = .ok (.iadd, 1) := by decide +kernel
theorem dX7_mayRing_239 : decode cX7_mayRing 239 = .ok (.putfield 36, 3) := by decide +kernel
theorem dX7_mayRing_242 : decode cX7_mayRing 242 = .ok (.return_, 1) := by decide +kernel
theorem dX7_mayStop_0 : decode cX7_mayStop 0 = .ok (.aload_n 0, 1) := by decide +kernel
theorem dX7_mayStop_1 : decode cX7_mayStop 1 = .ok (.getfield 12, 3) := by decide +kernel
theorem dX7_mayStop_4 : decode cX7_mayStop 4 = .ok (.aload_n 1, 1) := by decide +kernel
theorem dX7_mayStop_5 : decode cX7_mayStop 5 = .ok (.iload_n 2, 1) := by decide +kernel
theorem dX7_mayStop_6 : decode cX7_mayStop 6 = .ok (.invokevirtual 102, 3) := by decide +kernel
theorem dX7_mayStop_9 : decode cX7_mayStop 9 = .ok (.aload_n 0, 1) := by decide +kernel
theorem dX7_mayStop_10 : decode cX7_mayStop 10 = .ok (.getfield 12, 3) := by decide +kernel
theorem dX7_mayStop_13 : decode cX7_mayStop 13 = .ok (.aload_n 0, 1) := by decide +kernel
theorem dX7_mayStop_14 : decode cX7_mayStop 14 = .ok (.getfield 21, 3) := by decide +kernel
theorem dX7_mayStop_17 : decode cX7_mayStop 17 = .ok (.bipush 120, 2) := by decide +kernel
theorem dX7_mayStop_19 : decode cX7_mayStop 19 = .ok (.invokevirtual 131, 3) := by decide +kernel
theorem dX7_mayStop_22 : decode cX7_mayStop 22 = .ok (.iconst (-1), 1) := by decide +kernel
theorem dX7_mayStop_23 : decode cX7_mayStop 23 = .ok (.if_icmp .eq 18, 3) := by decide +kernel
theorem dX7_mayStop_26 : decode cX7_mayStop 26 = .ok (.aload_n 1, 1) := by decide +kernel
theorem dX7_mayStop_27 : decode cX7_mayStop 27 = .ok (.iload_n 2, 1) := by decide +kernel
theorem dX7_mayStop_28 : decode cX7_mayStop 28 = .ok (.invokevirtual 146, 3) := by decide +kernel
theorem dX7_mayStop_31 : decode cX7_mayStop 31 = .ok (.aload_n 0, 1) := by decide +kernel
theorem dX7_mayStop_32 : decode cX7_mayStop 32 = .ok (.dup, 1) := by decide +kernel
theorem dX7_mayStop_33 : decode cX7_mayStop 33 = .ok (.getfield 42, 3) := by decide +kernel
theorem dX7_mayStop_36 : decode cX7_mayStop 36 = .ok (.iconst 1, 1) := by decide +kernel
theorem dX7_mayStop_37 : decode cX7_mayStop 37 = .ok (.iadd, 1) := by decide +kernel
theorem dX7_mayStop_38 : decode cX7_mayStop 38 = .ok (.putfield 42, 3) := by decide +kernel
theorem dX7_mayStop_41 : decode cX7_mayStop 41 = .ok (.return_, 1) := by decide +kernel
theorem dX8_init_0 : decode cX8_init 0 = .ok (.aload_n 0, 1) := by decide +kernel
theorem dX8_init_1 : decode cX8_init 1 = .ok (.invokespecial 3, 3) := by decide +kernel
theorem dX8_init_4 : decode cX8_init 4 = .ok (.aload_n 0, 1) := by decide +kernel
theorem dX8_init_5 : decode cX8_init 5 = .ok (.sipush 260, 3) := by decide +kernel
theorem dX8_init_8 : decode cX8_init 8 = .ok (.newarray .int, 2) := by decide +kernel
theorem dX8_init_10 : decode cX8_init 10 = .ok (.putfield 9, 3) := by decide +kernel
theorem dX8_init_13 : decode cX8_init 13 = .ok (.return_, 1) := by decide +kernel
theorem dX8_hasRoom_0 : decode cX8_hasRoom 0 = .ok (.aload_n 0, 1) := by decide +kernel
theorem dX8_hasRoom_1 : decode cX8_hasRoom 1 = .ok (.getfield 15, 3) := by decide +kernel
theorem dX8_hasRoom_4 : decode cX8_hasRoom 4 = .ok (.bipush 20, 2) := by decide +kernel
theorem dX8_hasRoom_6 : decode cX8_hasRoom 6 = .ok (.iadd, 1) := by decide +kernel
theorem dX8_hasRoom_7 : decode cX8_hasRoom 7 = .ok (.sipush 260, 3) := by decide +kernel
theorem dX8_hasRoom_10 : decode cX8_hasRoom 10 = .ok (.if_icmp .gt 7, 3) := by decide +kernel
theorem dX8_hasRoom_13 : decode cX8_hasRoom 13 = .ok (.iconst 1, 1) := by decide +kernel
theorem dX8_hasRoom_14 : decode cX8_hasRoom 14 = .ok (.goto 4, 3) := by decide +kernel
theorem dX8_hasRoom_17 : decode cX8_hasRoom 17 = .ok (.iconst 0, 1) := by decide +kernel
theorem dX8_hasRoom_18 : decode cX8_hasRoom 18 = .ok (.ireturn, 1) := by decide +kernel
theorem dX8_add_0 : decode cX8_add 0 = .ok (.bipush 24, 2) := by decide +kernel
theorem dX8_add_2 : decode cX8_add 2 = .ok (.istore_n 2, 1) := by decide +kernel
theorem dX8_add_3 : decode cX8_add 3 = .ok (.iload_n 2, 1) := by decide +kernel
theorem dX8_add_4 : decode cX8_add 4 = .ok (.ifCond .lt 45, 3) := by decide +kernel
theorem dX8_add_7 : decode cX8_add 7 = .ok (.aload_n 0, 1) := by decide +kernel
theorem dX8_add_8 : decode cX8_add 8 = .ok (.getfield 15, 3) := by decide +kernel
theorem dX8_add_11 : decode cX8_add 11 = .ok (.sipush 260, 3) := by decide +kernel
theorem dX8_add_14 : decode cX8_add 14 = .ok (.if_icmp .ge 35, 3) := by decide +kernel
theorem dX8_add_17 : decode cX8_add 17 = .ok (.aload_n 0, 1) := by decide +kernel
theorem dX8_add_18 : decode cX8_add 18 = .ok (.getfield 9, 3) := by decide +kernel
theorem dX8_add_21 : decode cX8_add 21 = .ok (.aload_n 0, 1) := by decide +kernel
theorem dX8_add_22 : decode cX8_add 22 = .ok (.getfield 15, 3) := by decide +kernel
theorem dX8_add_25 : decode cX8_add 25 = .ok (.iload_n 1, 1) := by decide +kernel
theorem dX8_add_26 : decode cX8_add 26 = .ok (.iload_n 2, 1) := by decide +kernel
theorem dX8_add_27 : decode cX8_add 27 = .ok (.iushr, 1) := by decide +kernel
theorem dX8_add_28 : decode cX8_add 28 = .ok (.sipush 255, 3) := by decide +kernel
theorem dX8_add_31 : decode cX8_add 31 = .ok (.iand, 1) := by decide +kernel
theorem dX8_add_32 : decode cX8_add 32 = .ok (.iastore, 1) := by decide +kernel
theorem dX8_add_33 : decode cX8_add 33 = .ok (.aload_n 0, 1) := by decide +kernel
theorem dX8_add_34 : decode cX8_add 34 = .ok (.dup, 1) := by decide +kernel
theorem dX8_add_35 : decode cX8_add 35 = .ok (.getfield 15, 3) := by decide +kernel
theorem dX8_add_38 : decode cX8_add 38 = .ok (.iconst 1, 1) := by decide +kernel
theorem dX8_add_39 : decode cX8_add 39 = .ok (.iadd, 1) := by decide +kernel
theorem dX8_add_40 : decode cX8_add 40 = .ok (.putfield 15, 3) := by decide +kernel
theorem dX8_add_43 : decode cX8_add 43 = .ok (.iinc 2 (-8), 3) := by decide +kernel
theorem dX8_add_46 : decode cX8_add 46 = .ok (.goto (-43), 3) := by decide +kernel
theorem dX8_add_49 : decode cX8_add 49 = .ok (.return_, 1) := by decide +kernel
theorem dX8_take_0 : decode cX8_take 0 = .ok (.iload_n 1, 1) := by decide +kernel
theorem dX8_take_1 : decode cX8_take 1 = .ok (.aload_n 0, 1) := by decide +kernel
theorem dX8_take_2 : decode cX8_take 2 = .ok (.getfield 15, 3) := by decide +kernel
theorem dX8_take_5 : decode cX8_take 5 = .ok (.if_icmp .le 5, 3) := by decide +kernel
theorem dX8_take_8 : decode cX8_take 8 = .ok (.iconst 0, 1) := by decide +kernel
theorem dX8_take_9 : decode cX8_take 9 = .ok (.ireturn, 1) := by decide +kernel
theorem dX8_take_10 : decode cX8_take 10 = .ok (.aload_n 0, 1) := by decide +kernel
theorem dX8_take_11 : decode cX8_take 11 = .ok (.iload_n 1, 1) := by decide +kernel
theorem dX8_take_12 : decode cX8_take 12 = .ok (.putfield 19, 3) := by decide +kernel
theorem dX8_take_15 : decode cX8_take 15 = .ok (.aload_n 0, 1) := by decide +kernel
theorem dX8_take_16 : decode cX8_take 16 = .ok (.iconst 0, 1) := by decide +kernel
theorem dX8_take_17 : decode cX8_take 17 = .ok (.putfield 15, 3) := by decide +kernel
theorem dX8_take_20 : decode cX8_take 20 = .ok (.aload_n 0, 1) := by decide +kernel
theorem dX8_take_21 : decode cX8_take 21 = .ok (.iconst 0, 1) := by decide +kernel
theorem dX8_take_22 : decode cX8_take 22 = .ok (.putfield 22, 3) := by decide +kernel
theorem dX8_take_25 : decode cX8_take 25 = .ok (.aload_n 0, 1) := by decide +kernel
theorem dX8_take_26 : decode cX8_take 26 = .ok (.iconst 0, 1) := by decide +kernel
theorem dX8_take_27 : decode cX8_take 27 = .ok (.putfield 25, 3) := by decide +kernel
theorem dX8_take_30 : decode cX8_take 30 = .ok (.iconst 1, 1) := by decide +kernel
theorem dX8_take_31 : decode cX8_take 31 = .ok (.ireturn, 1) := by decide +kernel
theorem dX8_at_0 : decode cX8_at 0 = .ok (.iload_n 1, 1) := by decide +kernel
theorem dX8_at_1 : decode cX8_at 1 = .ok (.ifCond .lt 27, 3) := by decide +kernel
theorem dX8_at_4 : decode cX8_at 4 = .ok (.iload_n 1, 1) := by decide +kernel
theorem dX8_at_5 : decode cX8_at 5 = .ok (.aload_n 0, 1) := by decide +kernel
theorem dX8_at_6 : decode cX8_at 6 = .ok (.getfield 19, 3) := by decide +kernel
theorem dX8_at_9 : decode cX8_at 9 = .ok (.if_icmp .ge 19, 3) := by decide +kernel
theorem dX8_at_12 : decode cX8_at 12 = .ok (.iload_n 1, 1) := by decide +kernel
theorem dX8_at_13 : decode cX8_at 13 = .ok (.sipush 260, 3) := by decide +kernel
theorem dX8_at_16 : decode cX8_at 16 = .ok (.if_icmp .ge 12, 3) := by decide +kernel
theorem dX8_at_19 : decode cX8_at 19 = .ok (.aload_n 0, 1) := by decide +kernel
theorem dX8_at_20 : decode cX8_at 20 = .ok (.getfield 9, 3) := by decide +kernel
theorem dX8_at_23 : decode cX8_at 23 = .ok (.iload_n 1, 1) := by decide +kernel
theorem dX8_at_24 : decode cX8_at 24 = .ok (.iaload, 1) := by decide +kernel
theorem dX8_at_25 : decode cX8_at 25 = .ok (.goto 4, 3) := by decide +kernel
theorem dX8_at_28 : decode cX8_at 28 = .ok (.iconst (-1), 1) := by decide +kernel
theorem dX8_at_29 : decode cX8_at 29 = .ok (.ireturn, 1) := by decide +kernel
theorem dX8_sign_0 : decode cX8_sign 0 = .ok (.aload_n 0, 1) := by decide +kernel
theorem dX8_sign_1 : decode cX8_sign 1 = .ok (.aload_n 0, 1) := by decide +kernel
theorem dX8_sign_2 : decode cX8_sign 2 = .ok (.getfield 22, 3) := by decide +kernel
theorem dX8_sign_5 : decode cX8_sign 5 = .ok (.invokevirtual 28, 3) := by decide +kernel
theorem dX8_sign_8 : decode cX8_sign 8 = .ok (.ireturn, 1) := by decide +kernel
theorem dX8_fails_0 : decode cX8_fails 0 = .ok (.aload_n 0, 1) := by decide +kernel
theorem dX8_fails_1 : decode cX8_fails 1 = .ok (.sipush (-1000), 3) := by decide +kernel
theorem dX8_fails_4 : decode cX8_fails 4 = .ok (.iload_n 1, 1) := by decide +kernel
theorem dX8_fails_5 : decode cX8_fails 5 = .ok (.imul, 1) := by decide +kernel
theorem dX8_fails_6 : decode cX8_fails 6 = .ok (.aload_n 0, 1) := by decide +kernel
theorem dX8_fails_7 : decode cX8_fails 7 = .ok (.getfield 22, 3) := by decide +kernel
theorem dX8_fails_10 : decode cX8_fails 10 = .ok (.isub, 1) := by decide +kernel
theorem dX8_fails_11 : decode cX8_fails 11 = .ok (.putfield 25, 3) := by decide +kernel
theorem dX8_fails_14 : decode cX8_fails 14 = .ok (.iconst 0, 1) := by decide +kernel
theorem dX8_fails_15 : decode cX8_fails 15 = .ok (.ireturn, 1) := by decide +kernel
theorem dX8_passes_0 : decode cX8_passes 0 = .ok (.aload_n 0, 1) := by decide +kernel
theorem dX8_passes_1 : decode cX8_passes 1 = .ok (.aload_n 0, 1) := by decide +kernel
theorem dX8_passes_2 : decode cX8_passes 2 = .ok (.getfield 22, 3) := by decide +kernel
theorem dX8_passes_5 : decode cX8_passes 5 = .ok (.invokevirtual 28, 3) := by decide +kernel
theorem dX8_passes_8 : decode cX8_passes 8 = .ok (.iload_n 1, 1) := by decide +kernel
theorem dX8_passes_9 : decode cX8_passes 9 = .ok (.if_icmp .eq 9, 3) := by decide +kernel
theorem dX8_passes_12 : decode cX8_passes 12 = .ok (.aload_n 0, 1) := by decide +kernel
theorem dX8_passes_13 : decode cX8_passes 13 = .ok (.iconst 1, 1) := by decide +kernel
theorem dX8_passes_14 : decode cX8_passes 14 = .ok (.invokevirtual 32, 3) := by decide +kernel
theorem dX8_passes_17 : decode cX8_passes 17 = .ok (.ireturn, 1) := by decide +kernel
theorem dX8_passes_18 : decode cX8_passes 18 = .ok (.aload_n 0, 1) := by decide +kernel
theorem dX8_passes_19 : decode cX8_passes 19 = .ok (.dup, 1) := by decide +kernel
theorem dX8_passes_20 : decode cX8_passes 20 = .ok (.getfield 22, 3) := by decide +kernel
theorem dX8_passes_23 : decode cX8_passes 23 = .ok (.iconst 1, 1) := by decide +kernel
theorem dX8_passes_24 : decode cX8_passes 24 = .ok (.iadd, 1) := by decide +kernel
theorem dX8_passes_25 : decode cX8_passes 25 = .ok (.putfield 22, 3) := by decide +kernel
theorem dX8_passes_28 : decode cX8_passes 28 = .ok (.iconst 1, 1) := by decide +kernel
theorem dX8_passes_29 : decode cX8_passes 29 = .ok (.ireturn, 1) := by decide +kernel
theorem dX8_readNumber_0 : decode cX8_readNumber 0 = .ok (.aload_n 0, 1) := by decide +kernel
theorem dX8_readNumber_1 : decode cX8_readNumber 1 = .ok (.aload_n 0, 1) := by decide +kernel
theorem dX8_readNumber_2 : decode cX8_readNumber 2 = .ok (.getfield 22, 3) := by decide +kernel
theorem dX8_readNumber_5 : decode cX8_readNumber 5 = .ok (.invokevirtual 28, 3) := by decide +kernel
theorem dX8_readNumber_8 : decode cX8_readNumber 8 = .ok (.invokestatic 36, 3) := by decide +kernel
theorem dX8_readNumber_11 : decode cX8_readNumber 11 = .ok (.ifCond .ne 9, 3) := by decide +kernel
theorem dX8_readNumber_14 : decode cX8_readNumber 14 = .ok (.aload_n 0, 1) := by decide +kernel
theorem dX8_readNumber_15 : decode cX8_readNumber 15 = .ok (.iconst 1, 1) := by decide +kernel
theorem dX8_readNumber_16 : decode cX8_readNumber 16 = .ok (.invokevirtual 32, 3) := by decide +kernel
theorem dX8_readNumber_19 : decode cX8_readNumber 19 = .ok (.ireturn, 1) := by decide +kernel
theorem dX8_readNumber_20 : decode cX8_readNumber 20 = .ok (.aload_n 0, 1) := by decide +kernel
theorem dX8_readNumber_21 : decode cX8_readNumber 21 = .ok (.iconst 0, 1) := by decide +kernel
theorem dX8_readNumber_22 : decode cX8_readNumber 22 = .ok (.putfield 39, 3) := by decide +kernel
theorem dX8_readNumber_25 : decode cX8_readNumber 25 = .ok (.iconst 0, 1) := by decide +kernel
theorem dX8_readNumber_26 : decode cX8_readNumber 26 = .ok (.istore_n 1, 1) := by decide +kernel
theorem dX8_readNumber_27 : decode cX8_readNumber 27 = .ok (.iload_n 1, 1) := by decide +kernel
theorem dX8_readNumber_28 : decode cX8_readNumber 28 = .ok (.iconst 5, 1) := by decide +kernel
theorem dX8_readNumber_29 : decode cX8_readNumber 29 = .ok (.if_icmp .ge 56, 3) := by decide +kernel
theorem dX8_readNumber_32 : decode cX8_readNumber 32 = .ok (.aload_n 0, 1) := by decide +kernel
theorem dX8_readNumber_33 : decode cX8_readNumber 33 = .ok (.aload_n 0, 1) := by decide +kernel
theorem dX8_readNumber_34 : decode cX8_readNumber 34 = .ok (.getfield 22, 3) := by decide +kernel
theorem dX8_readNumber_37 : decode cX8_readNumber 37 = .ok (.invokevirtual 28, 3) := by decide +kernel
theorem dX8_readNumber_40 : decode cX8_readNumber 40 = .ok (.invokestatic 36, 3) := by decide +kernel
theorem dX8_readNumber_43 : decode cX8_readNumber 43 = .ok (.ifCond .eq 42, 3) := by decide +kernel
theorem dX8_readNumber_46 : decode cX8_readNumber 46 = .ok (.aload_n 0, 1) := by decide +kernel
theorem dX8_readNumber_47 : decode cX8_readNumber 47 = .ok (.aload_n 0, 1) := by decide +kernel
theorem dX8_readNumber_48 : decode cX8_readNumber 48 = .ok (.getfield 39, 3) := by decide +kernel
theorem dX8_readNumber_51 : decode cX8_readNumber 51 = .ok (.bipush 10, 2) := by decide +kernel
theorem dX8_readNumber_53 : decode cX8_readNumber 53 = .ok (.imul, 1) := by decide +kernel
theorem dX8_readNumber_54 : decode cX8_readNumber 54 = .ok (.aload_n 0, 1) := by decide +kernel
theorem dX8_readNumber_55 : decode cX8_readNumber 55 = .ok (.aload_n 0, 1) := by decide +kernel
theorem dX8_readNumber_56 : decode cX8_readNumber 56 = .ok (.getfield 22, 3) := by decide +kernel
theorem dX8_readNumber_59 : decode cX8_readNumber 59 = .ok (.invokevirtual 28, 3) := by decide +kernel
theorem dX8_readNumber_62 : decode cX8_readNumber 62 = .ok (.iadd, 1) := by decide +kernel
theorem dX8_readNumber_63 : decode cX8_readNumber 63 = .ok (.bipush 48, 2) := by decide +kernel
theorem dX8_readNumber_65 : decode cX8_readNumber 65 = .ok (.isub, 1) := by decide +kernel
theorem dX8_readNumber_66 : decode cX8_readNumber 66 = .ok (.putfield 39, 3) := by decide +kernel
theorem dX8_readNumber_69 : decode cX8_readNumber 69 = .ok (.aload_n 0, 1) := by decide +kernel
theorem dX8_readNumber_70 : decode cX8_readNumber 70 = .ok (.dup, 1) := by decide +kernel
theorem dX8_readNumber_71 : decode cX8_readNumber 71 = .ok (.getfield 22, 3) := by decide +kernel
theorem dX8_readNumber_74 : decode cX8_readNumber 74 = .ok (.iconst 1, 1) := by decide +kernel
theorem dX8_readNumber_75 : decode cX8_readNumber 75 = .ok (.iadd, 1) := by decide +kernel
theorem dX8_readNumber_76 : decode cX8_readNumber 76 = .ok (.putfield 22, 3) := by decide +kernel
theorem dX8_readNumber_79 : decode cX8_readNumber 79 = .ok (.iinc 1 1, 3) := by decide +kernel
theorem dX8_readNumber_82 : decode cX8_readNumber 82 = .ok (.goto (-55), 3) := by decide +kernel
theorem dX8_readNumber_85 : decode cX8_readNumber 85 = .ok (.aload_n 0, 1) := by decide +kernel
theorem dX8_readNumber_86 : decode cX8_readNumber 86 = .ok (.aload_n 0, 1) := by decide +kernel
theorem dX8_readNumber_87 : decode cX8_readNumber 87 = .ok (.getfield 22, 3) := by decide +kernel
theorem dX8_readNumber_90 : decode cX8_readNumber 90 = .ok (.invokevirtual 28, 3) := by decide +kernel
theorem dX8_readNumber_93 : decode cX8_readNumber 93 = .ok (.invokestatic 36, 3) := by decide +kernel
theorem dX8_readNumber_96 : decode cX8_readNumber 96 = .ok (.ifCond .eq 11, 3) := by decide +kernel
theorem dX8_readNumber_99 : decode cX8_readNumber 99 = .ok (.aload_n 0, 1) := by decide +kernel
theorem dX8_readNumber_100 : decode cX8_readNumber 100 = .ok (.iconst 2, 1) := by decide +kernel
theorem dX8_readNumber_101 : decode cX8_readNumber 101 = .ok (.invokevirtual 32, 3) := by decide +kernel
theorem dX8_readNumber_104 : decode cX8_readNumber 104 = .ok (.goto 4, 3) := by decide +kernel
theorem dX8_readNumber_107 : decode cX8_readNumber 107 = .ok (.iconst 1, 1) := by decide +kernel
theorem dX8_readNumber_108 : decode cX8_readNumber 108 = .ok (.ireturn, 1) := by decide +kernel
theorem dX8_holdsOnly_0 : decode cX8_holdsOnly 0 = .ok (.aload_n 0, 1) := by decide +kernel
theorem dX8_holdsOnly_1 : decode cX8_holdsOnly 1 = .ok (.iconst 0, 1) := by decide +kernel
theorem dX8_holdsOnly_2 : decode cX8_holdsOnly 2 = .ok (.putfield 22, 3) := by decide +kernel
theorem dX8_holdsOnly_5 : decode cX8_holdsOnly 5 = .ok (.aload_n 0, 1) := by decide +kernel
theorem dX8_holdsOnly_6 : decode cX8_holdsOnly 6 = .ok (.getfield 22, 3) := by decide +kernel
theorem dX8_holdsOnly_9 : decode cX8_holdsOnly 9 = .ok (.aload_n 0, 1) := by decide +kernel
theorem dX8_holdsOnly_10 : decode cX8_holdsOnly 10 = .ok (.getfield 19, 3) := by decide +kernel
theorem dX8_holdsOnly_13 : decode cX8_holdsOnly 13 = .ok (.if_icmp .ge 38, 3) := by decide +kernel
theorem dX8_holdsOnly_16 : decode cX8_holdsOnly 16 = .ok (.aload_n 0, 1) := by decide +kernel
theorem dX8_holdsOnly_17 : decode cX8_holdsOnly 17 = .ok (.aload_n 0, 1) := by decide +kernel
theorem dX8_holdsOnly_18 : decode cX8_holdsOnly 18 = .ok (.getfield 22, 3) := by decide +kernel
theorem dX8_holdsOnly_21 : decode cX8_holdsOnly 21 = .ok (.invokevirtual 28, 3) := by decide +kernel
theorem dX8_holdsOnly_24 : decode cX8_holdsOnly 24 = .ok (.iload_n 1, 1) := by decide +kernel
theorem dX8_holdsOnly_25 : decode cX8_holdsOnly 25 = .ok (.iload_n 2, 1) := by decide +kernel
theorem dX8_holdsOnly_26 : decode cX8_holdsOnly 26 = .ok (.invokestatic 42, 3) := by decide +kernel
theorem dX8_holdsOnly_29 : decode cX8_holdsOnly 29 = .ok (.ifCond .ne 9, 3) := by decide +kernel
theorem dX8_holdsOnly_32 : decode cX8_holdsOnly 32 = .ok (.aload_n 0, 1) := by decide +kernel
theorem dX8_holdsOnly_33 : decode cX8_holdsOnly 33 = .ok (.iconst 1, 1) := by decide +kernel
theorem dX8_holdsOnly_34 : decode cX8_holdsOnly 34 = .ok (.invokevirtual 32, 3) := by decide +kernel
theorem dX8_holdsOnly_37 : decode cX8_holdsOnly 37 = .ok (.ireturn, 1) := by decide +kernel
theorem dX8_holdsOnly_38 : decode cX8_holdsOnly 38 = .ok (.aload_n 0, 1) := by decide +kernel
theorem dX8_holdsOnly_39 : decode cX8_holdsOnly 39 = .ok (.dup, 1) := by decide +kernel
theorem dX8_holdsOnly_40 : decode cX8_holdsOnly 40 = .ok (.getfield 22, 3) := by decide +kernel
theorem dX8_holdsOnly_43 : decode cX8_holdsOnly 43 = .ok (.iconst 1, 1) := by decide +kernel
theorem dX8_holdsOnly_44 : decode cX8_holdsOnly 44 = .ok (.iadd, 1) := by decide +kernel
theorem dX8_holdsOnly_45 : decode cX8_holdsOnly 45 = .ok (.putfield 22, 3) := by decide +kernel
theorem dX8_holdsOnly_48 : decode cX8_holdsOnly 48 = .ok (.goto (-43), 3) := by decide +kernel
theorem dX8_holdsOnly_51 : decode cX8_holdsOnly 51 = .ok (.iconst 1, 1) := by decide +kernel
theorem dX8_holdsOnly_52 : decode cX8_holdsOnly 52 = .ok (.ireturn, 1) := by decide +kernel
theorem dX9_init_0 : decode cX9_init 0 = .ok (.aload_n 0, 1) := by decide +kernel
theorem dX9_init_1 : decode cX9_init 1 = .ok (.invokespecial 3, 3) := by decide +kernel
theorem dX9_init_4 : decode cX9_init 4 = .ok (.aload_n 0, 1) := by decide +kernel
theorem dX9_init_5 : decode cX9_init 5 = .ok (.iconst 1, 1) := by decide +kernel
theorem dX9_init_6 : decode cX9_init 6 = .ok (.putfield 9, 3) := by decide +kernel
theorem dX9_init_9 : decode cX9_init 9 = .ok (.aload_n 0, 1) := by decide +kernel
theorem dX9_init_10 : decode cX9_init 10 = .ok (.bipush 16, 2) := by decide +kernel
theorem dX9_init_12 : decode cX9_init 12 = .ok (.newarray .int, 2) := by decide +kernel
theorem dX9_init_14 : decode cX9_init 14 = .ok (.putfield 15, 3) := by decide +kernel
theorem dX9_init_17 : decode cX9_init 17 = .ok (.aload_n 0, 1) := by decide +kernel
theorem dX9_init_18 : decode cX9_init 18 = .ok (.bipush 16, 2) := by decide +kernel
theorem dX9_init_20 : decode cX9_init 20 = .ok (.newarray .int, 2) := by decide +kernel
theorem dX9_init_22 : decode cX9_init 22 = .ok (.putfield 19, 3) := by decide +kernel
theorem dX9_init_25 : decode cX9_init 25 = .ok (.aload_n 0, 1) := by decide +kernel
theorem dX9_init_26 : decode cX9_init 26 = .ok (.bipush 16, 2) := by decide +kernel
theorem dX9_init_28 : decode cX9_init 28 = .ok (.newarray .int, 2) := by decide +kernel
theorem dX9_init_30 : decode cX9_init 30 = .ok (.putfield 22, 3) := by decide +kernel
theorem dX9_init_33 : decode cX9_init 33 = .ok (.aload_n 0, 1) := by decide +kernel
theorem dX9_init_34 : decode cX9_init 34 = .ok (.bipush 16, 2) := by decide +kernel
theorem dX9_init_36 : decode cX9_init 36 = .ok (.newarray .int, 2) := by decide +kernel
theorem dX9_init_38 : decode cX9_init 38 = .ok (.putfield 25, 3) := by decide +kernel
theorem dX9_init_41 : decode cX9_init 41 = .ok (.aload_n 0, 1) := by decide +kernel
theorem dX9_init_42 : decode cX9_init 42 = .ok (.bipush 16, 2) := by decide +kernel
theorem dX9_init_44 : decode cX9_init 44 = .ok (.newarray .int, 2) := by decide +kernel
theorem dX9_init_46 : decode cX9_init 46 = .ok (.putfield 28, 3) := by decide +kernel
theorem dX9_init_49 : decode cX9_init 49 = .ok (.aload_n 0, 1) := by decide +kernel
theorem dX9_init_50 : decode cX9_init 50 = .ok (.bipush 20, 2) := by decide +kernel
theorem dX9_init_52 : decode cX9_init 52 = .ok (.newarray .int, 2) := by decide +kernel
theorem dX9_init_54 : decode cX9_init 54 = .ok (.putfield 31, 3) := by decide +kernel
theorem dX9_init_57 : decode cX9_init 57 = .ok (.aload_n 0, 1) := by decide +kernel
theorem dX9_init_58 : decode cX9_init 58 = .ok (.bipush 20, 2) := by decide +kernel
theorem dX9_init_60 : decode cX9_init 60 = .ok (.newarray .int, 2) := by decide +kernel
theorem dX9_init_62 : decode cX9_init 62 = .ok (.putfield 34, 3) := by decide +kernel
theorem dX9_init_65 : decode cX9_init 65 = .ok (.aload_n 0, 1) := by decide +kernel
theorem dX9_init_66 : decode cX9_init 66 = .ok (.bipush 20, 2) := by decide +kernel
theorem dX9_init_68 : decode cX9_init 68 = .ok (.newarray .int, 2) := by decide +kernel
theorem dX9_init_70 : decode cX9_init 70 = .ok (.putfield 37, 3) := by decide +kernel
theorem dX9_init_73 : decode cX9_init 73 = .ok (.aload_n 0, 1) := by decide +kernel
theorem dX9_init_74 : decode cX9_init 74 = .ok (.bipush 20, 2) := by decide +kernel
theorem dX9_init_76 : decode cX9_init 76 = .ok (.newarray .int, 2) := by decide +kernel
theorem dX9_init_78 : decode cX9_init 78 = .ok (.putfield 40, 3) := by decide +kernel
theorem dX9_init_81 : decode cX9_init 81 = .ok (.aload_n 0, 1) := by decide +kernel
theorem dX9_init_82 : decode cX9_init 82 = .ok (.bipush 20, 2) := by decide +kernel
theorem dX9_init_84 : decode cX9_init 84 = .ok (.newarray .int, 2) := by decide +kernel
theorem dX9_init_86 : decode cX9_init 86 = .ok (.putfield 43, 3) := by decide +kernel
theorem dX9_init_89 : decode cX9_init 89 = .ok (.aload_n 0, 1) := by decide +kernel
theorem dX9_init_90 : decode cX9_init 90 = .ok (.sipush 160, 3) := by decide +kernel
theorem dX9_init_93 : decode cX9_init 93 = .ok (.newarray .int, 2) := by decide +kernel
theorem dX9_init_95 : decode cX9_init 95 = .ok (.putfield 46, 3) := by decide +kernel
theorem dX9_init_98 : decode cX9_init 98 = .ok (.aload_n 0, 1) := by decide +kernel
theorem dX9_init_99 : decode cX9_init 99 = .ok (.bipush 64, 2) := by decide +kernel
theorem dX9_init_101 : decode cX9_init 101 = .ok (.newarray .int, 2) := by decide +kernel
theorem dX9_init_103 : decode cX9_init 103 = .ok (.putfield 49, 3) := by decide +kernel
theorem dX9_init_106 : decode cX9_init 106 = .ok (.return_, 1) := by decide +kernel
theorem dX9_copyFrom_0 : decode cX9_copyFrom 0 = .ok (.aload_n 0, 1) := by decide +kernel
theorem dX9_copyFrom_1 : decode cX9_copyFrom 1 = .ok (.aload_n 1, 1) := by decide +kernel
theorem dX9_copyFrom_2 : decode cX9_copyFrom 2 = .ok (.getfield 52, 3) := by decide +kernel
theorem dX9_copyFrom_5 : decode cX9_copyFrom 5 = .ok (.putfield 52, 3) := by decide +kernel
theorem dX9_copyFrom_8 : decode cX9_copyFrom 8 = .ok (.aload_n 0, 1) := by decide +kernel
theorem dX9_copyFrom_9 : decode cX9_copyFrom 9 = .ok (.aload_n 1, 1) := by decide +kernel
theorem dX9_copyFrom_10 : decode cX9_copyFrom 10 = .ok (.getfield 55, 3) := by decide +kernel
theorem dX9_copyFrom_13 : decode cX9_copyFrom 13 = .ok (.putfield 55, 3) := by decide +kernel
theorem dX9_copyFrom_16 : decode cX9_copyFrom 16 = .ok (.aload_n 0, 1) := by decide +kernel
theorem dX9_copyFrom_17 : decode cX9_copyFrom 17 = .ok (.aload_n 1, 1) := by decide +kernel
theorem dX9_copyFrom_18 : decode cX9_copyFrom 18 = .ok (.getfield 58, 3) := by decide +kernel
theorem dX9_copyFrom_21 : decode cX9_copyFrom 21 = .ok (.putfield 58, 3) := by decide +kernel
theorem dX9_copyFrom_24 : decode cX9_copyFrom 24 = .ok (.aload_n 0, 1) := by decide +kernel
theorem dX9_copyFrom_25 : decode cX9_copyFrom 25 = .ok (.aload_n 1, 1) := by decide +kernel
theorem dX9_copyFrom_26 : decode cX9_copyFrom 26 = .ok (.getfield 61, 3) := by decide +kernel
theorem dX9_copyFrom_29 : decode cX9_copyFrom 29 = .ok (.putfield 61, 3) := by decide +kernel
theorem dX9_copyFrom_32 : decode cX9_copyFrom 32 = .ok (.aload_n 0, 1) := by decide +kernel
theorem dX9_copyFrom_33 : decode cX9_copyFrom 33 = .ok (.aload_n 1, 1) := by decide +kernel
theorem dX9_copyFrom_34 : decode cX9_copyFrom 34 = .ok (.getfield 64, 3) := by decide +kernel
theorem dX9_copyFrom_37 : decode cX9_copyFrom 37 = .ok (.putfield 64, 3) := by decide +kernel
theorem dX9_copyFrom_40 : decode cX9_copyFrom 40 = .ok (.aload_n 0, 1) := by decide +kernel
theorem dX9_copyFrom_41 : decode cX9_copyFrom 41 = .ok (.aload_n 1, 1) := by decide +kernel
theorem dX9_copyFrom_42 : decode cX9_copyFrom 42 = .ok (.getfield 67, 3) := by decide +kernel
theorem dX9_copyFrom_45 : decode cX9_copyFrom 45 = .ok (.putfield 67, 3) := by decide +kernel
theorem dX9_copyFrom_48 : decode cX9_copyFrom 48 = .ok (.aload_n 0, 1) := by decide +kernel
theorem dX9_copyFrom_49 : decode cX9_copyFrom 49 = .ok (.aload_n 1, 1) := by decide +kernel
theorem dX9_copyFrom_50 : decode cX9_copyFrom 50 = .ok (.getfield 70, 3) := by decide +kernel
theorem dX9_copyFrom_53 : decode cX9_copyFrom 53 = .ok (.putfield 70, 3) := by decide +kernel
theorem dX9_copyFrom_56 : decode cX9_copyFrom 56 = .ok (.aload_n 0, 1) := by decide +kernel
theorem dX9_copyFrom_57 : decode cX9_copyFrom 57 = .ok (.aload_n 1, 1) := by decide +kernel
theorem dX9_copyFrom_58 : decode cX9_copyFrom 58 = .ok (.getfield 9, 3) := by decide +kernel
theorem dX9_copyFrom_61 : decode cX9_copyFrom 61 = .ok (.putfield 9, 3) := by decide +kernel
theorem dX9_copyFrom_64 : decode cX9_copyFrom 64 = .ok (.aload_n 1, 1) := by decide +kernel
theorem dX9_copyFrom_65 : decode cX9_copyFrom 65 = .ok (.getfield 15, 3) := by decide +kernel
theorem dX9_copyFrom_68 : decode cX9_copyFrom 68 = .ok (.iconst 0, 1) := by decide +kernel
theorem dX9_copyFrom_69 : decode cX9_copyFrom 69 = .ok (.aload_n 0, 1) := by decide +kernel
theorem dX9_copyFrom_70 : decode cX9_copyFrom 70 = .ok (.getfield 15, 3) := by decide +kernel
theorem dX9_copyFrom_73 : decode cX9_copyFrom 73 = .ok (.iconst 0, 1) := by decide +kernel
theorem dX9_copyFrom_74 : decode cX9_copyFrom 74 = .ok (.bipush 16, 2) := by decide +kernel
theorem dX9_copyFrom_76 : decode cX9_copyFrom 76 = .ok (.invokestatic 73, 3) := by decide +kernel
theorem dX9_copyFrom_79 : decode cX9_copyFrom 79 = .ok (.aload_n 1, 1) := by decide +kernel
theorem dX9_copyFrom_80 : decode cX9_copyFrom 80 = .ok (.getfield 19, 3) := by decide +kernel
theorem dX9_copyFrom_83 : decode cX9_copyFrom 83 = .ok (.iconst 0, 1) := by decide +kernel
theorem dX9_copyFrom_84 : decode cX9_copyFrom 84 = .ok (.aload_n 0, 1) := by decide +kernel
theorem dX9_copyFrom_85 : decode cX9_copyFrom 85 = .ok (.getfield 19, 3) := by decide +kernel
theorem dX9_copyFrom_88 : decode cX9_copyFrom 88 = .ok (.iconst 0, 1) := by decide +kernel
theorem dX9_copyFrom_89 : decode cX9_copyFrom 89 = .ok (.bipush 16, 2) := by decide +kernel
theorem dX9_copyFrom_91 : decode cX9_copyFrom 91 = .ok (.invokestatic 73, 3) := by decide +kernel
theorem dX9_copyFrom_94 : decode cX9_copyFrom 94 = .ok (.aload_n 1, 1) := by decide +kernel
theorem dX9_copyFrom_95 : decode cX9_copyFrom 95 = .ok (.getfield 22, 3) := by decide +kernel
theorem dX9_copyFrom_98 : decode cX9_copyFrom 98 = .ok (.iconst 0, 1) := by decide +kernel
theorem dX9_copyFrom_99 : decode cX9_copyFrom 99 = .ok (.aload_n 0, 1) := by decide +kernel
theorem dX9_copyFrom_100 : decode cX9_copyFrom 100 = .ok (.getfield 22, 3) := by decide +kernel
theorem dX9_copyFrom_103 : decode cX9_copyFrom 103 = .ok (.iconst 0, 1) := by decide +kernel
theorem dX9_copyFrom_104 : decode cX9_copyFrom 104 = .ok (.bipush 16, 2) := by decide +kernel
theorem dX9_copyFrom_106 : decode cX9_copyFrom 106 = .ok (.invokestatic 73, 3) := by decide +kernel
theorem dX9_copyFrom_109 : decode cX9_copyFrom 109 = .ok (.aload_n 1, 1) := by decide +kernel
theorem dX9_copyFrom_110 : decode cX9_copyFrom 110 = .ok (.getfield 25, 3) := by decide +kernel
theorem dX9_copyFrom_113 : decode cX9_copyFrom 113 = .ok (.iconst 0, 1) := by decide +kernel
theorem dX9_copyFrom_114 : decode cX9_copyFrom 114 = .ok (.aload_n 0, 1) := by decide +kernel
theorem dX9_copyFrom_115 : decode cX9_copyFrom 115 = .ok (.getfield 25, 3) := by decide +kernel
theorem dX9_copyFrom_118 : decode cX9_copyFrom 118 = .ok (.iconst 0, 1) := by decide +kernel
theorem dX9_copyFrom_119 : decode cX9_copyFrom 119 = .ok (.bipush 16, 2) := by decide +kernel
theorem dX9_copyFrom_121 : decode cX9_copyFrom 121 = .ok (.invokestatic 73, 3) := by decide +kernel
theorem dX9_copyFrom_124 : decode cX9_copyFrom 124 = .ok (.aload_n 1, 1) := by decide +kernel
theorem dX9_copyFrom_125 : decode cX9_copyFrom 125 = .ok (.getfield 28, 3) := by decide +kernel
theorem dX9_copyFrom_128 : decode cX9_copyFrom 128 = .ok (.iconst 0, 1) := by decide +kernel
theorem dX9_copyFrom_129 : decode cX9_copyFrom 129 = .ok (.aload_n 0, 1) := by decide +kernel
theorem dX9_copyFrom_130 : decode cX9_copyFrom 130 = .ok (.getfield 28, 3) := by decide +kernel
theorem dX9_copyFrom_133 : decode cX9_copyFrom 133 = .ok (.iconst 0, 1) := by decide +kernel
theorem dX9_copyFrom_134 : decode cX9_copyFrom 134 = .ok (.bipush 16, 2) := by decide +kernel
theorem dX9_copyFrom_136 : decode cX9_copyFrom 136 = .ok (.invokestatic 73, 3) := by decide +kernel
theorem dX9_copyFrom_139 : decode cX9_copyFrom 139 = .ok (.aload_n 1, 1) := by decide +kernel
theorem dX9_copyFrom_140 : decode cX9_copyFrom 140 = .ok (.getfield 31, 3) := by decide +kernel
theorem dX9_copyFrom_143 : decode cX9_copyFrom 143 = .ok (.iconst 0, 1) := by decide +kernel
theorem dX9_copyFrom_144 : decode cX9_copyFrom 144 = .ok (.aload_n 0, 1) := by decide +kernel
theorem dX9_copyFrom_145 : decode cX9_copyFrom 145 = .ok (.getfield 31, 3) := by decide +kernel
theorem dX9_copyFrom_148 : decode cX9_copyFrom 148 = .ok (.iconst 0, 1) := by decide +kernel
theorem dX9_copyFrom_149 : decode cX9_copyFrom 149 = .ok (.bipush 20, 2) := by decide +kernel
theorem dX9_copyFrom_151 : decode cX9_copyFrom 151 = .ok (.invokestatic 73, 3) := by decide +kernel
theorem dX9_copyFrom_154 : decode cX9_copyFrom 154 = .ok (.aload_n 1, 1) := by decide +kernel
theorem dX9_copyFrom_155 : decode cX9_copyFrom 155 = .ok (.getfield 34, 3) := by decide +kernel
theorem dX9_copyFrom_158 : decode cX9_copyFrom 158 = .ok (.iconst 0, 1) := by decide +kernel
theorem dX9_copyFrom_159 : decode cX9_copyFrom 159 = .ok (.aload_n 0, 1) := by decide +kernel
theorem dX9_copyFrom_160 : decode cX9_copyFrom 160 = .ok (.getfield 34, 3) := by decide +kernel
theorem dX9_copyFrom_163 : decode cX9_copyFrom 163 = .ok (.iconst 0, 1) := by decide +kernel
theorem dX9_copyFrom_164 : decode cX9_copyFrom 164 = .ok (.bipush 20, 2) := by decide +kernel
theorem dX9_copyFrom_166 : decode cX9_copyFrom 166 = .ok (.invokestatic 73, 3) := by decide +kernel
theorem dX9_copyFrom_169 : decode cX9_copyFrom 169 = .ok (.aload_n 1, 1) := by decide +kernel
theorem dX9_copyFrom_170 : decode cX9_copyFrom 170 = .ok (.getfield 37, 3) := by decide +kernel
theorem dX9_copyFrom_173 : decode cX9_copyFrom 173 = .ok (.iconst 0, 1) := by decide +kernel
theorem dX9_copyFrom_174 : decode cX9_copyFrom 174 = .ok (.aload_n 0, 1) := by decide +kernel
theorem dX9_copyFrom_175 : decode cX9_copyFrom 175 = .ok (.getfield 37, 3) := by decide +kernel
theorem dX9_copyFrom_178 : decode cX9_copyFrom 178 = .ok (.iconst 0, 1) := by decide +kernel
theorem dX9_copyFrom_179 : decode cX9_copyFrom 179 = .ok (.bipush 20, 2) := by decide +kernel
theorem dX9_copyFrom_181 : decode cX9_copyFrom 181 = .ok (.invokestatic 73, 3) := by decide +kernel
theorem dX9_copyFrom_184 : decode cX9_copyFrom 184 = .ok (.aload_n 1, 1) := by decide +kernel
theorem dX9_copyFrom_185 : decode cX9_copyFrom 185 = .ok (.getfield 40, 3) := by decide +kernel
theorem dX9_copyFrom_188 : decode cX9_copyFrom 188 = .ok (.iconst 0, 1) := by decide +kernel
theorem dX9_copyFrom_189 : decode cX9_copyFrom 189 = .ok (.aload_n 0, 1) := by decide +kernel
theorem dX9_copyFrom_190 : decode cX9_copyFrom 190 = .ok (.getfield 40, 3) := by decide +kernel
theorem dX9_copyFrom_193 : decode cX9_copyFrom 193 = .ok (.iconst 0, 1) := by decide +kernel
theorem dX9_copyFrom_194 : decode cX9_copyFrom 194 = .ok (.bipush 20, 2) := by decide +kernel
theorem dX9_copyFrom_196 : decode cX9_copyFrom 196 = .ok (.invokestatic 73, 3) := by decide +kernel
theorem dX9_copyFrom_199 : decode cX9_copyFrom 199 = .ok (.aload_n 1, 1) := by decide +kernel
theorem dX9_copyFrom_200 : decode cX9_copyFrom 200 = .ok (.getfield 43, 3) := by decide +kernel
theorem dX9_copyFrom_203 : decode cX9_copyFrom 203 = .ok (.iconst 0, 1) := by decide +kernel
theorem dX9_copyFrom_204 : decode cX9_copyFrom 204 = .ok (.aload_n 0, 1) := by decide +kernel
theorem dX9_copyFrom_205 : decode cX9_copyFrom 205 = .ok (.getfield 43, 3) := by decide +kernel
theorem dX9_copyFrom_208 : decode cX9_copyFrom 208 = .ok (.iconst 0, 1) := by decide +kernel
theorem dX9_copyFrom_209 : decode cX9_copyFrom 209 = .ok (.bipush 20, 2) := by decide +kernel
theorem dX9_copyFrom_211 : decode cX9_copyFrom 211 = .ok (.invokestatic 73, 3) := by decide +kernel
theorem dX9_copyFrom_214 : decode cX9_copyFrom 214 = .ok (.aload_n 1, 1) := by decide +kernel
theorem dX9_copyFrom_215 : decode cX9_copyFrom 215 = .ok (.getfield 46, 3) := by decide +kernel
theorem dX9_copyFrom_218 : decode cX9_copyFrom 218 = .ok (.iconst 0, 1) := by decide +kernel
theorem dX9_copyFrom_219 : decode cX9_copyFrom 219 = .ok (.aload_n 0, 1) := by decide +kernel
theorem dX9_copyFrom_220 : decode cX9_copyFrom 220 = .ok (.getfield 46, 3) := by decide +kernel
theorem dX9_copyFrom_223 : decode cX9_copyFrom 223 = .ok (.iconst 0, 1) := by decide +kernel
theorem dX9_copyFrom_224 : decode cX9_copyFrom 224 = .ok (.sipush 160, 3) := by decide +kernel
theorem dX9_copyFrom_227 : decode cX9_copyFrom 227 = .ok (.invokestatic 73, 3) := by decide +kernel
theorem dX9_copyFrom_230 : decode cX9_copyFrom 230 = .ok (.aload_n 1, 1) := by decide +kernel
theorem dX9_copyFrom_231 : decode cX9_copyFrom 231 = .ok (.getfield 49, 3) := by decide +kernel
theorem dX9_copyFrom_234 : decode cX9_copyFrom 234 = .ok (.iconst 0, 1) := by decide +kernel
theorem dX9_copyFrom_235 : decode cX9_copyFrom 235 = .ok (.aload_n 0, 1) := by decide +kernel
theorem dX9_copyFrom_236 : decode cX9_copyFrom 236 = .ok (.getfield 49, 3) := by decide +kernel
theorem dX9_copyFrom_239 : decode cX9_copyFrom 239 = .ok (.iconst 0, 1) := by decide +kernel
theorem dX9_copyFrom_240 : decode cX9_copyFrom 240 = .ok (.bipush 64, 2) := by decide +kernel
theorem dX9_copyFrom_242 : decode cX9_copyFrom 242 = .ok (.invokestatic 73, 3) := by decide +kernel
theorem dX9_copyFrom_245 : decode cX9_copyFrom 245 = .ok (.return_, 1) := by decide +kernel
theorem dX9_isTold_0 : decode cX9_isTold 0 = .ok (.iload_n 1, 1) := by decide +kernel
theorem dX9_isTold_1 : decode cX9_isTold 1 = .ok (.iconst 0, 1) := by decide +kernel
theorem dX9_isTold_2 : decode cX9_isTold 2 = .ok (.bipush 15, 2) := by decide +kernel
theorem dX9_isTold_4 : decode cX9_isTold 4 = .ok (.invokestatic 79, 3) := by decide +kernel
theorem dX9_isTold_7 : decode cX9_isTold 7 = .ok (.ifCond .eq 19, 3) := by decide +kernel
theorem dX9_isTold_10 : decode cX9_isTold 10 = .ok (.aload_n 0, 1) := by decide +kernel
theorem dX9_isTold_11 : decode cX9_isTold 11 = .ok (.getfield 52, 3) := by decide +kernel
theorem dX9_isTold_14 : decode cX9_isTold 14 = .ok (.iload_n 1, 1) := by decide +kernel
theorem dX9_isTold_15 : decode cX9_isTold 15 = .ok (.ishr, 1) := by decide +kernel
theorem dX9_isTold_16 : decode cX9_isTold 16 = .ok (.iconst 1, 1) := by decide +kernel
theorem dX9_isTold_17 : decode cX9_isTold 17 = .ok (.iand, 1) := by decide +kernel
theorem dX9_isTold_18 : decode cX9_isTold 18 = .ok (.iconst 1, 1) := by decide +kernel
theorem dX9_isTold_19 : decode cX9_isTold 19 = .ok (.if_icmp .ne 7, 3) := by decide +kernel
theorem dX9_isTold_22 : decode cX9_isTold 22 = .ok (.iconst 1, 1) := by decide +kernel
theorem dX9_isTold_23 : decode cX9_isTold 23 = .ok (.goto 4, 3) := by decide +kernel
theorem dX9_isTold_26 : decode cX9_isTold 26 = .ok (.iconst 0, 1) := by decide +kernel
theorem dX9_isTold_27 : decode cX9_isTold 27 = .ok (.ireturn, 1) := by decide +kernel
theorem dX9_free_0 : decode cX9_free 0 = .ok (.aload_n 0, 1) := by decide +kernel
theorem dX9_free_1 : decode cX9_free 1 = .ok (.getfield 52, 3) := by decide +kernel
theorem dX9_free_4 : decode cX9_free 4 = .ok (.aload_n 0, 1) := by decide +kernel
theorem dX9_free_5 : decode cX9_free 5 = .ok (.getfield 58, 3) := by decide +kernel
theorem dX9_free_8 : decode cX9_free 8 = .ok (.iconst (-1), 1) := by decide +kernel
theorem dX9_free_9 : decode cX9_free 9 = .ok (.ixor, 1) := by decide +kernel
theorem dX9_free_10 : decode cX9_free 10 = .ok (.iand, 1) := by decide +kernel
theorem dX9_free_11 : decode cX9_free 11 = .ok (.aload_n 0, 1) := by decide +kernel
theorem dX9_free_12 : decode cX9_free 12 = .ok (.getfield 61, 3) := by decide +kernel
theorem dX9_free_15 : decode cX9_free 15 = .ok (.iconst (-1), 1) := by decide +kernel
theorem dX9_free_16 : decode cX9_free 16 = .ok (.ixor, 1) := by decide +kernel
theorem dX9_free_17 : decode cX9_free 17 = .ok (.iand, 1) := by decide +kernel
theorem dX9_free_18 : decode cX9_free 18 = .ok (.aload_n 0, 1) := by decide +kernel
theorem dX9_free_19 : decode cX9_free 19 = .ok (.getfield 64, 3) := by decide +kernel
theorem dX9_free_22 : decode cX9_free 22 = .ok (.iconst (-1), 1) := by decide +kernel
theorem dX9_free_23 : decode cX9_free 23 = .ok (.ixor, 1) := by decide +kernel
theorem dX9_free_24 : decode cX9_free 24 = .ok (.iand, 1) := by decide +kernel
theorem dX9_free_25 : decode cX9_free 25 = .ok (.ireturn, 1) := by decide +kernel
theorem dX9_calls_0 : decode cX9_calls 0 = .ok (.aload_n 0, 1) := by decide +kernel
theorem dX9_calls_1 : decode cX9_calls 1 = .ok (.getfield 64, 3) := by decide +kernel
theorem dX9_calls_4 : decode cX9_calls 4 = .ok (.invokestatic 83, 3) := by decide +kernel
theorem dX9_calls_7 : decode cX9_calls 7 = .ok (.iconst 2, 1) := by decide +kernel
theorem dX9_calls_8 : decode cX9_calls 8 = .ok (.idiv, 1) := by decide +kernel
theorem dX9_calls_9 : decode cX9_calls 9 = .ok (.ireturn, 1) := by decide +kernel
theorem dX9_arrearsOf_0 : decode cX9_arrearsOf 0 = .ok (.aload_n 0, 1) := by decide +kernel
theorem dX9_arrearsOf_1 : decode cX9_arrearsOf 1 = .ok (.iload_n 1, 1) := by decide +kernel
theorem dX9_arrearsOf_2 : decode cX9_arrearsOf 2 = .ok (.invokevirtual 89, 3) := by decide +kernel
theorem dX9_arrearsOf_5 : decode cX9_arrearsOf 5 = .ok (.ifCond .eq 12, 3) := by decide +kernel
theorem dX9_arrearsOf_8 : decode cX9_arrearsOf 8 = .ok (.aload_n 0, 1) := by decide +kernel
theorem dX9_arrearsOf_9 : decode cX9_arrearsOf 9 = .ok (.getfield 19, 3) := by decide +kernel
theorem dX9_arrearsOf_12 : decode cX9_arrearsOf 12 = .ok (.iload_n 1, 1) := by decide +kernel
theorem dX9_arrearsOf_13 : decode cX9_arrearsOf 13 = .ok (.iaload, 1) := by decide +kernel
theorem dX9_arrearsOf_14 : decode cX9_arrearsOf 14 = .ok (.goto 4, 3) := by decide +kernel
theorem dX9_arrearsOf_17 : decode cX9_arrearsOf 17 = .ok (.iconst 0, 1) := by decide +kernel
theorem dX9_arrearsOf_18 : decode cX9_arrearsOf 18 = .ok (.ireturn, 1) := by decide +kernel
theorem dX9_partnerOf_0 : decode cX9_partnerOf 0 = .ok (.aload_n 0, 1) := by decide +kernel
theorem dX9_partnerOf_1 : decode cX9_partnerOf 1 = .ok (.getfield 64, 3) := by decide +kernel
theorem dX9_partnerOf_4 : decode cX9_partnerOf 4 = .ok (.iload_n 1, 1) := by decide +kernel
theorem dX9_partnerOf_5 : decode cX9_partnerOf 5 = .ok (.ishr, 1) := by decide +kernel
theorem dX9_partnerOf_6 : decode cX9_partnerOf 6 = .ok (.iconst 1, 1) := by decide +kernel
theorem dX9_partnerOf_7 : decode cX9_partnerOf 7 = .ok (.iand, 1) := by decide +kernel
theorem dX9_partnerOf_8 : decode cX9_partnerOf 8 = .ok (.ifCond .ne 6, 3) := by decide +kernel
theorem dX9_partnerOf_11 : decode cX9_partnerOf 11 = .ok (.bipush (-2), 2) := by decide +kernel
theorem dX9_partnerOf_13 : decode cX9_partnerOf 13 = .ok (.ireturn, 1) := by decide +kernel
theorem dX9_partnerOf_14 : decode cX9_partnerOf 14 = .ok (.aload_n 0, 1) := by decide +kernel
theorem dX9_partnerOf_15 : decode cX9_partnerOf 15 = .ok (.getfield 28, 3) := by decide +kernel
theorem dX9_partnerOf_18 : decode cX9_partnerOf 18 = .ok (.iload_n 1, 1) := by decide +kernel
theorem dX9_partnerOf_19 : decode cX9_partnerOf 19 = .ok (.iaload, 1) := by decide +kernel
theorem dX9_partnerOf_20 : decode cX9_partnerOf 20 = .ok (.istore_n 2, 1) := by decide +kernel
theorem dX9_partnerOf_21 : decode cX9_partnerOf 21 = .ok (.aload_n 0, 1) := by decide +kernel
theorem dX9_partnerOf_22 : decode cX9_partnerOf 22 = .ok (.getfield 31, 3) := by decide +kernel
theorem dX9_partnerOf_25 : decode cX9_partnerOf 25 = .ok (.iload_n 2, 1) := by decide +kernel
theorem dX9_partnerOf_26 : decode cX9_partnerOf 26 = .ok (.iaload, 1) := by decide +kernel
theorem dX9_partnerOf_27 : decode cX9_partnerOf 27 = .ok (.iload_n 1, 1) := by decide +kernel
theorem dX9_partnerOf_28 : decode cX9_partnerOf 28 = .ok (.if_icmp .ne 12, 3) := by decide +kernel
theorem dX9_partnerOf_31 : decode cX9_partnerOf 31 = .ok (.aload_n 0, 1) := by decide +kernel
theorem dX9_partnerOf_32 : decode cX9_partnerOf 32 = .ok (.getfield 34, 3) := by decide +kernel
theorem dX9_partnerOf_35 : decode cX9_partnerOf 35 = .ok (.iload_n 2, 1) := by decide +kernel
theorem dX9_partnerOf_36 : decode cX9_partnerOf 36 = .ok (.iaload, 1) := by decide +kernel
theorem dX9_partnerOf_37 : decode cX9_partnerOf 37 = .ok (.goto 9, 3) := by decide +kernel
theorem dX9_partnerOf_40 : decode cX9_partnerOf 40 = .ok (.aload_n 0, 1) := by decide +kernel
theorem dX9_partnerOf_41 : decode cX9_partnerOf 41 = .ok (.getfield 31, 3) := by decide +kernel
theorem dX9_partnerOf_44 : decode cX9_partnerOf 44 = .ok (.iload_n 2, 1) := by decide +kernel
theorem dX9_partnerOf_45 : decode cX9_partnerOf 45 = .ok (.iaload, 1) := by decide +kernel
theorem dX9_partnerOf_46 : decode cX9_partnerOf 46 = .ok (.ireturn, 1) := by decide +kernel
theorem dX9_enter_0 : decode cX9_enter 0 = .ok (.aload_n 0, 1) := by decide +kernel
theorem dX9_enter_1 : decode cX9_enter 1 = .ok (.iload_n 1, 1) := by decide +kernel
theorem dX9_enter_2 : decode cX9_enter 2 = .ok (.invokevirtual 93, 3) := by decide +kernel
theorem dX9_enter_5 : decode cX9_enter 5 = .ok (.iconst 1, 1) := by decide +kernel
theorem dX9_enter_6 : decode cX9_enter 6 = .ok (.iload_n 1, 1) := by decide +kernel
theorem dX9_enter_7 : decode cX9_enter 7 = .ok (.ishl, 1) := by decide +kernel
theorem dX9_enter_8 : decode cX9_enter 8 = .ok (.istore 4, 2) := by decide +kernel
theorem dX9_enter_10 : decode cX9_enter 10 = .ok (.aload_n 0, 1) := by decide +kernel
theorem dX9_enter_11 : decode cX9_enter 11 = .ok (.dup, 1) := by decide +kernel
theorem dX9_enter_12 : decode cX9_enter 12 = .ok (.getfield 52, 3) := by decide +kernel
theorem dX9_enter_15 : decode cX9_enter 15 = .ok (.iload 4, 2) := by decide +kernel
theorem dX9_enter_17 : decode cX9_enter 17 = .ok (.ior, 1) := by decide +kernel
theorem dX9_enter_18 : decode cX9_enter 18 = .ok (.putfield 52, 3) := by decide +kernel
theorem dX9_enter_21 : decode cX9_enter 21 = .ok (.aload_n 0, 1) := by decide +kernel
theorem dX9_enter_22 : decode cX9_enter 22 = .ok (.iload_n 3, 1) := by decide +kernel
theorem dX9_enter_23 : decode cX9_enter 23 = .ok (.ifCond .eq 15, 3) := by decide +kernel
theorem dX9_enter_26 : decode cX9_enter 26 = .ok (.aload_n 0, 1) := by decide +kernel
theorem dX9_enter_27 : decode cX9_enter 27 = .ok (.getfield 55, 3) := by decide +kernel
theorem dX9_enter_30 : decode cX9_enter 30 = .ok (.iload 4, 2) := by decide +kernel
theorem dX9_enter_32 : decode cX9_enter 32 = .ok (.iconst (-1), 1) := by decide +kernel
theorem dX9_enter_33 : decode cX9_enter 33 = .ok (.ixor, 1) := by decide +kernel
theorem dX9_enter_34 : decode cX9_enter 34 = .ok (.iand, 1) := by decide +kernel
theorem dX9_enter_35 : decode cX9_enter 35 = .ok (.goto 10, 3) := by decide +kernel
theorem dX9_enter_38 : decode cX9_enter 38 = .ok (.aload_n 0, 1) := by decide +kernel
theorem dX9_enter_39 : decode cX9_enter 39 = .ok (.getfield 55, 3) := by decide +kernel
theorem dX9_enter_42 : decode cX9_enter 42 = .ok (.iload 4, 2) := by decide +kernel
theorem dX9_enter_44 : decode cX9_enter 44 = .ok (.ior, 1) := by decide +kernel
theorem dX9_enter_45 : decode cX9_enter 45 = .ok (.putfield 55, 3) := by decide +kernel
theorem dX9_enter_48 : decode cX9_enter 48 = .ok (.aload_n 0, 1) := by decide +kernel
theorem dX9_enter_49 : decode cX9_enter 49 = .ok (.dup, 1) := by decide +kernel
theorem dX9_enter_50 : decode cX9_enter 50 = .ok (.getfield 58, 3) := by decide +kernel
theorem dX9_enter_53 : decode cX9_enter 53 = .ok (.iload 4, 2) := by decide +kernel
theorem dX9_enter_55 : decode cX9_enter 55 = .ok (.iconst (-1), 1) := by decide +kernel
theorem dX9_enter_56 : decode cX9_enter 56 = .ok (.ixor, 1) := by decide +kernel
theorem dX9_enter_57 : decode cX9_enter 57 = .ok (.iand, 1) := by decide +kernel
theorem dX9_enter_58 : decode cX9_enter 58 = .ok (.putfield 58, 3) := by decide +kernel
theorem dX9_enter_61 : decode cX9_enter 61 = .ok (.aload_n 0, 1) := by decide +kernel
theorem dX9_enter_62 : decode cX9_enter 62 = .ok (.dup, 1) := by decide +kernel
theorem dX9_enter_63 : decode cX9_enter 63 = .ok (.getfield 61, 3) := by decide +kernel
theorem dX9_enter_66 : decode cX9_enter 66 = .ok (.iload 4, 2) := by decide +kernel
theorem dX9_enter_68 : decode cX9_enter 68 = .ok (.iconst (-1), 1) := by decide +kernel
theorem dX9_enter_69 : decode cX9_enter 69 = .ok (.ixor, 1) := by decide +kernel
theorem dX9_enter_70 : decode cX9_enter 70 = .ok (.iand, 1) := by decide +kernel
theorem dX9_enter_71 : decode cX9_enter 71 = .ok (.putfield 61, 3) := by decide +kernel
theorem dX9_enter_74 : decode cX9_enter 74 = .ok (.aload_n 0, 1) := by decide +kernel
theorem dX9_enter_75 : decode cX9_enter 75 = .ok (.getfield 15, 3) := by decide +kernel
theorem dX9_enter_78 : decode cX9_enter 78 = .ok (.iload_n 1, 1) := by decide +kernel
theorem dX9_enter_79 : decode cX9_enter 79 = .ok (.iload_n 2, 1) := by decide +kernel
theorem dX9_enter_80 : decode cX9_enter 80 = .ok (.iastore, 1) := by decide +kernel
theorem dX9_enter_81 : decode cX9_enter 81 = .ok (.aload_n 0, 1) := by decide +kernel
theorem dX9_enter_82 : decode cX9_enter 82 = .ok (.getfield 19, 3) := by decide +kernel
theorem dX9_enter_85 : decode cX9_enter 85 = .ok (.iload_n 1, 1) := by decide +kernel
theorem dX9_enter_86 : decode cX9_enter 86 = .ok (.iconst 0, 1) := by decide +kernel
theorem dX9_enter_87 : decode cX9_enter 87 = .ok (.iastore, 1) := by decide +kernel
theorem dX9_enter_88 : decode cX9_enter 88 = .ok (.aload_n 0, 1) := by decide +kernel
theorem dX9_enter_89 : decode cX9_enter 89 = .ok (.getfield 22, 3) := by decide +kernel
theorem dX9_enter_92 : decode cX9_enter 92 = .ok (.iload_n 1, 1) := by decide +kernel
theorem dX9_enter_93 : decode cX9_enter 93 = .ok (.iconst 0, 1) := by decide +kernel
theorem dX9_enter_94 : decode cX9_enter 94 = .ok (.iastore, 1) := by decide +kernel
theorem dX9_enter_95 : decode cX9_enter 95 = .ok (.aload_n 0, 1) := by decide +kernel
theorem dX9_enter_96 : decode cX9_enter 96 = .ok (.getfield 25, 3) := by decide +kernel
theorem dX9_enter_99 : decode cX9_enter 99 = .ok (.iload_n 1, 1) := by decide +kernel
theorem dX9_enter_100 : decode cX9_enter 100 = .ok (.iconst 0, 1) := by decide +kernel
theorem dX9_enter_101 : decode cX9_enter 101 = .ok (.iastore, 1) := by decide +kernel
theorem dX9_enter_102 : decode cX9_enter 102 = .ok (.return_, 1) := by decide +kernel
theorem dX9_addArrears_0 : decode cX9_addArrears 0 = .ok (.aload_n 0, 1) := by decide +kernel
theorem dX9_addArrears_1 : decode cX9_addArrears 1 = .ok (.getfield 19, 3) := by decide +kernel
theorem dX9_addArrears_4 : decode cX9_addArrears 4 = .ok (.iload_n 1, 1) := by decide +kernel
theorem dX9_addArrears_5 : decode cX9_addArrears 5 = .ok (.aload_n 0, 1) := by decide +kernel
theorem dX9_addArrears_6 : decode cX9_addArrears 6 = .ok (.getfield 19, 3) := by decide +kernel
theorem dX9_addArrears_9 : decode cX9_addArrears 9 = .ok (.iload_n 1, 1) := by decide +kernel
theorem dX9_addArrears_10 : decode cX9_addArrears 10 = .ok (.iaload, 1) := by decide +kernel
theorem dX9_addArrears_11 : decode cX9_addArrears 11 = .ok (.iload_n 2, 1) := by decide +kernel
theorem dX9_addArrears_12 : decode cX9_addArrears 12 = .ok (.iadd, 1) := by decide +kernel
theorem dX9_addArrears_13 : decode cX9_addArrears 13 = .ok (.ldc 97, 2) := by decide +kernel
theorem dX9_addArrears_15 : decode cX9_addArrears 15 = .ok (.invokestatic 98, 3) := by decide +kernel
theorem dX9_addArrears_18 : decode cX9_addArrears 18 = .ok (.iastore, 1) := by decide +kernel
theorem dX9_addArrears_19 : decode cX9_addArrears 19 = .ok (.return_, 1) := by decide +kernel
theorem dX9_addFund_0 : decode cX9_addFund 0 = .ok (.aload_n 0, 1) := by decide +kernel
theorem dX9_addFund_1 : decode cX9_addFund 1 = .ok (.aload_n 0, 1) := by decide +kernel
theorem dX9_addFund_2 : decode cX9_addFund 2 = .ok (.getfield 67, 3) := by decide +kernel
theorem dX9_addFund_5 : decode cX9_addFund 5 = .ok (.iload_n 1, 1) := by decide +kernel
theorem dX9_addFund_6 : decode cX9_addFund 6 = .ok (.iadd, 1) := by decide +kernel
theorem dX9_addFund_7 : decode cX9_addFund 7 = .ok (.ldc 97, 2) := by decide +kernel
theorem dX9_addFund_9 : decode cX9_addFund 9 = .ok (.invokestatic 98, 3) := by decide +kernel
theorem dX9_addFund_12 : decode cX9_addFund 12 = .ok (.putfield 67, 3) := by decide +kernel
theorem dX9_addFund_15 : decode cX9_addFund 15 = .ok (.return_, 1) := by decide +kernel
theorem dX9_cutOffNow_0 : decode cX9_cutOffNow 0 = .ok (.aload_n 0, 1) := by decide +kernel
theorem dX9_cutOffNow_1 : decode cX9_cutOffNow 1 = .ok (.dup, 1) := by decide +kernel
theorem dX9_cutOffNow_2 : decode cX9_cutOffNow 2 = .ok (.getfield 58, 3) := by decide +kernel
theorem dX9_cutOffNow_5 : decode cX9_cutOffNow 5 = .ok (.iconst 1, 1) := by decide +kernel
theorem dX9_cutOffNow_6 : decode cX9_cutOffNow 6 = .ok (.iload_n 1, 1) := by decide +kernel
theorem dX9_cutOffNow_7 : decode cX9_cutOffNow 7 = .ok (.ishl, 1) := by decide +kernel
theorem dX9_cutOffNow_8 : decode cX9_cutOffNow 8 = .ok (.ior, 1) := by decide +kernel
theorem dX9_cutOffNow_9 : decode cX9_cutOffNow 9 = .ok (.putfield 58, 3) := by decide +kernel
theorem dX9_cutOffNow_12 : decode cX9_cutOffNow 12 = .ok (.aload_n 0, 1) := by decide +kernel
theorem dX9_cutOffNow_13 : decode cX9_cutOffNow 13 = .ok (.iload_n 1, 1) := by decide +kernel
theorem dX9_cutOffNow_14 : decode cX9_cutOffNow 14 = .ok (.invokevirtual 93, 3) := by decide +kernel
theorem dX9_cutOffNow_17 : decode cX9_cutOffNow 17 = .ok (.return_, 1) := by decide +kernel
theorem dX9_draw_0 : decode cX9_draw 0 = .ok (.aload_n 0, 1) := by decide +kernel
theorem dX9_draw_1 : decode cX9_draw 1 = .ok (.sipush 25173, 3) := by decide +kernel
theorem dX9_draw_4 : decode cX9_draw 4 = .ok (.aload_n 0, 1) := by decide +kernel
theorem dX9_draw_5 : decode cX9_draw 5 = .ok (.getfield 9, 3) := by decide +kernel
theorem dX9_draw_8 : decode cX9_draw 8 = .ok (.imul, 1) := by decide +kernel
theorem dX9_draw_9 : decode cX9_draw 9 = .ok (.sipush 13849, 3) := by decide +kernel
theorem dX9_draw_12 : decode cX9_draw 12 = .ok (.iadd, 1) := by decide +kernel
theorem dX9_draw_13 : decode cX9_draw 13 = .ok (.ldc 102, 2) := by decide +kernel
theorem dX9_draw_15 : decode cX9_draw 15 = .ok (.iand, 1) := by decide +kernel
theorem dX9_draw_16 : decode cX9_draw 16 = .ok (.putfield 9, 3) := by decide +kernel
theorem dX9_draw_19 : decode cX9_draw 19 = .ok (.aload_n 0, 1) := by decide +kernel
theorem dX9_draw_20 : decode cX9_draw 20 = .ok (.getfield 9, 3) := by decide +kernel
theorem dX9_draw_23 : decode cX9_draw 23 = .ok (.bipush 10, 2) := by decide +kernel
theorem dX9_draw_25 : decode cX9_draw 25 = .ok (.irem, 1) := by decide +kernel
theorem dX9_draw_26 : decode cX9_draw 26 = .ok (.ireturn, 1) := by decide +kernel
theorem dX9_lowestFreePlace_0 : decode cX9_lowestFreePlace 0 = .ok (.iconst 0, 1) := by decide +kernel
theorem dX9_lowestFreePlace_1 : decode cX9_lowestFreePlace 1 = .ok (.istore_n 1, 1) := by decide +kernel
theorem dX9_lowestFreePlace_2 : decode cX9_lowestFreePlace 2 = .ok (.iload_n 1, 1) := by decide +kernel
theorem dX9_lowestFreePlace_3 : decode cX9_lowestFreePlace 3 = .ok (.bipush 20, 2) := by decide +kernel
theorem dX9_lowestFreePlace_5 : decode cX9_lowestFreePlace 5 = .ok (.if_icmp .ge 20, 3) := by decide +kernel
theorem dX9_lowestFreePlace_8 : decode cX9_lowestFreePlace 8 = .ok (.aload_n 0, 1) := by decide +kernel
theorem dX9_lowestFreePlace_9 : decode cX9_lowestFreePlace 9 = .ok (.getfield 40, 3) := by decide +kernel
theorem dX9_lowestFreePlace_12 : decode cX9_lowestFreePlace 12 = .ok (.iload_n 1, 1) := by decide +kernel
theorem dX9_lowestFreePlace_13 : decode cX9_lowestFreePlace 13 = .ok (.iaload, 1) := by decide +kernel
theorem dX9_lowestFreePlace_14 : decode cX9_lowestFreePlace 14 = .ok (.ifCond .ne 5, 3) := by decide +kernel
theorem dX9_lowestFreePlace_17 : decode cX9_lowestFreePlace 17 = .ok (.iload_n 1, 1) := by decide +kernel
theorem dX9_lowestFreePlace_18 : decode cX9_lowestFreePlace 18 = .ok (.ireturn, 1) := by decide +kernel
theorem dX9_lowestFreePlace_19 : decode cX9_lowestFreePlace 19 = .ok (.iinc 1 1, 3) := by decide +kernel
theorem dX9_lowestFreePlace_22 : decode cX9_lowestFreePlace 22 = .ok (.goto (-20), 3) := by decide +kernel
theorem dX9_lowestFreePlace_25 : decode cX9_lowestFreePlace 25 = .ok (.iconst (-1), 1) := by decide +kernel
theorem dX9_lowestFreePlace_26 : decode cX9_lowestFreePlace 26 = .ok (.ireturn, 1) := by decide +kernel
theorem dX9_begin_0 : decode cX9_begin 0 = .ok (.aload_n 0, 1) := by decide +kernel
theorem dX9_begin_1 : decode cX9_begin 1 = .ok (.getfield 31, 3) := by decide +kernel
theorem dX9_begin_4 : decode cX9_begin 4 = .ok (.iload_n 1, 1) := by decide +kernel
theorem dX9_begin_5 : decode cX9_begin 5 = .ok (.iload_n 2, 1) := by decide +kernel
theorem dX9_begin_6 : decode cX9_begin 6 = .ok (.iastore, 1) := by decide +kernel
theorem dX9_begin_7 : decode cX9_begin 7 = .ok (.aload_n 0, 1) := by decide +kernel
theorem dX9_begin_8 : decode cX9_begin 8 = .ok (.getfield 34, 3) := by decide +kernel
theorem dX9_begin_11 : decode cX9_begin 11 = .ok (.iload_n 1, 1) := by decide +kernel
theorem dX9_begin_12 : decode cX9_begin 12 = .ok (.iload_n 3, 1) := by decide +kernel
theorem dX9_begin_13 : decode cX9_begin 13 = .ok (.iastore, 1) := by decide +kernel
theorem dX9_begin_14 : decode cX9_begin 14 = .ok (.aload_n 0, 1) := by decide +kernel
theorem dX9_begin_15 : decode cX9_begin 15 = .ok (.getfield 40, 3) := by decide +kernel
theorem dX9_begin_18 : decode cX9_begin 18 = .ok (.iload_n 1, 1) := by decide +kernel
theorem dX9_begin_19 : decode cX9_begin 19 = .ok (.iload 4, 2) := by decide +kernel
theorem dX9_begin_21 : decode cX9_begin 21 = .ok (.iastore, 1) := by decide +kernel
theorem dX9_begin_22 : decode cX9_begin 22 = .ok (.aload_n 0, 1) := by decide +kernel
theorem dX9_begin_23 : decode cX9_begin 23 = .ok (.getfield 28, 3) := by decide +kernel
theorem dX9_begin_26 : decode cX9_begin 26 = .ok (.iload_n 2, 1) := by decide +kernel
theorem dX9_begin_27 : decode cX9_begin 27 = .ok (.iload_n 1, 1) := by decide +kernel
theorem dX9_begin_28 : decode cX9_begin 28 = .ok (.iastore, 1) := by decide +kernel
theorem dX9_begin_29 : decode cX9_begin 29 = .ok (.aload_n 0, 1) := by decide +kernel
theorem dX9_begin_30 : decode cX9_begin 30 = .ok (.getfield 28, 3) := by decide +kernel
theorem dX9_begin_33 : decode cX9_begin 33 = .ok (.iload_n 3, 1) := by decide +kernel
theorem dX9_begin_34 : decode cX9_begin 34 = .ok (.iload_n 1, 1) := by decide +kernel
theorem dX9_begin_35 : decode cX9_begin 35 = .ok (.iastore, 1) := by decide +kernel
theorem dX9_begin_36 : decode cX9_begin 36 = .ok (.aload_n 0, 1) := by decide +kernel
theorem dX9_begin_37 : decode cX9_begin 37 = .ok (.dup, 1) := by decide +kernel
theorem dX9_begin_38 : decode cX9_begin 38 = .ok (.getfield 64, 3) := by decide +kernel
theorem dX9_begin_41 : decode cX9_begin 41 = .ok (.iconst 1, 1) := by decide +kernel
theorem dX9_begin_42 : decode cX9_begin 42 = .ok (.iload_n 2, 1) := by decide +kernel
theorem dX9_begin_43 : decode cX9_begin 43 = .ok (.ishl, 1) := by decide +kernel
theorem dX9_begin_44 : decode cX9_begin 44 = .ok (.iconst 1, 1) := by decide +kernel
theorem dX9_begin_45 : decode cX9_begin 45 = .ok (.iload_n 3, 1) := by decide +kernel
theorem dX9_begin_46 : decode cX9_begin 46 = .ok (.ishl, 1) := by decide +kernel
theorem dX9_begin_47 : decode cX9_begin 47 = .ok (.ior, 1) := by decide +kernel
theorem dX9_begin_48 : decode cX9_begin 48 = .ok (.ior, 1) := by decide +kernel
theorem dX9_begin_49 : decode cX9_begin 49 = .ok (.putfield 64, 3) := by decide +kernel
theorem dX9_begin_52 : decode cX9_begin 52 = .ok (.aload_n 0, 1) := by decide +kernel
theorem dX9_begin_53 : decode cX9_begin 53 = .ok (.getfield 22, 3) := by decide +kernel
theorem dX9_begin_56 : decode cX9_begin 56 = .ok (.iload_n 2, 1) := by decide +kernel
theorem dX9_begin_57 : decode cX9_begin 57 = .ok (.aload_n 0, 1) := by decide +kernel
theorem dX9_begin_58 : decode cX9_begin 58 = .ok (.getfield 22, 3) := by decide +kernel
theorem dX9_begin_61 : decode cX9_begin 61 = .ok (.iload_n 2, 1) := by decide +kernel
theorem dX9_begin_62 : decode cX9_begin 62 = .ok (.iaload, 1) := by decide +kernel
theorem dX9_begin_63 : decode cX9_begin 63 = .ok (.iconst 1, 1) := by decide +kernel
theorem dX9_begin_64 : decode cX9_begin 64 = .ok (.iadd, 1) := by decide +kernel
theorem dX9_begin_65 : decode cX9_begin 65 = .ok (.sipush 9999, 3) := by decide +kernel
theorem dX9_begin_68 : decode cX9_begin 68 = .ok (.invokestatic 103, 3) := by decide +kernel
theorem dX9_begin_71 : decode cX9_begin 71 = .ok (.iastore, 1) := by decide +kernel
theorem dX9_begin_72 : decode cX9_begin 72 = .ok (.aload_n 0, 1) := by decide +kernel
theorem dX9_begin_73 : decode cX9_begin 73 = .ok (.getfield 25, 3) := by decide +kernel
theorem dX9_begin_76 : decode cX9_begin 76 = .ok (.iload_n 3, 1) := by decide +kernel
theorem dX9_begin_77 : decode cX9_begin 77 = .ok (.aload_n 0, 1) := by decide +kernel
theorem dX9_begin_78 : decode cX9_begin 78 = .ok (.getfield 25, 3) := by decide +kernel
theorem dX9_begin_81 : decode cX9_begin 81 = .ok (.iload_n 3, 1) := by decide +kernel
theorem dX9_begin_82 : decode cX9_begin 82 = .ok (.iaload, 1) := by decide +kernel
theorem dX9_begin_83 : decode cX9_begin 83 = .ok (.iconst 1, 1) := by decide +kernel
theorem dX9_begin_84 : decode cX9_begin 84 = .ok (.iadd, 1) := by decide +kernel
theorem dX9_begin_85 : decode cX9_begin 85 = .ok (.sipush 9999, 3) := by decide +kernel
theorem dX9_begin_88 : decode cX9_begin 88 = .ok (.invokestatic 103, 3) := by decide +kernel
theorem dX9_begin_91 : decode cX9_begin 91 = .ok (.iastore, 1) := by decide +kernel
theorem dX9_begin_92 : decode cX9_begin 92 = .ok (.return_, 1) := by decide +kernel
theorem dX9_seize_0 : decode cX9_seize 0 = .ok (.aload_n 0, 1) := by decide +kernel
theorem dX9_seize_1 : decode cX9_seize 1 = .ok (.getfield 43, 3) := by decide +kernel
theorem dX9_seize_4 : decode cX9_seize 4 = .ok (.iload_n 1, 1) := by decide +kernel
theorem dX9_seize_5 : decode cX9_seize 5 = .ok (.iload_n 3, 1) := by decide +kernel
theorem dX9_seize_6 : decode cX9_seize 6 = .ok (.iastore, 1) := by decide +kernel
theorem dX9_seize_7 : decode cX9_seize 7 = .ok (.aload_n 2, 1) := by decide +kernel
theorem dX9_seize_8 : decode cX9_seize 8 = .ok (.iconst 0, 1) := by decide +kernel
theorem dX9_seize_9 : decode cX9_seize 9 = .ok (.aload_n 0, 1) := by decide +kernel
theorem dX9_seize_10 : decode cX9_seize 10 = .ok (.getfield 46, 3) := by decide +kernel
theorem dX9_seize_13 : decode cX9_seize 13 = .ok (.iload_n 1, 1) := by decide +kernel
theorem dX9_seize_14 : decode cX9_seize 14 = .ok (.bipush 8, 2) := by decide +kernel
theorem dX9_seize_16 : decode cX9_seize 16 = .ok (.imul, 1) := by decide +kernel
theorem dX9_seize_17 : decode cX9_seize 17 = .ok (.bipush 8, 2) := by decide +kernel
theorem dX9_seize_19 : decode cX9_seize 19 = .ok (.invokestatic 73, 3) := by decide +kernel
theorem dX9_seize_22 : decode cX9_seize 22 = .ok (.aload_n 0, 1) := by decide +kernel
theorem dX9_seize_23 : decode cX9_seize 23 = .ok (.iload_n 1, 1) := by decide +kernel
theorem dX9_seize_24 : decode cX9_seize 24 = .ok (.iconst 1, 1) := by decide +kernel
theorem dX9_seize_25 : decode cX9_seize 25 = .ok (.invokevirtual 108, 3) := by decide +kernel
theorem dX9_seize_28 : decode cX9_seize 28 = .ok (.return_, 1) := by decide +kernel
theorem dX9_endCallOf_0 : decode cX9_endCallOf 0 = .ok (.aload_n 0, 1) := by decide +kernel
theorem dX9_endCallOf_1 : decode cX9_endCallOf 1 = .ok (.getfield 64, 3) := by decide +kernel
theorem dX9_endCallOf_4 : decode cX9_endCallOf 4 = .ok (.iload_n 1, 1) := by decide +kernel
theorem dX9_endCallOf_5 : decode cX9_endCallOf 5 = .ok (.ishr, 1) := by decide +kernel
theorem dX9_endCallOf_6 : decode cX9_endCallOf 6 = .ok (.iconst 1, 1) := by decide +kernel
theorem dX9_endCallOf_7 : decode cX9_endCallOf 7 = .ok (.iand, 1) := by decide +kernel
theorem dX9_endCallOf_8 : decode cX9_endCallOf 8 = .ok (.iconst 1, 1) := by decide +kernel
theorem dX9_endCallOf_9 : decode cX9_endCallOf 9 = .ok (.if_icmp .ne 13, 3) := by decide +kernel
theorem dX9_endCallOf_12 : decode cX9_endCallOf 12 = .ok (.aload_n 0, 1) := by decide +kernel
theorem dX9_endCallOf_13 : decode cX9_endCallOf 13 = .ok (.aload_n 0, 1) := by decide +kernel
theorem dX9_endCallOf_14 : decode cX9_endCallOf 14 = .ok (.getfield 28, 3) := by decide +kernel
theorem dX9_endCallOf_17 : decode cX9_endCallOf 17 = .ok (.iload_n 1, 1) := by decide +kernel
theorem dX9_endCallOf_18 : decode cX9_endCallOf 18 = .ok (.iaload, 1) := by decide +kernel
theorem dX9_endCallOf_19 : decode cX9_endCallOf 19 = .ok (.invokevirtual 112, 3) := by decide +kernel
theorem dX9_endCallOf_22 : decode cX9_endCallOf 22 = .ok (.return_, 1) := by decide +kernel
theorem dX9_endCallAt_0 : decode cX9_endCallAt 0 = .ok (.aload_n 0, 1) := by decide +kernel
theorem dX9_endCallAt_1 : decode cX9_endCallAt 1 = .ok (.getfield 40, 3) := by decide +kernel
theorem dX9_endCallAt_4 : decode cX9_endCallAt 4 = .ok (.iload_n 1, 1) := by decide +kernel
theorem dX9_endCallAt_5 : decode cX9_endCallAt 5 = .ok (.iconst 0, 1) := by decide +kernel
theorem dX9_endCallAt_6 : decode cX9_endCallAt 6 = .ok (.iastore, 1) := by decide +kernel
theorem dX9_endCallAt_7 : decode cX9_endCallAt 7 = .ok (.aload_n 0, 1) := by decide +kernel
theorem dX9_endCallAt_8 : decode cX9_endCallAt 8 = .ok (.dup, 1) := by decide +kernel
theorem dX9_endCallAt_9 : decode cX9_endCallAt 9 = .ok (.getfield 64, 3) := by decide +kernel
theorem dX9_endCallAt_12 : decode cX9_endCallAt 12 = .ok (.iconst 1, 1) := by decide +kernel
theorem dX9_endCallAt_13 : decode cX9_endCallAt 13 = .ok (.aload_n 0, 1) := by decide +kernel
theorem dX9_endCallAt_14 : decode cX9_endCallAt 14 = .ok (.getfield 31, 3) := by decide +kernel
theorem dX9_endCallAt_17 : decode cX9_endCallAt 17 = .ok (.iload_n 1, 1) := by decide +kernel
theorem dX9_endCallAt_18 : decode cX9_endCallAt 18 = .ok (.iaload, 1) := by decide +kernel
theorem dX9_endCallAt_19 : decode cX9_endCallAt 19 = .ok (.ishl, 1) := by decide +kernel
theorem dX9_endCallAt_20 : decode cX9_endCallAt 20 = .ok (.iconst 1, 1) := by decide +kernel
theorem dX9_endCallAt_21 : decode cX9_endCallAt 21 = .ok (.aload_n 0, 1) := by decide +kernel
theorem dX9_endCallAt_22 : decode cX9_endCallAt 22 = .ok (.getfield 34, 3) := by decide +kernel
theorem dX9_endCallAt_25 : decode cX9_endCallAt 25 = .ok (.iload_n 1, 1) := by decide +kernel
theorem dX9_endCallAt_26 : decode cX9_endCallAt 26 = .ok (.iaload, 1) := by decide +kernel
theorem dX9_endCallAt_27 : decode cX9_endCallAt 27 = .ok (.ishl, 1) := by decide +kernel
theorem dX9_endCallAt_28 : decode cX9_endCallAt 28 = .ok (.ior, 1) := by decide +kernel
theorem dX9_endCallAt_29 : decode cX9_endCallAt 29 = .ok (.iconst (-1), 1) := by decide +kernel
theorem dX9_endCallAt_30 : decode cX9_endCallAt 30 = .ok (.ixor, 1) := by decide +kernel
theorem dX9_endCallAt_31 : decode cX9_endCallAt 31 = .ok (.iand, 1) := by decide +kernel
theorem dX9_endCallAt_32 : decode cX9_endCallAt 32 = .ok (.putfield 64, 3) := by decide +kernel
theorem dX9_endCallAt_35 : decode cX9_endCallAt 35 = .ok (.aload_n 0, 1) := by decide +kernel
theorem dX9_endCallAt_36 : decode cX9_endCallAt 36 = .ok (.iload_n 1, 1) := by decide +kernel
theorem dX9_endCallAt_37 : decode cX9_endCallAt 37 = .ok (.iconst (-1), 1) := by decide +kernel
theorem dX9_endCallAt_38 : decode cX9_endCallAt 38 = .ok (.invokevirtual 108, 3) := by decide +kernel
theorem dX9_endCallAt_41 : decode cX9_endCallAt 41 = .ok (.return_, 1) := by decide +kernel
theorem dX9_addUsed_0 : decode cX9_addUsed 0 = .ok (.iconst 0, 1) := by decide +kernel
theorem dX9_addUsed_1 : decode cX9_addUsed 1 = .ok (.istore_n 3, 1) := by decide +kernel
theorem dX9_addUsed_2 : decode cX9_addUsed 2 = .ok (.iload_n 3, 1) := by decide +kernel
theorem dX9_addUsed_3 : decode cX9_addUsed 3 = .ok (.aload_n 0, 1) := by decide +kernel
theorem dX9_addUsed_4 : decode cX9_addUsed 4 = .ok (.getfield 43, 3) := by decide +kernel
theorem dX9_addUsed_7 : decode cX9_addUsed 7 = .ok (.iload_n 1, 1) := by decide +kernel
theorem dX9_addUsed_8 : decode cX9_addUsed 8 = .ok (.iaload, 1) := by decide +kernel
theorem dX9_addUsed_9 : decode cX9_addUsed 9 = .ok (.if_icmp .ge 71, 3) := by decide +kernel
theorem dX9_addUsed_12 : decode cX9_addUsed 12 = .ok (.aload_n 0, 1) := by decide +kernel
theorem dX9_addUsed_13 : decode cX9_addUsed 13 = .ok (.getfield 46, 3) := by decide +kernel
theorem dX9_addUsed_16 : decode cX9_addUsed 16 = .ok (.iload_n 1, 1) := by decide +kernel
theorem dX9_addUsed_17 : decode cX9_addUsed 17 = .ok (.bipush 8, 2) := by decide +kernel
theorem dX9_addUsed_19 : decode cX9_addUsed 19 = .ok (.imul, 1) := by decide +kernel
theorem dX9_addUsed_20 : decode cX9_addUsed 20 = .ok (.iload_n 3, 1) := by decide +kernel
theorem dX9_addUsed_21 : decode cX9_addUsed 21 = .ok (.iadd, 1) := by decide +kernel
theorem dX9_addUsed_22 : decode cX9_addUsed 22 = .ok (.iaload, 1) := by decide +kernel
theorem dX9_addUsed_23 : decode cX9_addUsed 23 = .ok (.istore 4, 2) := by decide +kernel
theorem dX9_addUsed_25 : decode cX9_addUsed 25 = .ok (.aload_n 0, 1) := by decide +kernel
theorem dX9_addUsed_26 : decode cX9_addUsed 26 = .ok (.getfield 46, 3) := by decide +kernel
theorem dX9_addUsed_29 : decode cX9_addUsed 29 = .ok (.iload_n 1, 1) := by decide +kernel
theorem dX9_addUsed_30 : decode cX9_addUsed 30 = .ok (.bipush 8, 2) := by decide +kernel
theorem dX9_addUsed_32 : decode cX9_addUsed 32 = .ok (.imul, 1) := by decide +kernel
theorem dX9_addUsed_33 : decode cX9_addUsed 33 = .ok (.iload_n 3, 1) := by decide +kernel
theorem dX9_addUsed_34 : decode cX9_addUsed 34 = .ok (.iadd, 1) := by decide +kernel
theorem dX9_addUsed_35 : decode cX9_addUsed 35 = .ok (.iconst 1, 1) := by decide +kernel
theorem dX9_addUsed_36 : decode cX9_addUsed 36 = .ok (.iadd, 1) := by decide +kernel
theorem dX9_addUsed_37 : decode cX9_addUsed 37 = .ok (.iaload, 1) := by decide +kernel
theorem dX9_addUsed_38 : decode cX9_addUsed 38 = .ok (.istore 5, 2) := by decide +kernel
theorem dX9_addUsed_40 : decode cX9_addUsed 40 = .ok (.aload_n 0, 1) := by decide +kernel
theorem dX9_addUsed_41 : decode cX9_addUsed 41 = .ok (.getfield 49, 3) := by decide +kernel
theorem dX9_addUsed_44 : decode cX9_addUsed 44 = .ok (.iload 4, 2) := by decide +kernel
theorem dX9_addUsed_46 : decode cX9_addUsed 46 = .ok (.bipush 8, 2) := by decide +kernel
theorem dX9_addUsed_48 : decode cX9_addUsed 48 = .ok (.imul, 1) := by decide +kernel
theorem dX9_addUsed_49 : decode cX9_addUsed 49 = .ok (.iload 5, 2) := by decide +kernel
theorem dX9_addUsed_51 : decode cX9_addUsed 51 = .ok (.iadd, 1) := by decide +kernel
theorem dX9_addUsed_52 : decode cX9_addUsed 52 = .ok (.dup2, 1) := by decide +kernel
theorem dX9_addUsed_53 : decode cX9_addUsed 53 = .ok (.iaload, 1) := by decide +kernel
theorem dX9_addUsed_54 : decode cX9_addUsed 54 = .ok (.iload_n 2, 1) := by decide +kernel
theorem dX9_addUsed_55 : decode cX9_addUsed 55 = .ok (.iadd, 1) := by decide +kernel
theorem dX9_addUsed_56 : decode cX9_addUsed 56 = .ok (.iastore, 1) := by decide +kernel
theorem dX9_addUsed_57 : decode cX9_addUsed 57 = .ok (.aload_n 0, 1) := by decide +kernel
theorem dX9_addUsed_58 : decode cX9_addUsed 58 = .ok (.getfield 49, 3) := by decide +kernel
theorem dX9_addUsed_61 : decode cX9_addUsed 61 = .ok (.iload 5, 2) := by decide +kernel
theorem dX9_addUsed_63 : decode cX9_addUsed 63 = .ok (.bipush 8, 2) := by decide +kernel
theorem dX9_addUsed_65 : decode cX9_addUsed 65 = .ok (.imul, 1) := by decide +kernel
theorem dX9_addUsed_66 : decode cX9_addUsed 66 = .ok (.iload 4, 2) := by decide +kernel
theorem dX9_addUsed_68 : decode cX9_addUsed 68 = .ok (.iadd, 1) := by decide +kernel
theorem dX9_addUsed_69 : decode cX9_addUsed 69 = .ok (.dup2, 1) := by decide +kernel
theorem dX9_addUsed_70 : decode cX9_addUsed 70 = .ok (.iaload, 1) := by decide +kernel
theorem dX9_addUsed_71 : decode cX9_addUsed 71 = .ok (.iload_n 2, 1) := by decide +kernel
theorem dX9_addUsed_72 : decode cX9_addUsed 72 = .ok (.iadd, 1) := by decide +kernel
theorem dX9_addUsed_73 : decode cX9_addUsed 73 = .ok (.iastore, 1) := by decide +kernel
theorem dX9_addUsed_74 : decode cX9_addUsed 74 = .ok (.iinc 3 1, 3) := by decide +kernel
theorem dX9_addUsed_77 : decode cX9_addUsed 77 = .ok (.goto (-75), 3) := by decide +kernel
theorem dX9_addUsed_80 : decode cX9_addUsed 80 = .ok (.return_, 1) := by decide +kernel
